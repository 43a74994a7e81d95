/-! the face methods that throw, and the law's helpers (gen/tables2.py) -/
abbrev c_Im_setting : ByteArray := prog_1_method_4_code
abbrev y_Im_setting : MethodName := ⟨"ImposeSheets", "setting", "(II)I"⟩
abbrev c_Im_run : ByteArray := prog_1_method_5_code
abbrev y_Im_run : MethodName := ⟨"ImposeSheets", "run", "(I)I"⟩
abbrev c_Im_at : ByteArray := prog_1_method_7_code
abbrev y_Im_at : MethodName := ⟨"ImposeSheets", "at", "(IIII)I"⟩
abbrev c_Im_fold : ByteArray := prog_1_method_8_code
abbrev y_Im_fold : MethodName := ⟨"ImposeSheets", "fold", "(I)I"⟩
abbrev c_Im_creep : ByteArray := prog_1_method_9_code
abbrev y_Im_creep : MethodName := ⟨"ImposeSheets", "creep", "(I)I"⟩
abbrev c_Im_laid : ByteArray := prog_1_method_10_code
abbrev y_Im_laid : MethodName := ⟨"ImposeSheets", "laid", "(I)I"⟩
abbrev c_Im_job : ByteArray := prog_1_method_11_code
abbrev y_Im_job : MethodName := ⟨"ImposeSheets", "job", "(I)I"⟩
abbrev c_Im_share : ByteArray := prog_1_method_13_code
abbrev y_Im_share : MethodName := ⟨"ImposeSheets", "share", "(III)I"⟩
abbrev c_Im_shared : ByteArray := prog_1_method_14_code
abbrev y_Im_shared : MethodName := ⟨"ImposeSheets", "shared", "(II)I"⟩
abbrev c_La_setting : ByteArray := method_3_code
abbrev y_La_setting : MethodName := ⟨"ImposeSheetsLaw", "setting", "(LImposeSheets;II[J)I"⟩
abbrev c_La_run : ByteArray := method_4_code
abbrev y_La_run : MethodName := ⟨"ImposeSheetsLaw", "run", "(LImposeSheets;I[J)I"⟩
abbrev c_La_at : ByteArray := method_5_code
abbrev y_La_at : MethodName := ⟨"ImposeSheetsLaw", "at", "(LImposeSheets;IIII[J)I"⟩
abbrev c_La_fold : ByteArray := method_6_code
abbrev y_La_fold : MethodName := ⟨"ImposeSheetsLaw", "fold", "(LImposeSheets;I[J)I"⟩
abbrev c_La_creep : ByteArray := method_7_code
abbrev y_La_creep : MethodName := ⟨"ImposeSheetsLaw", "creep", "(LImposeSheets;I[J)I"⟩
abbrev c_La_laid : ByteArray := method_8_code
abbrev y_La_laid : MethodName := ⟨"ImposeSheetsLaw", "laid", "(LImposeSheets;I[J)I"⟩
abbrev c_La_job : ByteArray := method_9_code
abbrev y_La_job : MethodName := ⟨"ImposeSheetsLaw", "job", "(LImposeSheets;I[J)I"⟩
abbrev c_La_share : ByteArray := method_10_code
abbrev y_La_share : MethodName := ⟨"ImposeSheetsLaw", "share", "(LImposeSheets;III[J)I"⟩
abbrev c_La_shared : ByteArray := method_11_code
abbrev y_La_shared : MethodName := ⟨"ImposeSheetsLaw", "shared", "(LImposeSheets;II[J)I"⟩
theorem w_466 : Cond.classLink "ImposeSheets" 73 "java/lang/IndexOutOfBoundsException" ∈ lw_good := lw_g 466 (by decide +kernel) rfl
theorem w_467 : Cond.instantiable "java/lang/IndexOutOfBoundsException" 6 ∈ lw_good := lw_g 467 (by decide +kernel) rfl
theorem w_73 : Cond.initialized "java/lang/IndexOutOfBoundsException" ∈ lw_good := lw_g 73 (by decide +kernel) rfl
theorem w_535 : Cond.fieldLink "ImposeSheets" 80 "ImposeSheets" "SETTING_LEAST" "[I" ∈ lw_good := lw_g 535 (by decide +kernel) rfl
theorem w_537 : Cond.fieldLink "ImposeSheets" 83 "ImposeSheets" "SETTING_MOST" "[I" ∈ lw_good := lw_g 537 (by decide +kernel) rfl
theorem w_539 : Cond.classLink "ImposeSheets" 86 "java/lang/IllegalArgumentException" ∈ lw_good := lw_g 539 (by decide +kernel) rfl
theorem w_540 : Cond.instantiable "java/lang/IllegalArgumentException" 6 ∈ lw_good := lw_g 540 (by decide +kernel) rfl
theorem w_74 : Cond.initialized "java/lang/IllegalArgumentException" ∈ lw_good := lw_g 74 (by decide +kernel) rfl
theorem w_563 : Cond.methodLink "ImposeSheets" 91 ⟨"ImposeSheets$Scheme", "cells", "()I"⟩ ∈ lw_good := lw_g 563 (by decide +kernel) rfl
theorem w_564 : Cond.methodLink "ImposeSheets" 95 ⟨"ImposeSheets$Scheme", "pageCount", "()I"⟩ ∈ lw_good := lw_g 564 (by decide +kernel) rfl
theorem w_566 : Cond.classLink "ImposeSheets" 100 "java/lang/IllegalStateException" ∈ lw_good := lw_g 566 (by decide +kernel) rfl
theorem w_567 : Cond.instantiable "java/lang/IllegalStateException" 6 ∈ lw_good := lw_g 567 (by decide +kernel) rfl
theorem w_75 : Cond.initialized "java/lang/IllegalStateException" ∈ lw_good := lw_g 75 (by decide +kernel) rfl
theorem w_582 : Cond.methodLink "ImposeSheets" 105 ⟨"ImposeSheets$Scheme", "isCut", "()Z"⟩ ∈ lw_good := lw_g 582 (by decide +kernel) rfl
theorem w_269 : Cond.fieldLink "ImposeSheets" 41 "ImposeSheets" "book" "LImposeSheets$Book;" ∈ lw_good := lw_g 269 (by decide +kernel) rfl
theorem w_584 : Cond.methodLink "ImposeSheets" 115 ⟨"ImposeSheets$Book", "lay", "(LImposeSheets$Scheme;[II)V"⟩ ∈ lw_good := lw_g 584 (by decide +kernel) rfl
set_option maxRecDepth 100000 in
theorem w_587 : Cond.code y_Bo_lay c_Bo_lay 7 none ∈ lw_good := lw_g 587 rfl rfl
theorem w_585 : Cond.instanceMethod ⟨"ImposeSheets$Book", "lay", "(LImposeSheets$Scheme;[II)V"⟩ ∈ lw_good := lw_g 585 (by decide +kernel) rfl
theorem w_586 : Cond.selects "ImposeSheets$Book" ⟨"ImposeSheets$Book", "lay", "(LImposeSheets$Scheme;[II)V"⟩ ⟨"ImposeSheets$Book", "lay", "(LImposeSheets$Scheme;[II)V"⟩ ∈ lw_good := lw_g 586 (by decide +kernel) rfl
theorem w_612 : Cond.methodLink "ImposeSheets" 119 ⟨"ImposeSheets$Book", "sheetCount", "()I"⟩ ∈ lw_good := lw_g 612 (by decide +kernel) rfl
set_option maxRecDepth 100000 in
theorem w_615 : Cond.code y_Bo_sheetCount c_Bo_sheetCount 1 (some .int) ∈ lw_good := lw_g 615 rfl rfl
theorem w_613 : Cond.instanceMethod ⟨"ImposeSheets$Book", "sheetCount", "()I"⟩ ∈ lw_good := lw_g 613 (by decide +kernel) rfl
theorem w_614 : Cond.selects "ImposeSheets$Book" ⟨"ImposeSheets$Book", "sheetCount", "()I"⟩ ⟨"ImposeSheets$Book", "sheetCount", "()I"⟩ ∈ lw_good := lw_g 614 (by decide +kernel) rfl
theorem w_623 : Cond.methodLink "ImposeSheets" 122 ⟨"ImposeSheets$Book", "hasSpot", "(III)Z"⟩ ∈ lw_good := lw_g 623 (by decide +kernel) rfl
set_option maxRecDepth 100000 in
theorem w_626 : Cond.code y_Bo_hasSpot c_Bo_hasSpot 4 (some .boolean) ∈ lw_good := lw_g 626 rfl rfl
theorem w_624 : Cond.instanceMethod ⟨"ImposeSheets$Book", "hasSpot", "(III)Z"⟩ ∈ lw_good := lw_g 624 (by decide +kernel) rfl
theorem w_625 : Cond.selects "ImposeSheets$Book" ⟨"ImposeSheets$Book", "hasSpot", "(III)Z"⟩ ⟨"ImposeSheets$Book", "hasSpot", "(III)Z"⟩ ∈ lw_good := lw_g 625 (by decide +kernel) rfl
theorem w_628 : Cond.methodLink "ImposeSheets" 128 ⟨"ImposeSheets$Book", "tellSpot", "(IIII)I"⟩ ∈ lw_good := lw_g 628 (by decide +kernel) rfl
set_option maxRecDepth 100000 in
theorem w_631 : Cond.code y_Bo_tellSpot c_Bo_tellSpot 8 (some .int) ∈ lw_good := lw_g 631 rfl rfl
theorem w_629 : Cond.instanceMethod ⟨"ImposeSheets$Book", "tellSpot", "(IIII)I"⟩ ∈ lw_good := lw_g 629 (by decide +kernel) rfl
theorem w_630 : Cond.selects "ImposeSheets$Book" ⟨"ImposeSheets$Book", "tellSpot", "(IIII)I"⟩ ⟨"ImposeSheets$Book", "tellSpot", "(IIII)I"⟩ ∈ lw_good := lw_g 630 (by decide +kernel) rfl
theorem w_683 : Cond.methodLink "ImposeSheets" 132 ⟨"ImposeSheets$Book", "placeCount", "()I"⟩ ∈ lw_good := lw_g 683 (by decide +kernel) rfl
theorem w_685 : Cond.methodLink "ImposeSheets" 137 ⟨"ImposeSheets$Book", "pageAtPlace", "(I)I"⟩ ∈ lw_good := lw_g 685 (by decide +kernel) rfl
theorem w_693 : Cond.methodLink "ImposeSheets" 140 ⟨"ImposeSheets$Book", "hasPage", "(I)Z"⟩ ∈ lw_good := lw_g 693 (by decide +kernel) rfl
theorem w_695 : Cond.methodLink "ImposeSheets" 146 ⟨"ImposeSheets$Book", "creepOfPage", "(I)I"⟩ ∈ lw_good := lw_g 695 (by decide +kernel) rfl
set_option maxRecDepth 100000 in
theorem w_698 : Cond.code y_Bo_creepOfPage c_Bo_creepOfPage 2 (some .int) ∈ lw_good := lw_g 698 rfl rfl
theorem w_696 : Cond.instanceMethod ⟨"ImposeSheets$Book", "creepOfPage", "(I)I"⟩ ∈ lw_good := lw_g 696 (by decide +kernel) rfl
theorem w_697 : Cond.selects "ImposeSheets$Book" ⟨"ImposeSheets$Book", "creepOfPage", "(I)I"⟩ ⟨"ImposeSheets$Book", "creepOfPage", "(I)I"⟩ ∈ lw_good := lw_g 697 (by decide +kernel) rfl
theorem w_706 : Cond.methodLink "ImposeSheets" 149 ⟨"ImposeSheets$Book", "bookletPages", "()I"⟩ ∈ lw_good := lw_g 706 (by decide +kernel) rfl
theorem w_707 : Cond.methodLink "ImposeSheets" 152 ⟨"ImposeSheets$Book", "blankCount", "()I"⟩ ∈ lw_good := lw_g 707 (by decide +kernel) rfl
theorem w_708 : Cond.methodLink "ImposeSheets" 155 ⟨"ImposeSheets$Book", "isTooSmallForPages", "()Z"⟩ ∈ lw_good := lw_g 708 (by decide +kernel) rfl
set_option maxRecDepth 100000 in
theorem w_711 : Cond.code y_Bo_isTooSmallForPages c_Bo_isTooSmallForPages 1 (some .boolean) ∈ lw_good := lw_g 711 rfl rfl
theorem w_709 : Cond.instanceMethod ⟨"ImposeSheets$Book", "isTooSmallForPages", "()Z"⟩ ∈ lw_good := lw_g 709 (by decide +kernel) rfl
theorem w_710 : Cond.selects "ImposeSheets$Book" ⟨"ImposeSheets$Book", "isTooSmallForPages", "()Z"⟩ ⟨"ImposeSheets$Book", "isTooSmallForPages", "()Z"⟩ ∈ lw_good := lw_g 710 (by decide +kernel) rfl
theorem w_721 : Cond.constant "ImposeSheets" 160 (100000) ∈ lw_good := lw_g 721 (by decide +kernel) rfl
theorem w_723 : Cond.methodLink "ImposeSheets" 163 ⟨"ImposeSheets$Sharing", "jobCount", "()I"⟩ ∈ lw_good := lw_g 723 (by decide +kernel) rfl
set_option maxRecDepth 100000 in
theorem w_726 : Cond.code y_Sh_jobCount c_Sh_jobCount 1 (some .int) ∈ lw_good := lw_g 726 rfl rfl
theorem w_724 : Cond.instanceMethod ⟨"ImposeSheets$Sharing", "jobCount", "()I"⟩ ∈ lw_good := lw_g 724 (by decide +kernel) rfl
theorem w_725 : Cond.selects "ImposeSheets$Sharing" ⟨"ImposeSheets$Sharing", "jobCount", "()I"⟩ ⟨"ImposeSheets$Sharing", "jobCount", "()I"⟩ ∈ lw_good := lw_g 725 (by decide +kernel) rfl
theorem w_727 : Cond.classLink "ImposeSheets" 166 "java/lang/UnsupportedOperationException" ∈ lw_good := lw_g 727 (by decide +kernel) rfl
theorem w_728 : Cond.instantiable "java/lang/UnsupportedOperationException" 6 ∈ lw_good := lw_g 728 (by decide +kernel) rfl
theorem w_76 : Cond.initialized "java/lang/UnsupportedOperationException" ∈ lw_good := lw_g 76 (by decide +kernel) rfl
theorem w_743 : Cond.methodLink "ImposeSheets" 171 ⟨"ImposeSheets$Sharing", "addJob", "(I)I"⟩ ∈ lw_good := lw_g 743 (by decide +kernel) rfl
set_option maxRecDepth 100000 in
theorem w_746 : Cond.code y_Sh_addJob c_Sh_addJob 2 (some .int) ∈ lw_good := lw_g 746 rfl rfl
theorem w_744 : Cond.instanceMethod ⟨"ImposeSheets$Sharing", "addJob", "(I)I"⟩ ∈ lw_good := lw_g 744 (by decide +kernel) rfl
theorem w_745 : Cond.selects "ImposeSheets$Sharing" ⟨"ImposeSheets$Sharing", "addJob", "(I)I"⟩ ⟨"ImposeSheets$Sharing", "addJob", "(I)I"⟩ ∈ lw_good := lw_g 745 (by decide +kernel) rfl
theorem w_756 : Cond.methodLink "ImposeSheets" 181 ⟨"ImposeSheets$Sharing", "seekLeastCost", "(III)I"⟩ ∈ lw_good := lw_g 756 (by decide +kernel) rfl
set_option maxRecDepth 100000 in
theorem w_759 : Cond.code y_Sh_seekLeastCost c_Sh_seekLeastCost 6 (some .int) ∈ lw_good := lw_g 759 rfl rfl
theorem w_757 : Cond.instanceMethod ⟨"ImposeSheets$Sharing", "seekLeastCost", "(III)I"⟩ ∈ lw_good := lw_g 757 (by decide +kernel) rfl
theorem w_758 : Cond.selects "ImposeSheets$Sharing" ⟨"ImposeSheets$Sharing", "seekLeastCost", "(III)I"⟩ ⟨"ImposeSheets$Sharing", "seekLeastCost", "(III)I"⟩ ∈ lw_good := lw_g 758 (by decide +kernel) rfl
theorem w_816 : Cond.methodLink "ImposeSheets" 185 ⟨"ImposeSheets$Sharing", "canTell", "(II)Z"⟩ ∈ lw_good := lw_g 816 (by decide +kernel) rfl
set_option maxRecDepth 100000 in
theorem w_819 : Cond.code y_Sh_canTell c_Sh_canTell 3 (some .boolean) ∈ lw_good := lw_g 819 rfl rfl
theorem w_817 : Cond.instanceMethod ⟨"ImposeSheets$Sharing", "canTell", "(II)Z"⟩ ∈ lw_good := lw_g 817 (by decide +kernel) rfl
theorem w_818 : Cond.selects "ImposeSheets$Sharing" ⟨"ImposeSheets$Sharing", "canTell", "(II)Z"⟩ ⟨"ImposeSheets$Sharing", "canTell", "(II)Z"⟩ ∈ lw_good := lw_g 818 (by decide +kernel) rfl
theorem w_821 : Cond.methodLink "ImposeSheets" 191 ⟨"ImposeSheets$Sharing", "tell", "(II)I"⟩ ∈ lw_good := lw_g 821 (by decide +kernel) rfl
set_option maxRecDepth 100000 in
theorem w_824 : Cond.code y_Sh_tell c_Sh_tell 3 (some .int) ∈ lw_good := lw_g 824 rfl rfl
theorem w_822 : Cond.instanceMethod ⟨"ImposeSheets$Sharing", "tell", "(II)I"⟩ ∈ lw_good := lw_g 822 (by decide +kernel) rfl
theorem w_823 : Cond.selects "ImposeSheets$Sharing" ⟨"ImposeSheets$Sharing", "tell", "(II)I"⟩ ⟨"ImposeSheets$Sharing", "tell", "(II)I"⟩ ∈ lw_good := lw_g 823 (by decide +kernel) rfl
theorem w_460 : Cond.classLink "ImposeSheetsLaw" 13 "java/lang/IndexOutOfBoundsException" ∈ lw_good := lw_g 460 (by decide +kernel) rfl
theorem w_468 : Cond.castable "java/lang/IndexOutOfBoundsException" "java/lang/IndexOutOfBoundsException" ∈ lw_nest := lw_n 468 (by decide +kernel) rfl
theorem w_461 : Cond.classLink "ImposeSheetsLaw" 15 "java/lang/IllegalArgumentException" ∈ lw_good := lw_g 461 (by decide +kernel) rfl
theorem w_541 : Cond.castable "java/lang/IllegalArgumentException" "java/lang/IllegalArgumentException" ∈ lw_nest := lw_n 541 (by decide +kernel) rfl
set_option maxRecDepth 100000 in
theorem w_465 : Cond.code y_Im_setting c_Im_setting 4 (some .int) ∈ lw_good := lw_g 465 rfl rfl
theorem w_462 : Cond.methodLink "ImposeSheetsLaw" 7 ⟨"ImposeSheets", "setting", "(II)I"⟩ ∈ lw_good := lw_g 462 (by decide +kernel) rfl
theorem w_463 : Cond.instanceMethod ⟨"ImposeSheets", "setting", "(II)I"⟩ ∈ lw_good := lw_g 463 (by decide +kernel) rfl
theorem w_464 : Cond.selects "ImposeSheets" ⟨"ImposeSheets", "setting", "(II)I"⟩ ⟨"ImposeSheets", "setting", "(II)I"⟩ ∈ lw_good := lw_g 464 (by decide +kernel) rfl
theorem w_558 : Cond.classLink "ImposeSheetsLaw" 21 "java/lang/IllegalStateException" ∈ lw_good := lw_g 558 (by decide +kernel) rfl
theorem w_568 : Cond.castable "java/lang/IllegalStateException" "java/lang/IllegalStateException" ∈ lw_nest := lw_n 568 (by decide +kernel) rfl
set_option maxRecDepth 100000 in
theorem w_562 : Cond.code y_Im_run c_Im_run 3 (some .int) ∈ lw_good := lw_g 562 rfl rfl
theorem w_559 : Cond.methodLink "ImposeSheetsLaw" 17 ⟨"ImposeSheets", "run", "(I)I"⟩ ∈ lw_good := lw_g 559 (by decide +kernel) rfl
theorem w_560 : Cond.instanceMethod ⟨"ImposeSheets", "run", "(I)I"⟩ ∈ lw_good := lw_g 560 (by decide +kernel) rfl
theorem w_561 : Cond.selects "ImposeSheets" ⟨"ImposeSheets", "run", "(I)I"⟩ ⟨"ImposeSheets", "run", "(I)I"⟩ ∈ lw_good := lw_g 561 (by decide +kernel) rfl
set_option maxRecDepth 100000 in
theorem w_622 : Cond.code y_Im_at c_Im_at 5 (some .int) ∈ lw_good := lw_g 622 rfl rfl
theorem w_619 : Cond.methodLink "ImposeSheetsLaw" 23 ⟨"ImposeSheets", "at", "(IIII)I"⟩ ∈ lw_good := lw_g 619 (by decide +kernel) rfl
theorem w_620 : Cond.instanceMethod ⟨"ImposeSheets", "at", "(IIII)I"⟩ ∈ lw_good := lw_g 620 (by decide +kernel) rfl
theorem w_621 : Cond.selects "ImposeSheets" ⟨"ImposeSheets", "at", "(IIII)I"⟩ ⟨"ImposeSheets", "at", "(IIII)I"⟩ ∈ lw_good := lw_g 621 (by decide +kernel) rfl
set_option maxRecDepth 100000 in
theorem w_682 : Cond.code y_Im_fold c_Im_fold 2 (some .int) ∈ lw_good := lw_g 682 rfl rfl
theorem w_679 : Cond.methodLink "ImposeSheetsLaw" 27 ⟨"ImposeSheets", "fold", "(I)I"⟩ ∈ lw_good := lw_g 679 (by decide +kernel) rfl
theorem w_680 : Cond.instanceMethod ⟨"ImposeSheets", "fold", "(I)I"⟩ ∈ lw_good := lw_g 680 (by decide +kernel) rfl
theorem w_681 : Cond.selects "ImposeSheets" ⟨"ImposeSheets", "fold", "(I)I"⟩ ⟨"ImposeSheets", "fold", "(I)I"⟩ ∈ lw_good := lw_g 681 (by decide +kernel) rfl
set_option maxRecDepth 100000 in
theorem w_692 : Cond.code y_Im_creep c_Im_creep 2 (some .int) ∈ lw_good := lw_g 692 rfl rfl
theorem w_689 : Cond.methodLink "ImposeSheetsLaw" 30 ⟨"ImposeSheets", "creep", "(I)I"⟩ ∈ lw_good := lw_g 689 (by decide +kernel) rfl
theorem w_690 : Cond.instanceMethod ⟨"ImposeSheets", "creep", "(I)I"⟩ ∈ lw_good := lw_g 690 (by decide +kernel) rfl
theorem w_691 : Cond.selects "ImposeSheets" ⟨"ImposeSheets", "creep", "(I)I"⟩ ⟨"ImposeSheets", "creep", "(I)I"⟩ ∈ lw_good := lw_g 691 (by decide +kernel) rfl
set_option maxRecDepth 100000 in
theorem w_705 : Cond.code y_Im_laid c_Im_laid 2 (some .int) ∈ lw_good := lw_g 705 rfl rfl
theorem w_702 : Cond.methodLink "ImposeSheetsLaw" 33 ⟨"ImposeSheets", "laid", "(I)I"⟩ ∈ lw_good := lw_g 702 (by decide +kernel) rfl
theorem w_703 : Cond.instanceMethod ⟨"ImposeSheets", "laid", "(I)I"⟩ ∈ lw_good := lw_g 703 (by decide +kernel) rfl
theorem w_704 : Cond.selects "ImposeSheets" ⟨"ImposeSheets", "laid", "(I)I"⟩ ⟨"ImposeSheets", "laid", "(I)I"⟩ ∈ lw_good := lw_g 704 (by decide +kernel) rfl
theorem w_716 : Cond.classLink "ImposeSheetsLaw" 39 "java/lang/UnsupportedOperationException" ∈ lw_good := lw_g 716 (by decide +kernel) rfl
theorem w_729 : Cond.castable "java/lang/UnsupportedOperationException" "java/lang/UnsupportedOperationException" ∈ lw_nest := lw_n 729 (by decide +kernel) rfl
set_option maxRecDepth 100000 in
theorem w_720 : Cond.code y_Im_job c_Im_job 2 (some .int) ∈ lw_good := lw_g 720 rfl rfl
theorem w_717 : Cond.methodLink "ImposeSheetsLaw" 36 ⟨"ImposeSheets", "job", "(I)I"⟩ ∈ lw_good := lw_g 717 (by decide +kernel) rfl
theorem w_718 : Cond.instanceMethod ⟨"ImposeSheets", "job", "(I)I"⟩ ∈ lw_good := lw_g 718 (by decide +kernel) rfl
theorem w_719 : Cond.selects "ImposeSheets" ⟨"ImposeSheets", "job", "(I)I"⟩ ⟨"ImposeSheets", "job", "(I)I"⟩ ∈ lw_good := lw_g 719 (by decide +kernel) rfl
set_option maxRecDepth 100000 in
theorem w_753 : Cond.code y_Im_share c_Im_share 4 (some .int) ∈ lw_good := lw_g 753 rfl rfl
theorem w_750 : Cond.methodLink "ImposeSheetsLaw" 41 ⟨"ImposeSheets", "share", "(III)I"⟩ ∈ lw_good := lw_g 750 (by decide +kernel) rfl
theorem w_751 : Cond.instanceMethod ⟨"ImposeSheets", "share", "(III)I"⟩ ∈ lw_good := lw_g 751 (by decide +kernel) rfl
theorem w_752 : Cond.selects "ImposeSheets" ⟨"ImposeSheets", "share", "(III)I"⟩ ⟨"ImposeSheets", "share", "(III)I"⟩ ∈ lw_good := lw_g 752 (by decide +kernel) rfl
set_option maxRecDepth 100000 in
theorem w_815 : Cond.code y_Im_shared c_Im_shared 3 (some .int) ∈ lw_good := lw_g 815 rfl rfl
theorem w_812 : Cond.methodLink "ImposeSheetsLaw" 45 ⟨"ImposeSheets", "shared", "(II)I"⟩ ∈ lw_good := lw_g 812 (by decide +kernel) rfl
theorem w_813 : Cond.instanceMethod ⟨"ImposeSheets", "shared", "(II)I"⟩ ∈ lw_good := lw_g 813 (by decide +kernel) rfl
theorem w_814 : Cond.selects "ImposeSheets" ⟨"ImposeSheets", "shared", "(II)I"⟩ ⟨"ImposeSheets", "shared", "(II)I"⟩ ∈ lw_good := lw_g 814 (by decide +kernel) rfl
theorem w_1171 : Cond.constantLong "ImposeSheetsLaw" 52 (4294967295) ∈ lw_good := lw_g 1171 (by decide +kernel) rfl
theorem w_288 : Cond.methodLink "ImposeSheetsLaw" 54 ⟨"ImposeSheets", "type", "(JI)Z"⟩ ∈ lw_good := lw_g 288 (by decide +kernel) rfl
set_option maxRecDepth 100000 in
theorem w_291 : Cond.code y_Im_type c_Im_type 4 (some .boolean) ∈ lw_good := lw_g 291 rfl rfl
theorem w_289 : Cond.instanceMethod ⟨"ImposeSheets", "type", "(JI)Z"⟩ ∈ lw_good := lw_g 289 (by decide +kernel) rfl
theorem w_290 : Cond.selects "ImposeSheets" ⟨"ImposeSheets", "type", "(JI)Z"⟩ ⟨"ImposeSheets", "type", "(JI)Z"⟩ ∈ lw_good := lw_g 290 (by decide +kernel) rfl
theorem w_1002 : Cond.methodLink "ImposeSheetsLaw" 58 ⟨"ImposeSheetsModel", "type", "(JI)Z"⟩ ∈ lw_good := lw_g 1002 (by decide +kernel) rfl
set_option maxRecDepth 100000 in
theorem w_1005 : Cond.code y_Mo_type c_Mo_type 5 (some .boolean) ∈ lw_good := lw_g 1005 rfl rfl
theorem w_1003 : Cond.instanceMethod ⟨"ImposeSheetsModel", "type", "(JI)Z"⟩ ∈ lw_good := lw_g 1003 (by decide +kernel) rfl
theorem w_1004 : Cond.selects "ImposeSheetsModel" ⟨"ImposeSheetsModel", "type", "(JI)Z"⟩ ⟨"ImposeSheetsModel", "type", "(JI)Z"⟩ ∈ lw_good := lw_g 1004 (by decide +kernel) rfl
theorem w_296 : Cond.methodLink "ImposeSheetsLaw" 59 ⟨"ImposeSheets", "scheme", "()I"⟩ ∈ lw_good := lw_g 296 (by decide +kernel) rfl
set_option maxRecDepth 100000 in
theorem w_299 : Cond.code y_Im_scheme c_Im_scheme 3 (some .int) ∈ lw_good := lw_g 299 rfl rfl
theorem w_297 : Cond.instanceMethod ⟨"ImposeSheets", "scheme", "()I"⟩ ∈ lw_good := lw_g 297 (by decide +kernel) rfl
theorem w_298 : Cond.selects "ImposeSheets" ⟨"ImposeSheets", "scheme", "()I"⟩ ⟨"ImposeSheets", "scheme", "()I"⟩ ∈ lw_good := lw_g 298 (by decide +kernel) rfl
theorem w_1007 : Cond.methodLink "ImposeSheetsLaw" 63 ⟨"ImposeSheetsModel", "scheme", "()I"⟩ ∈ lw_good := lw_g 1007 (by decide +kernel) rfl
set_option maxRecDepth 100000 in
theorem w_1010 : Cond.code y_Mo_scheme c_Mo_scheme 2 (some .int) ∈ lw_good := lw_g 1010 rfl rfl
theorem w_1008 : Cond.instanceMethod ⟨"ImposeSheetsModel", "scheme", "()I"⟩ ∈ lw_good := lw_g 1008 (by decide +kernel) rfl
theorem w_1009 : Cond.selects "ImposeSheetsModel" ⟨"ImposeSheetsModel", "scheme", "()I"⟩ ⟨"ImposeSheetsModel", "scheme", "()I"⟩ ∈ lw_good := lw_g 1009 (by decide +kernel) rfl
theorem w_1076 : Cond.methodLink "ImposeSheetsLaw" 69 ⟨"ImposeSheetsModel", "setting", "(II)I"⟩ ∈ lw_good := lw_g 1076 (by decide +kernel) rfl
set_option maxRecDepth 100000 in
theorem w_1079 : Cond.code y_Mo_setting c_Mo_setting 5 (some .int) ∈ lw_good := lw_g 1079 rfl rfl
theorem w_1077 : Cond.instanceMethod ⟨"ImposeSheetsModel", "setting", "(II)I"⟩ ∈ lw_good := lw_g 1077 (by decide +kernel) rfl
theorem w_1078 : Cond.selects "ImposeSheetsModel" ⟨"ImposeSheetsModel", "setting", "(II)I"⟩ ⟨"ImposeSheetsModel", "setting", "(II)I"⟩ ∈ lw_good := lw_g 1078 (by decide +kernel) rfl
theorem w_998 : Cond.methodLink "ImposeSheetsLaw" 70 ⟨"ImposeSheetsModel", "thrown", "()I"⟩ ∈ lw_good := lw_g 998 (by decide +kernel) rfl
set_option maxRecDepth 100000 in
theorem w_1001 : Cond.code y_Mo_thrown c_Mo_thrown 1 (some .int) ∈ lw_good := lw_g 1001 rfl rfl
theorem w_999 : Cond.instanceMethod ⟨"ImposeSheetsModel", "thrown", "()I"⟩ ∈ lw_good := lw_g 999 (by decide +kernel) rfl
theorem w_1000 : Cond.selects "ImposeSheetsModel" ⟨"ImposeSheetsModel", "thrown", "()I"⟩ ⟨"ImposeSheetsModel", "thrown", "()I"⟩ ∈ lw_good := lw_g 1000 (by decide +kernel) rfl
theorem w_1081 : Cond.methodLink "ImposeSheetsLaw" 76 ⟨"ImposeSheetsModel", "run", "(I)I"⟩ ∈ lw_good := lw_g 1081 (by decide +kernel) rfl
set_option maxRecDepth 100000 in
theorem w_1084 : Cond.code y_Mo_run c_Mo_run 6 (some .int) ∈ lw_good := lw_g 1084 rfl rfl
theorem w_1082 : Cond.instanceMethod ⟨"ImposeSheetsModel", "run", "(I)I"⟩ ∈ lw_good := lw_g 1082 (by decide +kernel) rfl
theorem w_1083 : Cond.selects "ImposeSheetsModel" ⟨"ImposeSheetsModel", "run", "(I)I"⟩ ⟨"ImposeSheetsModel", "run", "(I)I"⟩ ∈ lw_good := lw_g 1083 (by decide +kernel) rfl
theorem w_420 : Cond.methodLink "ImposeSheetsLaw" 77 ⟨"ImposeSheets", "broken", "()I"⟩ ∈ lw_good := lw_g 420 (by decide +kernel) rfl
set_option maxRecDepth 100000 in
theorem w_423 : Cond.code y_Im_broken c_Im_broken 1 (some .int) ∈ lw_good := lw_g 423 rfl rfl
theorem w_421 : Cond.instanceMethod ⟨"ImposeSheets", "broken", "()I"⟩ ∈ lw_good := lw_g 421 (by decide +kernel) rfl
theorem w_422 : Cond.selects "ImposeSheets" ⟨"ImposeSheets", "broken", "()I"⟩ ⟨"ImposeSheets", "broken", "()I"⟩ ∈ lw_good := lw_g 422 (by decide +kernel) rfl
theorem w_1045 : Cond.methodLink "ImposeSheetsLaw" 80 ⟨"ImposeSheetsModel", "broken", "()I"⟩ ∈ lw_good := lw_g 1045 (by decide +kernel) rfl
set_option maxRecDepth 100000 in
theorem w_1048 : Cond.code y_Mo_broken c_Mo_broken 1 (some .int) ∈ lw_good := lw_g 1048 rfl rfl
theorem w_1046 : Cond.instanceMethod ⟨"ImposeSheetsModel", "broken", "()I"⟩ ∈ lw_good := lw_g 1046 (by decide +kernel) rfl
theorem w_1047 : Cond.selects "ImposeSheetsModel" ⟨"ImposeSheetsModel", "broken", "()I"⟩ ⟨"ImposeSheetsModel", "broken", "()I"⟩ ∈ lw_good := lw_g 1047 (by decide +kernel) rfl
theorem w_1107 : Cond.methodLink "ImposeSheetsLaw" 84 ⟨"ImposeSheetsModel", "at", "(IIII)I"⟩ ∈ lw_good := lw_g 1107 (by decide +kernel) rfl
set_option maxRecDepth 100000 in
theorem w_1110 : Cond.code y_Mo_at c_Mo_at 7 (some .int) ∈ lw_good := lw_g 1110 rfl rfl
theorem w_1108 : Cond.instanceMethod ⟨"ImposeSheetsModel", "at", "(IIII)I"⟩ ∈ lw_good := lw_g 1108 (by decide +kernel) rfl
theorem w_1109 : Cond.selects "ImposeSheetsModel" ⟨"ImposeSheetsModel", "at", "(IIII)I"⟩ ⟨"ImposeSheetsModel", "at", "(IIII)I"⟩ ∈ lw_good := lw_g 1109 (by decide +kernel) rfl
theorem w_1111 : Cond.methodLink "ImposeSheetsLaw" 87 ⟨"ImposeSheetsModel", "fold", "(I)I"⟩ ∈ lw_good := lw_g 1111 (by decide +kernel) rfl
set_option maxRecDepth 100000 in
theorem w_1114 : Cond.code y_Mo_fold c_Mo_fold 2 (some .int) ∈ lw_good := lw_g 1114 rfl rfl
theorem w_1112 : Cond.instanceMethod ⟨"ImposeSheetsModel", "fold", "(I)I"⟩ ∈ lw_good := lw_g 1112 (by decide +kernel) rfl
theorem w_1113 : Cond.selects "ImposeSheetsModel" ⟨"ImposeSheetsModel", "fold", "(I)I"⟩ ⟨"ImposeSheetsModel", "fold", "(I)I"⟩ ∈ lw_good := lw_g 1113 (by decide +kernel) rfl
theorem w_1115 : Cond.methodLink "ImposeSheetsLaw" 90 ⟨"ImposeSheetsModel", "creep", "(I)I"⟩ ∈ lw_good := lw_g 1115 (by decide +kernel) rfl
set_option maxRecDepth 100000 in
theorem w_1118 : Cond.code y_Mo_creep c_Mo_creep 2 (some .int) ∈ lw_good := lw_g 1118 rfl rfl
theorem w_1116 : Cond.instanceMethod ⟨"ImposeSheetsModel", "creep", "(I)I"⟩ ∈ lw_good := lw_g 1116 (by decide +kernel) rfl
theorem w_1117 : Cond.selects "ImposeSheetsModel" ⟨"ImposeSheetsModel", "creep", "(I)I"⟩ ⟨"ImposeSheetsModel", "creep", "(I)I"⟩ ∈ lw_good := lw_g 1117 (by decide +kernel) rfl
theorem w_1119 : Cond.methodLink "ImposeSheetsLaw" 93 ⟨"ImposeSheetsModel", "laid", "(I)I"⟩ ∈ lw_good := lw_g 1119 (by decide +kernel) rfl
set_option maxRecDepth 100000 in
theorem w_1122 : Cond.code y_Mo_laid c_Mo_laid 2 (some .int) ∈ lw_good := lw_g 1122 rfl rfl
theorem w_1120 : Cond.instanceMethod ⟨"ImposeSheetsModel", "laid", "(I)I"⟩ ∈ lw_good := lw_g 1120 (by decide +kernel) rfl
theorem w_1121 : Cond.selects "ImposeSheetsModel" ⟨"ImposeSheetsModel", "laid", "(I)I"⟩ ⟨"ImposeSheetsModel", "laid", "(I)I"⟩ ∈ lw_good := lw_g 1121 (by decide +kernel) rfl
theorem w_1123 : Cond.methodLink "ImposeSheetsLaw" 96 ⟨"ImposeSheetsModel", "job", "(I)I"⟩ ∈ lw_good := lw_g 1123 (by decide +kernel) rfl
set_option maxRecDepth 100000 in
theorem w_1126 : Cond.code y_Mo_job c_Mo_job 2 (some .int) ∈ lw_good := lw_g 1126 rfl rfl
theorem w_1124 : Cond.instanceMethod ⟨"ImposeSheetsModel", "job", "(I)I"⟩ ∈ lw_good := lw_g 1124 (by decide +kernel) rfl
theorem w_1125 : Cond.selects "ImposeSheetsModel" ⟨"ImposeSheetsModel", "job", "(I)I"⟩ ⟨"ImposeSheetsModel", "job", "(I)I"⟩ ∈ lw_good := lw_g 1125 (by decide +kernel) rfl
theorem w_449 : Cond.methodLink "ImposeSheetsLaw" 97 ⟨"ImposeSheets", "clear", "()V"⟩ ∈ lw_good := lw_g 449 (by decide +kernel) rfl
set_option maxRecDepth 100000 in
theorem w_452 : Cond.code y_Im_clear c_Im_clear 1 none ∈ lw_good := lw_g 452 rfl rfl
theorem w_450 : Cond.instanceMethod ⟨"ImposeSheets", "clear", "()V"⟩ ∈ lw_good := lw_g 450 (by decide +kernel) rfl
theorem w_451 : Cond.selects "ImposeSheets" ⟨"ImposeSheets", "clear", "()V"⟩ ⟨"ImposeSheets", "clear", "()V"⟩ ∈ lw_good := lw_g 451 (by decide +kernel) rfl
theorem w_1127 : Cond.methodLink "ImposeSheetsLaw" 100 ⟨"ImposeSheetsModel", "clear", "()V"⟩ ∈ lw_good := lw_g 1127 (by decide +kernel) rfl
set_option maxRecDepth 100000 in
theorem w_1130 : Cond.code y_Mo_clear c_Mo_clear 1 none ∈ lw_good := lw_g 1130 rfl rfl
theorem w_1128 : Cond.instanceMethod ⟨"ImposeSheetsModel", "clear", "()V"⟩ ∈ lw_good := lw_g 1128 (by decide +kernel) rfl
theorem w_1129 : Cond.selects "ImposeSheetsModel" ⟨"ImposeSheetsModel", "clear", "()V"⟩ ⟨"ImposeSheetsModel", "clear", "()V"⟩ ∈ lw_good := lw_g 1129 (by decide +kernel) rfl
theorem w_1131 : Cond.methodLink "ImposeSheetsLaw" 104 ⟨"ImposeSheetsModel", "share", "(III)I"⟩ ∈ lw_good := lw_g 1131 (by decide +kernel) rfl
set_option maxRecDepth 100000 in
theorem w_1134 : Cond.code y_Mo_share c_Mo_share 10 (some .int) ∈ lw_good := lw_g 1134 rfl rfl
theorem w_1132 : Cond.instanceMethod ⟨"ImposeSheetsModel", "share", "(III)I"⟩ ∈ lw_good := lw_g 1132 (by decide +kernel) rfl
theorem w_1133 : Cond.selects "ImposeSheetsModel" ⟨"ImposeSheetsModel", "share", "(III)I"⟩ ⟨"ImposeSheetsModel", "share", "(III)I"⟩ ∈ lw_good := lw_g 1133 (by decide +kernel) rfl
theorem w_1167 : Cond.methodLink "ImposeSheetsLaw" 107 ⟨"ImposeSheetsModel", "shared", "(II)I"⟩ ∈ lw_good := lw_g 1167 (by decide +kernel) rfl
set_option maxRecDepth 100000 in
theorem w_1170 : Cond.code y_Mo_shared c_Mo_shared 5 (some .int) ∈ lw_good := lw_g 1170 rfl rfl
theorem w_1168 : Cond.instanceMethod ⟨"ImposeSheetsModel", "shared", "(II)I"⟩ ∈ lw_good := lw_g 1168 (by decide +kernel) rfl
theorem w_1169 : Cond.selects "ImposeSheetsModel" ⟨"ImposeSheetsModel", "shared", "(II)I"⟩ ⟨"ImposeSheetsModel", "shared", "(II)I"⟩ ∈ lw_good := lw_g 1169 (by decide +kernel) rfl
theorem w_457 : Cond.methodLink "ImposeSheetsLaw" 64 ⟨"ImposeSheetsLaw", "setting", "(LImposeSheets;II[J)I"⟩ ∈ lw_good := lw_g 457 (by decide +kernel) rfl
theorem w_458 : Cond.static ⟨"ImposeSheetsLaw", "setting", "(LImposeSheets;II[J)I"⟩ ∈ lw_good := lw_g 458 (by decide +kernel) rfl
theorem w_555 : Cond.methodLink "ImposeSheetsLaw" 73 ⟨"ImposeSheetsLaw", "run", "(LImposeSheets;I[J)I"⟩ ∈ lw_good := lw_g 555 (by decide +kernel) rfl
theorem w_556 : Cond.static ⟨"ImposeSheetsLaw", "run", "(LImposeSheets;I[J)I"⟩ ∈ lw_good := lw_g 556 (by decide +kernel) rfl
theorem w_616 : Cond.methodLink "ImposeSheetsLaw" 81 ⟨"ImposeSheetsLaw", "at", "(LImposeSheets;IIII[J)I"⟩ ∈ lw_good := lw_g 616 (by decide +kernel) rfl
theorem w_617 : Cond.static ⟨"ImposeSheetsLaw", "at", "(LImposeSheets;IIII[J)I"⟩ ∈ lw_good := lw_g 617 (by decide +kernel) rfl
theorem w_676 : Cond.methodLink "ImposeSheetsLaw" 85 ⟨"ImposeSheetsLaw", "fold", "(LImposeSheets;I[J)I"⟩ ∈ lw_good := lw_g 676 (by decide +kernel) rfl
theorem w_677 : Cond.static ⟨"ImposeSheetsLaw", "fold", "(LImposeSheets;I[J)I"⟩ ∈ lw_good := lw_g 677 (by decide +kernel) rfl
theorem w_686 : Cond.methodLink "ImposeSheetsLaw" 88 ⟨"ImposeSheetsLaw", "creep", "(LImposeSheets;I[J)I"⟩ ∈ lw_good := lw_g 686 (by decide +kernel) rfl
theorem w_687 : Cond.static ⟨"ImposeSheetsLaw", "creep", "(LImposeSheets;I[J)I"⟩ ∈ lw_good := lw_g 687 (by decide +kernel) rfl
theorem w_699 : Cond.methodLink "ImposeSheetsLaw" 91 ⟨"ImposeSheetsLaw", "laid", "(LImposeSheets;I[J)I"⟩ ∈ lw_good := lw_g 699 (by decide +kernel) rfl
theorem w_700 : Cond.static ⟨"ImposeSheetsLaw", "laid", "(LImposeSheets;I[J)I"⟩ ∈ lw_good := lw_g 700 (by decide +kernel) rfl
theorem w_713 : Cond.methodLink "ImposeSheetsLaw" 94 ⟨"ImposeSheetsLaw", "job", "(LImposeSheets;I[J)I"⟩ ∈ lw_good := lw_g 713 (by decide +kernel) rfl
theorem w_714 : Cond.static ⟨"ImposeSheetsLaw", "job", "(LImposeSheets;I[J)I"⟩ ∈ lw_good := lw_g 714 (by decide +kernel) rfl
theorem w_747 : Cond.methodLink "ImposeSheetsLaw" 101 ⟨"ImposeSheetsLaw", "share", "(LImposeSheets;III[J)I"⟩ ∈ lw_good := lw_g 747 (by decide +kernel) rfl
theorem w_748 : Cond.static ⟨"ImposeSheetsLaw", "share", "(LImposeSheets;III[J)I"⟩ ∈ lw_good := lw_g 748 (by decide +kernel) rfl
theorem w_809 : Cond.methodLink "ImposeSheetsLaw" 105 ⟨"ImposeSheetsLaw", "shared", "(LImposeSheets;II[J)I"⟩ ∈ lw_good := lw_g 809 (by decide +kernel) rfl
theorem w_810 : Cond.static ⟨"ImposeSheetsLaw", "shared", "(LImposeSheets;II[J)I"⟩ ∈ lw_good := lw_g 810 (by decide +kernel) rfl
set_option maxRecDepth 100000 in
theorem w_459 : Cond.codeWith y_La_setting c_La_setting 5 (some .int) [(0, 10, 13, 13), (0, 10, 17, 15)] ∈ lw_good := lw_g 459 rfl rfl
set_option maxRecDepth 100000 in
theorem w_557 : Cond.codeWith y_La_run c_La_run 4 (some .int) [(0, 9, 12, 15), (0, 9, 15, 21)] ∈ lw_good := lw_g 557 rfl rfl
set_option maxRecDepth 100000 in
theorem w_618 : Cond.codeWith y_La_at c_La_at 7 (some .int) [(0, 14, 17, 13)] ∈ lw_good := lw_g 618 rfl rfl
set_option maxRecDepth 100000 in
theorem w_678 : Cond.codeWith y_La_fold c_La_fold 4 (some .int) [(0, 9, 12, 13)] ∈ lw_good := lw_g 678 rfl rfl
set_option maxRecDepth 100000 in
theorem w_688 : Cond.codeWith y_La_creep c_La_creep 4 (some .int) [(0, 9, 12, 13)] ∈ lw_good := lw_g 688 rfl rfl
set_option maxRecDepth 100000 in
theorem w_701 : Cond.codeWith y_La_laid c_La_laid 4 (some .int) [(0, 9, 12, 13)] ∈ lw_good := lw_g 701 rfl rfl
set_option maxRecDepth 100000 in
theorem w_715 : Cond.codeWith y_La_job c_La_job 4 (some .int) [(0, 9, 12, 15), (0, 9, 15, 39)] ∈ lw_good := lw_g 715 rfl rfl
set_option maxRecDepth 100000 in
theorem w_749 : Cond.codeWith y_La_share c_La_share 6 (some .int) [(0, 12, 15, 15), (0, 12, 19, 21)] ∈ lw_good := lw_g 749 rfl rfl
set_option maxRecDepth 100000 in
theorem w_811 : Cond.codeWith y_La_shared c_La_shared 5 (some .int) [(0, 10, 13, 13)] ∈ lw_good := lw_g 811 rfl rfl
/-! ## ImposeSheets.setting(II)I -/
theorem d_Im_setting_0 : decode c_Im_setting 0 = .ok (.iload_n 1, 1) := by decide +kernel
theorem d_Im_setting_1 : decode c_Im_setting 1 = .ok (.ifCond .lt 9, 3) := by decide +kernel
theorem d_Im_setting_4 : decode c_Im_setting 4 = .ok (.iload_n 1, 1) := by decide +kernel
theorem d_Im_setting_5 : decode c_Im_setting 5 = .ok (.bipush 10, 2) := by decide +kernel
theorem d_Im_setting_7 : decode c_Im_setting 7 = .ok (.if_icmp .lt 13, 3) := by decide +kernel
theorem d_Im_setting_10 : decode c_Im_setting 10 = .ok (.new 73, 3) := by decide +kernel
theorem d_Im_setting_13 : decode c_Im_setting 13 = .ok (.dup, 1) := by decide +kernel
theorem d_Im_setting_14 : decode c_Im_setting 14 = .ok (.ldc 75, 2) := by decide +kernel
theorem d_Im_setting_16 : decode c_Im_setting 16 = .ok (.invokespecial 77, 3) := by decide +kernel
theorem d_Im_setting_19 : decode c_Im_setting 19 = .ok (.athrow, 1) := by decide +kernel
theorem d_Im_setting_20 : decode c_Im_setting 20 = .ok (.iload_n 2, 1) := by decide +kernel
theorem d_Im_setting_21 : decode c_Im_setting 21 = .ok (.getstatic 80, 3) := by decide +kernel
theorem d_Im_setting_24 : decode c_Im_setting 24 = .ok (.iload_n 1, 1) := by decide +kernel
theorem d_Im_setting_25 : decode c_Im_setting 25 = .ok (.iaload, 1) := by decide +kernel
theorem d_Im_setting_26 : decode c_Im_setting 26 = .ok (.if_icmp .lt 12, 3) := by decide +kernel
theorem d_Im_setting_29 : decode c_Im_setting 29 = .ok (.iload_n 2, 1) := by decide +kernel
theorem d_Im_setting_30 : decode c_Im_setting 30 = .ok (.getstatic 83, 3) := by decide +kernel
theorem d_Im_setting_33 : decode c_Im_setting 33 = .ok (.iload_n 1, 1) := by decide +kernel
theorem d_Im_setting_34 : decode c_Im_setting 34 = .ok (.iaload, 1) := by decide +kernel
theorem d_Im_setting_35 : decode c_Im_setting 35 = .ok (.if_icmp .le 13, 3) := by decide +kernel
theorem d_Im_setting_38 : decode c_Im_setting 38 = .ok (.new 86, 3) := by decide +kernel
theorem d_Im_setting_41 : decode c_Im_setting 41 = .ok (.dup, 1) := by decide +kernel
theorem d_Im_setting_42 : decode c_Im_setting 42 = .ok (.ldc 88, 2) := by decide +kernel
theorem d_Im_setting_44 : decode c_Im_setting 44 = .ok (.invokespecial 90, 3) := by decide +kernel
theorem d_Im_setting_47 : decode c_Im_setting 47 = .ok (.athrow, 1) := by decide +kernel
theorem d_Im_setting_48 : decode c_Im_setting 48 = .ok (.aload_n 0, 1) := by decide +kernel
theorem d_Im_setting_49 : decode c_Im_setting 49 = .ok (.getfield 25, 3) := by decide +kernel
theorem d_Im_setting_52 : decode c_Im_setting 52 = .ok (.iload_n 1, 1) := by decide +kernel
theorem d_Im_setting_53 : decode c_Im_setting 53 = .ok (.iaload, 1) := by decide +kernel
theorem d_Im_setting_54 : decode c_Im_setting 54 = .ok (.istore_n 3, 1) := by decide +kernel
theorem d_Im_setting_55 : decode c_Im_setting 55 = .ok (.aload_n 0, 1) := by decide +kernel
theorem d_Im_setting_56 : decode c_Im_setting 56 = .ok (.getfield 25, 3) := by decide +kernel
theorem d_Im_setting_59 : decode c_Im_setting 59 = .ok (.iload_n 1, 1) := by decide +kernel
theorem d_Im_setting_60 : decode c_Im_setting 60 = .ok (.iload_n 2, 1) := by decide +kernel
theorem d_Im_setting_61 : decode c_Im_setting 61 = .ok (.iastore, 1) := by decide +kernel
theorem d_Im_setting_62 : decode c_Im_setting 62 = .ok (.iload_n 3, 1) := by decide +kernel
theorem d_Im_setting_63 : decode c_Im_setting 63 = .ok (.ireturn, 1) := by decide +kernel
theorem a_Im_setting_10 : am_thr c_Im_setting y_Im_setting.cls 0 10 := ⟨73, 75, 77, "no such setting", d_Im_setting_10, d_Im_setting_13, d_Im_setting_14, d_Im_setting_16, d_Im_setting_19, w_466, w_467, w_73, by decide +kernel, am_atoms (by decide +kernel)⟩
theorem a_Im_setting_38 : am_thr c_Im_setting y_Im_setting.cls 1 38 := ⟨86, 88, 90, "not within the setting's bounds", d_Im_setting_38, d_Im_setting_41, d_Im_setting_42, d_Im_setting_44, d_Im_setting_47, w_539, w_540, w_74, by decide +kernel, am_atoms (by decide +kernel)⟩
def t_Im_setting : Nat → am_A := fun pc => cond (Nat.ble 34 pc) (cond (Nat.ble 54 pc) (cond (Nat.ble 60 pc) (cond (Nat.ble 62 pc) (cond (Nat.ble 63 pc) (cond (Nat.beq pc 63) (am_iret) am_stuck) (cond (Nat.beq pc 62) (am_iload 3 63) am_stuck)) (cond (Nat.ble 61 pc) (cond (Nat.beq pc 61) (am_iast 62) am_stuck) (cond (Nat.beq pc 60) (am_iload 2 61) am_stuck))) (cond (Nat.ble 56 pc) (cond (Nat.ble 59 pc) (cond (Nat.beq pc 59) (am_iload 1 60) am_stuck) (cond (Nat.beq pc 56) (am_get 0 2 59) am_stuck)) (cond (Nat.ble 55 pc) (cond (Nat.beq pc 55) (am_aload 0 56) am_stuck) (cond (Nat.beq pc 54) (am_istore 3 55) am_stuck)))) (cond (Nat.ble 48 pc) (cond (Nat.ble 52 pc) (cond (Nat.ble 53 pc) (cond (Nat.beq pc 53) (am_iald 54) am_stuck) (cond (Nat.beq pc 52) (am_iload 1 53) am_stuck)) (cond (Nat.ble 49 pc) (cond (Nat.beq pc 49) (am_get 0 2 52) am_stuck) (cond (Nat.beq pc 48) (am_aload 0 49) am_stuck))) (cond (Nat.ble 35 pc) (cond (Nat.ble 38 pc) (cond (Nat.beq pc 38) (am_throw 1) am_stuck) (cond (Nat.beq pc 35) (am_if2 (fun x y => x ≤ y) 48 38) am_stuck)) (cond (Nat.beq pc 34) (am_sld 100002 10 nS_2 35) am_stuck)))) (cond (Nat.ble 21 pc) (cond (Nat.ble 26 pc) (cond (Nat.ble 30 pc) (cond (Nat.ble 33 pc) (cond (Nat.beq pc 33) (am_iload 1 34) am_stuck) (cond (Nat.beq pc 30) (am_push (.ref 100002) 33) am_stuck)) (cond (Nat.ble 29 pc) (cond (Nat.beq pc 29) (am_iload 2 30) am_stuck) (cond (Nat.beq pc 26) (am_if2 (fun x y => x < y) 38 29) am_stuck))) (cond (Nat.ble 24 pc) (cond (Nat.ble 25 pc) (cond (Nat.beq pc 25) (am_sld 100001 10 nS_1 26) am_stuck) (cond (Nat.beq pc 24) (am_iload 1 25) am_stuck)) (cond (Nat.beq pc 21) (am_push (.ref 100001) 24) am_stuck))) (cond (Nat.ble 5 pc) (cond (Nat.ble 10 pc) (cond (Nat.ble 20 pc) (cond (Nat.beq pc 20) (am_iload 2 21) am_stuck) (cond (Nat.beq pc 10) (am_throw 0) am_stuck)) (cond (Nat.ble 7 pc) (cond (Nat.beq pc 7) (am_if2 (fun x y => x < y) 20 10) am_stuck) (cond (Nat.beq pc 5) (am_push (.int (10)) 7) am_stuck))) (cond (Nat.ble 1 pc) (cond (Nat.ble 4 pc) (cond (Nat.beq pc 4) (am_iload 1 5) am_stuck) (cond (Nat.beq pc 1) (am_if (fun x => x < 0) 10 4) am_stuck)) (cond (Nat.beq pc 0) (am_iload 1 1) am_stuck))))
theorem s_Im_setting : ∀ pc, am_Snd am_En c_Im_setting 4 y_Im_setting.cls 7 100 pc (t_Im_setting pc) := fun pc => am_node (am_node (am_node (am_node (am_node (am_leaf (am_s_iret d_Im_setting_63)) (am_leaf (am_s_iload_n 3 d_Im_setting_62 rfl))) (am_node (am_leaf (am_s_iast d_Im_setting_61)) (am_leaf (am_s_iload_n 2 d_Im_setting_60 rfl)))) (am_node (am_node (am_leaf (am_s_iload_n 1 d_Im_setting_59 rfl)) (am_leaf (am_s_get (ci := 0) (k := 2) (C := nR_Im) (T := nT_Im) (N := 7) rfl nG_Im (by decide) w_268 d_Im_setting_56))) (am_node (am_leaf (am_s_aload_n 0 d_Im_setting_55 rfl)) (am_leaf (am_s_istore_n 3 d_Im_setting_54 rfl (by decide)))))) (am_node (am_node (am_node (am_leaf (am_s_iald d_Im_setting_53)) (am_leaf (am_s_iload_n 1 d_Im_setting_52 rfl))) (am_node (am_leaf (am_s_get (ci := 0) (k := 2) (C := nR_Im) (T := nT_Im) (N := 7) rfl nG_Im (by decide) w_268 d_Im_setting_49)) (am_leaf (am_s_aload_n 0 d_Im_setting_48 rfl)))) (am_node (am_node (am_leaf (am_s_throw a_Im_setting_38)) (am_leaf (am_s_icmp_le 48 d_Im_setting_35 (by decide)))) (am_leaf (am_s_sld (fun A A0 s h => (h.2.1 2 _ rfl).2) d_Im_setting_34))))) (am_node (am_node (am_node (am_node (am_leaf (am_s_iload_n 1 d_Im_setting_33 rfl)) (am_leaf (am_s_gets (fun A A0 s h => (h.2.1 2 _ rfl).1) w_537 d_Im_setting_30))) (am_node (am_leaf (am_s_iload_n 2 d_Im_setting_29 rfl)) (am_leaf (am_s_icmp_lt 38 d_Im_setting_26 (by decide))))) (am_node (am_node (am_leaf (am_s_sld (fun A A0 s h => (h.2.1 1 _ rfl).2) d_Im_setting_25)) (am_leaf (am_s_iload_n 1 d_Im_setting_24 rfl))) (am_leaf (am_s_gets (fun A A0 s h => (h.2.1 1 _ rfl).1) w_535 d_Im_setting_21)))) (am_node (am_node (am_node (am_leaf (am_s_iload_n 2 d_Im_setting_20 rfl)) (am_leaf (am_s_throw a_Im_setting_10))) (am_node (am_leaf (am_s_icmp_lt 20 d_Im_setting_7 (by decide))) (am_leaf (am_s_bipush d_Im_setting_5 (by decide))))) (am_node (am_node (am_leaf (am_s_iload_n 1 d_Im_setting_4 rfl)) (am_leaf (am_s_if_lt 10 d_Im_setting_1 (by decide)))) (am_leaf (am_s_iload_n 1 d_Im_setting_0 rfl)))))
def M_Im_setting : am_M := am_MofX t_Im_setting 4 (some .int)
theorem m_Im_setting (l : Launch) (hl : l.stackTraces = false) : am_MetX l y_Im_setting c_Im_setting 4 (some .int) 7 100 M_Im_setting := am_metX (plainFor_of_name (by decide)) s_Im_setting (by decide) (by decide) l hl
/-! ## ImposeSheets.run(I)I -/
theorem d_Im_run_0 : decode c_Im_run 0 = .ok (.aload_n 0, 1) := by decide +kernel
theorem d_Im_run_1 : decode c_Im_run 1 = .ok (.getfield 55, 3) := by decide +kernel
theorem d_Im_run_4 : decode c_Im_run 4 = .ok (.invokevirtual 91, 3) := by decide +kernel
theorem d_Im_run_7 : decode c_Im_run 7 = .ok (.ifCond .le 7, 3) := by decide +kernel
theorem d_Im_run_10 : decode c_Im_run 10 = .ok (.iconst 1, 1) := by decide +kernel
theorem d_Im_run_11 : decode c_Im_run 11 = .ok (.goto 4, 3) := by decide +kernel
theorem d_Im_run_14 : decode c_Im_run 14 = .ok (.iconst 0, 1) := by decide +kernel
theorem d_Im_run_15 : decode c_Im_run 15 = .ok (.istore_n 2, 1) := by decide +kernel
theorem d_Im_run_16 : decode c_Im_run 16 = .ok (.iload_n 1, 1) := by decide +kernel
theorem d_Im_run_17 : decode c_Im_run 17 = .ok (.iconst 1, 1) := by decide +kernel
theorem d_Im_run_18 : decode c_Im_run 18 = .ok (.if_icmp .lt 21, 3) := by decide +kernel
theorem d_Im_run_21 : decode c_Im_run 21 = .ok (.iload_n 2, 1) := by decide +kernel
theorem d_Im_run_22 : decode c_Im_run 22 = .ok (.ifCond .eq 27, 3) := by decide +kernel
theorem d_Im_run_25 : decode c_Im_run 25 = .ok (.iload_n 1, 1) := by decide +kernel
theorem d_Im_run_26 : decode c_Im_run 26 = .ok (.bipush 20, 2) := by decide +kernel
theorem d_Im_run_28 : decode c_Im_run 28 = .ok (.aload_n 0, 1) := by decide +kernel
theorem d_Im_run_29 : decode c_Im_run 29 = .ok (.getfield 55, 3) := by decide +kernel
theorem d_Im_run_32 : decode c_Im_run 32 = .ok (.invokevirtual 95, 3) := by decide +kernel
theorem d_Im_run_35 : decode c_Im_run 35 = .ok (.imul, 1) := by decide +kernel
theorem d_Im_run_36 : decode c_Im_run 36 = .ok (.if_icmp .le 13, 3) := by decide +kernel
theorem d_Im_run_39 : decode c_Im_run 39 = .ok (.new 86, 3) := by decide +kernel
theorem d_Im_run_42 : decode c_Im_run 42 = .ok (.dup, 1) := by decide +kernel
theorem d_Im_run_43 : decode c_Im_run 43 = .ok (.ldc 98, 2) := by decide +kernel
theorem d_Im_run_45 : decode c_Im_run 45 = .ok (.invokespecial 90, 3) := by decide +kernel
theorem d_Im_run_48 : decode c_Im_run 48 = .ok (.athrow, 1) := by decide +kernel
theorem d_Im_run_49 : decode c_Im_run 49 = .ok (.iload_n 2, 1) := by decide +kernel
theorem d_Im_run_50 : decode c_Im_run 50 = .ok (.ifCond .ne 13, 3) := by decide +kernel
theorem d_Im_run_53 : decode c_Im_run 53 = .ok (.new 100, 3) := by decide +kernel
theorem d_Im_run_56 : decode c_Im_run 56 = .ok (.dup, 1) := by decide +kernel
theorem d_Im_run_57 : decode c_Im_run 57 = .ok (.ldc 102, 2) := by decide +kernel
theorem d_Im_run_59 : decode c_Im_run 59 = .ok (.invokespecial 104, 3) := by decide +kernel
theorem d_Im_run_62 : decode c_Im_run 62 = .ok (.athrow, 1) := by decide +kernel
theorem d_Im_run_63 : decode c_Im_run 63 = .ok (.aload_n 0, 1) := by decide +kernel
theorem d_Im_run_64 : decode c_Im_run 64 = .ok (.getfield 55, 3) := by decide +kernel
theorem d_Im_run_67 : decode c_Im_run 67 = .ok (.invokevirtual 105, 3) := by decide +kernel
theorem d_Im_run_70 : decode c_Im_run 70 = .ok (.aload_n 0, 1) := by decide +kernel
theorem d_Im_run_71 : decode c_Im_run 71 = .ok (.getfield 25, 3) := by decide +kernel
theorem d_Im_run_74 : decode c_Im_run 74 = .ok (.iconst 0, 1) := by decide +kernel
theorem d_Im_run_75 : decode c_Im_run 75 = .ok (.iaload, 1) := by decide +kernel
theorem d_Im_run_76 : decode c_Im_run 76 = .ok (.iconst 2, 1) := by decide +kernel
theorem d_Im_run_77 : decode c_Im_run 77 = .ok (.if_icmp .ne 7, 3) := by decide +kernel
theorem d_Im_run_80 : decode c_Im_run 80 = .ok (.iconst 1, 1) := by decide +kernel
theorem d_Im_run_81 : decode c_Im_run 81 = .ok (.goto 4, 3) := by decide +kernel
theorem d_Im_run_84 : decode c_Im_run 84 = .ok (.iconst 0, 1) := by decide +kernel
theorem d_Im_run_85 : decode c_Im_run 85 = .ok (.if_icmp .eq 13, 3) := by decide +kernel
theorem d_Im_run_88 : decode c_Im_run 88 = .ok (.new 100, 3) := by decide +kernel
theorem d_Im_run_91 : decode c_Im_run 91 = .ok (.dup, 1) := by decide +kernel
theorem d_Im_run_92 : decode c_Im_run 92 = .ok (.ldc 109, 2) := by decide +kernel
theorem d_Im_run_94 : decode c_Im_run 94 = .ok (.invokespecial 104, 3) := by decide +kernel
theorem d_Im_run_97 : decode c_Im_run 97 = .ok (.athrow, 1) := by decide +kernel
theorem d_Im_run_98 : decode c_Im_run 98 = .ok (.aload_n 0, 1) := by decide +kernel
theorem d_Im_run_99 : decode c_Im_run 99 = .ok (.getfield 55, 3) := by decide +kernel
theorem d_Im_run_102 : decode c_Im_run 102 = .ok (.aload_n 0, 1) := by decide +kernel
theorem d_Im_run_103 : decode c_Im_run 103 = .ok (.getfield 25, 3) := by decide +kernel
theorem d_Im_run_106 : decode c_Im_run 106 = .ok (.iconst 1, 1) := by decide +kernel
theorem d_Im_run_107 : decode c_Im_run 107 = .ok (.iaload, 1) := by decide +kernel
theorem d_Im_run_108 : decode c_Im_run 108 = .ok (.invokevirtual 111, 3) := by decide +kernel
theorem d_Im_run_111 : decode c_Im_run 111 = .ok (.ifCond .eq 5, 3) := by decide +kernel
theorem d_Im_run_114 : decode c_Im_run 114 = .ok (.iconst 0, 1) := by decide +kernel
theorem d_Im_run_115 : decode c_Im_run 115 = .ok (.ireturn, 1) := by decide +kernel
theorem d_Im_run_116 : decode c_Im_run 116 = .ok (.aload_n 0, 1) := by decide +kernel
theorem d_Im_run_117 : decode c_Im_run 117 = .ok (.getfield 41, 3) := by decide +kernel
theorem d_Im_run_120 : decode c_Im_run 120 = .ok (.aload_n 0, 1) := by decide +kernel
theorem d_Im_run_121 : decode c_Im_run 121 = .ok (.getfield 55, 3) := by decide +kernel
theorem d_Im_run_124 : decode c_Im_run 124 = .ok (.aload_n 0, 1) := by decide +kernel
theorem d_Im_run_125 : decode c_Im_run 125 = .ok (.getfield 25, 3) := by decide +kernel
theorem d_Im_run_128 : decode c_Im_run 128 = .ok (.iload_n 1, 1) := by decide +kernel
theorem d_Im_run_129 : decode c_Im_run 129 = .ok (.invokevirtual 115, 3) := by decide +kernel
theorem d_Im_run_132 : decode c_Im_run 132 = .ok (.aload_n 0, 1) := by decide +kernel
theorem d_Im_run_133 : decode c_Im_run 133 = .ok (.getfield 41, 3) := by decide +kernel
theorem d_Im_run_136 : decode c_Im_run 136 = .ok (.invokevirtual 119, 3) := by decide +kernel
theorem d_Im_run_139 : decode c_Im_run 139 = .ok (.ireturn, 1) := by decide +kernel
theorem a_Im_run_39 : am_thr c_Im_run y_Im_run.cls 1 39 := ⟨86, 98, 90, "not a number of pages that can be laid", d_Im_run_39, d_Im_run_42, d_Im_run_43, d_Im_run_45, d_Im_run_48, w_539, w_540, w_74, by decide +kernel, am_atoms (by decide +kernel)⟩
theorem a_Im_run_53 : am_thr c_Im_run y_Im_run.cls 2 53 := ⟨100, 102, 104, "no scheme", d_Im_run_53, d_Im_run_56, d_Im_run_57, d_Im_run_59, d_Im_run_62, w_566, w_567, w_75, by decide +kernel, am_atoms (by decide +kernel)⟩
theorem a_Im_run_88 : am_thr c_Im_run y_Im_run.cls 2 88 := ⟨100, 109, 104, "the binding is not one for the scheme", d_Im_run_88, d_Im_run_91, d_Im_run_92, d_Im_run_94, d_Im_run_97, w_566, w_567, w_75, by decide +kernel, am_atoms (by decide +kernel)⟩
def t_Im_run : Nat → am_A := fun pc => cond (Nat.ble 75 pc) (cond (Nat.ble 111 pc) (cond (Nat.ble 124 pc) (cond (Nat.ble 132 pc) (cond (Nat.ble 136 pc) (cond (Nat.ble 139 pc) (cond (Nat.beq pc 139) (am_iret) am_stuck) (cond (Nat.beq pc 136) (am_callV M_Bo_sheetCount 4 0 139) am_stuck)) (cond (Nat.ble 133 pc) (cond (Nat.beq pc 133) (am_get 0 3 136) am_stuck) (cond (Nat.beq pc 132) (am_aload 0 133) am_stuck))) (cond (Nat.ble 128 pc) (cond (Nat.ble 129 pc) (cond (Nat.beq pc 129) (am_callV M_Bo_lay 4 3 132) am_stuck) (cond (Nat.beq pc 128) (am_iload 1 129) am_stuck)) (cond (Nat.ble 125 pc) (cond (Nat.beq pc 125) (am_get 0 2 128) am_stuck) (cond (Nat.beq pc 124) (am_aload 0 125) am_stuck)))) (cond (Nat.ble 116 pc) (cond (Nat.ble 120 pc) (cond (Nat.ble 121 pc) (cond (Nat.beq pc 121) (am_get 0 5 124) am_stuck) (cond (Nat.beq pc 120) (am_aload 0 121) am_stuck)) (cond (Nat.ble 117 pc) (cond (Nat.beq pc 117) (am_get 0 3 120) am_stuck) (cond (Nat.beq pc 116) (am_aload 0 117) am_stuck))) (cond (Nat.ble 114 pc) (cond (Nat.ble 115 pc) (cond (Nat.beq pc 115) (am_iret) am_stuck) (cond (Nat.beq pc 114) (am_push (.int 0) 115) am_stuck)) (cond (Nat.beq pc 111) (am_if (fun x => x = 0) 116 114) am_stuck)))) (cond (Nat.ble 88 pc) (cond (Nat.ble 103 pc) (cond (Nat.ble 107 pc) (cond (Nat.ble 108 pc) (cond (Nat.beq pc 108) (am_callV M_Sc_firstBroken 6 1 111) am_stuck) (cond (Nat.beq pc 107) (am_iald 108) am_stuck)) (cond (Nat.ble 106 pc) (cond (Nat.beq pc 106) (am_push (.int 1) 107) am_stuck) (cond (Nat.beq pc 103) (am_get 0 2 106) am_stuck))) (cond (Nat.ble 99 pc) (cond (Nat.ble 102 pc) (cond (Nat.beq pc 102) (am_aload 0 103) am_stuck) (cond (Nat.beq pc 99) (am_get 0 5 102) am_stuck)) (cond (Nat.ble 98 pc) (cond (Nat.beq pc 98) (am_aload 0 99) am_stuck) (cond (Nat.beq pc 88) (am_throw 2) am_stuck)))) (cond (Nat.ble 80 pc) (cond (Nat.ble 84 pc) (cond (Nat.ble 85 pc) (cond (Nat.beq pc 85) (am_if2 (fun x y => x = y) 98 88) am_stuck) (cond (Nat.beq pc 84) (am_push (.int 0) 85) am_stuck)) (cond (Nat.ble 81 pc) (cond (Nat.beq pc 81) (am_goto 85) am_stuck) (cond (Nat.beq pc 80) (am_push (.int 1) 81) am_stuck))) (cond (Nat.ble 76 pc) (cond (Nat.ble 77 pc) (cond (Nat.beq pc 77) (am_if2 (fun x y => ¬ x = y) 84 80) am_stuck) (cond (Nat.beq pc 76) (am_push (.int 2) 77) am_stuck)) (cond (Nat.beq pc 75) (am_iald 76) am_stuck))))) (cond (Nat.ble 28 pc) (cond (Nat.ble 50 pc) (cond (Nat.ble 67 pc) (cond (Nat.ble 71 pc) (cond (Nat.ble 74 pc) (cond (Nat.beq pc 74) (am_push (.int 0) 75) am_stuck) (cond (Nat.beq pc 71) (am_get 0 2 74) am_stuck)) (cond (Nat.ble 70 pc) (cond (Nat.beq pc 70) (am_aload 0 71) am_stuck) (cond (Nat.beq pc 67) (am_callV M_Sc_isCut 6 0 70) am_stuck))) (cond (Nat.ble 63 pc) (cond (Nat.ble 64 pc) (cond (Nat.beq pc 64) (am_get 0 5 67) am_stuck) (cond (Nat.beq pc 63) (am_aload 0 64) am_stuck)) (cond (Nat.ble 53 pc) (cond (Nat.beq pc 53) (am_throw 2) am_stuck) (cond (Nat.beq pc 50) (am_if (fun x => ¬ x = 0) 63 53) am_stuck)))) (cond (Nat.ble 35 pc) (cond (Nat.ble 39 pc) (cond (Nat.ble 49 pc) (cond (Nat.beq pc 49) (am_iload 2 50) am_stuck) (cond (Nat.beq pc 39) (am_throw 1) am_stuck)) (cond (Nat.ble 36 pc) (cond (Nat.beq pc 36) (am_if2 (fun x y => x ≤ y) 49 39) am_stuck) (cond (Nat.beq pc 35) (am_i2 (fun x y => x * y) 36) am_stuck))) (cond (Nat.ble 29 pc) (cond (Nat.ble 32 pc) (cond (Nat.beq pc 32) (am_callV M_Sc_pageCount 6 0 35) am_stuck) (cond (Nat.beq pc 29) (am_get 0 5 32) am_stuck)) (cond (Nat.beq pc 28) (am_aload 0 29) am_stuck)))) (cond (Nat.ble 15 pc) (cond (Nat.ble 21 pc) (cond (Nat.ble 25 pc) (cond (Nat.ble 26 pc) (cond (Nat.beq pc 26) (am_push (.int (20)) 28) am_stuck) (cond (Nat.beq pc 25) (am_iload 1 26) am_stuck)) (cond (Nat.ble 22 pc) (cond (Nat.beq pc 22) (am_if (fun x => x = 0) 49 25) am_stuck) (cond (Nat.beq pc 21) (am_iload 2 22) am_stuck))) (cond (Nat.ble 17 pc) (cond (Nat.ble 18 pc) (cond (Nat.beq pc 18) (am_if2 (fun x y => x < y) 39 21) am_stuck) (cond (Nat.beq pc 17) (am_push (.int 1) 18) am_stuck)) (cond (Nat.ble 16 pc) (cond (Nat.beq pc 16) (am_iload 1 17) am_stuck) (cond (Nat.beq pc 15) (am_istore 2 16) am_stuck)))) (cond (Nat.ble 7 pc) (cond (Nat.ble 11 pc) (cond (Nat.ble 14 pc) (cond (Nat.beq pc 14) (am_push (.int 0) 15) am_stuck) (cond (Nat.beq pc 11) (am_goto 15) am_stuck)) (cond (Nat.ble 10 pc) (cond (Nat.beq pc 10) (am_push (.int 1) 11) am_stuck) (cond (Nat.beq pc 7) (am_if (fun x => x ≤ 0) 14 10) am_stuck))) (cond (Nat.ble 1 pc) (cond (Nat.ble 4 pc) (cond (Nat.beq pc 4) (am_callV M_Sc_cells 6 0 7) am_stuck) (cond (Nat.beq pc 1) (am_get 0 5 4) am_stuck)) (cond (Nat.beq pc 0) (am_aload 0 1) am_stuck)))))
theorem s_Im_run : ∀ pc, am_Snd am_En c_Im_run 3 y_Im_run.cls 7 116 pc (t_Im_run pc) := fun pc => am_node (am_node (am_node (am_node (am_node (am_node (am_leaf (am_s_iret d_Im_run_139)) (am_leaf (am_s_callV (ci := 4) (T := nT_Bo) (N := 8) (fun _ _ _ h => h) rfl m_Bo_sheetCount (by decide) (by decide) w_615 w_65 w_612 w_613 w_614 (by decide +kernel) d_Im_run_136))) (am_node (am_leaf (am_s_get (ci := 0) (k := 3) (C := nR_Im) (T := nT_Im) (N := 7) rfl nG_Im (by decide) w_269 d_Im_run_133)) (am_leaf (am_s_aload_n 0 d_Im_run_132 rfl)))) (am_node (am_node (am_leaf (am_s_callV (ci := 4) (T := nT_Bo) (N := 8) (fun _ _ _ h => h) rfl m_Bo_lay (by decide) (by decide) w_587 w_65 w_584 w_585 w_586 (by decide +kernel) d_Im_run_129)) (am_leaf (am_s_iload_n 1 d_Im_run_128 rfl))) (am_node (am_leaf (am_s_get (ci := 0) (k := 2) (C := nR_Im) (T := nT_Im) (N := 7) rfl nG_Im (by decide) w_268 d_Im_run_125)) (am_leaf (am_s_aload_n 0 d_Im_run_124 rfl))))) (am_node (am_node (am_node (am_leaf (am_s_get (ci := 0) (k := 5) (C := nR_Im) (T := nT_Im) (N := 7) rfl nG_Im (by decide) w_271 d_Im_run_121)) (am_leaf (am_s_aload_n 0 d_Im_run_120 rfl))) (am_node (am_leaf (am_s_get (ci := 0) (k := 3) (C := nR_Im) (T := nT_Im) (N := 7) rfl nG_Im (by decide) w_269 d_Im_run_117)) (am_leaf (am_s_aload_n 0 d_Im_run_116 rfl)))) (am_node (am_node (am_leaf (am_s_iret d_Im_run_115)) (am_leaf (am_s_iconst d_Im_run_114 (by decide)))) (am_leaf (am_s_if_eq 116 d_Im_run_111 (by decide)))))) (am_node (am_node (am_node (am_node (am_leaf (am_s_callV (ci := 6) (T := nT_Sc) (N := 8) (fun _ _ _ h => h) rfl m_Sc_firstBroken (by decide) (by decide) w_427 w_67 w_424 w_425 w_426 (by decide +kernel) d_Im_run_108)) (am_leaf (am_s_iald d_Im_run_107))) (am_node (am_leaf (am_s_iconst d_Im_run_106 (by decide))) (am_leaf (am_s_get (ci := 0) (k := 2) (C := nR_Im) (T := nT_Im) (N := 7) rfl nG_Im (by decide) w_268 d_Im_run_103)))) (am_node (am_node (am_leaf (am_s_aload_n 0 d_Im_run_102 rfl)) (am_leaf (am_s_get (ci := 0) (k := 5) (C := nR_Im) (T := nT_Im) (N := 7) rfl nG_Im (by decide) w_271 d_Im_run_99))) (am_node (am_leaf (am_s_aload_n 0 d_Im_run_98 rfl)) (am_leaf (am_s_throw a_Im_run_88))))) (am_node (am_node (am_node (am_leaf (am_s_icmp_eq 98 d_Im_run_85 (by decide))) (am_leaf (am_s_iconst d_Im_run_84 (by decide)))) (am_node (am_leaf (am_s_goto 85 d_Im_run_81 (by decide))) (am_leaf (am_s_iconst d_Im_run_80 (by decide))))) (am_node (am_node (am_leaf (am_s_icmp_ne 84 d_Im_run_77 (by decide))) (am_leaf (am_s_iconst d_Im_run_76 (by decide)))) (am_leaf (am_s_iald d_Im_run_75)))))) (am_node (am_node (am_node (am_node (am_node (am_leaf (am_s_iconst d_Im_run_74 (by decide))) (am_leaf (am_s_get (ci := 0) (k := 2) (C := nR_Im) (T := nT_Im) (N := 7) rfl nG_Im (by decide) w_268 d_Im_run_71))) (am_node (am_leaf (am_s_aload_n 0 d_Im_run_70 rfl)) (am_leaf (am_s_callV (ci := 6) (T := nT_Sc) (N := 8) (fun _ _ _ h => h) rfl m_Sc_isCut (by decide) (by decide) w_362 w_67 w_582 w_360 w_361 (by decide +kernel) d_Im_run_67)))) (am_node (am_node (am_leaf (am_s_get (ci := 0) (k := 5) (C := nR_Im) (T := nT_Im) (N := 7) rfl nG_Im (by decide) w_271 d_Im_run_64)) (am_leaf (am_s_aload_n 0 d_Im_run_63 rfl))) (am_node (am_leaf (am_s_throw a_Im_run_53)) (am_leaf (am_s_if_ne 63 d_Im_run_50 (by decide)))))) (am_node (am_node (am_node (am_leaf (am_s_iload_n 2 d_Im_run_49 rfl)) (am_leaf (am_s_throw a_Im_run_39))) (am_node (am_leaf (am_s_icmp_le 49 d_Im_run_36 (by decide))) (am_leaf (am_s_imul d_Im_run_35)))) (am_node (am_node (am_leaf (am_s_callV (ci := 6) (T := nT_Sc) (N := 8) (fun _ _ _ h => h) rfl m_Sc_pageCount (by decide) (by decide) w_410 w_67 w_564 w_408 w_409 (by decide +kernel) d_Im_run_32)) (am_leaf (am_s_get (ci := 0) (k := 5) (C := nR_Im) (T := nT_Im) (N := 7) rfl nG_Im (by decide) w_271 d_Im_run_29))) (am_leaf (am_s_aload_n 0 d_Im_run_28 rfl))))) (am_node (am_node (am_node (am_node (am_leaf (am_s_bipush d_Im_run_26 (by decide))) (am_leaf (am_s_iload_n 1 d_Im_run_25 rfl))) (am_node (am_leaf (am_s_if_eq 49 d_Im_run_22 (by decide))) (am_leaf (am_s_iload_n 2 d_Im_run_21 rfl)))) (am_node (am_node (am_leaf (am_s_icmp_lt 39 d_Im_run_18 (by decide))) (am_leaf (am_s_iconst d_Im_run_17 (by decide)))) (am_node (am_leaf (am_s_iload_n 1 d_Im_run_16 rfl)) (am_leaf (am_s_istore_n 2 d_Im_run_15 rfl (by decide)))))) (am_node (am_node (am_node (am_leaf (am_s_iconst d_Im_run_14 (by decide))) (am_leaf (am_s_goto 15 d_Im_run_11 (by decide)))) (am_node (am_leaf (am_s_iconst d_Im_run_10 (by decide))) (am_leaf (am_s_if_le 14 d_Im_run_7 (by decide))))) (am_node (am_node (am_leaf (am_s_callV (ci := 6) (T := nT_Sc) (N := 8) (fun _ _ _ h => h) rfl m_Sc_cells (by decide) (by decide) w_369 w_67 w_563 w_367 w_368 (by decide +kernel) d_Im_run_4)) (am_leaf (am_s_get (ci := 0) (k := 5) (C := nR_Im) (T := nT_Im) (N := 7) rfl nG_Im (by decide) w_271 d_Im_run_1))) (am_leaf (am_s_aload_n 0 d_Im_run_0 rfl))))))
def M_Im_run : am_M := am_MofX t_Im_run 3 (some .int)
theorem m_Im_run (l : Launch) (hl : l.stackTraces = false) : am_MetX l y_Im_run c_Im_run 3 (some .int) 7 116 M_Im_run := am_metX (plainFor_of_name (by decide)) s_Im_run (by decide) (by decide) l hl
/-! ## ImposeSheets.at(IIII)I -/
theorem d_Im_at_0 : decode c_Im_at 0 = .ok (.aload_n 0, 1) := by decide +kernel
theorem d_Im_at_1 : decode c_Im_at 1 = .ok (.getfield 41, 3) := by decide +kernel
theorem d_Im_at_4 : decode c_Im_at 4 = .ok (.iload_n 1, 1) := by decide +kernel
theorem d_Im_at_5 : decode c_Im_at 5 = .ok (.iload_n 2, 1) := by decide +kernel
theorem d_Im_at_6 : decode c_Im_at 6 = .ok (.iload_n 3, 1) := by decide +kernel
theorem d_Im_at_7 : decode c_Im_at 7 = .ok (.invokevirtual 122, 3) := by decide +kernel
theorem d_Im_at_10 : decode c_Im_at 10 = .ok (.ifCond .eq 14, 3) := by decide +kernel
theorem d_Im_at_13 : decode c_Im_at 13 = .ok (.iload 4, 2) := by decide +kernel
theorem d_Im_at_15 : decode c_Im_at 15 = .ok (.ifCond .lt 9, 3) := by decide +kernel
theorem d_Im_at_18 : decode c_Im_at 18 = .ok (.iload 4, 2) := by decide +kernel
theorem d_Im_at_20 : decode c_Im_at 20 = .ok (.iconst 4, 1) := by decide +kernel
theorem d_Im_at_21 : decode c_Im_at 21 = .ok (.if_icmp .le 13, 3) := by decide +kernel
theorem d_Im_at_24 : decode c_Im_at 24 = .ok (.new 73, 3) := by decide +kernel
theorem d_Im_at_27 : decode c_Im_at 27 = .ok (.dup, 1) := by decide +kernel
theorem d_Im_at_28 : decode c_Im_at 28 = .ok (.ldc 126, 2) := by decide +kernel
theorem d_Im_at_30 : decode c_Im_at 30 = .ok (.invokespecial 77, 3) := by decide +kernel
theorem d_Im_at_33 : decode c_Im_at 33 = .ok (.athrow, 1) := by decide +kernel
theorem d_Im_at_34 : decode c_Im_at 34 = .ok (.aload_n 0, 1) := by decide +kernel
theorem d_Im_at_35 : decode c_Im_at 35 = .ok (.getfield 41, 3) := by decide +kernel
theorem d_Im_at_38 : decode c_Im_at 38 = .ok (.iload_n 1, 1) := by decide +kernel
theorem d_Im_at_39 : decode c_Im_at 39 = .ok (.iload_n 2, 1) := by decide +kernel
theorem d_Im_at_40 : decode c_Im_at 40 = .ok (.iload_n 3, 1) := by decide +kernel
theorem d_Im_at_41 : decode c_Im_at 41 = .ok (.iload 4, 2) := by decide +kernel
theorem d_Im_at_43 : decode c_Im_at 43 = .ok (.invokevirtual 128, 3) := by decide +kernel
theorem d_Im_at_46 : decode c_Im_at 46 = .ok (.ireturn, 1) := by decide +kernel
theorem a_Im_at_24 : am_thr c_Im_at y_Im_at.cls 0 24 := ⟨73, 126, 77, "no such place, or nothing of that kind to tell", d_Im_at_24, d_Im_at_27, d_Im_at_28, d_Im_at_30, d_Im_at_33, w_466, w_467, w_73, by decide +kernel, am_atoms (by decide +kernel)⟩
def t_Im_at : Nat → am_A := fun pc => cond (Nat.ble 20 pc) (cond (Nat.ble 38 pc) (cond (Nat.ble 41 pc) (cond (Nat.ble 43 pc) (cond (Nat.ble 46 pc) (cond (Nat.beq pc 46) (am_iret) am_stuck) (cond (Nat.beq pc 43) (am_callV M_Bo_tellSpot 4 4 46) am_stuck)) (cond (Nat.beq pc 41) (am_iload 4 43) am_stuck)) (cond (Nat.ble 39 pc) (cond (Nat.ble 40 pc) (cond (Nat.beq pc 40) (am_iload 3 41) am_stuck) (cond (Nat.beq pc 39) (am_iload 2 40) am_stuck)) (cond (Nat.beq pc 38) (am_iload 1 39) am_stuck))) (cond (Nat.ble 24 pc) (cond (Nat.ble 34 pc) (cond (Nat.ble 35 pc) (cond (Nat.beq pc 35) (am_get 0 3 38) am_stuck) (cond (Nat.beq pc 34) (am_aload 0 35) am_stuck)) (cond (Nat.beq pc 24) (am_throw 0) am_stuck)) (cond (Nat.ble 21 pc) (cond (Nat.beq pc 21) (am_if2 (fun x y => x ≤ y) 34 24) am_stuck) (cond (Nat.beq pc 20) (am_push (.int 4) 21) am_stuck)))) (cond (Nat.ble 7 pc) (cond (Nat.ble 13 pc) (cond (Nat.ble 15 pc) (cond (Nat.ble 18 pc) (cond (Nat.beq pc 18) (am_iload 4 20) am_stuck) (cond (Nat.beq pc 15) (am_if (fun x => x < 0) 24 18) am_stuck)) (cond (Nat.beq pc 13) (am_iload 4 15) am_stuck)) (cond (Nat.ble 10 pc) (cond (Nat.beq pc 10) (am_if (fun x => x = 0) 24 13) am_stuck) (cond (Nat.beq pc 7) (am_callV M_Bo_hasSpot 4 3 10) am_stuck))) (cond (Nat.ble 4 pc) (cond (Nat.ble 5 pc) (cond (Nat.ble 6 pc) (cond (Nat.beq pc 6) (am_iload 3 7) am_stuck) (cond (Nat.beq pc 5) (am_iload 2 6) am_stuck)) (cond (Nat.beq pc 4) (am_iload 1 5) am_stuck)) (cond (Nat.ble 1 pc) (cond (Nat.beq pc 1) (am_get 0 3 4) am_stuck) (cond (Nat.beq pc 0) (am_aload 0 1) am_stuck))))
theorem s_Im_at : ∀ pc, am_Snd am_En c_Im_at 5 y_Im_at.cls 7 129 pc (t_Im_at pc) := fun pc => am_node (am_node (am_node (am_node (am_node (am_leaf (am_s_iret d_Im_at_46)) (am_leaf (am_s_callV (ci := 4) (T := nT_Bo) (N := 8) (fun _ _ _ h => h) rfl m_Bo_tellSpot (by decide) (by decide) w_631 w_65 w_628 w_629 w_630 (by decide +kernel) d_Im_at_43))) (am_leaf (am_s_iload d_Im_at_41))) (am_node (am_node (am_leaf (am_s_iload_n 3 d_Im_at_40 rfl)) (am_leaf (am_s_iload_n 2 d_Im_at_39 rfl))) (am_leaf (am_s_iload_n 1 d_Im_at_38 rfl)))) (am_node (am_node (am_node (am_leaf (am_s_get (ci := 0) (k := 3) (C := nR_Im) (T := nT_Im) (N := 7) rfl nG_Im (by decide) w_269 d_Im_at_35)) (am_leaf (am_s_aload_n 0 d_Im_at_34 rfl))) (am_leaf (am_s_throw a_Im_at_24))) (am_node (am_leaf (am_s_icmp_le 34 d_Im_at_21 (by decide))) (am_leaf (am_s_iconst d_Im_at_20 (by decide)))))) (am_node (am_node (am_node (am_node (am_leaf (am_s_iload d_Im_at_18)) (am_leaf (am_s_if_lt 24 d_Im_at_15 (by decide)))) (am_leaf (am_s_iload d_Im_at_13))) (am_node (am_leaf (am_s_if_eq 24 d_Im_at_10 (by decide))) (am_leaf (am_s_callV (ci := 4) (T := nT_Bo) (N := 8) (fun _ _ _ h => h) rfl m_Bo_hasSpot (by decide) (by decide) w_626 w_65 w_623 w_624 w_625 (by decide +kernel) d_Im_at_7)))) (am_node (am_node (am_node (am_leaf (am_s_iload_n 3 d_Im_at_6 rfl)) (am_leaf (am_s_iload_n 2 d_Im_at_5 rfl))) (am_leaf (am_s_iload_n 1 d_Im_at_4 rfl))) (am_node (am_leaf (am_s_get (ci := 0) (k := 3) (C := nR_Im) (T := nT_Im) (N := 7) rfl nG_Im (by decide) w_269 d_Im_at_1)) (am_leaf (am_s_aload_n 0 d_Im_at_0 rfl)))))
def M_Im_at : am_M := am_MofX t_Im_at 5 (some .int)
theorem m_Im_at (l : Launch) (hl : l.stackTraces = false) : am_MetX l y_Im_at c_Im_at 5 (some .int) 7 129 M_Im_at := am_metX (plainFor_of_name (by decide)) s_Im_at (by decide) (by decide) l hl
/-! ## ImposeSheets.fold(I)I -/
theorem d_Im_fold_0 : decode c_Im_fold 0 = .ok (.iload_n 1, 1) := by decide +kernel
theorem d_Im_fold_1 : decode c_Im_fold 1 = .ok (.ifCond .lt 14, 3) := by decide +kernel
theorem d_Im_fold_4 : decode c_Im_fold 4 = .ok (.iload_n 1, 1) := by decide +kernel
theorem d_Im_fold_5 : decode c_Im_fold 5 = .ok (.aload_n 0, 1) := by decide +kernel
theorem d_Im_fold_6 : decode c_Im_fold 6 = .ok (.getfield 41, 3) := by decide +kernel
theorem d_Im_fold_9 : decode c_Im_fold 9 = .ok (.invokevirtual 132, 3) := by decide +kernel
theorem d_Im_fold_12 : decode c_Im_fold 12 = .ok (.if_icmp .lt 13, 3) := by decide +kernel
theorem d_Im_fold_15 : decode c_Im_fold 15 = .ok (.new 73, 3) := by decide +kernel
theorem d_Im_fold_18 : decode c_Im_fold 18 = .ok (.dup, 1) := by decide +kernel
theorem d_Im_fold_19 : decode c_Im_fold 19 = .ok (.ldc 135, 2) := by decide +kernel
theorem d_Im_fold_21 : decode c_Im_fold 21 = .ok (.invokespecial 77, 3) := by decide +kernel
theorem d_Im_fold_24 : decode c_Im_fold 24 = .ok (.athrow, 1) := by decide +kernel
theorem d_Im_fold_25 : decode c_Im_fold 25 = .ok (.aload_n 0, 1) := by decide +kernel
theorem d_Im_fold_26 : decode c_Im_fold 26 = .ok (.getfield 41, 3) := by decide +kernel
theorem d_Im_fold_29 : decode c_Im_fold 29 = .ok (.iload_n 1, 1) := by decide +kernel
theorem d_Im_fold_30 : decode c_Im_fold 30 = .ok (.iconst 1, 1) := by decide +kernel
theorem d_Im_fold_31 : decode c_Im_fold 31 = .ok (.iadd, 1) := by decide +kernel
theorem d_Im_fold_32 : decode c_Im_fold 32 = .ok (.invokevirtual 137, 3) := by decide +kernel
theorem d_Im_fold_35 : decode c_Im_fold 35 = .ok (.ireturn, 1) := by decide +kernel
theorem a_Im_fold_15 : am_thr c_Im_fold y_Im_fold.cls 0 15 := ⟨73, 135, 77, "no such place in the book", d_Im_fold_15, d_Im_fold_18, d_Im_fold_19, d_Im_fold_21, d_Im_fold_24, w_466, w_467, w_73, by decide +kernel, am_atoms (by decide +kernel)⟩
def t_Im_fold : Nat → am_A := fun pc => cond (Nat.ble 15 pc) (cond (Nat.ble 30 pc) (cond (Nat.ble 32 pc) (cond (Nat.ble 35 pc) (cond (Nat.beq pc 35) (am_iret) am_stuck) (cond (Nat.beq pc 32) (am_callV M_Bo_pageAtPlace 4 1 35) am_stuck)) (cond (Nat.ble 31 pc) (cond (Nat.beq pc 31) (am_i2 (fun x y => x + y) 32) am_stuck) (cond (Nat.beq pc 30) (am_push (.int 1) 31) am_stuck))) (cond (Nat.ble 26 pc) (cond (Nat.ble 29 pc) (cond (Nat.beq pc 29) (am_iload 1 30) am_stuck) (cond (Nat.beq pc 26) (am_get 0 3 29) am_stuck)) (cond (Nat.ble 25 pc) (cond (Nat.beq pc 25) (am_aload 0 26) am_stuck) (cond (Nat.beq pc 15) (am_throw 0) am_stuck)))) (cond (Nat.ble 5 pc) (cond (Nat.ble 9 pc) (cond (Nat.ble 12 pc) (cond (Nat.beq pc 12) (am_if2 (fun x y => x < y) 25 15) am_stuck) (cond (Nat.beq pc 9) (am_callV M_Bo_placeCount 4 0 12) am_stuck)) (cond (Nat.ble 6 pc) (cond (Nat.beq pc 6) (am_get 0 3 9) am_stuck) (cond (Nat.beq pc 5) (am_aload 0 6) am_stuck))) (cond (Nat.ble 1 pc) (cond (Nat.ble 4 pc) (cond (Nat.beq pc 4) (am_iload 1 5) am_stuck) (cond (Nat.beq pc 1) (am_if (fun x => x < 0) 15 4) am_stuck)) (cond (Nat.beq pc 0) (am_iload 1 1) am_stuck)))
theorem s_Im_fold : ∀ pc, am_Snd am_En c_Im_fold 2 y_Im_fold.cls 7 102 pc (t_Im_fold pc) := fun pc => am_node (am_node (am_node (am_node (am_leaf (am_s_iret d_Im_fold_35)) (am_leaf (am_s_callV (ci := 4) (T := nT_Bo) (N := 8) (fun _ _ _ h => h) rfl m_Bo_pageAtPlace (by decide) (by decide) w_643 w_65 w_685 w_641 w_642 (by decide +kernel) d_Im_fold_32))) (am_node (am_leaf (am_s_iadd d_Im_fold_31)) (am_leaf (am_s_iconst d_Im_fold_30 (by decide))))) (am_node (am_node (am_leaf (am_s_iload_n 1 d_Im_fold_29 rfl)) (am_leaf (am_s_get (ci := 0) (k := 3) (C := nR_Im) (T := nT_Im) (N := 7) rfl nG_Im (by decide) w_269 d_Im_fold_26))) (am_node (am_leaf (am_s_aload_n 0 d_Im_fold_25 rfl)) (am_leaf (am_s_throw a_Im_fold_15))))) (am_node (am_node (am_node (am_leaf (am_s_icmp_lt 25 d_Im_fold_12 (by decide))) (am_leaf (am_s_callV (ci := 4) (T := nT_Bo) (N := 8) (fun _ _ _ h => h) rfl m_Bo_placeCount (by decide) (by decide) w_639 w_65 w_683 w_637 w_638 (by decide +kernel) d_Im_fold_9))) (am_node (am_leaf (am_s_get (ci := 0) (k := 3) (C := nR_Im) (T := nT_Im) (N := 7) rfl nG_Im (by decide) w_269 d_Im_fold_6)) (am_leaf (am_s_aload_n 0 d_Im_fold_5 rfl)))) (am_node (am_node (am_leaf (am_s_iload_n 1 d_Im_fold_4 rfl)) (am_leaf (am_s_if_lt 15 d_Im_fold_1 (by decide)))) (am_leaf (am_s_iload_n 1 d_Im_fold_0 rfl))))
def M_Im_fold : am_M := am_MofX t_Im_fold 2 (some .int)
theorem m_Im_fold (l : Launch) (hl : l.stackTraces = false) : am_MetX l y_Im_fold c_Im_fold 2 (some .int) 7 102 M_Im_fold := am_metX (plainFor_of_name (by decide)) s_Im_fold (by decide) (by decide) l hl
/-! ## ImposeSheets.creep(I)I -/
theorem d_Im_creep_0 : decode c_Im_creep 0 = .ok (.aload_n 0, 1) := by decide +kernel
theorem d_Im_creep_1 : decode c_Im_creep 1 = .ok (.getfield 41, 3) := by decide +kernel
theorem d_Im_creep_4 : decode c_Im_creep 4 = .ok (.iload_n 1, 1) := by decide +kernel
theorem d_Im_creep_5 : decode c_Im_creep 5 = .ok (.invokevirtual 140, 3) := by decide +kernel
theorem d_Im_creep_8 : decode c_Im_creep 8 = .ok (.ifCond .ne 13, 3) := by decide +kernel
theorem d_Im_creep_11 : decode c_Im_creep 11 = .ok (.new 73, 3) := by decide +kernel
theorem d_Im_creep_14 : decode c_Im_creep 14 = .ok (.dup, 1) := by decide +kernel
theorem d_Im_creep_15 : decode c_Im_creep 15 = .ok (.ldc 144, 2) := by decide +kernel
theorem d_Im_creep_17 : decode c_Im_creep 17 = .ok (.invokespecial 77, 3) := by decide +kernel
theorem d_Im_creep_20 : decode c_Im_creep 20 = .ok (.athrow, 1) := by decide +kernel
theorem d_Im_creep_21 : decode c_Im_creep 21 = .ok (.aload_n 0, 1) := by decide +kernel
theorem d_Im_creep_22 : decode c_Im_creep 22 = .ok (.getfield 41, 3) := by decide +kernel
theorem d_Im_creep_25 : decode c_Im_creep 25 = .ok (.iload_n 1, 1) := by decide +kernel
theorem d_Im_creep_26 : decode c_Im_creep 26 = .ok (.invokevirtual 146, 3) := by decide +kernel
theorem d_Im_creep_29 : decode c_Im_creep 29 = .ok (.ireturn, 1) := by decide +kernel
theorem a_Im_creep_11 : am_thr c_Im_creep y_Im_creep.cls 0 11 := ⟨73, 144, 77, "the page was not laid", d_Im_creep_11, d_Im_creep_14, d_Im_creep_15, d_Im_creep_17, d_Im_creep_20, w_466, w_467, w_73, by decide +kernel, am_atoms (by decide +kernel)⟩
def t_Im_creep : Nat → am_A := fun pc => cond (Nat.ble 11 pc) (cond (Nat.ble 25 pc) (cond (Nat.ble 26 pc) (cond (Nat.ble 29 pc) (cond (Nat.beq pc 29) (am_iret) am_stuck) (cond (Nat.beq pc 26) (am_callV M_Bo_creepOfPage 4 1 29) am_stuck)) (cond (Nat.beq pc 25) (am_iload 1 26) am_stuck)) (cond (Nat.ble 21 pc) (cond (Nat.ble 22 pc) (cond (Nat.beq pc 22) (am_get 0 3 25) am_stuck) (cond (Nat.beq pc 21) (am_aload 0 22) am_stuck)) (cond (Nat.beq pc 11) (am_throw 0) am_stuck))) (cond (Nat.ble 4 pc) (cond (Nat.ble 5 pc) (cond (Nat.ble 8 pc) (cond (Nat.beq pc 8) (am_if (fun x => ¬ x = 0) 21 11) am_stuck) (cond (Nat.beq pc 5) (am_callV M_Bo_hasPage 4 1 8) am_stuck)) (cond (Nat.beq pc 4) (am_iload 1 5) am_stuck)) (cond (Nat.ble 1 pc) (cond (Nat.beq pc 1) (am_get 0 3 4) am_stuck) (cond (Nat.beq pc 0) (am_aload 0 1) am_stuck)))
theorem s_Im_creep : ∀ pc, am_Snd am_En c_Im_creep 2 y_Im_creep.cls 7 101 pc (t_Im_creep pc) := fun pc => am_node (am_node (am_node (am_node (am_leaf (am_s_iret d_Im_creep_29)) (am_leaf (am_s_callV (ci := 4) (T := nT_Bo) (N := 8) (fun _ _ _ h => h) rfl m_Bo_creepOfPage (by decide) (by decide) w_698 w_65 w_695 w_696 w_697 (by decide +kernel) d_Im_creep_26))) (am_leaf (am_s_iload_n 1 d_Im_creep_25 rfl))) (am_node (am_node (am_leaf (am_s_get (ci := 0) (k := 3) (C := nR_Im) (T := nT_Im) (N := 7) rfl nG_Im (by decide) w_269 d_Im_creep_22)) (am_leaf (am_s_aload_n 0 d_Im_creep_21 rfl))) (am_leaf (am_s_throw a_Im_creep_11)))) (am_node (am_node (am_node (am_leaf (am_s_if_ne 21 d_Im_creep_8 (by decide))) (am_leaf (am_s_callV (ci := 4) (T := nT_Bo) (N := 8) (fun _ _ _ h => h) rfl m_Bo_hasPage (by decide) (by decide) w_655 w_65 w_693 w_653 w_654 (by decide +kernel) d_Im_creep_5))) (am_leaf (am_s_iload_n 1 d_Im_creep_4 rfl))) (am_node (am_leaf (am_s_get (ci := 0) (k := 3) (C := nR_Im) (T := nT_Im) (N := 7) rfl nG_Im (by decide) w_269 d_Im_creep_1)) (am_leaf (am_s_aload_n 0 d_Im_creep_0 rfl))))
def M_Im_creep : am_M := am_MofX t_Im_creep 2 (some .int)
theorem m_Im_creep (l : Launch) (hl : l.stackTraces = false) : am_MetX l y_Im_creep c_Im_creep 2 (some .int) 7 101 M_Im_creep := am_metX (plainFor_of_name (by decide)) s_Im_creep (by decide) (by decide) l hl
/-! ## ImposeSheets.laid(I)I -/
theorem d_Im_laid_0 : decode c_Im_laid 0 = .ok (.iload_n 1, 1) := by decide +kernel
theorem d_Im_laid_1 : decode c_Im_laid 1 = .ok (.tableswitch 71 0 3 #[31, 39, 47, 55], 31) := by decide +kernel
theorem d_Im_laid_32 : decode c_Im_laid 32 = .ok (.aload_n 0, 1) := by decide +kernel
theorem d_Im_laid_33 : decode c_Im_laid 33 = .ok (.getfield 41, 3) := by decide +kernel
theorem d_Im_laid_36 : decode c_Im_laid 36 = .ok (.invokevirtual 119, 3) := by decide +kernel
theorem d_Im_laid_39 : decode c_Im_laid 39 = .ok (.ireturn, 1) := by decide +kernel
theorem d_Im_laid_40 : decode c_Im_laid 40 = .ok (.aload_n 0, 1) := by decide +kernel
theorem d_Im_laid_41 : decode c_Im_laid 41 = .ok (.getfield 41, 3) := by decide +kernel
theorem d_Im_laid_44 : decode c_Im_laid 44 = .ok (.invokevirtual 149, 3) := by decide +kernel
theorem d_Im_laid_47 : decode c_Im_laid 47 = .ok (.ireturn, 1) := by decide +kernel
theorem d_Im_laid_48 : decode c_Im_laid 48 = .ok (.aload_n 0, 1) := by decide +kernel
theorem d_Im_laid_49 : decode c_Im_laid 49 = .ok (.getfield 41, 3) := by decide +kernel
theorem d_Im_laid_52 : decode c_Im_laid 52 = .ok (.invokevirtual 152, 3) := by decide +kernel
theorem d_Im_laid_55 : decode c_Im_laid 55 = .ok (.ireturn, 1) := by decide +kernel
theorem d_Im_laid_56 : decode c_Im_laid 56 = .ok (.aload_n 0, 1) := by decide +kernel
theorem d_Im_laid_57 : decode c_Im_laid 57 = .ok (.getfield 41, 3) := by decide +kernel
theorem d_Im_laid_60 : decode c_Im_laid 60 = .ok (.invokevirtual 155, 3) := by decide +kernel
theorem d_Im_laid_63 : decode c_Im_laid 63 = .ok (.ifCond .eq 7, 3) := by decide +kernel
theorem d_Im_laid_66 : decode c_Im_laid 66 = .ok (.iconst 1, 1) := by decide +kernel
theorem d_Im_laid_67 : decode c_Im_laid 67 = .ok (.goto 4, 3) := by decide +kernel
theorem d_Im_laid_70 : decode c_Im_laid 70 = .ok (.iconst 0, 1) := by decide +kernel
theorem d_Im_laid_71 : decode c_Im_laid 71 = .ok (.ireturn, 1) := by decide +kernel
theorem d_Im_laid_72 : decode c_Im_laid 72 = .ok (.new 73, 3) := by decide +kernel
theorem d_Im_laid_75 : decode c_Im_laid 75 = .ok (.dup, 1) := by decide +kernel
theorem d_Im_laid_76 : decode c_Im_laid 76 = .ok (.ldc 158, 2) := by decide +kernel
theorem d_Im_laid_78 : decode c_Im_laid 78 = .ok (.invokespecial 77, 3) := by decide +kernel
theorem d_Im_laid_81 : decode c_Im_laid 81 = .ok (.athrow, 1) := by decide +kernel
theorem a_Im_laid_72 : am_thr c_Im_laid y_Im_laid.cls 0 72 := ⟨73, 158, 77, "nothing of that kind to tell", d_Im_laid_72, d_Im_laid_75, d_Im_laid_76, d_Im_laid_78, d_Im_laid_81, w_466, w_467, w_73, by decide +kernel, am_atoms (by decide +kernel)⟩
def t_Im_laid : Nat → am_A := fun pc => cond (Nat.ble 49 pc) (cond (Nat.ble 63 pc) (cond (Nat.ble 70 pc) (cond (Nat.ble 71 pc) (cond (Nat.ble 72 pc) (cond (Nat.beq pc 72) (am_throw 0) am_stuck) (cond (Nat.beq pc 71) (am_iret) am_stuck)) (cond (Nat.beq pc 70) (am_push (.int 0) 71) am_stuck)) (cond (Nat.ble 66 pc) (cond (Nat.ble 67 pc) (cond (Nat.beq pc 67) (am_goto 71) am_stuck) (cond (Nat.beq pc 66) (am_push (.int 1) 67) am_stuck)) (cond (Nat.beq pc 63) (am_if (fun x => x = 0) 70 66) am_stuck))) (cond (Nat.ble 56 pc) (cond (Nat.ble 57 pc) (cond (Nat.ble 60 pc) (cond (Nat.beq pc 60) (am_callV M_Bo_isTooSmallForPages 4 0 63) am_stuck) (cond (Nat.beq pc 57) (am_get 0 3 60) am_stuck)) (cond (Nat.beq pc 56) (am_aload 0 57) am_stuck)) (cond (Nat.ble 52 pc) (cond (Nat.ble 55 pc) (cond (Nat.beq pc 55) (am_iret) am_stuck) (cond (Nat.beq pc 52) (am_callV M_Bo_blankCount 4 0 55) am_stuck)) (cond (Nat.beq pc 49) (am_get 0 3 52) am_stuck)))) (cond (Nat.ble 39 pc) (cond (Nat.ble 44 pc) (cond (Nat.ble 47 pc) (cond (Nat.ble 48 pc) (cond (Nat.beq pc 48) (am_aload 0 49) am_stuck) (cond (Nat.beq pc 47) (am_iret) am_stuck)) (cond (Nat.beq pc 44) (am_callV M_Bo_bookletPages 4 0 47) am_stuck)) (cond (Nat.ble 40 pc) (cond (Nat.ble 41 pc) (cond (Nat.beq pc 41) (am_get 0 3 44) am_stuck) (cond (Nat.beq pc 40) (am_aload 0 41) am_stuck)) (cond (Nat.beq pc 39) (am_iret) am_stuck))) (cond (Nat.ble 32 pc) (cond (Nat.ble 33 pc) (cond (Nat.ble 36 pc) (cond (Nat.beq pc 36) (am_callV M_Bo_sheetCount 4 0 39) am_stuck) (cond (Nat.beq pc 33) (am_get 0 3 36) am_stuck)) (cond (Nat.beq pc 32) (am_aload 0 33) am_stuck)) (cond (Nat.ble 1 pc) (cond (Nat.beq pc 1) (am_sw [(0, 32), (1, 40), (2, 48), (3, 56)] 72) am_stuck) (cond (Nat.beq pc 0) (am_iload 1 1) am_stuck))))
theorem s_Im_laid : ∀ pc, am_Snd am_En c_Im_laid 2 y_Im_laid.cls 7 100 pc (t_Im_laid pc) := fun pc => am_node (am_node (am_node (am_node (am_node (am_leaf (am_s_throw a_Im_laid_72)) (am_leaf (am_s_iret d_Im_laid_71))) (am_leaf (am_s_iconst d_Im_laid_70 (by decide)))) (am_node (am_node (am_leaf (am_s_goto 71 d_Im_laid_67 (by decide))) (am_leaf (am_s_iconst d_Im_laid_66 (by decide)))) (am_leaf (am_s_if_eq 70 d_Im_laid_63 (by decide))))) (am_node (am_node (am_node (am_leaf (am_s_callV (ci := 4) (T := nT_Bo) (N := 8) (fun _ _ _ h => h) rfl m_Bo_isTooSmallForPages (by decide) (by decide) w_711 w_65 w_708 w_709 w_710 (by decide +kernel) d_Im_laid_60)) (am_leaf (am_s_get (ci := 0) (k := 3) (C := nR_Im) (T := nT_Im) (N := 7) rfl nG_Im (by decide) w_269 d_Im_laid_57))) (am_leaf (am_s_aload_n 0 d_Im_laid_56 rfl))) (am_node (am_node (am_leaf (am_s_iret d_Im_laid_55)) (am_leaf (am_s_callV (ci := 4) (T := nT_Bo) (N := 8) (fun _ _ _ h => h) rfl m_Bo_blankCount (by decide) (by decide) w_651 w_65 w_707 w_649 w_650 (by decide +kernel) d_Im_laid_52))) (am_leaf (am_s_get (ci := 0) (k := 3) (C := nR_Im) (T := nT_Im) (N := 7) rfl nG_Im (by decide) w_269 d_Im_laid_49))))) (am_node (am_node (am_node (am_node (am_leaf (am_s_aload_n 0 d_Im_laid_48 rfl)) (am_leaf (am_s_iret d_Im_laid_47))) (am_leaf (am_s_callV (ci := 4) (T := nT_Bo) (N := 8) (fun _ _ _ h => h) rfl m_Bo_bookletPages (by decide) (by decide) w_593 w_65 w_706 w_591 w_592 (by decide +kernel) d_Im_laid_44))) (am_node (am_node (am_leaf (am_s_get (ci := 0) (k := 3) (C := nR_Im) (T := nT_Im) (N := 7) rfl nG_Im (by decide) w_269 d_Im_laid_41)) (am_leaf (am_s_aload_n 0 d_Im_laid_40 rfl))) (am_leaf (am_s_iret d_Im_laid_39)))) (am_node (am_node (am_node (am_leaf (am_s_callV (ci := 4) (T := nT_Bo) (N := 8) (fun _ _ _ h => h) rfl m_Bo_sheetCount (by decide) (by decide) w_615 w_65 w_612 w_613 w_614 (by decide +kernel) d_Im_laid_36)) (am_leaf (am_s_get (ci := 0) (k := 3) (C := nR_Im) (T := nT_Im) (N := 7) rfl nG_Im (by decide) w_269 d_Im_laid_33))) (am_leaf (am_s_aload_n 0 d_Im_laid_32 rfl))) (am_node (am_leaf (am_s_table 72 d_Im_laid_1 (by decide) (by decide) (by decide) (by decide))) (am_leaf (am_s_iload_n 1 d_Im_laid_0 rfl)))))
def M_Im_laid : am_M := am_MofX t_Im_laid 2 (some .int)
theorem m_Im_laid (l : Launch) (hl : l.stackTraces = false) : am_MetX l y_Im_laid c_Im_laid 2 (some .int) 7 100 M_Im_laid := am_metX (plainFor_of_name (by decide)) s_Im_laid (by decide) (by decide) l hl
/-! ## ImposeSheets.job(I)I -/
theorem d_Im_job_0 : decode c_Im_job 0 = .ok (.iload_n 1, 1) := by decide +kernel
theorem d_Im_job_1 : decode c_Im_job 1 = .ok (.iconst 1, 1) := by decide +kernel
theorem d_Im_job_2 : decode c_Im_job 2 = .ok (.if_icmp .lt 9, 3) := by decide +kernel
theorem d_Im_job_5 : decode c_Im_job 5 = .ok (.iload_n 1, 1) := by decide +kernel
theorem d_Im_job_6 : decode c_Im_job 6 = .ok (.ldc 160, 2) := by decide +kernel
theorem d_Im_job_8 : decode c_Im_job 8 = .ok (.if_icmp .le 13, 3) := by decide +kernel
theorem d_Im_job_11 : decode c_Im_job 11 = .ok (.new 86, 3) := by decide +kernel
theorem d_Im_job_14 : decode c_Im_job 14 = .ok (.dup, 1) := by decide +kernel
theorem d_Im_job_15 : decode c_Im_job 15 = .ok (.ldc 161, 2) := by decide +kernel
theorem d_Im_job_17 : decode c_Im_job 17 = .ok (.invokespecial 90, 3) := by decide +kernel
theorem d_Im_job_20 : decode c_Im_job 20 = .ok (.athrow, 1) := by decide +kernel
theorem d_Im_job_21 : decode c_Im_job 21 = .ok (.aload_n 0, 1) := by decide +kernel
theorem d_Im_job_22 : decode c_Im_job 22 = .ok (.getfield 48, 3) := by decide +kernel
theorem d_Im_job_25 : decode c_Im_job 25 = .ok (.invokevirtual 163, 3) := by decide +kernel
theorem d_Im_job_28 : decode c_Im_job 28 = .ok (.bipush 8, 2) := by decide +kernel
theorem d_Im_job_30 : decode c_Im_job 30 = .ok (.if_icmp .lt 13, 3) := by decide +kernel
theorem d_Im_job_33 : decode c_Im_job 33 = .ok (.new 166, 3) := by decide +kernel
theorem d_Im_job_36 : decode c_Im_job 36 = .ok (.dup, 1) := by decide +kernel
theorem d_Im_job_37 : decode c_Im_job 37 = .ok (.ldc 168, 2) := by decide +kernel
theorem d_Im_job_39 : decode c_Im_job 39 = .ok (.invokespecial 170, 3) := by decide +kernel
theorem d_Im_job_42 : decode c_Im_job 42 = .ok (.athrow, 1) := by decide +kernel
theorem d_Im_job_43 : decode c_Im_job 43 = .ok (.aload_n 0, 1) := by decide +kernel
theorem d_Im_job_44 : decode c_Im_job 44 = .ok (.getfield 48, 3) := by decide +kernel
theorem d_Im_job_47 : decode c_Im_job 47 = .ok (.iload_n 1, 1) := by decide +kernel
theorem d_Im_job_48 : decode c_Im_job 48 = .ok (.invokevirtual 171, 3) := by decide +kernel
theorem d_Im_job_51 : decode c_Im_job 51 = .ok (.ireturn, 1) := by decide +kernel
theorem a_Im_job_11 : am_thr c_Im_job y_Im_job.cls 1 11 := ⟨86, 161, 90, "not a number of copies", d_Im_job_11, d_Im_job_14, d_Im_job_15, d_Im_job_17, d_Im_job_20, w_539, w_540, w_74, by decide +kernel, am_atoms (by decide +kernel)⟩
theorem a_Im_job_33 : am_thr c_Im_job y_Im_job.cls 3 33 := ⟨166, 168, 170, "there are as many jobs as there may be", d_Im_job_33, d_Im_job_36, d_Im_job_37, d_Im_job_39, d_Im_job_42, w_727, w_728, w_76, by decide +kernel, am_atoms (by decide +kernel)⟩
def t_Im_job : Nat → am_A := fun pc => cond (Nat.ble 25 pc) (cond (Nat.ble 43 pc) (cond (Nat.ble 47 pc) (cond (Nat.ble 48 pc) (cond (Nat.ble 51 pc) (cond (Nat.beq pc 51) (am_iret) am_stuck) (cond (Nat.beq pc 48) (am_callV M_Sh_addJob 5 1 51) am_stuck)) (cond (Nat.beq pc 47) (am_iload 1 48) am_stuck)) (cond (Nat.ble 44 pc) (cond (Nat.beq pc 44) (am_get 0 4 47) am_stuck) (cond (Nat.beq pc 43) (am_aload 0 44) am_stuck))) (cond (Nat.ble 30 pc) (cond (Nat.ble 33 pc) (cond (Nat.beq pc 33) (am_throw 3) am_stuck) (cond (Nat.beq pc 30) (am_if2 (fun x y => x < y) 43 33) am_stuck)) (cond (Nat.ble 28 pc) (cond (Nat.beq pc 28) (am_push (.int (8)) 30) am_stuck) (cond (Nat.beq pc 25) (am_callV M_Sh_jobCount 5 0 28) am_stuck)))) (cond (Nat.ble 6 pc) (cond (Nat.ble 11 pc) (cond (Nat.ble 21 pc) (cond (Nat.ble 22 pc) (cond (Nat.beq pc 22) (am_get 0 4 25) am_stuck) (cond (Nat.beq pc 21) (am_aload 0 22) am_stuck)) (cond (Nat.beq pc 11) (am_throw 1) am_stuck)) (cond (Nat.ble 8 pc) (cond (Nat.beq pc 8) (am_if2 (fun x y => x ≤ y) 21 11) am_stuck) (cond (Nat.beq pc 6) (am_push (.int (100000)) 8) am_stuck))) (cond (Nat.ble 2 pc) (cond (Nat.ble 5 pc) (cond (Nat.beq pc 5) (am_iload 1 6) am_stuck) (cond (Nat.beq pc 2) (am_if2 (fun x y => x < y) 11 5) am_stuck)) (cond (Nat.ble 1 pc) (cond (Nat.beq pc 1) (am_push (.int 1) 2) am_stuck) (cond (Nat.beq pc 0) (am_iload 1 1) am_stuck))))
theorem s_Im_job : ∀ pc, am_Snd am_En c_Im_job 2 y_Im_job.cls 7 100 pc (t_Im_job pc) := fun pc => am_node (am_node (am_node (am_node (am_node (am_leaf (am_s_iret d_Im_job_51)) (am_leaf (am_s_callV (ci := 5) (T := nT_Sh) (N := 12) (fun _ _ _ h => h) rfl m_Sh_addJob (by decide) (by decide) w_746 w_66 w_743 w_744 w_745 (by decide +kernel) d_Im_job_48))) (am_leaf (am_s_iload_n 1 d_Im_job_47 rfl))) (am_node (am_leaf (am_s_get (ci := 0) (k := 4) (C := nR_Im) (T := nT_Im) (N := 7) rfl nG_Im (by decide) w_270 d_Im_job_44)) (am_leaf (am_s_aload_n 0 d_Im_job_43 rfl)))) (am_node (am_node (am_leaf (am_s_throw a_Im_job_33)) (am_leaf (am_s_icmp_lt 43 d_Im_job_30 (by decide)))) (am_node (am_leaf (am_s_bipush d_Im_job_28 (by decide))) (am_leaf (am_s_callV (ci := 5) (T := nT_Sh) (N := 12) (fun _ _ _ h => h) rfl m_Sh_jobCount (by decide) (by decide) w_726 w_66 w_723 w_724 w_725 (by decide +kernel) d_Im_job_25))))) (am_node (am_node (am_node (am_node (am_leaf (am_s_get (ci := 0) (k := 4) (C := nR_Im) (T := nT_Im) (N := 7) rfl nG_Im (by decide) w_270 d_Im_job_22)) (am_leaf (am_s_aload_n 0 d_Im_job_21 rfl))) (am_leaf (am_s_throw a_Im_job_11))) (am_node (am_leaf (am_s_icmp_le 21 d_Im_job_8 (by decide))) (am_leaf (am_s_ldc w_721 d_Im_job_6)))) (am_node (am_node (am_leaf (am_s_iload_n 1 d_Im_job_5 rfl)) (am_leaf (am_s_icmp_lt 11 d_Im_job_2 (by decide)))) (am_node (am_leaf (am_s_iconst d_Im_job_1 (by decide))) (am_leaf (am_s_iload_n 1 d_Im_job_0 rfl)))))
def M_Im_job : am_M := am_MofX t_Im_job 2 (some .int)
theorem m_Im_job (l : Launch) (hl : l.stackTraces = false) : am_MetX l y_Im_job c_Im_job 2 (some .int) 7 100 M_Im_job := am_metX (plainFor_of_name (by decide)) s_Im_job (by decide) (by decide) l hl
/-! ## ImposeSheets.share(III)I -/
theorem d_Im_share_0 : decode c_Im_share 0 = .ok (.iload_n 1, 1) := by decide +kernel
theorem d_Im_share_1 : decode c_Im_share 1 = .ok (.iconst 1, 1) := by decide +kernel
theorem d_Im_share_2 : decode c_Im_share 2 = .ok (.if_icmp .lt 31, 3) := by decide +kernel
theorem d_Im_share_5 : decode c_Im_share 5 = .ok (.iload_n 1, 1) := by decide +kernel
theorem d_Im_share_6 : decode c_Im_share 6 = .ok (.bipush 16, 2) := by decide +kernel
theorem d_Im_share_8 : decode c_Im_share 8 = .ok (.if_icmp .gt 25, 3) := by decide +kernel
theorem d_Im_share_11 : decode c_Im_share 11 = .ok (.iload_n 2, 1) := by decide +kernel
theorem d_Im_share_12 : decode c_Im_share 12 = .ok (.ifCond .lt 21, 3) := by decide +kernel
theorem d_Im_share_15 : decode c_Im_share 15 = .ok (.iload_n 2, 1) := by decide +kernel
theorem d_Im_share_16 : decode c_Im_share 16 = .ok (.ldc 160, 2) := by decide +kernel
theorem d_Im_share_18 : decode c_Im_share 18 = .ok (.if_icmp .gt 15, 3) := by decide +kernel
theorem d_Im_share_21 : decode c_Im_share 21 = .ok (.iload_n 3, 1) := by decide +kernel
theorem d_Im_share_22 : decode c_Im_share 22 = .ok (.iconst 1, 1) := by decide +kernel
theorem d_Im_share_23 : decode c_Im_share 23 = .ok (.if_icmp .lt 10, 3) := by decide +kernel
theorem d_Im_share_26 : decode c_Im_share 26 = .ok (.iload_n 3, 1) := by decide +kernel
theorem d_Im_share_27 : decode c_Im_share 27 = .ok (.sipush 1000, 3) := by decide +kernel
theorem d_Im_share_30 : decode c_Im_share 30 = .ok (.if_icmp .le 13, 3) := by decide +kernel
theorem d_Im_share_33 : decode c_Im_share 33 = .ok (.new 86, 3) := by decide +kernel
theorem d_Im_share_36 : decode c_Im_share 36 = .ok (.dup, 1) := by decide +kernel
theorem d_Im_share_37 : decode c_Im_share 37 = .ok (.ldc 177, 2) := by decide +kernel
theorem d_Im_share_39 : decode c_Im_share 39 = .ok (.invokespecial 90, 3) := by decide +kernel
theorem d_Im_share_42 : decode c_Im_share 42 = .ok (.athrow, 1) := by decide +kernel
theorem d_Im_share_43 : decode c_Im_share 43 = .ok (.aload_n 0, 1) := by decide +kernel
theorem d_Im_share_44 : decode c_Im_share 44 = .ok (.getfield 48, 3) := by decide +kernel
theorem d_Im_share_47 : decode c_Im_share 47 = .ok (.invokevirtual 163, 3) := by decide +kernel
theorem d_Im_share_50 : decode c_Im_share 50 = .ok (.ifCond .ne 13, 3) := by decide +kernel
theorem d_Im_share_53 : decode c_Im_share 53 = .ok (.new 100, 3) := by decide +kernel
theorem d_Im_share_56 : decode c_Im_share 56 = .ok (.dup, 1) := by decide +kernel
theorem d_Im_share_57 : decode c_Im_share 57 = .ok (.ldc 179, 2) := by decide +kernel
theorem d_Im_share_59 : decode c_Im_share 59 = .ok (.invokespecial 104, 3) := by decide +kernel
theorem d_Im_share_62 : decode c_Im_share 62 = .ok (.athrow, 1) := by decide +kernel
theorem d_Im_share_63 : decode c_Im_share 63 = .ok (.aload_n 0, 1) := by decide +kernel
theorem d_Im_share_64 : decode c_Im_share 64 = .ok (.getfield 48, 3) := by decide +kernel
theorem d_Im_share_67 : decode c_Im_share 67 = .ok (.iload_n 1, 1) := by decide +kernel
theorem d_Im_share_68 : decode c_Im_share 68 = .ok (.iload_n 2, 1) := by decide +kernel
theorem d_Im_share_69 : decode c_Im_share 69 = .ok (.iload_n 3, 1) := by decide +kernel
theorem d_Im_share_70 : decode c_Im_share 70 = .ok (.invokevirtual 181, 3) := by decide +kernel
theorem d_Im_share_73 : decode c_Im_share 73 = .ok (.ireturn, 1) := by decide +kernel
theorem a_Im_share_33 : am_thr c_Im_share y_Im_share.cls 1 33 := ⟨86, 177, 90, "slots, cost or ways not within bounds", d_Im_share_33, d_Im_share_36, d_Im_share_37, d_Im_share_39, d_Im_share_42, w_539, w_540, w_74, by decide +kernel, am_atoms (by decide +kernel)⟩
theorem a_Im_share_53 : am_thr c_Im_share y_Im_share.cls 2 53 := ⟨100, 179, 104, "no jobs", d_Im_share_53, d_Im_share_56, d_Im_share_57, d_Im_share_59, d_Im_share_62, w_566, w_567, w_75, by decide +kernel, am_atoms (by decide +kernel)⟩
def t_Im_share : Nat → am_A := fun pc => cond (Nat.ble 27 pc) (cond (Nat.ble 53 pc) (cond (Nat.ble 68 pc) (cond (Nat.ble 70 pc) (cond (Nat.ble 73 pc) (cond (Nat.beq pc 73) (am_iret) am_stuck) (cond (Nat.beq pc 70) (am_callV M_Sh_seekLeastCost 5 3 73) am_stuck)) (cond (Nat.ble 69 pc) (cond (Nat.beq pc 69) (am_iload 3 70) am_stuck) (cond (Nat.beq pc 68) (am_iload 2 69) am_stuck))) (cond (Nat.ble 64 pc) (cond (Nat.ble 67 pc) (cond (Nat.beq pc 67) (am_iload 1 68) am_stuck) (cond (Nat.beq pc 64) (am_get 0 4 67) am_stuck)) (cond (Nat.ble 63 pc) (cond (Nat.beq pc 63) (am_aload 0 64) am_stuck) (cond (Nat.beq pc 53) (am_throw 2) am_stuck)))) (cond (Nat.ble 43 pc) (cond (Nat.ble 47 pc) (cond (Nat.ble 50 pc) (cond (Nat.beq pc 50) (am_if (fun x => ¬ x = 0) 63 53) am_stuck) (cond (Nat.beq pc 47) (am_callV M_Sh_jobCount 5 0 50) am_stuck)) (cond (Nat.ble 44 pc) (cond (Nat.beq pc 44) (am_get 0 4 47) am_stuck) (cond (Nat.beq pc 43) (am_aload 0 44) am_stuck))) (cond (Nat.ble 30 pc) (cond (Nat.ble 33 pc) (cond (Nat.beq pc 33) (am_throw 1) am_stuck) (cond (Nat.beq pc 30) (am_if2 (fun x y => x ≤ y) 43 33) am_stuck)) (cond (Nat.beq pc 27) (am_push (.int (1000)) 30) am_stuck)))) (cond (Nat.ble 12 pc) (cond (Nat.ble 21 pc) (cond (Nat.ble 23 pc) (cond (Nat.ble 26 pc) (cond (Nat.beq pc 26) (am_iload 3 27) am_stuck) (cond (Nat.beq pc 23) (am_if2 (fun x y => x < y) 33 26) am_stuck)) (cond (Nat.ble 22 pc) (cond (Nat.beq pc 22) (am_push (.int 1) 23) am_stuck) (cond (Nat.beq pc 21) (am_iload 3 22) am_stuck))) (cond (Nat.ble 16 pc) (cond (Nat.ble 18 pc) (cond (Nat.beq pc 18) (am_if2 (fun x y => y < x) 33 21) am_stuck) (cond (Nat.beq pc 16) (am_push (.int (100000)) 18) am_stuck)) (cond (Nat.ble 15 pc) (cond (Nat.beq pc 15) (am_iload 2 16) am_stuck) (cond (Nat.beq pc 12) (am_if (fun x => x < 0) 33 15) am_stuck)))) (cond (Nat.ble 5 pc) (cond (Nat.ble 8 pc) (cond (Nat.ble 11 pc) (cond (Nat.beq pc 11) (am_iload 2 12) am_stuck) (cond (Nat.beq pc 8) (am_if2 (fun x y => y < x) 33 11) am_stuck)) (cond (Nat.ble 6 pc) (cond (Nat.beq pc 6) (am_push (.int (16)) 8) am_stuck) (cond (Nat.beq pc 5) (am_iload 1 6) am_stuck))) (cond (Nat.ble 1 pc) (cond (Nat.ble 2 pc) (cond (Nat.beq pc 2) (am_if2 (fun x y => x < y) 33 5) am_stuck) (cond (Nat.beq pc 1) (am_push (.int 1) 2) am_stuck)) (cond (Nat.beq pc 0) (am_iload 1 1) am_stuck))))
theorem s_Im_share : ∀ pc, am_Snd am_En c_Im_share 4 y_Im_share.cls 7 141 pc (t_Im_share pc) := fun pc => am_node (am_node (am_node (am_node (am_node (am_leaf (am_s_iret d_Im_share_73)) (am_leaf (am_s_callV (ci := 5) (T := nT_Sh) (N := 12) (fun _ _ _ h => h) rfl m_Sh_seekLeastCost (by decide) (by decide) w_759 w_66 w_756 w_757 w_758 (by decide +kernel) d_Im_share_70))) (am_node (am_leaf (am_s_iload_n 3 d_Im_share_69 rfl)) (am_leaf (am_s_iload_n 2 d_Im_share_68 rfl)))) (am_node (am_node (am_leaf (am_s_iload_n 1 d_Im_share_67 rfl)) (am_leaf (am_s_get (ci := 0) (k := 4) (C := nR_Im) (T := nT_Im) (N := 7) rfl nG_Im (by decide) w_270 d_Im_share_64))) (am_node (am_leaf (am_s_aload_n 0 d_Im_share_63 rfl)) (am_leaf (am_s_throw a_Im_share_53))))) (am_node (am_node (am_node (am_leaf (am_s_if_ne 63 d_Im_share_50 (by decide))) (am_leaf (am_s_callV (ci := 5) (T := nT_Sh) (N := 12) (fun _ _ _ h => h) rfl m_Sh_jobCount (by decide) (by decide) w_726 w_66 w_723 w_724 w_725 (by decide +kernel) d_Im_share_47))) (am_node (am_leaf (am_s_get (ci := 0) (k := 4) (C := nR_Im) (T := nT_Im) (N := 7) rfl nG_Im (by decide) w_270 d_Im_share_44)) (am_leaf (am_s_aload_n 0 d_Im_share_43 rfl)))) (am_node (am_node (am_leaf (am_s_throw a_Im_share_33)) (am_leaf (am_s_icmp_le 43 d_Im_share_30 (by decide)))) (am_leaf (am_s_sipush d_Im_share_27 (by decide)))))) (am_node (am_node (am_node (am_node (am_leaf (am_s_iload_n 3 d_Im_share_26 rfl)) (am_leaf (am_s_icmp_lt 33 d_Im_share_23 (by decide)))) (am_node (am_leaf (am_s_iconst d_Im_share_22 (by decide))) (am_leaf (am_s_iload_n 3 d_Im_share_21 rfl)))) (am_node (am_node (am_leaf (am_s_icmp_gt 33 d_Im_share_18 (by decide))) (am_leaf (am_s_ldc w_721 d_Im_share_16))) (am_node (am_leaf (am_s_iload_n 2 d_Im_share_15 rfl)) (am_leaf (am_s_if_lt 33 d_Im_share_12 (by decide)))))) (am_node (am_node (am_node (am_leaf (am_s_iload_n 2 d_Im_share_11 rfl)) (am_leaf (am_s_icmp_gt 33 d_Im_share_8 (by decide)))) (am_node (am_leaf (am_s_bipush d_Im_share_6 (by decide))) (am_leaf (am_s_iload_n 1 d_Im_share_5 rfl)))) (am_node (am_node (am_leaf (am_s_icmp_lt 33 d_Im_share_2 (by decide))) (am_leaf (am_s_iconst d_Im_share_1 (by decide)))) (am_leaf (am_s_iload_n 1 d_Im_share_0 rfl)))))
def M_Im_share : am_M := am_MofX t_Im_share 4 (some .int)
theorem m_Im_share (l : Launch) (hl : l.stackTraces = false) : am_MetX l y_Im_share c_Im_share 4 (some .int) 7 141 M_Im_share := am_metX (plainFor_of_name (by decide)) s_Im_share (by decide) (by decide) l hl
/-! ## ImposeSheets.shared(II)I -/
theorem d_Im_shared_0 : decode c_Im_shared 0 = .ok (.aload_n 0, 1) := by decide +kernel
theorem d_Im_shared_1 : decode c_Im_shared 1 = .ok (.getfield 48, 3) := by decide +kernel
theorem d_Im_shared_4 : decode c_Im_shared 4 = .ok (.iload_n 1, 1) := by decide +kernel
theorem d_Im_shared_5 : decode c_Im_shared 5 = .ok (.iload_n 2, 1) := by decide +kernel
theorem d_Im_shared_6 : decode c_Im_shared 6 = .ok (.invokevirtual 185, 3) := by decide +kernel
theorem d_Im_shared_9 : decode c_Im_shared 9 = .ok (.ifCond .ne 13, 3) := by decide +kernel
theorem d_Im_shared_12 : decode c_Im_shared 12 = .ok (.new 73, 3) := by decide +kernel
theorem d_Im_shared_15 : decode c_Im_shared 15 = .ok (.dup, 1) := by decide +kernel
theorem d_Im_shared_16 : decode c_Im_shared 16 = .ok (.ldc 189, 2) := by decide +kernel
theorem d_Im_shared_18 : decode c_Im_shared 18 = .ok (.invokespecial 77, 3) := by decide +kernel
theorem d_Im_shared_21 : decode c_Im_shared 21 = .ok (.athrow, 1) := by decide +kernel
theorem d_Im_shared_22 : decode c_Im_shared 22 = .ok (.aload_n 0, 1) := by decide +kernel
theorem d_Im_shared_23 : decode c_Im_shared 23 = .ok (.getfield 48, 3) := by decide +kernel
theorem d_Im_shared_26 : decode c_Im_shared 26 = .ok (.iload_n 1, 1) := by decide +kernel
theorem d_Im_shared_27 : decode c_Im_shared 27 = .ok (.iload_n 2, 1) := by decide +kernel
theorem d_Im_shared_28 : decode c_Im_shared 28 = .ok (.invokevirtual 191, 3) := by decide +kernel
theorem d_Im_shared_31 : decode c_Im_shared 31 = .ok (.ireturn, 1) := by decide +kernel
theorem a_Im_shared_12 : am_thr c_Im_shared y_Im_shared.cls 0 12 := ⟨73, 189, 77, "nothing such was shared out", d_Im_shared_12, d_Im_shared_15, d_Im_shared_16, d_Im_shared_18, d_Im_shared_21, w_466, w_467, w_73, by decide +kernel, am_atoms (by decide +kernel)⟩
def t_Im_shared : Nat → am_A := fun pc => cond (Nat.ble 12 pc) (cond (Nat.ble 26 pc) (cond (Nat.ble 28 pc) (cond (Nat.ble 31 pc) (cond (Nat.beq pc 31) (am_iret) am_stuck) (cond (Nat.beq pc 28) (am_callV M_Sh_tell 5 2 31) am_stuck)) (cond (Nat.ble 27 pc) (cond (Nat.beq pc 27) (am_iload 2 28) am_stuck) (cond (Nat.beq pc 26) (am_iload 1 27) am_stuck))) (cond (Nat.ble 22 pc) (cond (Nat.ble 23 pc) (cond (Nat.beq pc 23) (am_get 0 4 26) am_stuck) (cond (Nat.beq pc 22) (am_aload 0 23) am_stuck)) (cond (Nat.beq pc 12) (am_throw 0) am_stuck))) (cond (Nat.ble 5 pc) (cond (Nat.ble 6 pc) (cond (Nat.ble 9 pc) (cond (Nat.beq pc 9) (am_if (fun x => ¬ x = 0) 22 12) am_stuck) (cond (Nat.beq pc 6) (am_callV M_Sh_canTell 5 2 9) am_stuck)) (cond (Nat.beq pc 5) (am_iload 2 6) am_stuck)) (cond (Nat.ble 1 pc) (cond (Nat.ble 4 pc) (cond (Nat.beq pc 4) (am_iload 1 5) am_stuck) (cond (Nat.beq pc 1) (am_get 0 4 4) am_stuck)) (cond (Nat.beq pc 0) (am_aload 0 1) am_stuck)))
theorem s_Im_shared : ∀ pc, am_Snd am_En c_Im_shared 3 y_Im_shared.cls 7 100 pc (t_Im_shared pc) := fun pc => am_node (am_node (am_node (am_node (am_leaf (am_s_iret d_Im_shared_31)) (am_leaf (am_s_callV (ci := 5) (T := nT_Sh) (N := 12) (fun _ _ _ h => h) rfl m_Sh_tell (by decide) (by decide) w_824 w_66 w_821 w_822 w_823 (by decide +kernel) d_Im_shared_28))) (am_node (am_leaf (am_s_iload_n 2 d_Im_shared_27 rfl)) (am_leaf (am_s_iload_n 1 d_Im_shared_26 rfl)))) (am_node (am_node (am_leaf (am_s_get (ci := 0) (k := 4) (C := nR_Im) (T := nT_Im) (N := 7) rfl nG_Im (by decide) w_270 d_Im_shared_23)) (am_leaf (am_s_aload_n 0 d_Im_shared_22 rfl))) (am_leaf (am_s_throw a_Im_shared_12)))) (am_node (am_node (am_node (am_leaf (am_s_if_ne 22 d_Im_shared_9 (by decide))) (am_leaf (am_s_callV (ci := 5) (T := nT_Sh) (N := 12) (fun _ _ _ h => h) rfl m_Sh_canTell (by decide) (by decide) w_819 w_66 w_816 w_817 w_818 (by decide +kernel) d_Im_shared_6))) (am_leaf (am_s_iload_n 2 d_Im_shared_5 rfl))) (am_node (am_node (am_leaf (am_s_iload_n 1 d_Im_shared_4 rfl)) (am_leaf (am_s_get (ci := 0) (k := 4) (C := nR_Im) (T := nT_Im) (N := 7) rfl nG_Im (by decide) w_270 d_Im_shared_1))) (am_leaf (am_s_aload_n 0 d_Im_shared_0 rfl))))
def M_Im_shared : am_M := am_MofX t_Im_shared 3 (some .int)
theorem m_Im_shared (l : Launch) (hl : l.stackTraces = false) : am_MetX l y_Im_shared c_Im_shared 3 (some .int) 7 100 M_Im_shared := am_metX (plainFor_of_name (by decide)) s_Im_shared (by decide) (by decide) l hl
/-! ## ImposeSheetsLaw.setting(LImposeSheets;II[J)I -/
theorem d_La_setting_0 : decode c_La_setting 0 = .ok (.aload_n 3, 1) := by decide +kernel
theorem d_La_setting_1 : decode c_La_setting 1 = .ok (.iconst 0, 1) := by decide +kernel
theorem d_La_setting_2 : decode c_La_setting 2 = .ok (.aload_n 0, 1) := by decide +kernel
theorem d_La_setting_3 : decode c_La_setting 3 = .ok (.iload_n 1, 1) := by decide +kernel
theorem d_La_setting_4 : decode c_La_setting 4 = .ok (.iload_n 2, 1) := by decide +kernel
theorem d_La_setting_5 : decode c_La_setting 5 = .ok (.invokevirtual 7, 3) := by decide +kernel
theorem d_La_setting_8 : decode c_La_setting 8 = .ok (.i2l, 1) := by decide +kernel
theorem d_La_setting_9 : decode c_La_setting 9 = .ok (.lastore, 1) := by decide +kernel
theorem d_La_setting_10 : decode c_La_setting 10 = .ok (.goto 11, 3) := by decide +kernel
theorem d_La_setting_13 : decode c_La_setting 13 = .ok (.astore 4, 2) := by decide +kernel
theorem d_La_setting_15 : decode c_La_setting 15 = .ok (.iconst 1, 1) := by decide +kernel
theorem d_La_setting_16 : decode c_La_setting 16 = .ok (.ireturn, 1) := by decide +kernel
theorem d_La_setting_17 : decode c_La_setting 17 = .ok (.astore 4, 2) := by decide +kernel
theorem d_La_setting_19 : decode c_La_setting 19 = .ok (.iconst 2, 1) := by decide +kernel
theorem d_La_setting_20 : decode c_La_setting 20 = .ok (.ireturn, 1) := by decide +kernel
theorem d_La_setting_21 : decode c_La_setting 21 = .ok (.iconst 0, 1) := by decide +kernel
theorem d_La_setting_22 : decode c_La_setting 22 = .ok (.ireturn, 1) := by decide +kernel
def t_La_setting : Nat → am_A := fun pc => cond (Nat.ble 10 pc) (cond (Nat.ble 19 pc) (cond (Nat.ble 21 pc) (cond (Nat.ble 22 pc) (cond (Nat.beq pc 22) (am_iret) am_stuck) (cond (Nat.beq pc 21) (am_push (.int 0) 22) am_stuck)) (cond (Nat.ble 20 pc) (cond (Nat.beq pc 20) (am_iret) am_stuck) (cond (Nat.beq pc 19) (am_push (.int 2) 20) am_stuck))) (cond (Nat.ble 15 pc) (cond (Nat.ble 16 pc) (cond (Nat.beq pc 16) (am_iret) am_stuck) (cond (Nat.beq pc 15) (am_push (.int 1) 16) am_stuck)) (cond (Nat.beq pc 10) (am_goto 21) am_stuck))) (cond (Nat.ble 3 pc) (cond (Nat.ble 8 pc) (cond (Nat.ble 9 pc) (cond (Nat.beq pc 9) (am_last 10) am_stuck) (cond (Nat.beq pc 8) (am_i2l 9) am_stuck)) (cond (Nat.ble 4 pc) (cond (Nat.beq pc 4) (am_iload 2 5) am_stuck) (cond (Nat.beq pc 3) (am_iload 1 4) am_stuck))) (cond (Nat.ble 1 pc) (cond (Nat.ble 2 pc) (cond (Nat.beq pc 2) (am_aload 0 3) am_stuck) (cond (Nat.beq pc 1) (am_push (.int 0) 2) am_stuck)) (cond (Nat.beq pc 0) (am_aload 3 1) am_stuck)))
theorem s_La_setting : ∀ pc, am_Snd am_En c_La_setting 5 y_La_setting.cls 8 123 pc (t_La_setting pc) := fun pc => am_node (am_node (am_node (am_node (am_leaf (am_s_iret d_La_setting_22)) (am_leaf (am_s_iconst d_La_setting_21 (by decide)))) (am_node (am_leaf (am_s_iret d_La_setting_20)) (am_leaf (am_s_iconst d_La_setting_19 (by decide))))) (am_node (am_node (am_leaf (am_s_iret d_La_setting_16)) (am_leaf (am_s_iconst d_La_setting_15 (by decide)))) (am_leaf (am_s_goto 21 d_La_setting_10 (by decide))))) (am_node (am_node (am_node (am_leaf (am_s_last d_La_setting_9)) (am_leaf (am_s_i2l d_La_setting_8))) (am_node (am_leaf (am_s_iload_n 2 d_La_setting_4 rfl)) (am_leaf (am_s_iload_n 1 d_La_setting_3 rfl)))) (am_node (am_node (am_leaf (am_s_aload_n 0 d_La_setting_2 rfl)) (am_leaf (am_s_iconst d_La_setting_1 (by decide)))) (am_leaf (am_s_aload_n 3 d_La_setting_0 rfl))))
def b_La_setting : am_Tb := fun k => if k = 0 then some (13, 4, 15) else if k = 1 then some (17, 4, 19) else none
def M_La_setting : am_M := am_MofH t_La_setting 5 b_La_setting M_Im_setting 0 2 5
theorem h_La_setting : ∀ (e : Env) (s : State) (m : MethodId) (args : Array Value) (A : Nat → Nat) (A0 : Nat → Prop), e.platform.magicAccessors = ({} : Platform).magicAccessors → s.vm.findClass y_La_setting.cls = some m.cls → (∀ w ∈ lw_good, w.before args s = true) → am_En A A0 s → ∀ (k : Nat) (q : Nat × Nat × Nat), b_La_setting k = some q → (∀ cX, s.vm.findClass (am_kind k) = some cX → am_Rows e.platform s m.cls 5 cX q.1 (tableOf [(0, 10, 13, 13), (0, 10, 17, 15)])) := by
  intro e s m args A A0 hpl hown hts hEn k q hq cX hX
  unfold b_La_setting at hq
  split at hq
  · rename_i hk; subst hk; cases hq; exact am_row_yes hpl hown rfl (by decide) (hts _ w_460) (hEn.1 _ w_468) hX rfl
  · split at hq
    · rename_i hk; subst hk; cases hq; exact am_row_no hpl hown rfl (by decide) (hts _ w_460) (hEn.2.2.2.2.2.1 ("java/lang/IllegalArgumentException", "java/lang/IndexOutOfBoundsException") (by decide)) hX (am_row_yes hpl hown rfl (by decide) (hts _ w_461) (hEn.1 _ w_541) hX rfl)
    · cases hq
theorem e_La_setting : ∀ (k : Nat) (q : Nat × Nat × Nat), b_La_setting k = some q → ((∃ i : Fin 4, decode c_La_setting q.1 = .ok (.astore_n i, 1) ∧ (i : Nat) = q.2.1 ∧ q.2.2 = q.1 + 1) ∨ (decode c_La_setting q.1 = .ok (.astore q.2.1, 2) ∧ q.2.2 = q.1 + 2)) ∧ q.2.1 < 5 := by
  intro k q hq
  unfold b_La_setting at hq
  split at hq
  · rename_i hk; subst hk; cases hq; exact ⟨Or.inr ⟨d_La_setting_13, rfl⟩, by decide⟩
  · split at hq
    · rename_i hk; subst hk; cases hq; exact ⟨Or.inr ⟨d_La_setting_17, rfl⟩, by decide⟩
    · cases hq
theorem m_La_setting (l : Launch) (hl : l.stackTraces = false) : am_MetH l y_La_setting c_La_setting 5 [(0, 10, 13, 13), (0, 10, 17, 15)] 8 123 M_La_setting := am_metH (T0 := nT_Im) (N := 7) (plainFor_of_name (by decide)) s_La_setting rfl (m_Im_setting l hl) (by decide) (by decide) w_465 w_60 w_462 w_463 w_464 (by decide +kernel) d_La_setting_5 h_La_setting e_La_setting
/-! ## ImposeSheetsLaw.run(LImposeSheets;I[J)I -/
theorem d_La_run_0 : decode c_La_run 0 = .ok (.aload_n 2, 1) := by decide +kernel
theorem d_La_run_1 : decode c_La_run 1 = .ok (.iconst 0, 1) := by decide +kernel
theorem d_La_run_2 : decode c_La_run 2 = .ok (.aload_n 0, 1) := by decide +kernel
theorem d_La_run_3 : decode c_La_run 3 = .ok (.iload_n 1, 1) := by decide +kernel
theorem d_La_run_4 : decode c_La_run 4 = .ok (.invokevirtual 17, 3) := by decide +kernel
theorem d_La_run_7 : decode c_La_run 7 = .ok (.i2l, 1) := by decide +kernel
theorem d_La_run_8 : decode c_La_run 8 = .ok (.lastore, 1) := by decide +kernel
theorem d_La_run_9 : decode c_La_run 9 = .ok (.goto 9, 3) := by decide +kernel
theorem d_La_run_12 : decode c_La_run 12 = .ok (.astore_n 3, 1) := by decide +kernel
theorem d_La_run_13 : decode c_La_run 13 = .ok (.iconst 1, 1) := by decide +kernel
theorem d_La_run_14 : decode c_La_run 14 = .ok (.ireturn, 1) := by decide +kernel
theorem d_La_run_15 : decode c_La_run 15 = .ok (.astore_n 3, 1) := by decide +kernel
theorem d_La_run_16 : decode c_La_run 16 = .ok (.iconst 2, 1) := by decide +kernel
theorem d_La_run_17 : decode c_La_run 17 = .ok (.ireturn, 1) := by decide +kernel
theorem d_La_run_18 : decode c_La_run 18 = .ok (.iconst 0, 1) := by decide +kernel
theorem d_La_run_19 : decode c_La_run 19 = .ok (.ireturn, 1) := by decide +kernel
def t_La_run : Nat → am_A := fun pc => cond (Nat.ble 9 pc) (cond (Nat.ble 16 pc) (cond (Nat.ble 18 pc) (cond (Nat.ble 19 pc) (cond (Nat.beq pc 19) (am_iret) am_stuck) (cond (Nat.beq pc 18) (am_push (.int 0) 19) am_stuck)) (cond (Nat.ble 17 pc) (cond (Nat.beq pc 17) (am_iret) am_stuck) (cond (Nat.beq pc 16) (am_push (.int 2) 17) am_stuck))) (cond (Nat.ble 13 pc) (cond (Nat.ble 14 pc) (cond (Nat.beq pc 14) (am_iret) am_stuck) (cond (Nat.beq pc 13) (am_push (.int 1) 14) am_stuck)) (cond (Nat.beq pc 9) (am_goto 18) am_stuck))) (cond (Nat.ble 3 pc) (cond (Nat.ble 7 pc) (cond (Nat.ble 8 pc) (cond (Nat.beq pc 8) (am_last 9) am_stuck) (cond (Nat.beq pc 7) (am_i2l 8) am_stuck)) (cond (Nat.beq pc 3) (am_iload 1 4) am_stuck)) (cond (Nat.ble 1 pc) (cond (Nat.ble 2 pc) (cond (Nat.beq pc 2) (am_aload 0 3) am_stuck) (cond (Nat.beq pc 1) (am_push (.int 0) 2) am_stuck)) (cond (Nat.beq pc 0) (am_aload 2 1) am_stuck)))
theorem s_La_run : ∀ pc, am_Snd am_En c_La_run 4 y_La_run.cls 8 138 pc (t_La_run pc) := fun pc => am_node (am_node (am_node (am_node (am_leaf (am_s_iret d_La_run_19)) (am_leaf (am_s_iconst d_La_run_18 (by decide)))) (am_node (am_leaf (am_s_iret d_La_run_17)) (am_leaf (am_s_iconst d_La_run_16 (by decide))))) (am_node (am_node (am_leaf (am_s_iret d_La_run_14)) (am_leaf (am_s_iconst d_La_run_13 (by decide)))) (am_leaf (am_s_goto 18 d_La_run_9 (by decide))))) (am_node (am_node (am_node (am_leaf (am_s_last d_La_run_8)) (am_leaf (am_s_i2l d_La_run_7))) (am_leaf (am_s_iload_n 1 d_La_run_3 rfl))) (am_node (am_node (am_leaf (am_s_aload_n 0 d_La_run_2 rfl)) (am_leaf (am_s_iconst d_La_run_1 (by decide)))) (am_leaf (am_s_aload_n 2 d_La_run_0 rfl))))
def b_La_run : am_Tb := fun k => if k = 1 then some (12, 3, 13) else if k = 2 then some (15, 3, 16) else none
def M_La_run : am_M := am_MofH t_La_run 4 b_La_run M_Im_run 0 1 4
theorem h_La_run : ∀ (e : Env) (s : State) (m : MethodId) (args : Array Value) (A : Nat → Nat) (A0 : Nat → Prop), e.platform.magicAccessors = ({} : Platform).magicAccessors → s.vm.findClass y_La_run.cls = some m.cls → (∀ w ∈ lw_good, w.before args s = true) → am_En A A0 s → ∀ (k : Nat) (q : Nat × Nat × Nat), b_La_run k = some q → (∀ cX, s.vm.findClass (am_kind k) = some cX → am_Rows e.platform s m.cls 4 cX q.1 (tableOf [(0, 9, 12, 15), (0, 9, 15, 21)])) := by
  intro e s m args A A0 hpl hown hts hEn k q hq cX hX
  unfold b_La_run at hq
  split at hq
  · rename_i hk; subst hk; cases hq; exact am_row_yes hpl hown rfl (by decide) (hts _ w_461) (hEn.1 _ w_541) hX rfl
  · split at hq
    · rename_i hk; subst hk; cases hq; exact am_row_no hpl hown rfl (by decide) (hts _ w_461) (hEn.2.2.2.2.2.1 ("java/lang/IllegalStateException", "java/lang/IllegalArgumentException") (by decide)) hX (am_row_yes hpl hown rfl (by decide) (hts _ w_558) (hEn.1 _ w_568) hX rfl)
    · cases hq
theorem e_La_run : ∀ (k : Nat) (q : Nat × Nat × Nat), b_La_run k = some q → ((∃ i : Fin 4, decode c_La_run q.1 = .ok (.astore_n i, 1) ∧ (i : Nat) = q.2.1 ∧ q.2.2 = q.1 + 1) ∨ (decode c_La_run q.1 = .ok (.astore q.2.1, 2) ∧ q.2.2 = q.1 + 2)) ∧ q.2.1 < 4 := by
  intro k q hq
  unfold b_La_run at hq
  split at hq
  · rename_i hk; subst hk; cases hq; exact ⟨Or.inl ⟨3, d_La_run_12, rfl, rfl⟩, by decide⟩
  · split at hq
    · rename_i hk; subst hk; cases hq; exact ⟨Or.inl ⟨3, d_La_run_15, rfl, rfl⟩, by decide⟩
    · cases hq
theorem m_La_run (l : Launch) (hl : l.stackTraces = false) : am_MetH l y_La_run c_La_run 4 [(0, 9, 12, 15), (0, 9, 15, 21)] 8 138 M_La_run := am_metH (T0 := nT_Im) (N := 7) (plainFor_of_name (by decide)) s_La_run rfl (m_Im_run l hl) (by decide) (by decide) w_562 w_60 w_559 w_560 w_561 (by decide +kernel) d_La_run_4 h_La_run e_La_run
/-! ## ImposeSheetsLaw.at(LImposeSheets;IIII[J)I -/
theorem d_La_at_0 : decode c_La_at 0 = .ok (.aload 5, 2) := by decide +kernel
theorem d_La_at_2 : decode c_La_at 2 = .ok (.iconst 0, 1) := by decide +kernel
theorem d_La_at_3 : decode c_La_at 3 = .ok (.aload_n 0, 1) := by decide +kernel
theorem d_La_at_4 : decode c_La_at 4 = .ok (.iload_n 1, 1) := by decide +kernel
theorem d_La_at_5 : decode c_La_at 5 = .ok (.iload_n 2, 1) := by decide +kernel
theorem d_La_at_6 : decode c_La_at 6 = .ok (.iload_n 3, 1) := by decide +kernel
theorem d_La_at_7 : decode c_La_at 7 = .ok (.iload 4, 2) := by decide +kernel
theorem d_La_at_9 : decode c_La_at 9 = .ok (.invokevirtual 23, 3) := by decide +kernel
theorem d_La_at_12 : decode c_La_at 12 = .ok (.i2l, 1) := by decide +kernel
theorem d_La_at_13 : decode c_La_at 13 = .ok (.lastore, 1) := by decide +kernel
theorem d_La_at_14 : decode c_La_at 14 = .ok (.goto 7, 3) := by decide +kernel
theorem d_La_at_17 : decode c_La_at 17 = .ok (.astore 6, 2) := by decide +kernel
theorem d_La_at_19 : decode c_La_at 19 = .ok (.iconst 1, 1) := by decide +kernel
theorem d_La_at_20 : decode c_La_at 20 = .ok (.ireturn, 1) := by decide +kernel
theorem d_La_at_21 : decode c_La_at 21 = .ok (.iconst 0, 1) := by decide +kernel
theorem d_La_at_22 : decode c_La_at 22 = .ok (.ireturn, 1) := by decide +kernel
def t_La_at : Nat → am_A := fun pc => cond (Nat.ble 12 pc) (cond (Nat.ble 19 pc) (cond (Nat.ble 21 pc) (cond (Nat.ble 22 pc) (cond (Nat.beq pc 22) (am_iret) am_stuck) (cond (Nat.beq pc 21) (am_push (.int 0) 22) am_stuck)) (cond (Nat.ble 20 pc) (cond (Nat.beq pc 20) (am_iret) am_stuck) (cond (Nat.beq pc 19) (am_push (.int 1) 20) am_stuck))) (cond (Nat.ble 13 pc) (cond (Nat.ble 14 pc) (cond (Nat.beq pc 14) (am_goto 21) am_stuck) (cond (Nat.beq pc 13) (am_last 14) am_stuck)) (cond (Nat.beq pc 12) (am_i2l 13) am_stuck))) (cond (Nat.ble 4 pc) (cond (Nat.ble 6 pc) (cond (Nat.ble 7 pc) (cond (Nat.beq pc 7) (am_iload 4 9) am_stuck) (cond (Nat.beq pc 6) (am_iload 3 7) am_stuck)) (cond (Nat.ble 5 pc) (cond (Nat.beq pc 5) (am_iload 2 6) am_stuck) (cond (Nat.beq pc 4) (am_iload 1 5) am_stuck))) (cond (Nat.ble 2 pc) (cond (Nat.ble 3 pc) (cond (Nat.beq pc 3) (am_aload 0 4) am_stuck) (cond (Nat.beq pc 2) (am_push (.int 0) 3) am_stuck)) (cond (Nat.beq pc 0) (am_aload 5 2) am_stuck)))
theorem s_La_at : ∀ pc, am_Snd am_En c_La_at 7 y_La_at.cls 8 153 pc (t_La_at pc) := fun pc => am_node (am_node (am_node (am_node (am_leaf (am_s_iret d_La_at_22)) (am_leaf (am_s_iconst d_La_at_21 (by decide)))) (am_node (am_leaf (am_s_iret d_La_at_20)) (am_leaf (am_s_iconst d_La_at_19 (by decide))))) (am_node (am_node (am_leaf (am_s_goto 21 d_La_at_14 (by decide))) (am_leaf (am_s_last d_La_at_13))) (am_leaf (am_s_i2l d_La_at_12)))) (am_node (am_node (am_node (am_leaf (am_s_iload d_La_at_7)) (am_leaf (am_s_iload_n 3 d_La_at_6 rfl))) (am_node (am_leaf (am_s_iload_n 2 d_La_at_5 rfl)) (am_leaf (am_s_iload_n 1 d_La_at_4 rfl)))) (am_node (am_node (am_leaf (am_s_aload_n 0 d_La_at_3 rfl)) (am_leaf (am_s_iconst d_La_at_2 (by decide)))) (am_leaf (am_s_aload d_La_at_0))))
def b_La_at : am_Tb := fun k => if k = 0 then some (17, 6, 19) else none
def M_La_at : am_M := am_MofH t_La_at 7 b_La_at M_Im_at 0 4 9
theorem h_La_at : ∀ (e : Env) (s : State) (m : MethodId) (args : Array Value) (A : Nat → Nat) (A0 : Nat → Prop), e.platform.magicAccessors = ({} : Platform).magicAccessors → s.vm.findClass y_La_at.cls = some m.cls → (∀ w ∈ lw_good, w.before args s = true) → am_En A A0 s → ∀ (k : Nat) (q : Nat × Nat × Nat), b_La_at k = some q → (∀ cX, s.vm.findClass (am_kind k) = some cX → am_Rows e.platform s m.cls 9 cX q.1 (tableOf [(0, 14, 17, 13)])) := by
  intro e s m args A A0 hpl hown hts hEn k q hq cX hX
  unfold b_La_at at hq
  split at hq
  · rename_i hk; subst hk; cases hq; exact am_row_yes hpl hown rfl (by decide) (hts _ w_460) (hEn.1 _ w_468) hX rfl
  · cases hq
theorem e_La_at : ∀ (k : Nat) (q : Nat × Nat × Nat), b_La_at k = some q → ((∃ i : Fin 4, decode c_La_at q.1 = .ok (.astore_n i, 1) ∧ (i : Nat) = q.2.1 ∧ q.2.2 = q.1 + 1) ∨ (decode c_La_at q.1 = .ok (.astore q.2.1, 2) ∧ q.2.2 = q.1 + 2)) ∧ q.2.1 < 7 := by
  intro k q hq
  unfold b_La_at at hq
  split at hq
  · rename_i hk; subst hk; cases hq; exact ⟨Or.inr ⟨d_La_at_17, rfl⟩, by decide⟩
  · cases hq
theorem m_La_at (l : Launch) (hl : l.stackTraces = false) : am_MetH l y_La_at c_La_at 7 [(0, 14, 17, 13)] 8 153 M_La_at := am_metH (T0 := nT_Im) (N := 7) (plainFor_of_name (by decide)) s_La_at rfl (m_Im_at l hl) (by decide) (by decide) w_622 w_60 w_619 w_620 w_621 (by decide +kernel) d_La_at_9 h_La_at e_La_at
/-! ## ImposeSheetsLaw.fold(LImposeSheets;I[J)I -/
theorem d_La_fold_0 : decode c_La_fold 0 = .ok (.aload_n 2, 1) := by decide +kernel
theorem d_La_fold_1 : decode c_La_fold 1 = .ok (.iconst 0, 1) := by decide +kernel
theorem d_La_fold_2 : decode c_La_fold 2 = .ok (.aload_n 0, 1) := by decide +kernel
theorem d_La_fold_3 : decode c_La_fold 3 = .ok (.iload_n 1, 1) := by decide +kernel
theorem d_La_fold_4 : decode c_La_fold 4 = .ok (.invokevirtual 27, 3) := by decide +kernel
theorem d_La_fold_7 : decode c_La_fold 7 = .ok (.i2l, 1) := by decide +kernel
theorem d_La_fold_8 : decode c_La_fold 8 = .ok (.lastore, 1) := by decide +kernel
theorem d_La_fold_9 : decode c_La_fold 9 = .ok (.goto 6, 3) := by decide +kernel
theorem d_La_fold_12 : decode c_La_fold 12 = .ok (.astore_n 3, 1) := by decide +kernel
theorem d_La_fold_13 : decode c_La_fold 13 = .ok (.iconst 1, 1) := by decide +kernel
theorem d_La_fold_14 : decode c_La_fold 14 = .ok (.ireturn, 1) := by decide +kernel
theorem d_La_fold_15 : decode c_La_fold 15 = .ok (.iconst 0, 1) := by decide +kernel
theorem d_La_fold_16 : decode c_La_fold 16 = .ok (.ireturn, 1) := by decide +kernel
def t_La_fold : Nat → am_A := fun pc => cond (Nat.ble 8 pc) (cond (Nat.ble 14 pc) (cond (Nat.ble 15 pc) (cond (Nat.ble 16 pc) (cond (Nat.beq pc 16) (am_iret) am_stuck) (cond (Nat.beq pc 15) (am_push (.int 0) 16) am_stuck)) (cond (Nat.beq pc 14) (am_iret) am_stuck)) (cond (Nat.ble 9 pc) (cond (Nat.ble 13 pc) (cond (Nat.beq pc 13) (am_push (.int 1) 14) am_stuck) (cond (Nat.beq pc 9) (am_goto 15) am_stuck)) (cond (Nat.beq pc 8) (am_last 9) am_stuck))) (cond (Nat.ble 2 pc) (cond (Nat.ble 3 pc) (cond (Nat.ble 7 pc) (cond (Nat.beq pc 7) (am_i2l 8) am_stuck) (cond (Nat.beq pc 3) (am_iload 1 4) am_stuck)) (cond (Nat.beq pc 2) (am_aload 0 3) am_stuck)) (cond (Nat.ble 1 pc) (cond (Nat.beq pc 1) (am_push (.int 0) 2) am_stuck) (cond (Nat.beq pc 0) (am_aload 2 1) am_stuck)))
theorem s_La_fold : ∀ pc, am_Snd am_En c_La_fold 4 y_La_fold.cls 8 123 pc (t_La_fold pc) := fun pc => am_node (am_node (am_node (am_node (am_leaf (am_s_iret d_La_fold_16)) (am_leaf (am_s_iconst d_La_fold_15 (by decide)))) (am_leaf (am_s_iret d_La_fold_14))) (am_node (am_node (am_leaf (am_s_iconst d_La_fold_13 (by decide))) (am_leaf (am_s_goto 15 d_La_fold_9 (by decide)))) (am_leaf (am_s_last d_La_fold_8)))) (am_node (am_node (am_node (am_leaf (am_s_i2l d_La_fold_7)) (am_leaf (am_s_iload_n 1 d_La_fold_3 rfl))) (am_leaf (am_s_aload_n 0 d_La_fold_2 rfl))) (am_node (am_leaf (am_s_iconst d_La_fold_1 (by decide))) (am_leaf (am_s_aload_n 2 d_La_fold_0 rfl))))
def b_La_fold : am_Tb := fun k => if k = 0 then some (12, 3, 13) else none
def M_La_fold : am_M := am_MofH t_La_fold 4 b_La_fold M_Im_fold 0 1 4
theorem h_La_fold : ∀ (e : Env) (s : State) (m : MethodId) (args : Array Value) (A : Nat → Nat) (A0 : Nat → Prop), e.platform.magicAccessors = ({} : Platform).magicAccessors → s.vm.findClass y_La_fold.cls = some m.cls → (∀ w ∈ lw_good, w.before args s = true) → am_En A A0 s → ∀ (k : Nat) (q : Nat × Nat × Nat), b_La_fold k = some q → (∀ cX, s.vm.findClass (am_kind k) = some cX → am_Rows e.platform s m.cls 4 cX q.1 (tableOf [(0, 9, 12, 13)])) := by
  intro e s m args A A0 hpl hown hts hEn k q hq cX hX
  unfold b_La_fold at hq
  split at hq
  · rename_i hk; subst hk; cases hq; exact am_row_yes hpl hown rfl (by decide) (hts _ w_460) (hEn.1 _ w_468) hX rfl
  · cases hq
theorem e_La_fold : ∀ (k : Nat) (q : Nat × Nat × Nat), b_La_fold k = some q → ((∃ i : Fin 4, decode c_La_fold q.1 = .ok (.astore_n i, 1) ∧ (i : Nat) = q.2.1 ∧ q.2.2 = q.1 + 1) ∨ (decode c_La_fold q.1 = .ok (.astore q.2.1, 2) ∧ q.2.2 = q.1 + 2)) ∧ q.2.1 < 4 := by
  intro k q hq
  unfold b_La_fold at hq
  split at hq
  · rename_i hk; subst hk; cases hq; exact ⟨Or.inl ⟨3, d_La_fold_12, rfl, rfl⟩, by decide⟩
  · cases hq
theorem m_La_fold (l : Launch) (hl : l.stackTraces = false) : am_MetH l y_La_fold c_La_fold 4 [(0, 9, 12, 13)] 8 123 M_La_fold := am_metH (T0 := nT_Im) (N := 7) (plainFor_of_name (by decide)) s_La_fold rfl (m_Im_fold l hl) (by decide) (by decide) w_682 w_60 w_679 w_680 w_681 (by decide +kernel) d_La_fold_4 h_La_fold e_La_fold
/-! ## ImposeSheetsLaw.creep(LImposeSheets;I[J)I -/
theorem d_La_creep_0 : decode c_La_creep 0 = .ok (.aload_n 2, 1) := by decide +kernel
theorem d_La_creep_1 : decode c_La_creep 1 = .ok (.iconst 0, 1) := by decide +kernel
theorem d_La_creep_2 : decode c_La_creep 2 = .ok (.aload_n 0, 1) := by decide +kernel
theorem d_La_creep_3 : decode c_La_creep 3 = .ok (.iload_n 1, 1) := by decide +kernel
theorem d_La_creep_4 : decode c_La_creep 4 = .ok (.invokevirtual 30, 3) := by decide +kernel
theorem d_La_creep_7 : decode c_La_creep 7 = .ok (.i2l, 1) := by decide +kernel
theorem d_La_creep_8 : decode c_La_creep 8 = .ok (.lastore, 1) := by decide +kernel
theorem d_La_creep_9 : decode c_La_creep 9 = .ok (.goto 6, 3) := by decide +kernel
theorem d_La_creep_12 : decode c_La_creep 12 = .ok (.astore_n 3, 1) := by decide +kernel
theorem d_La_creep_13 : decode c_La_creep 13 = .ok (.iconst 1, 1) := by decide +kernel
theorem d_La_creep_14 : decode c_La_creep 14 = .ok (.ireturn, 1) := by decide +kernel
theorem d_La_creep_15 : decode c_La_creep 15 = .ok (.iconst 0, 1) := by decide +kernel
theorem d_La_creep_16 : decode c_La_creep 16 = .ok (.ireturn, 1) := by decide +kernel
def t_La_creep : Nat → am_A := fun pc => cond (Nat.ble 8 pc) (cond (Nat.ble 14 pc) (cond (Nat.ble 15 pc) (cond (Nat.ble 16 pc) (cond (Nat.beq pc 16) (am_iret) am_stuck) (cond (Nat.beq pc 15) (am_push (.int 0) 16) am_stuck)) (cond (Nat.beq pc 14) (am_iret) am_stuck)) (cond (Nat.ble 9 pc) (cond (Nat.ble 13 pc) (cond (Nat.beq pc 13) (am_push (.int 1) 14) am_stuck) (cond (Nat.beq pc 9) (am_goto 15) am_stuck)) (cond (Nat.beq pc 8) (am_last 9) am_stuck))) (cond (Nat.ble 2 pc) (cond (Nat.ble 3 pc) (cond (Nat.ble 7 pc) (cond (Nat.beq pc 7) (am_i2l 8) am_stuck) (cond (Nat.beq pc 3) (am_iload 1 4) am_stuck)) (cond (Nat.beq pc 2) (am_aload 0 3) am_stuck)) (cond (Nat.ble 1 pc) (cond (Nat.beq pc 1) (am_push (.int 0) 2) am_stuck) (cond (Nat.beq pc 0) (am_aload 2 1) am_stuck)))
theorem s_La_creep : ∀ pc, am_Snd am_En c_La_creep 4 y_La_creep.cls 8 122 pc (t_La_creep pc) := fun pc => am_node (am_node (am_node (am_node (am_leaf (am_s_iret d_La_creep_16)) (am_leaf (am_s_iconst d_La_creep_15 (by decide)))) (am_leaf (am_s_iret d_La_creep_14))) (am_node (am_node (am_leaf (am_s_iconst d_La_creep_13 (by decide))) (am_leaf (am_s_goto 15 d_La_creep_9 (by decide)))) (am_leaf (am_s_last d_La_creep_8)))) (am_node (am_node (am_node (am_leaf (am_s_i2l d_La_creep_7)) (am_leaf (am_s_iload_n 1 d_La_creep_3 rfl))) (am_leaf (am_s_aload_n 0 d_La_creep_2 rfl))) (am_node (am_leaf (am_s_iconst d_La_creep_1 (by decide))) (am_leaf (am_s_aload_n 2 d_La_creep_0 rfl))))
def b_La_creep : am_Tb := fun k => if k = 0 then some (12, 3, 13) else none
def M_La_creep : am_M := am_MofH t_La_creep 4 b_La_creep M_Im_creep 0 1 4
theorem h_La_creep : ∀ (e : Env) (s : State) (m : MethodId) (args : Array Value) (A : Nat → Nat) (A0 : Nat → Prop), e.platform.magicAccessors = ({} : Platform).magicAccessors → s.vm.findClass y_La_creep.cls = some m.cls → (∀ w ∈ lw_good, w.before args s = true) → am_En A A0 s → ∀ (k : Nat) (q : Nat × Nat × Nat), b_La_creep k = some q → (∀ cX, s.vm.findClass (am_kind k) = some cX → am_Rows e.platform s m.cls 4 cX q.1 (tableOf [(0, 9, 12, 13)])) := by
  intro e s m args A A0 hpl hown hts hEn k q hq cX hX
  unfold b_La_creep at hq
  split at hq
  · rename_i hk; subst hk; cases hq; exact am_row_yes hpl hown rfl (by decide) (hts _ w_460) (hEn.1 _ w_468) hX rfl
  · cases hq
theorem e_La_creep : ∀ (k : Nat) (q : Nat × Nat × Nat), b_La_creep k = some q → ((∃ i : Fin 4, decode c_La_creep q.1 = .ok (.astore_n i, 1) ∧ (i : Nat) = q.2.1 ∧ q.2.2 = q.1 + 1) ∨ (decode c_La_creep q.1 = .ok (.astore q.2.1, 2) ∧ q.2.2 = q.1 + 2)) ∧ q.2.1 < 4 := by
  intro k q hq
  unfold b_La_creep at hq
  split at hq
  · rename_i hk; subst hk; cases hq; exact ⟨Or.inl ⟨3, d_La_creep_12, rfl, rfl⟩, by decide⟩
  · cases hq
theorem m_La_creep (l : Launch) (hl : l.stackTraces = false) : am_MetH l y_La_creep c_La_creep 4 [(0, 9, 12, 13)] 8 122 M_La_creep := am_metH (T0 := nT_Im) (N := 7) (plainFor_of_name (by decide)) s_La_creep rfl (m_Im_creep l hl) (by decide) (by decide) w_692 w_60 w_689 w_690 w_691 (by decide +kernel) d_La_creep_4 h_La_creep e_La_creep
/-! ## ImposeSheetsLaw.laid(LImposeSheets;I[J)I -/
theorem d_La_laid_0 : decode c_La_laid 0 = .ok (.aload_n 2, 1) := by decide +kernel
theorem d_La_laid_1 : decode c_La_laid 1 = .ok (.iconst 0, 1) := by decide +kernel
theorem d_La_laid_2 : decode c_La_laid 2 = .ok (.aload_n 0, 1) := by decide +kernel
theorem d_La_laid_3 : decode c_La_laid 3 = .ok (.iload_n 1, 1) := by decide +kernel
theorem d_La_laid_4 : decode c_La_laid 4 = .ok (.invokevirtual 33, 3) := by decide +kernel
theorem d_La_laid_7 : decode c_La_laid 7 = .ok (.i2l, 1) := by decide +kernel
theorem d_La_laid_8 : decode c_La_laid 8 = .ok (.lastore, 1) := by decide +kernel
theorem d_La_laid_9 : decode c_La_laid 9 = .ok (.goto 6, 3) := by decide +kernel
theorem d_La_laid_12 : decode c_La_laid 12 = .ok (.astore_n 3, 1) := by decide +kernel
theorem d_La_laid_13 : decode c_La_laid 13 = .ok (.iconst 1, 1) := by decide +kernel
theorem d_La_laid_14 : decode c_La_laid 14 = .ok (.ireturn, 1) := by decide +kernel
theorem d_La_laid_15 : decode c_La_laid 15 = .ok (.iconst 0, 1) := by decide +kernel
theorem d_La_laid_16 : decode c_La_laid 16 = .ok (.ireturn, 1) := by decide +kernel
def t_La_laid : Nat → am_A := fun pc => cond (Nat.ble 8 pc) (cond (Nat.ble 14 pc) (cond (Nat.ble 15 pc) (cond (Nat.ble 16 pc) (cond (Nat.beq pc 16) (am_iret) am_stuck) (cond (Nat.beq pc 15) (am_push (.int 0) 16) am_stuck)) (cond (Nat.beq pc 14) (am_iret) am_stuck)) (cond (Nat.ble 9 pc) (cond (Nat.ble 13 pc) (cond (Nat.beq pc 13) (am_push (.int 1) 14) am_stuck) (cond (Nat.beq pc 9) (am_goto 15) am_stuck)) (cond (Nat.beq pc 8) (am_last 9) am_stuck))) (cond (Nat.ble 2 pc) (cond (Nat.ble 3 pc) (cond (Nat.ble 7 pc) (cond (Nat.beq pc 7) (am_i2l 8) am_stuck) (cond (Nat.beq pc 3) (am_iload 1 4) am_stuck)) (cond (Nat.beq pc 2) (am_aload 0 3) am_stuck)) (cond (Nat.ble 1 pc) (cond (Nat.beq pc 1) (am_push (.int 0) 2) am_stuck) (cond (Nat.beq pc 0) (am_aload 2 1) am_stuck)))
theorem s_La_laid : ∀ pc, am_Snd am_En c_La_laid 4 y_La_laid.cls 8 121 pc (t_La_laid pc) := fun pc => am_node (am_node (am_node (am_node (am_leaf (am_s_iret d_La_laid_16)) (am_leaf (am_s_iconst d_La_laid_15 (by decide)))) (am_leaf (am_s_iret d_La_laid_14))) (am_node (am_node (am_leaf (am_s_iconst d_La_laid_13 (by decide))) (am_leaf (am_s_goto 15 d_La_laid_9 (by decide)))) (am_leaf (am_s_last d_La_laid_8)))) (am_node (am_node (am_node (am_leaf (am_s_i2l d_La_laid_7)) (am_leaf (am_s_iload_n 1 d_La_laid_3 rfl))) (am_leaf (am_s_aload_n 0 d_La_laid_2 rfl))) (am_node (am_leaf (am_s_iconst d_La_laid_1 (by decide))) (am_leaf (am_s_aload_n 2 d_La_laid_0 rfl))))
def b_La_laid : am_Tb := fun k => if k = 0 then some (12, 3, 13) else none
def M_La_laid : am_M := am_MofH t_La_laid 4 b_La_laid M_Im_laid 0 1 4
theorem h_La_laid : ∀ (e : Env) (s : State) (m : MethodId) (args : Array Value) (A : Nat → Nat) (A0 : Nat → Prop), e.platform.magicAccessors = ({} : Platform).magicAccessors → s.vm.findClass y_La_laid.cls = some m.cls → (∀ w ∈ lw_good, w.before args s = true) → am_En A A0 s → ∀ (k : Nat) (q : Nat × Nat × Nat), b_La_laid k = some q → (∀ cX, s.vm.findClass (am_kind k) = some cX → am_Rows e.platform s m.cls 4 cX q.1 (tableOf [(0, 9, 12, 13)])) := by
  intro e s m args A A0 hpl hown hts hEn k q hq cX hX
  unfold b_La_laid at hq
  split at hq
  · rename_i hk; subst hk; cases hq; exact am_row_yes hpl hown rfl (by decide) (hts _ w_460) (hEn.1 _ w_468) hX rfl
  · cases hq
theorem e_La_laid : ∀ (k : Nat) (q : Nat × Nat × Nat), b_La_laid k = some q → ((∃ i : Fin 4, decode c_La_laid q.1 = .ok (.astore_n i, 1) ∧ (i : Nat) = q.2.1 ∧ q.2.2 = q.1 + 1) ∨ (decode c_La_laid q.1 = .ok (.astore q.2.1, 2) ∧ q.2.2 = q.1 + 2)) ∧ q.2.1 < 4 := by
  intro k q hq
  unfold b_La_laid at hq
  split at hq
  · rename_i hk; subst hk; cases hq; exact ⟨Or.inl ⟨3, d_La_laid_12, rfl, rfl⟩, by decide⟩
  · cases hq
theorem m_La_laid (l : Launch) (hl : l.stackTraces = false) : am_MetH l y_La_laid c_La_laid 4 [(0, 9, 12, 13)] 8 121 M_La_laid := am_metH (T0 := nT_Im) (N := 7) (plainFor_of_name (by decide)) s_La_laid rfl (m_Im_laid l hl) (by decide) (by decide) w_705 w_60 w_702 w_703 w_704 (by decide +kernel) d_La_laid_4 h_La_laid e_La_laid
/-! ## ImposeSheetsLaw.job(LImposeSheets;I[J)I -/
theorem d_La_job_0 : decode c_La_job 0 = .ok (.aload_n 2, 1) := by decide +kernel
theorem d_La_job_1 : decode c_La_job 1 = .ok (.iconst 0, 1) := by decide +kernel
theorem d_La_job_2 : decode c_La_job 2 = .ok (.aload_n 0, 1) := by decide +kernel
theorem d_La_job_3 : decode c_La_job 3 = .ok (.iload_n 1, 1) := by decide +kernel
theorem d_La_job_4 : decode c_La_job 4 = .ok (.invokevirtual 36, 3) := by decide +kernel
theorem d_La_job_7 : decode c_La_job 7 = .ok (.i2l, 1) := by decide +kernel
theorem d_La_job_8 : decode c_La_job 8 = .ok (.lastore, 1) := by decide +kernel
theorem d_La_job_9 : decode c_La_job 9 = .ok (.goto 9, 3) := by decide +kernel
theorem d_La_job_12 : decode c_La_job 12 = .ok (.astore_n 3, 1) := by decide +kernel
theorem d_La_job_13 : decode c_La_job 13 = .ok (.iconst 1, 1) := by decide +kernel
theorem d_La_job_14 : decode c_La_job 14 = .ok (.ireturn, 1) := by decide +kernel
theorem d_La_job_15 : decode c_La_job 15 = .ok (.astore_n 3, 1) := by decide +kernel
theorem d_La_job_16 : decode c_La_job 16 = .ok (.iconst 2, 1) := by decide +kernel
theorem d_La_job_17 : decode c_La_job 17 = .ok (.ireturn, 1) := by decide +kernel
theorem d_La_job_18 : decode c_La_job 18 = .ok (.iconst 0, 1) := by decide +kernel
theorem d_La_job_19 : decode c_La_job 19 = .ok (.ireturn, 1) := by decide +kernel
def t_La_job : Nat → am_A := fun pc => cond (Nat.ble 9 pc) (cond (Nat.ble 16 pc) (cond (Nat.ble 18 pc) (cond (Nat.ble 19 pc) (cond (Nat.beq pc 19) (am_iret) am_stuck) (cond (Nat.beq pc 18) (am_push (.int 0) 19) am_stuck)) (cond (Nat.ble 17 pc) (cond (Nat.beq pc 17) (am_iret) am_stuck) (cond (Nat.beq pc 16) (am_push (.int 2) 17) am_stuck))) (cond (Nat.ble 13 pc) (cond (Nat.ble 14 pc) (cond (Nat.beq pc 14) (am_iret) am_stuck) (cond (Nat.beq pc 13) (am_push (.int 1) 14) am_stuck)) (cond (Nat.beq pc 9) (am_goto 18) am_stuck))) (cond (Nat.ble 3 pc) (cond (Nat.ble 7 pc) (cond (Nat.ble 8 pc) (cond (Nat.beq pc 8) (am_last 9) am_stuck) (cond (Nat.beq pc 7) (am_i2l 8) am_stuck)) (cond (Nat.beq pc 3) (am_iload 1 4) am_stuck)) (cond (Nat.ble 1 pc) (cond (Nat.ble 2 pc) (cond (Nat.beq pc 2) (am_aload 0 3) am_stuck) (cond (Nat.beq pc 1) (am_push (.int 0) 2) am_stuck)) (cond (Nat.beq pc 0) (am_aload 2 1) am_stuck)))
theorem s_La_job : ∀ pc, am_Snd am_En c_La_job 4 y_La_job.cls 8 121 pc (t_La_job pc) := fun pc => am_node (am_node (am_node (am_node (am_leaf (am_s_iret d_La_job_19)) (am_leaf (am_s_iconst d_La_job_18 (by decide)))) (am_node (am_leaf (am_s_iret d_La_job_17)) (am_leaf (am_s_iconst d_La_job_16 (by decide))))) (am_node (am_node (am_leaf (am_s_iret d_La_job_14)) (am_leaf (am_s_iconst d_La_job_13 (by decide)))) (am_leaf (am_s_goto 18 d_La_job_9 (by decide))))) (am_node (am_node (am_node (am_leaf (am_s_last d_La_job_8)) (am_leaf (am_s_i2l d_La_job_7))) (am_leaf (am_s_iload_n 1 d_La_job_3 rfl))) (am_node (am_node (am_leaf (am_s_aload_n 0 d_La_job_2 rfl)) (am_leaf (am_s_iconst d_La_job_1 (by decide)))) (am_leaf (am_s_aload_n 2 d_La_job_0 rfl))))
def b_La_job : am_Tb := fun k => if k = 1 then some (12, 3, 13) else if k = 3 then some (15, 3, 16) else none
def M_La_job : am_M := am_MofH t_La_job 4 b_La_job M_Im_job 0 1 4
theorem h_La_job : ∀ (e : Env) (s : State) (m : MethodId) (args : Array Value) (A : Nat → Nat) (A0 : Nat → Prop), e.platform.magicAccessors = ({} : Platform).magicAccessors → s.vm.findClass y_La_job.cls = some m.cls → (∀ w ∈ lw_good, w.before args s = true) → am_En A A0 s → ∀ (k : Nat) (q : Nat × Nat × Nat), b_La_job k = some q → (∀ cX, s.vm.findClass (am_kind k) = some cX → am_Rows e.platform s m.cls 4 cX q.1 (tableOf [(0, 9, 12, 15), (0, 9, 15, 39)])) := by
  intro e s m args A A0 hpl hown hts hEn k q hq cX hX
  unfold b_La_job at hq
  split at hq
  · rename_i hk; subst hk; cases hq; exact am_row_yes hpl hown rfl (by decide) (hts _ w_461) (hEn.1 _ w_541) hX rfl
  · split at hq
    · rename_i hk; subst hk; cases hq; exact am_row_no hpl hown rfl (by decide) (hts _ w_461) (hEn.2.2.2.2.2.1 ("java/lang/UnsupportedOperationException", "java/lang/IllegalArgumentException") (by decide)) hX (am_row_yes hpl hown rfl (by decide) (hts _ w_716) (hEn.1 _ w_729) hX rfl)
    · cases hq
theorem e_La_job : ∀ (k : Nat) (q : Nat × Nat × Nat), b_La_job k = some q → ((∃ i : Fin 4, decode c_La_job q.1 = .ok (.astore_n i, 1) ∧ (i : Nat) = q.2.1 ∧ q.2.2 = q.1 + 1) ∨ (decode c_La_job q.1 = .ok (.astore q.2.1, 2) ∧ q.2.2 = q.1 + 2)) ∧ q.2.1 < 4 := by
  intro k q hq
  unfold b_La_job at hq
  split at hq
  · rename_i hk; subst hk; cases hq; exact ⟨Or.inl ⟨3, d_La_job_12, rfl, rfl⟩, by decide⟩
  · split at hq
    · rename_i hk; subst hk; cases hq; exact ⟨Or.inl ⟨3, d_La_job_15, rfl, rfl⟩, by decide⟩
    · cases hq
theorem m_La_job (l : Launch) (hl : l.stackTraces = false) : am_MetH l y_La_job c_La_job 4 [(0, 9, 12, 15), (0, 9, 15, 39)] 8 121 M_La_job := am_metH (T0 := nT_Im) (N := 7) (plainFor_of_name (by decide)) s_La_job rfl (m_Im_job l hl) (by decide) (by decide) w_720 w_60 w_717 w_718 w_719 (by decide +kernel) d_La_job_4 h_La_job e_La_job
/-! ## ImposeSheetsLaw.share(LImposeSheets;III[J)I -/
theorem d_La_share_0 : decode c_La_share 0 = .ok (.aload 4, 2) := by decide +kernel
theorem d_La_share_2 : decode c_La_share 2 = .ok (.iconst 0, 1) := by decide +kernel
theorem d_La_share_3 : decode c_La_share 3 = .ok (.aload_n 0, 1) := by decide +kernel
theorem d_La_share_4 : decode c_La_share 4 = .ok (.iload_n 1, 1) := by decide +kernel
theorem d_La_share_5 : decode c_La_share 5 = .ok (.iload_n 2, 1) := by decide +kernel
theorem d_La_share_6 : decode c_La_share 6 = .ok (.iload_n 3, 1) := by decide +kernel
theorem d_La_share_7 : decode c_La_share 7 = .ok (.invokevirtual 41, 3) := by decide +kernel
theorem d_La_share_10 : decode c_La_share 10 = .ok (.i2l, 1) := by decide +kernel
theorem d_La_share_11 : decode c_La_share 11 = .ok (.lastore, 1) := by decide +kernel
theorem d_La_share_12 : decode c_La_share 12 = .ok (.goto 11, 3) := by decide +kernel
theorem d_La_share_15 : decode c_La_share 15 = .ok (.astore 5, 2) := by decide +kernel
theorem d_La_share_17 : decode c_La_share 17 = .ok (.iconst 1, 1) := by decide +kernel
theorem d_La_share_18 : decode c_La_share 18 = .ok (.ireturn, 1) := by decide +kernel
theorem d_La_share_19 : decode c_La_share 19 = .ok (.astore 5, 2) := by decide +kernel
theorem d_La_share_21 : decode c_La_share 21 = .ok (.iconst 2, 1) := by decide +kernel
theorem d_La_share_22 : decode c_La_share 22 = .ok (.ireturn, 1) := by decide +kernel
theorem d_La_share_23 : decode c_La_share 23 = .ok (.iconst 0, 1) := by decide +kernel
theorem d_La_share_24 : decode c_La_share 24 = .ok (.ireturn, 1) := by decide +kernel
def t_La_share : Nat → am_A := fun pc => cond (Nat.ble 11 pc) (cond (Nat.ble 21 pc) (cond (Nat.ble 23 pc) (cond (Nat.ble 24 pc) (cond (Nat.beq pc 24) (am_iret) am_stuck) (cond (Nat.beq pc 23) (am_push (.int 0) 24) am_stuck)) (cond (Nat.ble 22 pc) (cond (Nat.beq pc 22) (am_iret) am_stuck) (cond (Nat.beq pc 21) (am_push (.int 2) 22) am_stuck))) (cond (Nat.ble 17 pc) (cond (Nat.ble 18 pc) (cond (Nat.beq pc 18) (am_iret) am_stuck) (cond (Nat.beq pc 17) (am_push (.int 1) 18) am_stuck)) (cond (Nat.ble 12 pc) (cond (Nat.beq pc 12) (am_goto 23) am_stuck) (cond (Nat.beq pc 11) (am_last 12) am_stuck)))) (cond (Nat.ble 4 pc) (cond (Nat.ble 6 pc) (cond (Nat.ble 10 pc) (cond (Nat.beq pc 10) (am_i2l 11) am_stuck) (cond (Nat.beq pc 6) (am_iload 3 7) am_stuck)) (cond (Nat.ble 5 pc) (cond (Nat.beq pc 5) (am_iload 2 6) am_stuck) (cond (Nat.beq pc 4) (am_iload 1 5) am_stuck))) (cond (Nat.ble 2 pc) (cond (Nat.ble 3 pc) (cond (Nat.beq pc 3) (am_aload 0 4) am_stuck) (cond (Nat.beq pc 2) (am_push (.int 0) 3) am_stuck)) (cond (Nat.beq pc 0) (am_aload 4 2) am_stuck)))
theorem s_La_share : ∀ pc, am_Snd am_En c_La_share 6 y_La_share.cls 8 164 pc (t_La_share pc) := fun pc => am_node (am_node (am_node (am_node (am_leaf (am_s_iret d_La_share_24)) (am_leaf (am_s_iconst d_La_share_23 (by decide)))) (am_node (am_leaf (am_s_iret d_La_share_22)) (am_leaf (am_s_iconst d_La_share_21 (by decide))))) (am_node (am_node (am_leaf (am_s_iret d_La_share_18)) (am_leaf (am_s_iconst d_La_share_17 (by decide)))) (am_node (am_leaf (am_s_goto 23 d_La_share_12 (by decide))) (am_leaf (am_s_last d_La_share_11))))) (am_node (am_node (am_node (am_leaf (am_s_i2l d_La_share_10)) (am_leaf (am_s_iload_n 3 d_La_share_6 rfl))) (am_node (am_leaf (am_s_iload_n 2 d_La_share_5 rfl)) (am_leaf (am_s_iload_n 1 d_La_share_4 rfl)))) (am_node (am_node (am_leaf (am_s_aload_n 0 d_La_share_3 rfl)) (am_leaf (am_s_iconst d_La_share_2 (by decide)))) (am_leaf (am_s_aload d_La_share_0))))
def b_La_share : am_Tb := fun k => if k = 1 then some (15, 5, 17) else if k = 2 then some (19, 5, 21) else none
def M_La_share : am_M := am_MofH t_La_share 6 b_La_share M_Im_share 0 3 7
theorem h_La_share : ∀ (e : Env) (s : State) (m : MethodId) (args : Array Value) (A : Nat → Nat) (A0 : Nat → Prop), e.platform.magicAccessors = ({} : Platform).magicAccessors → s.vm.findClass y_La_share.cls = some m.cls → (∀ w ∈ lw_good, w.before args s = true) → am_En A A0 s → ∀ (k : Nat) (q : Nat × Nat × Nat), b_La_share k = some q → (∀ cX, s.vm.findClass (am_kind k) = some cX → am_Rows e.platform s m.cls 7 cX q.1 (tableOf [(0, 12, 15, 15), (0, 12, 19, 21)])) := by
  intro e s m args A A0 hpl hown hts hEn k q hq cX hX
  unfold b_La_share at hq
  split at hq
  · rename_i hk; subst hk; cases hq; exact am_row_yes hpl hown rfl (by decide) (hts _ w_461) (hEn.1 _ w_541) hX rfl
  · split at hq
    · rename_i hk; subst hk; cases hq; exact am_row_no hpl hown rfl (by decide) (hts _ w_461) (hEn.2.2.2.2.2.1 ("java/lang/IllegalStateException", "java/lang/IllegalArgumentException") (by decide)) hX (am_row_yes hpl hown rfl (by decide) (hts _ w_558) (hEn.1 _ w_568) hX rfl)
    · cases hq
theorem e_La_share : ∀ (k : Nat) (q : Nat × Nat × Nat), b_La_share k = some q → ((∃ i : Fin 4, decode c_La_share q.1 = .ok (.astore_n i, 1) ∧ (i : Nat) = q.2.1 ∧ q.2.2 = q.1 + 1) ∨ (decode c_La_share q.1 = .ok (.astore q.2.1, 2) ∧ q.2.2 = q.1 + 2)) ∧ q.2.1 < 6 := by
  intro k q hq
  unfold b_La_share at hq
  split at hq
  · rename_i hk; subst hk; cases hq; exact ⟨Or.inr ⟨d_La_share_15, rfl⟩, by decide⟩
  · split at hq
    · rename_i hk; subst hk; cases hq; exact ⟨Or.inr ⟨d_La_share_19, rfl⟩, by decide⟩
    · cases hq
theorem m_La_share (l : Launch) (hl : l.stackTraces = false) : am_MetH l y_La_share c_La_share 6 [(0, 12, 15, 15), (0, 12, 19, 21)] 8 164 M_La_share := am_metH (T0 := nT_Im) (N := 7) (plainFor_of_name (by decide)) s_La_share rfl (m_Im_share l hl) (by decide) (by decide) w_753 w_60 w_750 w_751 w_752 (by decide +kernel) d_La_share_7 h_La_share e_La_share
/-! ## ImposeSheetsLaw.shared(LImposeSheets;II[J)I -/
theorem d_La_shared_0 : decode c_La_shared 0 = .ok (.aload_n 3, 1) := by decide +kernel
theorem d_La_shared_1 : decode c_La_shared 1 = .ok (.iconst 0, 1) := by decide +kernel
theorem d_La_shared_2 : decode c_La_shared 2 = .ok (.aload_n 0, 1) := by decide +kernel
theorem d_La_shared_3 : decode c_La_shared 3 = .ok (.iload_n 1, 1) := by decide +kernel
theorem d_La_shared_4 : decode c_La_shared 4 = .ok (.iload_n 2, 1) := by decide +kernel
theorem d_La_shared_5 : decode c_La_shared 5 = .ok (.invokevirtual 45, 3) := by decide +kernel
theorem d_La_shared_8 : decode c_La_shared 8 = .ok (.i2l, 1) := by decide +kernel
theorem d_La_shared_9 : decode c_La_shared 9 = .ok (.lastore, 1) := by decide +kernel
theorem d_La_shared_10 : decode c_La_shared 10 = .ok (.goto 7, 3) := by decide +kernel
theorem d_La_shared_13 : decode c_La_shared 13 = .ok (.astore 4, 2) := by decide +kernel
theorem d_La_shared_15 : decode c_La_shared 15 = .ok (.iconst 1, 1) := by decide +kernel
theorem d_La_shared_16 : decode c_La_shared 16 = .ok (.ireturn, 1) := by decide +kernel
theorem d_La_shared_17 : decode c_La_shared 17 = .ok (.iconst 0, 1) := by decide +kernel
theorem d_La_shared_18 : decode c_La_shared 18 = .ok (.ireturn, 1) := by decide +kernel
def t_La_shared : Nat → am_A := fun pc => cond (Nat.ble 9 pc) (cond (Nat.ble 16 pc) (cond (Nat.ble 17 pc) (cond (Nat.ble 18 pc) (cond (Nat.beq pc 18) (am_iret) am_stuck) (cond (Nat.beq pc 17) (am_push (.int 0) 18) am_stuck)) (cond (Nat.beq pc 16) (am_iret) am_stuck)) (cond (Nat.ble 10 pc) (cond (Nat.ble 15 pc) (cond (Nat.beq pc 15) (am_push (.int 1) 16) am_stuck) (cond (Nat.beq pc 10) (am_goto 17) am_stuck)) (cond (Nat.beq pc 9) (am_last 10) am_stuck))) (cond (Nat.ble 3 pc) (cond (Nat.ble 4 pc) (cond (Nat.ble 8 pc) (cond (Nat.beq pc 8) (am_i2l 9) am_stuck) (cond (Nat.beq pc 4) (am_iload 2 5) am_stuck)) (cond (Nat.beq pc 3) (am_iload 1 4) am_stuck)) (cond (Nat.ble 1 pc) (cond (Nat.ble 2 pc) (cond (Nat.beq pc 2) (am_aload 0 3) am_stuck) (cond (Nat.beq pc 1) (am_push (.int 0) 2) am_stuck)) (cond (Nat.beq pc 0) (am_aload 3 1) am_stuck)))
theorem s_La_shared : ∀ pc, am_Snd am_En c_La_shared 5 y_La_shared.cls 8 122 pc (t_La_shared pc) := fun pc => am_node (am_node (am_node (am_node (am_leaf (am_s_iret d_La_shared_18)) (am_leaf (am_s_iconst d_La_shared_17 (by decide)))) (am_leaf (am_s_iret d_La_shared_16))) (am_node (am_node (am_leaf (am_s_iconst d_La_shared_15 (by decide))) (am_leaf (am_s_goto 17 d_La_shared_10 (by decide)))) (am_leaf (am_s_last d_La_shared_9)))) (am_node (am_node (am_node (am_leaf (am_s_i2l d_La_shared_8)) (am_leaf (am_s_iload_n 2 d_La_shared_4 rfl))) (am_leaf (am_s_iload_n 1 d_La_shared_3 rfl))) (am_node (am_node (am_leaf (am_s_aload_n 0 d_La_shared_2 rfl)) (am_leaf (am_s_iconst d_La_shared_1 (by decide)))) (am_leaf (am_s_aload_n 3 d_La_shared_0 rfl))))
def b_La_shared : am_Tb := fun k => if k = 0 then some (13, 4, 15) else none
def M_La_shared : am_M := am_MofH t_La_shared 5 b_La_shared M_Im_shared 0 2 5
theorem h_La_shared : ∀ (e : Env) (s : State) (m : MethodId) (args : Array Value) (A : Nat → Nat) (A0 : Nat → Prop), e.platform.magicAccessors = ({} : Platform).magicAccessors → s.vm.findClass y_La_shared.cls = some m.cls → (∀ w ∈ lw_good, w.before args s = true) → am_En A A0 s → ∀ (k : Nat) (q : Nat × Nat × Nat), b_La_shared k = some q → (∀ cX, s.vm.findClass (am_kind k) = some cX → am_Rows e.platform s m.cls 5 cX q.1 (tableOf [(0, 10, 13, 13)])) := by
  intro e s m args A A0 hpl hown hts hEn k q hq cX hX
  unfold b_La_shared at hq
  split at hq
  · rename_i hk; subst hk; cases hq; exact am_row_yes hpl hown rfl (by decide) (hts _ w_460) (hEn.1 _ w_468) hX rfl
  · cases hq
theorem e_La_shared : ∀ (k : Nat) (q : Nat × Nat × Nat), b_La_shared k = some q → ((∃ i : Fin 4, decode c_La_shared q.1 = .ok (.astore_n i, 1) ∧ (i : Nat) = q.2.1 ∧ q.2.2 = q.1 + 1) ∨ (decode c_La_shared q.1 = .ok (.astore q.2.1, 2) ∧ q.2.2 = q.1 + 2)) ∧ q.2.1 < 5 := by
  intro k q hq
  unfold b_La_shared at hq
  split at hq
  · rename_i hk; subst hk; cases hq; exact ⟨Or.inr ⟨d_La_shared_13, rfl⟩, by decide⟩
  · cases hq
theorem m_La_shared (l : Launch) (hl : l.stackTraces = false) : am_MetH l y_La_shared c_La_shared 5 [(0, 10, 13, 13)] 8 122 M_La_shared := am_metH (T0 := nT_Im) (N := 7) (plainFor_of_name (by decide)) s_La_shared rfl (m_Im_shared l hl) (by decide) (by decide) w_815 w_60 w_812 w_813 w_814 (by decide +kernel) d_La_shared_5 h_La_shared e_La_shared
