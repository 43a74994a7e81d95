/-! the words that are used, each by its place (gen/tables.py) -/
theorem nG_Im : ∀ w ∈ u_ws nR_Im nT_Im 7, w ∈ lw_good := fun w h => List.mem_filter.mpr ⟨nI_Im w h, List.all_eq_true.mp (by decide +kernel : (u_ws nR_Im nT_Im 7).all goodWord = true) w h⟩
theorem nG_Ta : ∀ w ∈ u_ws nR_Ta nT_Ta 2, w ∈ lw_good := fun w h => List.mem_filter.mpr ⟨nI_Ta w h, List.all_eq_true.mp (by decide +kernel : (u_ws nR_Ta nT_Ta 2).all goodWord = true) w h⟩
theorem nG_Re : ∀ w ∈ u_ws nR_Re nT_Re 5, w ∈ lw_good := fun w h => List.mem_filter.mpr ⟨nI_Re w h, List.all_eq_true.mp (by decide +kernel : (u_ws nR_Re nT_Re 5).all goodWord = true) w h⟩
theorem nG_Fo : ∀ w ∈ u_ws nR_Fo nT_Fo 7, w ∈ lw_good := fun w h => List.mem_filter.mpr ⟨nI_Fo w h, List.all_eq_true.mp (by decide +kernel : (u_ws nR_Fo nT_Fo 7).all goodWord = true) w h⟩
theorem nG_Bo : ∀ w ∈ u_ws nR_Bo nT_Bo 8, w ∈ lw_good := fun w h => List.mem_filter.mpr ⟨nI_Bo w h, List.all_eq_true.mp (by decide +kernel : (u_ws nR_Bo nT_Bo 8).all goodWord = true) w h⟩
theorem nG_Sh : ∀ w ∈ u_ws nR_Sh nT_Sh 12, w ∈ lw_good := fun w h => List.mem_filter.mpr ⟨nI_Sh w h, List.all_eq_true.mp (by decide +kernel : (u_ws nR_Sh nT_Sh 12).all goodWord = true) w h⟩
theorem nG_Sc : ∀ w ∈ u_ws nR_Sc nT_Sc 8, w ∈ lw_good := fun w h => List.mem_filter.mpr ⟨nI_Sc w h, List.all_eq_true.mp (by decide +kernel : (u_ws nR_Sc nT_Sc 8).all goodWord = true) w h⟩
theorem nG_Mo : ∀ w ∈ u_ws nR_Mo nT_Mo 55, w ∈ lw_good := fun w h => List.mem_filter.mpr ⟨nI_Mo w h, List.all_eq_true.mp (by decide +kernel : (u_ws nR_Mo nT_Mo 55).all goodWord = true) w h⟩
abbrev c_Ta_append : ByteArray := prog_7_method_2_code
abbrev y_Ta_append : MethodName := ⟨"ImposeSheets$Tape", "append", "(JI)Z"⟩
abbrev c_Im_type : ByteArray := prog_1_method_2_code
abbrev y_Im_type : MethodName := ⟨"ImposeSheets", "type", "(JI)Z"⟩
abbrev c_Ta_byteAt : ByteArray := prog_7_method_4_code
abbrev y_Ta_byteAt : MethodName := ⟨"ImposeSheets$Tape", "byteAt", "(I)I"⟩
abbrev c_Re_next : ByteArray := prog_5_method_10_code
abbrev y_Re_next : MethodName := ⟨"ImposeSheets$SchemeReader", "next", "()I"⟩
abbrev c_Re_isDigit : ByteArray := prog_5_method_11_code
abbrev y_Re_isDigit : MethodName := ⟨"ImposeSheets$SchemeReader", "isDigit", "(I)Z"⟩
abbrev c_Re_failAt : ByteArray := prog_5_method_9_code
abbrev y_Re_failAt : MethodName := ⟨"ImposeSheets$SchemeReader", "failAt", "(I)Z"⟩
abbrev c_Re_readNumber : ByteArray := prog_5_method_7_code
abbrev y_Re_readNumber : MethodName := ⟨"ImposeSheets$SchemeReader", "readNumber", "(I)Z"⟩
abbrev c_Ma_floorDiv : ByteArray := prog_15_method_47_code
abbrev y_Ma_floorDiv : MethodName := ⟨"java/lang/Math", "floorDiv", "(II)I"⟩
abbrev c_Im_downward : ByteArray := prog_1_method_16_code
abbrev y_Im_downward : MethodName := ⟨"ImposeSheets", "downward", "(II)I"⟩
abbrev c_Ma_min : ByteArray := prog_15_method_69_code
abbrev y_Ma_min : MethodName := ⟨"java/lang/Math", "min", "(II)I"⟩
abbrev c_Re_expect : ByteArray := prog_5_method_8_code
abbrev y_Re_expect : MethodName := ⟨"ImposeSheets$SchemeReader", "expect", "(I)Z"⟩
abbrev c_Sc_begin : ByteArray := prog_4_method_2_code
abbrev y_Sc_begin : MethodName := ⟨"ImposeSheets$Scheme", "begin", "(II)V"⟩
abbrev c_Re_readSize : ByteArray := prog_5_method_3_code
abbrev y_Re_readSize : MethodName := ⟨"ImposeSheets$SchemeReader", "readSize", "(LImposeSheets$Scheme;)Z"⟩
abbrev c_Re_isFold : ByteArray := prog_5_method_12_code
abbrev y_Re_isFold : MethodName := ⟨"ImposeSheets$SchemeReader", "isFold", "(I)Z"⟩
abbrev c_Sc_addFold : ByteArray := prog_4_method_3_code
abbrev y_Sc_addFold : MethodName := ⟨"ImposeSheets$Scheme", "addFold", "(I)V"⟩
abbrev c_Sc_isCut : ByteArray := prog_4_method_8_code
abbrev y_Sc_isCut : MethodName := ⟨"ImposeSheets$Scheme", "isCut", "()Z"⟩
abbrev c_Sc_cells : ByteArray := prog_4_method_6_code
abbrev y_Sc_cells : MethodName := ⟨"ImposeSheets$Scheme", "cells", "()I"⟩
abbrev c_Sc_setLeaf : ByteArray := prog_4_method_5_code
abbrev y_Sc_setLeaf : MethodName := ⟨"ImposeSheets$Scheme", "setLeaf", "(II)V"⟩
abbrev c_Fo_cutLeaves : ByteArray := prog_3_method_3_code
abbrev y_Fo_cutLeaves : MethodName := ⟨"ImposeSheets$Folding", "cutLeaves", "(LImposeSheets$Scheme;)V"⟩
abbrev c_Fo_layOut : ByteArray := prog_3_method_4_code
abbrev y_Fo_layOut : MethodName := ⟨"ImposeSheets$Folding", "layOut", "(LImposeSheets$Scheme;)V"⟩
abbrev c_Fo_putOver : ByteArray := prog_3_method_8_code
abbrev y_Fo_putOver : MethodName := ⟨"ImposeSheets$Folding", "putOver", "(III)V"⟩
abbrev c_Fo_foldAcross : ByteArray := prog_3_method_6_code
abbrev y_Fo_foldAcross : MethodName := ⟨"ImposeSheets$Folding", "foldAcross", "(I)V"⟩
abbrev c_Fo_foldDown : ByteArray := prog_3_method_7_code
abbrev y_Fo_foldDown : MethodName := ⟨"ImposeSheets$Folding", "foldDown", "(I)V"⟩
abbrev c_Fo_foldOnce : ByteArray := prog_3_method_5_code
abbrev y_Fo_foldOnce : MethodName := ⟨"ImposeSheets$Folding", "foldOnce", "(I)Z"⟩
abbrev c_Fo_takePile : ByteArray := prog_3_method_9_code
abbrev y_Fo_takePile : MethodName := ⟨"ImposeSheets$Folding", "takePile", "(LImposeSheets$Scheme;)V"⟩
abbrev c_Fo_makeBooklet : ByteArray := prog_3_method_2_code
abbrev y_Fo_makeBooklet : MethodName := ⟨"ImposeSheets$Folding", "makeBooklet", "(LImposeSheets$Scheme;)Z"⟩
abbrev c_Re_readFolds : ByteArray := prog_5_method_4_code
abbrev y_Re_readFolds : MethodName := ⟨"ImposeSheets$SchemeReader", "readFolds", "(LImposeSheets$Scheme;)Z"⟩
abbrev c_Sc_pageCount : ByteArray := prog_4_method_7_code
abbrev y_Sc_pageCount : MethodName := ⟨"ImposeSheets$Scheme", "pageCount", "()I"⟩
abbrev c_Sc_tellPage : ByteArray := prog_4_method_4_code
abbrev y_Sc_tellPage : MethodName := ⟨"ImposeSheets$Scheme", "tellPage", "(IIZ)V"⟩
abbrev c_Re_readSide : ByteArray := prog_5_method_6_code
abbrev y_Re_readSide : MethodName := ⟨"ImposeSheets$SchemeReader", "readSide", "(LImposeSheets$Scheme;I)Z"⟩
abbrev c_Re_readPages : ByteArray := prog_5_method_5_code
abbrev y_Re_readPages : MethodName := ⟨"ImposeSheets$SchemeReader", "readPages", "(LImposeSheets$Scheme;)Z"⟩
abbrev c_Re_readInto : ByteArray := prog_5_method_2_code
abbrev y_Re_readInto : MethodName := ⟨"ImposeSheets$SchemeReader", "readInto", "(LImposeSheets$Scheme;)I"⟩
abbrev c_Ta_empty : ByteArray := prog_7_method_3_code
abbrev y_Ta_empty : MethodName := ⟨"ImposeSheets$Tape", "empty", "()V"⟩
abbrev c_Im_scheme : ByteArray := prog_1_method_3_code
abbrev y_Im_scheme : MethodName := ⟨"ImposeSheets", "scheme", "()I"⟩
abbrev c_Sc_leafOf : ByteArray := prog_4_method_9_code
abbrev y_Sc_leafOf : MethodName := ⟨"ImposeSheets$Scheme", "leafOf", "(I)I"⟩
abbrev c_Sc_sideOf : ByteArray := prog_4_method_10_code
abbrev y_Sc_sideOf : MethodName := ⟨"ImposeSheets$Scheme", "sideOf", "(I)I"⟩
abbrev c_Sc_spotOf : ByteArray := prog_4_method_11_code
abbrev y_Sc_spotOf : MethodName := ⟨"ImposeSheets$Scheme", "spotOf", "(II)I"⟩
abbrev c_Sc_turnedOf : ByteArray := prog_4_method_12_code
abbrev y_Sc_turnedOf : MethodName := ⟨"ImposeSheets$Scheme", "turnedOf", "(II)I"⟩
abbrev c_Sc_isToldRight : ByteArray := prog_4_method_14_code
abbrev y_Sc_isToldRight : MethodName := ⟨"ImposeSheets$Scheme", "isToldRight", "(II)Z"⟩
abbrev c_Sc_firstBroken : ByteArray := prog_4_method_13_code
abbrev y_Sc_firstBroken : MethodName := ⟨"ImposeSheets$Scheme", "firstBroken", "(I)I"⟩
abbrev c_Im_broken : ByteArray := prog_1_method_6_code
abbrev y_Im_broken : MethodName := ⟨"ImposeSheets", "broken", "()I"⟩
abbrev c_Sh_forget : ByteArray := prog_6_method_4_code
abbrev y_Sh_forget : MethodName := ⟨"ImposeSheets$Sharing", "forget", "()V"⟩
abbrev c_Im_clear : ByteArray := prog_1_method_12_code
abbrev y_Im_clear : MethodName := ⟨"ImposeSheets", "clear", "()V"⟩
abbrev c_Im_upward : ByteArray := prog_1_method_15_code
abbrev y_Im_upward : MethodName := ⟨"ImposeSheets", "upward", "(II)I"⟩
abbrev c_Mo_thrown : ByteArray := prog_9_method_2_code
abbrev y_Mo_thrown : MethodName := ⟨"ImposeSheetsModel", "thrown", "()I"⟩
abbrev c_Mo_type : ByteArray := prog_9_method_3_code
abbrev y_Mo_type : MethodName := ⟨"ImposeSheetsModel", "type", "(JI)Z"⟩
abbrev c_Mo_byteAt : ByteArray := prog_9_method_4_code
abbrev y_Mo_byteAt : MethodName := ⟨"ImposeSheetsModel", "byteAt", "()I"⟩
abbrev c_Mo_isDigit : ByteArray := prog_9_method_5_code
abbrev y_Mo_isDigit : MethodName := ⟨"ImposeSheetsModel", "isDigit", "()Z"⟩
abbrev c_Mo_fail : ByteArray := prog_9_method_6_code
abbrev y_Mo_fail : MethodName := ⟨"ImposeSheetsModel", "fail", "(I)V"⟩
abbrev c_Mo_number : ByteArray := prog_9_method_7_code
abbrev y_Mo_number : MethodName := ⟨"ImposeSheetsModel", "number", "(I)I"⟩
abbrev c_Mo_sign : ByteArray := prog_9_method_8_code
abbrev y_Mo_sign : MethodName := ⟨"ImposeSheetsModel", "sign", "(I)V"⟩
abbrev c_Mo_isFold : ByteArray := prog_9_method_9_code
abbrev y_Mo_isFold : MethodName := ⟨"ImposeSheetsModel", "isFold", "(I)Z"⟩
abbrev c_Mo_areRight : ByteArray := prog_9_method_10_code
abbrev y_Mo_areRight : MethodName := ⟨"ImposeSheetsModel", "areRight", "(II[II)Z"⟩
abbrev c_Mo_readFolds : ByteArray := prog_9_method_11_code
abbrev y_Mo_readFolds : MethodName := ⟨"ImposeSheetsModel", "readFolds", "()V"⟩
abbrev c_Mo_readPages : ByteArray := prog_9_method_12_code
abbrev y_Mo_readPages : MethodName := ⟨"ImposeSheetsModel", "readPages", "()V"⟩
abbrev c_Mo_scheme : ByteArray := prog_9_method_13_code
abbrev y_Mo_scheme : MethodName := ⟨"ImposeSheetsModel", "scheme", "()I"⟩
abbrev c_Mo_spot : ByteArray := prog_9_method_14_code
abbrev y_Mo_spot : MethodName := ⟨"ImposeSheetsModel", "spot", "(II)I"⟩
abbrev c_Mo_turnOnto : ByteArray := prog_9_method_15_code
abbrev y_Mo_turnOnto : MethodName := ⟨"ImposeSheetsModel", "turnOnto", "(IIZ)V"⟩
abbrev c_Mo_movePile : ByteArray := prog_9_method_16_code
abbrev y_Mo_movePile : MethodName := ⟨"ImposeSheetsModel", "movePile", "(II)V"⟩
abbrev c_Mo_foldOnce : ByteArray := prog_9_method_17_code
abbrev y_Mo_foldOnce : MethodName := ⟨"ImposeSheetsModel", "foldOnce", "(I)V"⟩
abbrev c_Mo_setPage : ByteArray := prog_9_method_18_code
abbrev y_Mo_setPage : MethodName := ⟨"ImposeSheetsModel", "setPage", "(IIZZ)V"⟩
abbrev c_Mo_foldAll : ByteArray := prog_9_method_19_code
abbrev y_Mo_foldAll : MethodName := ⟨"ImposeSheetsModel", "foldAll", "()V"⟩
abbrev c_Mo_brokenPage : ByteArray := prog_9_method_20_code
abbrev y_Mo_brokenPage : MethodName := ⟨"ImposeSheetsModel", "brokenPage", "()I"⟩
abbrev c_Mo_broken : ByteArray := prog_9_method_21_code
abbrev y_Mo_broken : MethodName := ⟨"ImposeSheetsModel", "broken", "()I"⟩
abbrev c_Mo_setting : ByteArray := prog_9_method_22_code
abbrev y_Mo_setting : MethodName := ⟨"ImposeSheetsModel", "setting", "(II)I"⟩
abbrev c_Mo_down : ByteArray := prog_9_method_23_code
abbrev y_Mo_down : MethodName := ⟨"ImposeSheetsModel", "down", "(II)I"⟩
abbrev c_Mo_bookPlace : ByteArray := prog_9_method_24_code
abbrev y_Mo_bookPlace : MethodName := ⟨"ImposeSheetsModel", "bookPlace", "(II)I"⟩
abbrev c_Mo_less : ByteArray := prog_9_method_25_code
abbrev y_Mo_less : MethodName := ⟨"ImposeSheetsModel", "less", "(II)I"⟩
abbrev c_Mo_creepOf : ByteArray := prog_9_method_26_code
abbrev y_Mo_creepOf : MethodName := ⟨"ImposeSheetsModel", "creepOf", "(II)I"⟩
abbrev c_Mo_lessLong : ByteArray := prog_9_method_28_code
abbrev y_Mo_lessLong : MethodName := ⟨"ImposeSheetsModel", "lessLong", "(JJ)J"⟩
abbrev c_Mo_lay : ByteArray := prog_9_method_27_code
abbrev y_Mo_lay : MethodName := ⟨"ImposeSheetsModel", "lay", "(IIII)V"⟩
abbrev c_Mo_run : ByteArray := prog_9_method_29_code
abbrev y_Mo_run : MethodName := ⟨"ImposeSheetsModel", "run", "(I)I"⟩
abbrev c_Mo_at : ByteArray := prog_9_method_30_code
abbrev y_Mo_at : MethodName := ⟨"ImposeSheetsModel", "at", "(IIII)I"⟩
abbrev c_Mo_fold : ByteArray := prog_9_method_31_code
abbrev y_Mo_fold : MethodName := ⟨"ImposeSheetsModel", "fold", "(I)I"⟩
abbrev c_Mo_creep : ByteArray := prog_9_method_32_code
abbrev y_Mo_creep : MethodName := ⟨"ImposeSheetsModel", "creep", "(I)I"⟩
abbrev c_Mo_laid : ByteArray := prog_9_method_33_code
abbrev y_Mo_laid : MethodName := ⟨"ImposeSheetsModel", "laid", "(I)I"⟩
abbrev c_Mo_job : ByteArray := prog_9_method_34_code
abbrev y_Mo_job : MethodName := ⟨"ImposeSheetsModel", "job", "(I)I"⟩
abbrev c_Mo_clear : ByteArray := prog_9_method_35_code
abbrev y_Mo_clear : MethodName := ⟨"ImposeSheetsModel", "clear", "()V"⟩
abbrev c_Mo_upward : ByteArray := prog_9_method_36_code
abbrev y_Mo_upward : MethodName := ⟨"ImposeSheetsModel", "upward", "(II)I"⟩
abbrev c_Mo_slotsFor : ByteArray := prog_9_method_37_code
abbrev y_Mo_slotsFor : MethodName := ⟨"ImposeSheetsModel", "slotsFor", "(II)I"⟩
abbrev c_Mo_jobsOn : ByteArray := prog_9_method_38_code
abbrev y_Mo_jobsOn : MethodName := ⟨"ImposeSheetsModel", "jobsOn", "(I)I"⟩
abbrev c_Mo_sheetsOf : ByteArray := prog_9_method_39_code
abbrev y_Mo_sheetsOf : MethodName := ⟨"ImposeSheetsModel", "sheetsOf", "(II)I"⟩
abbrev c_Mo_platesOf : ByteArray := prog_9_method_40_code
abbrev y_Mo_platesOf : MethodName := ⟨"ImposeSheetsModel", "platesOf", "()I"⟩
abbrev c_Mo_costOf : ByteArray := prog_9_method_41_code
abbrev y_Mo_costOf : MethodName := ⟨"ImposeSheetsModel", "costOf", "(II)J"⟩
abbrev c_Mo_nextWay : ByteArray := prog_9_method_42_code
abbrev y_Mo_nextWay : MethodName := ⟨"ImposeSheetsModel", "nextWay", "()Z"⟩
abbrev c_Mo_take : ByteArray := prog_9_method_43_code
abbrev y_Mo_take : MethodName := ⟨"ImposeSheetsModel", "take", "(I)V"⟩
abbrev c_Mo_share : ByteArray := prog_9_method_44_code
abbrev y_Mo_share : MethodName := ⟨"ImposeSheetsModel", "share", "(III)I"⟩
abbrev c_Mo_shared : ByteArray := prog_9_method_45_code
abbrev y_Mo_shared : MethodName := ⟨"ImposeSheetsModel", "shared", "(II)I"⟩
abbrev c_Bo_bookletPages : ByteArray := prog_2_method_4_code
abbrev y_Bo_bookletPages : MethodName := ⟨"ImposeSheets$Book", "bookletPages", "()I"⟩
abbrev c_Bo_isPageGreater : ByteArray := prog_2_method_7_code
abbrev y_Bo_isPageGreater : MethodName := ⟨"ImposeSheets$Book", "isPageGreater", "()Z"⟩
abbrev c_Ma_max : ByteArray := prog_15_method_65_code
abbrev y_Ma_max : MethodName := ⟨"java/lang/Math", "max", "(II)I"⟩
abbrev c_Bo_findScale : ByteArray := prog_2_method_9_code
abbrev y_Bo_findScale : MethodName := ⟨"ImposeSheets$Book", "findScale", "()I"⟩
abbrev c_Bo_lay : ByteArray := prog_2_method_2_code
abbrev y_Bo_lay : MethodName := ⟨"ImposeSheets$Book", "lay", "(LImposeSheets$Scheme;[II)V"⟩
abbrev c_Bo_sheetCount : ByteArray := prog_2_method_3_code
abbrev y_Bo_sheetCount : MethodName := ⟨"ImposeSheets$Book", "sheetCount", "()I"⟩
abbrev c_Bo_placeCount : ByteArray := prog_2_method_5_code
abbrev y_Bo_placeCount : MethodName := ⟨"ImposeSheets$Book", "placeCount", "()I"⟩
abbrev c_Bo_blankCount : ByteArray := prog_2_method_6_code
abbrev y_Bo_blankCount : MethodName := ⟨"ImposeSheets$Book", "blankCount", "()I"⟩
abbrev c_Bo_isTooSmallForPages : ByteArray := prog_2_method_8_code
abbrev y_Bo_isTooSmallForPages : MethodName := ⟨"ImposeSheets$Book", "isTooSmallForPages", "()Z"⟩
abbrev c_Bo_hasSpot : ByteArray := prog_2_method_10_code
abbrev y_Bo_hasSpot : MethodName := ⟨"ImposeSheets$Book", "hasSpot", "(III)Z"⟩
abbrev c_Bo_hasPage : ByteArray := prog_2_method_11_code
abbrev y_Bo_hasPage : MethodName := ⟨"ImposeSheets$Book", "hasPage", "(I)Z"⟩
abbrev c_Bo_blanksBefore : ByteArray := prog_2_method_12_code
abbrev y_Bo_blanksBefore : MethodName := ⟨"ImposeSheets$Book", "blanksBefore", "()I"⟩
abbrev c_Bo_pageAtPlace : ByteArray := prog_2_method_13_code
abbrev y_Bo_pageAtPlace : MethodName := ⟨"ImposeSheets$Book", "pageAtPlace", "(I)I"⟩
abbrev c_Bo_depthOf : ByteArray := prog_2_method_16_code
abbrev y_Bo_depthOf : MethodName := ⟨"ImposeSheets$Book", "depthOf", "(I)I"⟩
abbrev c_Bo_creepOfPlace : ByteArray := prog_2_method_17_code
abbrev y_Bo_creepOfPlace : MethodName := ⟨"ImposeSheets$Book", "creepOfPlace", "(I)I"⟩
abbrev c_Bo_creepOfPage : ByteArray := prog_2_method_14_code
abbrev y_Bo_creepOfPage : MethodName := ⟨"ImposeSheets$Book", "creepOfPage", "(I)I"⟩
abbrev c_Bo_placeOf : ByteArray := prog_2_method_15_code
abbrev y_Bo_placeOf : MethodName := ⟨"ImposeSheets$Book", "placeOf", "(II)I"⟩
abbrev c_Bo_margin : ByteArray := prog_2_method_21_code
abbrev y_Bo_margin : MethodName := ⟨"ImposeSheets$Book", "margin", "(II)I"⟩
abbrev c_Bo_leftEdge : ByteArray := prog_2_method_19_code
abbrev y_Bo_leftEdge : MethodName := ⟨"ImposeSheets$Book", "leftEdge", "(III)I"⟩
abbrev c_Bo_topEdge : ByteArray := prog_2_method_20_code
abbrev y_Bo_topEdge : MethodName := ⟨"ImposeSheets$Book", "topEdge", "(I)I"⟩
abbrev c_Bo_tellSpot : ByteArray := prog_2_method_18_code
abbrev y_Bo_tellSpot : MethodName := ⟨"ImposeSheets$Book", "tellSpot", "(IIII)I"⟩
abbrev c_Sh_jobCount : ByteArray := prog_6_method_2_code
abbrev y_Sh_jobCount : MethodName := ⟨"ImposeSheets$Sharing", "jobCount", "()I"⟩
abbrev c_Sh_addJob : ByteArray := prog_6_method_3_code
abbrev y_Sh_addJob : MethodName := ⟨"ImposeSheets$Sharing", "addJob", "(I)I"⟩
abbrev c_Ar_fill : ByteArray := prog_21_method_103_code
abbrev y_Ar_fill : MethodName := ⟨"java/util/Arrays", "fill", "([II)V"⟩
abbrev c_Sh_fillPlates : ByteArray := prog_6_method_8_code
abbrev y_Sh_fillPlates : MethodName := ⟨"ImposeSheets$Sharing", "fillPlates", "()V"⟩
abbrev c_Sh_greatestBefore : ByteArray := prog_6_method_14_code
abbrev y_Sh_greatestBefore : MethodName := ⟨"ImposeSheets$Sharing", "greatestBefore", "(I)I"⟩
abbrev c_Sh_plateCount : ByteArray := prog_6_method_6_code
abbrev y_Sh_plateCount : MethodName := ⟨"ImposeSheets$Sharing", "plateCount", "()I"⟩
abbrev c_In_bitCount : ByteArray := prog_14_method_49_code
abbrev y_In_bitCount : MethodName := ⟨"java/lang/Integer", "bitCount", "(I)I"⟩
abbrev c_Sh_slotsFor : ByteArray := prog_6_method_11_code
abbrev y_Sh_slotsFor : MethodName := ⟨"ImposeSheets$Sharing", "slotsFor", "(II)I"⟩
abbrev c_Sh_leastSheets : ByteArray := prog_6_method_10_code
abbrev y_Sh_leastSheets : MethodName := ⟨"ImposeSheets$Sharing", "leastSheets", "(I)I"⟩
abbrev c_Sh_sheetsFor : ByteArray := prog_6_method_9_code
abbrev y_Sh_sheetsFor : MethodName := ⟨"ImposeSheets$Sharing", "sheetsFor", "(I)I"⟩
abbrev c_Sh_costOfWay : ByteArray := prog_6_method_7_code
abbrev y_Sh_costOfWay : MethodName := ⟨"ImposeSheets$Sharing", "costOfWay", "(I)I"⟩
abbrev c_Sh_takeWay : ByteArray := prog_6_method_12_code
abbrev y_Sh_takeWay : MethodName := ⟨"ImposeSheets$Sharing", "takeWay", "()V"⟩
abbrev c_Sh_goToNextWay : ByteArray := prog_6_method_13_code
abbrev y_Sh_goToNextWay : MethodName := ⟨"ImposeSheets$Sharing", "goToNextWay", "()Z"⟩
abbrev c_Sh_seekLeastCost : ByteArray := prog_6_method_5_code
abbrev y_Sh_seekLeastCost : MethodName := ⟨"ImposeSheets$Sharing", "seekLeastCost", "(III)I"⟩
abbrev c_Sh_canTell : ByteArray := prog_6_method_15_code
abbrev y_Sh_canTell : MethodName := ⟨"ImposeSheets$Sharing", "canTell", "(II)Z"⟩
abbrev c_Sh_tell : ByteArray := prog_6_method_16_code
abbrev y_Sh_tell : MethodName := ⟨"ImposeSheets$Sharing", "tell", "(II)I"⟩
theorem w_94 : Cond.fieldLink "ImposeSheets$Tape" 13 "ImposeSheets$Tape" "size" "I" ∈ lw_good := lw_g 94 (by decide +kernel) rfl
theorem w_93 : Cond.fieldLink "ImposeSheets$Tape" 9 "ImposeSheets$Tape" "bytes" "[I" ∈ lw_good := lw_g 93 (by decide +kernel) rfl
theorem w_266 : Cond.fieldLink "ImposeSheets" 10 "ImposeSheets" "tape" "LImposeSheets$Tape;" ∈ lw_good := lw_g 266 (by decide +kernel) rfl
theorem w_292 : Cond.methodLink "ImposeSheets" 62 ⟨"ImposeSheets$Tape", "append", "(JI)Z"⟩ ∈ lw_good := lw_g 292 (by decide +kernel) rfl
set_option maxRecDepth 100000 in
theorem w_295 : Cond.code y_Ta_append c_Ta_append 5 (some .boolean) ∈ lw_good := lw_g 295 rfl rfl
theorem w_61 : Cond.initialized "ImposeSheets$Tape" ∈ lw_good := lw_g 61 (by decide +kernel) rfl
theorem w_293 : Cond.instanceMethod ⟨"ImposeSheets$Tape", "append", "(JI)Z"⟩ ∈ lw_good := lw_g 293 (by decide +kernel) rfl
theorem w_294 : Cond.selects "ImposeSheets$Tape" ⟨"ImposeSheets$Tape", "append", "(JI)Z"⟩ ⟨"ImposeSheets$Tape", "append", "(JI)Z"⟩ ∈ lw_good := lw_g 294 (by decide +kernel) rfl
theorem w_135 : Cond.fieldLink "ImposeSheets$SchemeReader" 28 "ImposeSheets$SchemeReader" "tape" "LImposeSheets$Tape;" ∈ lw_good := lw_g 135 (by decide +kernel) rfl
theorem w_137 : Cond.fieldLink "ImposeSheets$SchemeReader" 18 "ImposeSheets$SchemeReader" "place" "I" ∈ lw_good := lw_g 137 (by decide +kernel) rfl
theorem w_316 : Cond.methodLink "ImposeSheets$SchemeReader" 100 ⟨"ImposeSheets$Tape", "byteAt", "(I)I"⟩ ∈ lw_good := lw_g 316 (by decide +kernel) rfl
set_option maxRecDepth 100000 in
theorem w_319 : Cond.code y_Ta_byteAt c_Ta_byteAt 2 (some .int) ∈ lw_good := lw_g 319 rfl rfl
theorem w_317 : Cond.instanceMethod ⟨"ImposeSheets$Tape", "byteAt", "(I)I"⟩ ∈ lw_good := lw_g 317 (by decide +kernel) rfl
theorem w_318 : Cond.selects "ImposeSheets$Tape" ⟨"ImposeSheets$Tape", "byteAt", "(I)I"⟩ ⟨"ImposeSheets$Tape", "byteAt", "(I)I"⟩ ∈ lw_good := lw_g 318 (by decide +kernel) rfl
theorem w_138 : Cond.fieldLink "ImposeSheets$SchemeReader" 22 "ImposeSheets$SchemeReader" "wrongPlace" "I" ∈ lw_good := lw_g 138 (by decide +kernel) rfl
theorem w_139 : Cond.fieldLink "ImposeSheets$SchemeReader" 25 "ImposeSheets$SchemeReader" "number" "I" ∈ lw_good := lw_g 139 (by decide +kernel) rfl
theorem w_312 : Cond.methodLink "ImposeSheets$SchemeReader" 70 ⟨"ImposeSheets$SchemeReader", "next", "()I"⟩ ∈ lw_good := lw_g 312 (by decide +kernel) rfl
set_option maxRecDepth 100000 in
theorem w_315 : Cond.code y_Re_next c_Re_next 1 (some .int) ∈ lw_good := lw_g 315 rfl rfl
theorem w_62 : Cond.initialized "ImposeSheets$SchemeReader" ∈ lw_good := lw_g 62 (by decide +kernel) rfl
theorem w_314 : Cond.instanceMethod ⟨"ImposeSheets$SchemeReader", "next", "()I"⟩ ∈ lw_good := lw_g 314 (by decide +kernel) rfl
theorem w_2 : Cond.selects "ImposeSheets$SchemeReader" ⟨"ImposeSheets$SchemeReader", "next", "()I"⟩ ⟨"ImposeSheets$SchemeReader", "next", "()I"⟩ ∈ lw_good := lw_g 2 (by decide +kernel) rfl
theorem w_320 : Cond.methodLink "ImposeSheets$SchemeReader" 97 ⟨"ImposeSheets$SchemeReader", "isDigit", "(I)Z"⟩ ∈ lw_good := lw_g 320 (by decide +kernel) rfl
set_option maxRecDepth 100000 in
theorem w_322 : Cond.code y_Re_isDigit c_Re_isDigit 1 (some .boolean) ∈ lw_good := lw_g 322 rfl rfl
theorem w_321 : Cond.static ⟨"ImposeSheets$SchemeReader", "isDigit", "(I)Z"⟩ ∈ lw_good := lw_g 321 (by decide +kernel) rfl
theorem w_323 : Cond.methodLink "ImposeSheets$SchemeReader" 80 ⟨"ImposeSheets$SchemeReader", "failAt", "(I)Z"⟩ ∈ lw_good := lw_g 323 (by decide +kernel) rfl
set_option maxRecDepth 100000 in
theorem w_326 : Cond.code y_Re_failAt c_Re_failAt 2 (some .boolean) ∈ lw_good := lw_g 326 rfl rfl
theorem w_325 : Cond.instanceMethod ⟨"ImposeSheets$SchemeReader", "failAt", "(I)Z"⟩ ∈ lw_good := lw_g 325 (by decide +kernel) rfl
theorem w_3 : Cond.selects "ImposeSheets$SchemeReader" ⟨"ImposeSheets$SchemeReader", "failAt", "(I)Z"⟩ ⟨"ImposeSheets$SchemeReader", "failAt", "(I)Z"⟩ ∈ lw_good := lw_g 3 (by decide +kernel) rfl
theorem w_330 : Cond.methodLink "ImposeSheets" 195 ⟨"java/lang/Math", "floorDiv", "(II)I"⟩ ∈ lw_good := lw_g 330 (by decide +kernel) rfl
set_option maxRecDepth 100000 in
theorem w_332 : Cond.code y_Ma_floorDiv c_Ma_floorDiv 3 (some .int) ∈ lw_good := lw_g 332 rfl rfl
theorem w_69 : Cond.initialized "java/lang/Math" ∈ lw_good := lw_g 69 (by decide +kernel) rfl
theorem w_331 : Cond.static ⟨"java/lang/Math", "floorDiv", "(II)I"⟩ ∈ lw_good := lw_g 331 (by decide +kernel) rfl
theorem w_241 : Cond.fieldLink "ImposeSheets$Scheme" 24 "ImposeSheets$Scheme" "columns" "I" ∈ lw_good := lw_g 241 (by decide +kernel) rfl
theorem w_244 : Cond.fieldLink "ImposeSheets$Scheme" 28 "ImposeSheets$Scheme" "rows" "I" ∈ lw_good := lw_g 244 (by decide +kernel) rfl
theorem w_246 : Cond.fieldLink "ImposeSheets$Scheme" 31 "ImposeSheets$Scheme" "foldCount" "I" ∈ lw_good := lw_g 246 (by decide +kernel) rfl
theorem w_248 : Cond.fieldLink "ImposeSheets$Scheme" 34 "ImposeSheets$Scheme" "told" "Z" ∈ lw_good := lw_g 248 (by decide +kernel) rfl
theorem w_308 : Cond.methodLink "ImposeSheets$SchemeReader" 54 ⟨"ImposeSheets$SchemeReader", "readNumber", "(I)Z"⟩ ∈ lw_good := lw_g 308 (by decide +kernel) rfl
set_option maxRecDepth 100000 in
theorem w_311 : Cond.code y_Re_readNumber c_Re_readNumber 4 (some .boolean) ∈ lw_good := lw_g 311 rfl rfl
theorem w_310 : Cond.instanceMethod ⟨"ImposeSheets$SchemeReader", "readNumber", "(I)Z"⟩ ∈ lw_good := lw_g 310 (by decide +kernel) rfl
theorem w_1 : Cond.selects "ImposeSheets$SchemeReader" ⟨"ImposeSheets$SchemeReader", "readNumber", "(I)Z"⟩ ⟨"ImposeSheets$SchemeReader", "readNumber", "(I)Z"⟩ ∈ lw_good := lw_g 1 (by decide +kernel) rfl
theorem w_327 : Cond.methodLinkNest "ImposeSheets$SchemeReader" 57 ⟨"ImposeSheets", "downward", "(II)I"⟩ "ImposeSheets" ∈ lw_nest := lw_n 327 (by decide +kernel) rfl
set_option maxRecDepth 100000 in
theorem w_329 : Cond.code y_Im_downward c_Im_downward 2 (some .int) ∈ lw_good := lw_g 329 rfl rfl
theorem w_60 : Cond.initialized "ImposeSheets" ∈ lw_good := lw_g 60 (by decide +kernel) rfl
theorem w_328 : Cond.static ⟨"ImposeSheets", "downward", "(II)I"⟩ ∈ lw_good := lw_g 328 (by decide +kernel) rfl
theorem w_333 : Cond.methodLink "ImposeSheets$SchemeReader" 61 ⟨"java/lang/Math", "min", "(II)I"⟩ ∈ lw_good := lw_g 333 (by decide +kernel) rfl
set_option maxRecDepth 100000 in
theorem w_335 : Cond.code y_Ma_min c_Ma_min 2 (some .int) ∈ lw_good := lw_g 335 rfl rfl
theorem w_334 : Cond.static ⟨"java/lang/Math", "min", "(II)I"⟩ ∈ lw_good := lw_g 334 (by decide +kernel) rfl
theorem w_336 : Cond.methodLink "ImposeSheets$SchemeReader" 44 ⟨"ImposeSheets$SchemeReader", "expect", "(I)Z"⟩ ∈ lw_good := lw_g 336 (by decide +kernel) rfl
set_option maxRecDepth 100000 in
theorem w_339 : Cond.code y_Re_expect c_Re_expect 2 (some .boolean) ∈ lw_good := lw_g 339 rfl rfl
theorem w_338 : Cond.instanceMethod ⟨"ImposeSheets$SchemeReader", "expect", "(I)Z"⟩ ∈ lw_good := lw_g 338 (by decide +kernel) rfl
theorem w_4 : Cond.selects "ImposeSheets$SchemeReader" ⟨"ImposeSheets$SchemeReader", "expect", "(I)Z"⟩ ⟨"ImposeSheets$SchemeReader", "expect", "(I)Z"⟩ ∈ lw_good := lw_g 4 (by decide +kernel) rfl
theorem w_340 : Cond.methodLink "ImposeSheets$SchemeReader" 66 ⟨"ImposeSheets$Scheme", "begin", "(II)V"⟩ ∈ lw_good := lw_g 340 (by decide +kernel) rfl
set_option maxRecDepth 100000 in
theorem w_343 : Cond.code y_Sc_begin c_Sc_begin 3 none ∈ lw_good := lw_g 343 rfl rfl
theorem w_67 : Cond.initialized "ImposeSheets$Scheme" ∈ lw_good := lw_g 67 (by decide +kernel) rfl
theorem w_341 : Cond.instanceMethod ⟨"ImposeSheets$Scheme", "begin", "(II)V"⟩ ∈ lw_good := lw_g 341 (by decide +kernel) rfl
theorem w_342 : Cond.selects "ImposeSheets$Scheme" ⟨"ImposeSheets$Scheme", "begin", "(II)V"⟩ ⟨"ImposeSheets$Scheme", "begin", "(II)V"⟩ ∈ lw_good := lw_g 342 (by decide +kernel) rfl
theorem w_236 : Cond.fieldLink "ImposeSheets$Scheme" 9 "ImposeSheets$Scheme" "folds" "[I" ∈ lw_good := lw_g 236 (by decide +kernel) rfl
theorem w_240 : Cond.fieldLink "ImposeSheets$Scheme" 21 "ImposeSheets$Scheme" "leaves" "[I" ∈ lw_good := lw_g 240 (by decide +kernel) rfl
theorem w_366 : Cond.methodLink "ImposeSheets$Folding" 60 ⟨"ImposeSheets$Scheme", "cells", "()I"⟩ ∈ lw_good := lw_g 366 (by decide +kernel) rfl
set_option maxRecDepth 100000 in
theorem w_369 : Cond.code y_Sc_cells c_Sc_cells 1 (some .int) ∈ lw_good := lw_g 369 rfl rfl
theorem w_367 : Cond.instanceMethod ⟨"ImposeSheets$Scheme", "cells", "()I"⟩ ∈ lw_good := lw_g 367 (by decide +kernel) rfl
theorem w_368 : Cond.selects "ImposeSheets$Scheme" ⟨"ImposeSheets$Scheme", "cells", "()I"⟩ ⟨"ImposeSheets$Scheme", "cells", "()I"⟩ ∈ lw_good := lw_g 368 (by decide +kernel) rfl
theorem w_370 : Cond.methodLink "ImposeSheets$Folding" 64 ⟨"ImposeSheets$Scheme", "setLeaf", "(II)V"⟩ ∈ lw_good := lw_g 370 (by decide +kernel) rfl
set_option maxRecDepth 100000 in
theorem w_373 : Cond.code y_Sc_setLeaf c_Sc_setLeaf 3 none ∈ lw_good := lw_g 373 rfl rfl
theorem w_371 : Cond.instanceMethod ⟨"ImposeSheets$Scheme", "setLeaf", "(II)V"⟩ ∈ lw_good := lw_g 371 (by decide +kernel) rfl
theorem w_372 : Cond.selects "ImposeSheets$Scheme" ⟨"ImposeSheets$Scheme", "setLeaf", "(II)V"⟩ ⟨"ImposeSheets$Scheme", "setLeaf", "(II)V"⟩ ∈ lw_good := lw_g 372 (by decide +kernel) rfl
theorem w_243 : Cond.fieldLinkNest "ImposeSheets$Folding" 68 "ImposeSheets$Scheme" "columns" "I" "ImposeSheets" ∈ lw_nest := lw_n 243 (by decide +kernel) rfl
theorem w_114 : Cond.fieldLink "ImposeSheets$Folding" 15 "ImposeSheets$Folding" "stride" "I" ∈ lw_good := lw_g 114 (by decide +kernel) rfl
theorem w_115 : Cond.fieldLink "ImposeSheets$Folding" 19 "ImposeSheets$Folding" "left" "I" ∈ lw_good := lw_g 115 (by decide +kernel) rfl
theorem w_116 : Cond.fieldLink "ImposeSheets$Folding" 22 "ImposeSheets$Folding" "top" "I" ∈ lw_good := lw_g 116 (by decide +kernel) rfl
theorem w_117 : Cond.fieldLink "ImposeSheets$Folding" 25 "ImposeSheets$Folding" "columns" "I" ∈ lw_good := lw_g 117 (by decide +kernel) rfl
theorem w_245 : Cond.fieldLinkNest "ImposeSheets$Folding" 69 "ImposeSheets$Scheme" "rows" "I" "ImposeSheets" ∈ lw_nest := lw_n 245 (by decide +kernel) rfl
theorem w_118 : Cond.fieldLink "ImposeSheets$Folding" 28 "ImposeSheets$Folding" "rows" "I" ∈ lw_good := lw_g 118 (by decide +kernel) rfl
theorem w_119 : Cond.fieldLink "ImposeSheets$Folding" 31 "ImposeSheets$Folding" "height" "I" ∈ lw_good := lw_g 119 (by decide +kernel) rfl
theorem w_113 : Cond.fieldLink "ImposeSheets$Folding" 9 "ImposeSheets$Folding" "piles" "[I" ∈ lw_good := lw_g 113 (by decide +kernel) rfl
theorem w_386 : Cond.methodLink "ImposeSheets$Folding" 77 ⟨"ImposeSheets$Folding", "putOver", "(III)V"⟩ ∈ lw_good := lw_g 386 (by decide +kernel) rfl
set_option maxRecDepth 100000 in
theorem w_389 : Cond.code y_Fo_putOver c_Fo_putOver 5 none ∈ lw_good := lw_g 389 rfl rfl
theorem w_63 : Cond.initialized "ImposeSheets$Folding" ∈ lw_good := lw_g 63 (by decide +kernel) rfl
theorem w_388 : Cond.instanceMethod ⟨"ImposeSheets$Folding", "putOver", "(III)V"⟩ ∈ lw_good := lw_g 388 (by decide +kernel) rfl
theorem w_9 : Cond.selects "ImposeSheets$Folding" ⟨"ImposeSheets$Folding", "putOver", "(III)V"⟩ ⟨"ImposeSheets$Folding", "putOver", "(III)V"⟩ ∈ lw_good := lw_g 9 (by decide +kernel) rfl
theorem w_382 : Cond.methodLink "ImposeSheets$Folding" 70 ⟨"ImposeSheets$Folding", "foldAcross", "(I)V"⟩ ∈ lw_good := lw_g 382 (by decide +kernel) rfl
set_option maxRecDepth 100000 in
theorem w_385 : Cond.code y_Fo_foldAcross c_Fo_foldAcross 6 none ∈ lw_good := lw_g 385 rfl rfl
theorem w_384 : Cond.instanceMethod ⟨"ImposeSheets$Folding", "foldAcross", "(I)V"⟩ ∈ lw_good := lw_g 384 (by decide +kernel) rfl
theorem w_8 : Cond.selects "ImposeSheets$Folding" ⟨"ImposeSheets$Folding", "foldAcross", "(I)V"⟩ ⟨"ImposeSheets$Folding", "foldAcross", "(I)V"⟩ ∈ lw_good := lw_g 8 (by decide +kernel) rfl
theorem w_390 : Cond.methodLink "ImposeSheets$Folding" 74 ⟨"ImposeSheets$Folding", "foldDown", "(I)V"⟩ ∈ lw_good := lw_g 390 (by decide +kernel) rfl
set_option maxRecDepth 100000 in
theorem w_393 : Cond.code y_Fo_foldDown c_Fo_foldDown 6 none ∈ lw_good := lw_g 393 rfl rfl
theorem w_392 : Cond.instanceMethod ⟨"ImposeSheets$Folding", "foldDown", "(I)V"⟩ ∈ lw_good := lw_g 392 (by decide +kernel) rfl
theorem w_10 : Cond.selects "ImposeSheets$Folding" ⟨"ImposeSheets$Folding", "foldDown", "(I)V"⟩ ⟨"ImposeSheets$Folding", "foldDown", "(I)V"⟩ ∈ lw_good := lw_g 10 (by decide +kernel) rfl
theorem w_359 : Cond.methodLink "ImposeSheets$Folding" 34 ⟨"ImposeSheets$Scheme", "isCut", "()Z"⟩ ∈ lw_good := lw_g 359 (by decide +kernel) rfl
set_option maxRecDepth 100000 in
theorem w_362 : Cond.code y_Sc_isCut c_Sc_isCut 1 (some .boolean) ∈ lw_good := lw_g 362 rfl rfl
theorem w_360 : Cond.instanceMethod ⟨"ImposeSheets$Scheme", "isCut", "()Z"⟩ ∈ lw_good := lw_g 360 (by decide +kernel) rfl
theorem w_361 : Cond.selects "ImposeSheets$Scheme" ⟨"ImposeSheets$Scheme", "isCut", "()Z"⟩ ⟨"ImposeSheets$Scheme", "isCut", "()Z"⟩ ∈ lw_good := lw_g 361 (by decide +kernel) rfl
theorem w_363 : Cond.methodLink "ImposeSheets$Folding" 40 ⟨"ImposeSheets$Folding", "cutLeaves", "(LImposeSheets$Scheme;)V"⟩ ∈ lw_good := lw_g 363 (by decide +kernel) rfl
set_option maxRecDepth 100000 in
theorem w_365 : Cond.code y_Fo_cutLeaves c_Fo_cutLeaves 3 none ∈ lw_good := lw_g 365 rfl rfl
theorem w_364 : Cond.static ⟨"ImposeSheets$Folding", "cutLeaves", "(LImposeSheets$Scheme;)V"⟩ ∈ lw_good := lw_g 364 (by decide +kernel) rfl
theorem w_374 : Cond.methodLink "ImposeSheets$Folding" 44 ⟨"ImposeSheets$Folding", "layOut", "(LImposeSheets$Scheme;)V"⟩ ∈ lw_good := lw_g 374 (by decide +kernel) rfl
set_option maxRecDepth 100000 in
theorem w_377 : Cond.code y_Fo_layOut c_Fo_layOut 3 none ∈ lw_good := lw_g 377 rfl rfl
theorem w_376 : Cond.instanceMethod ⟨"ImposeSheets$Folding", "layOut", "(LImposeSheets$Scheme;)V"⟩ ∈ lw_good := lw_g 376 (by decide +kernel) rfl
theorem w_6 : Cond.selects "ImposeSheets$Folding" ⟨"ImposeSheets$Folding", "layOut", "(LImposeSheets$Scheme;)V"⟩ ⟨"ImposeSheets$Folding", "layOut", "(LImposeSheets$Scheme;)V"⟩ ∈ lw_good := lw_g 6 (by decide +kernel) rfl
theorem w_247 : Cond.fieldLinkNest "ImposeSheets$Folding" 47 "ImposeSheets$Scheme" "foldCount" "I" "ImposeSheets" ∈ lw_nest := lw_n 247 (by decide +kernel) rfl
theorem w_237 : Cond.fieldLinkNest "ImposeSheets$Folding" 50 "ImposeSheets$Scheme" "folds" "[I" "ImposeSheets" ∈ lw_nest := lw_n 237 (by decide +kernel) rfl
theorem w_378 : Cond.methodLink "ImposeSheets$Folding" 53 ⟨"ImposeSheets$Folding", "foldOnce", "(I)Z"⟩ ∈ lw_good := lw_g 378 (by decide +kernel) rfl
set_option maxRecDepth 100000 in
theorem w_381 : Cond.code y_Fo_foldOnce c_Fo_foldOnce 3 (some .boolean) ∈ lw_good := lw_g 381 rfl rfl
theorem w_380 : Cond.instanceMethod ⟨"ImposeSheets$Folding", "foldOnce", "(I)Z"⟩ ∈ lw_good := lw_g 380 (by decide +kernel) rfl
theorem w_7 : Cond.selects "ImposeSheets$Folding" ⟨"ImposeSheets$Folding", "foldOnce", "(I)Z"⟩ ⟨"ImposeSheets$Folding", "foldOnce", "(I)Z"⟩ ∈ lw_good := lw_g 7 (by decide +kernel) rfl
theorem w_394 : Cond.methodLink "ImposeSheets$Folding" 57 ⟨"ImposeSheets$Folding", "takePile", "(LImposeSheets$Scheme;)V"⟩ ∈ lw_good := lw_g 394 (by decide +kernel) rfl
set_option maxRecDepth 100000 in
theorem w_397 : Cond.code y_Fo_takePile c_Fo_takePile 4 none ∈ lw_good := lw_g 397 rfl rfl
theorem w_396 : Cond.instanceMethod ⟨"ImposeSheets$Folding", "takePile", "(LImposeSheets$Scheme;)V"⟩ ∈ lw_good := lw_g 396 (by decide +kernel) rfl
theorem w_11 : Cond.selects "ImposeSheets$Folding" ⟨"ImposeSheets$Folding", "takePile", "(LImposeSheets$Scheme;)V"⟩ ⟨"ImposeSheets$Folding", "takePile", "(LImposeSheets$Scheme;)V"⟩ ∈ lw_good := lw_g 11 (by decide +kernel) rfl
theorem w_348 : Cond.methodLink "ImposeSheets$SchemeReader" 73 ⟨"ImposeSheets$SchemeReader", "isFold", "(I)Z"⟩ ∈ lw_good := lw_g 348 (by decide +kernel) rfl
set_option maxRecDepth 100000 in
theorem w_350 : Cond.code y_Re_isFold c_Re_isFold 1 (some .boolean) ∈ lw_good := lw_g 350 rfl rfl
theorem w_349 : Cond.static ⟨"ImposeSheets$SchemeReader", "isFold", "(I)Z"⟩ ∈ lw_good := lw_g 349 (by decide +kernel) rfl
theorem w_351 : Cond.methodLink "ImposeSheets$SchemeReader" 76 ⟨"ImposeSheets$Scheme", "addFold", "(I)V"⟩ ∈ lw_good := lw_g 351 (by decide +kernel) rfl
set_option maxRecDepth 100000 in
theorem w_354 : Cond.code y_Sc_addFold c_Sc_addFold 2 none ∈ lw_good := lw_g 354 rfl rfl
theorem w_352 : Cond.instanceMethod ⟨"ImposeSheets$Scheme", "addFold", "(I)V"⟩ ∈ lw_good := lw_g 352 (by decide +kernel) rfl
theorem w_353 : Cond.selects "ImposeSheets$Scheme" ⟨"ImposeSheets$Scheme", "addFold", "(I)V"⟩ ⟨"ImposeSheets$Scheme", "addFold", "(I)V"⟩ ∈ lw_good := lw_g 353 (by decide +kernel) rfl
theorem w_136 : Cond.fieldLink "ImposeSheets$SchemeReader" 12 "ImposeSheets$SchemeReader" "folding" "LImposeSheets$Folding;" ∈ lw_good := lw_g 136 (by decide +kernel) rfl
theorem w_355 : Cond.methodLink "ImposeSheets$SchemeReader" 83 ⟨"ImposeSheets$Folding", "makeBooklet", "(LImposeSheets$Scheme;)Z"⟩ ∈ lw_good := lw_g 355 (by decide +kernel) rfl
set_option maxRecDepth 100000 in
theorem w_358 : Cond.code y_Fo_makeBooklet c_Fo_makeBooklet 3 (some .boolean) ∈ lw_good := lw_g 358 rfl rfl
theorem w_356 : Cond.instanceMethod ⟨"ImposeSheets$Folding", "makeBooklet", "(LImposeSheets$Scheme;)Z"⟩ ∈ lw_good := lw_g 356 (by decide +kernel) rfl
theorem w_357 : Cond.selects "ImposeSheets$Folding" ⟨"ImposeSheets$Folding", "makeBooklet", "(LImposeSheets$Scheme;)Z"⟩ ⟨"ImposeSheets$Folding", "makeBooklet", "(LImposeSheets$Scheme;)Z"⟩ ∈ lw_good := lw_g 357 (by decide +kernel) rfl
theorem w_411 : Cond.methodLink "ImposeSheets$Scheme" 38 ⟨"ImposeSheets$Scheme", "cells", "()I"⟩ ∈ lw_good := lw_g 411 (by decide +kernel) rfl
theorem w_238 : Cond.fieldLink "ImposeSheets$Scheme" 15 "ImposeSheets$Scheme" "toldPages" "[I" ∈ lw_good := lw_g 238 (by decide +kernel) rfl
theorem w_239 : Cond.fieldLink "ImposeSheets$Scheme" 18 "ImposeSheets$Scheme" "toldTurned" "[I" ∈ lw_good := lw_g 239 (by decide +kernel) rfl
theorem w_406 : Cond.methodLink "ImposeSheets$SchemeReader" 48 ⟨"ImposeSheets$Scheme", "cells", "()I"⟩ ∈ lw_good := lw_g 406 (by decide +kernel) rfl
theorem w_407 : Cond.methodLink "ImposeSheets$SchemeReader" 90 ⟨"ImposeSheets$Scheme", "pageCount", "()I"⟩ ∈ lw_good := lw_g 407 (by decide +kernel) rfl
set_option maxRecDepth 100000 in
theorem w_410 : Cond.code y_Sc_pageCount c_Sc_pageCount 1 (some .int) ∈ lw_good := lw_g 410 rfl rfl
theorem w_408 : Cond.instanceMethod ⟨"ImposeSheets$Scheme", "pageCount", "()I"⟩ ∈ lw_good := lw_g 408 (by decide +kernel) rfl
theorem w_409 : Cond.selects "ImposeSheets$Scheme" ⟨"ImposeSheets$Scheme", "pageCount", "()I"⟩ ⟨"ImposeSheets$Scheme", "pageCount", "()I"⟩ ∈ lw_good := lw_g 409 (by decide +kernel) rfl
theorem w_412 : Cond.methodLink "ImposeSheets$SchemeReader" 93 ⟨"ImposeSheets$Scheme", "tellPage", "(IIZ)V"⟩ ∈ lw_good := lw_g 412 (by decide +kernel) rfl
set_option maxRecDepth 100000 in
theorem w_415 : Cond.code y_Sc_tellPage c_Sc_tellPage 4 none ∈ lw_good := lw_g 415 rfl rfl
theorem w_413 : Cond.instanceMethod ⟨"ImposeSheets$Scheme", "tellPage", "(IIZ)V"⟩ ∈ lw_good := lw_g 413 (by decide +kernel) rfl
theorem w_414 : Cond.selects "ImposeSheets$Scheme" ⟨"ImposeSheets$Scheme", "tellPage", "(IIZ)V"⟩ ⟨"ImposeSheets$Scheme", "tellPage", "(IIZ)V"⟩ ∈ lw_good := lw_g 414 (by decide +kernel) rfl
theorem w_402 : Cond.methodLink "ImposeSheets$SchemeReader" 86 ⟨"ImposeSheets$SchemeReader", "readSide", "(LImposeSheets$Scheme;I)Z"⟩ ∈ lw_good := lw_g 402 (by decide +kernel) rfl
set_option maxRecDepth 100000 in
theorem w_405 : Cond.code y_Re_readSide c_Re_readSide 6 (some .boolean) ∈ lw_good := lw_g 405 rfl rfl
theorem w_404 : Cond.instanceMethod ⟨"ImposeSheets$SchemeReader", "readSide", "(LImposeSheets$Scheme;I)Z"⟩ ∈ lw_good := lw_g 404 (by decide +kernel) rfl
theorem w_13 : Cond.selects "ImposeSheets$SchemeReader" ⟨"ImposeSheets$SchemeReader", "readSide", "(LImposeSheets$Scheme;I)Z"⟩ ⟨"ImposeSheets$SchemeReader", "readSide", "(LImposeSheets$Scheme;I)Z"⟩ ∈ lw_good := lw_g 13 (by decide +kernel) rfl
theorem w_304 : Cond.methodLink "ImposeSheets$SchemeReader" 32 ⟨"ImposeSheets$SchemeReader", "readSize", "(LImposeSheets$Scheme;)Z"⟩ ∈ lw_good := lw_g 304 (by decide +kernel) rfl
set_option maxRecDepth 100000 in
theorem w_307 : Cond.code y_Re_readSize c_Re_readSize 4 (some .boolean) ∈ lw_good := lw_g 307 rfl rfl
theorem w_306 : Cond.instanceMethod ⟨"ImposeSheets$SchemeReader", "readSize", "(LImposeSheets$Scheme;)Z"⟩ ∈ lw_good := lw_g 306 (by decide +kernel) rfl
theorem w_0 : Cond.selects "ImposeSheets$SchemeReader" ⟨"ImposeSheets$SchemeReader", "readSize", "(LImposeSheets$Scheme;)Z"⟩ ⟨"ImposeSheets$SchemeReader", "readSize", "(LImposeSheets$Scheme;)Z"⟩ ∈ lw_good := lw_g 0 (by decide +kernel) rfl
theorem w_344 : Cond.methodLink "ImposeSheets$SchemeReader" 36 ⟨"ImposeSheets$SchemeReader", "readFolds", "(LImposeSheets$Scheme;)Z"⟩ ∈ lw_good := lw_g 344 (by decide +kernel) rfl
set_option maxRecDepth 100000 in
theorem w_347 : Cond.code y_Re_readFolds c_Re_readFolds 4 (some .boolean) ∈ lw_good := lw_g 347 rfl rfl
theorem w_346 : Cond.instanceMethod ⟨"ImposeSheets$SchemeReader", "readFolds", "(LImposeSheets$Scheme;)Z"⟩ ∈ lw_good := lw_g 346 (by decide +kernel) rfl
theorem w_5 : Cond.selects "ImposeSheets$SchemeReader" ⟨"ImposeSheets$SchemeReader", "readFolds", "(LImposeSheets$Scheme;)Z"⟩ ⟨"ImposeSheets$SchemeReader", "readFolds", "(LImposeSheets$Scheme;)Z"⟩ ∈ lw_good := lw_g 5 (by decide +kernel) rfl
theorem w_398 : Cond.methodLink "ImposeSheets$SchemeReader" 39 ⟨"ImposeSheets$SchemeReader", "readPages", "(LImposeSheets$Scheme;)Z"⟩ ∈ lw_good := lw_g 398 (by decide +kernel) rfl
set_option maxRecDepth 100000 in
theorem w_401 : Cond.code y_Re_readPages c_Re_readPages 2 (some .boolean) ∈ lw_good := lw_g 401 rfl rfl
theorem w_400 : Cond.instanceMethod ⟨"ImposeSheets$SchemeReader", "readPages", "(LImposeSheets$Scheme;)Z"⟩ ∈ lw_good := lw_g 400 (by decide +kernel) rfl
theorem w_12 : Cond.selects "ImposeSheets$SchemeReader" ⟨"ImposeSheets$SchemeReader", "readPages", "(LImposeSheets$Scheme;)Z"⟩ ⟨"ImposeSheets$SchemeReader", "readPages", "(LImposeSheets$Scheme;)Z"⟩ ∈ lw_good := lw_g 12 (by decide +kernel) rfl
theorem w_267 : Cond.fieldLink "ImposeSheets" 21 "ImposeSheets" "reader" "LImposeSheets$SchemeReader;" ∈ lw_good := lw_g 267 (by decide +kernel) rfl
theorem w_272 : Cond.fieldLink "ImposeSheets" 59 "ImposeSheets" "spare" "LImposeSheets$Scheme;" ∈ lw_good := lw_g 272 (by decide +kernel) rfl
theorem w_300 : Cond.methodLink "ImposeSheets" 66 ⟨"ImposeSheets$SchemeReader", "readInto", "(LImposeSheets$Scheme;)I"⟩ ∈ lw_good := lw_g 300 (by decide +kernel) rfl
set_option maxRecDepth 100000 in
theorem w_303 : Cond.code y_Re_readInto c_Re_readInto 2 (some .int) ∈ lw_good := lw_g 303 rfl rfl
theorem w_301 : Cond.instanceMethod ⟨"ImposeSheets$SchemeReader", "readInto", "(LImposeSheets$Scheme;)I"⟩ ∈ lw_good := lw_g 301 (by decide +kernel) rfl
theorem w_302 : Cond.selects "ImposeSheets$SchemeReader" ⟨"ImposeSheets$SchemeReader", "readInto", "(LImposeSheets$Scheme;)I"⟩ ⟨"ImposeSheets$SchemeReader", "readInto", "(LImposeSheets$Scheme;)I"⟩ ∈ lw_good := lw_g 302 (by decide +kernel) rfl
theorem w_416 : Cond.methodLink "ImposeSheets" 70 ⟨"ImposeSheets$Tape", "empty", "()V"⟩ ∈ lw_good := lw_g 416 (by decide +kernel) rfl
set_option maxRecDepth 100000 in
theorem w_419 : Cond.code y_Ta_empty c_Ta_empty 1 none ∈ lw_good := lw_g 419 rfl rfl
theorem w_417 : Cond.instanceMethod ⟨"ImposeSheets$Tape", "empty", "()V"⟩ ∈ lw_good := lw_g 417 (by decide +kernel) rfl
theorem w_418 : Cond.selects "ImposeSheets$Tape" ⟨"ImposeSheets$Tape", "empty", "()V"⟩ ⟨"ImposeSheets$Tape", "empty", "()V"⟩ ∈ lw_good := lw_g 418 (by decide +kernel) rfl
theorem w_271 : Cond.fieldLink "ImposeSheets" 55 "ImposeSheets" "latest" "LImposeSheets$Scheme;" ∈ lw_good := lw_g 271 (by decide +kernel) rfl
theorem w_437 : Cond.methodLink "ImposeSheets$Scheme" 42 ⟨"ImposeSheets$Scheme", "leafOf", "(I)I"⟩ ∈ lw_good := lw_g 437 (by decide +kernel) rfl
set_option maxRecDepth 100000 in
theorem w_440 : Cond.code y_Sc_leafOf c_Sc_leafOf 3 (some .int) ∈ lw_good := lw_g 440 rfl rfl
theorem w_439 : Cond.instanceMethod ⟨"ImposeSheets$Scheme", "leafOf", "(I)I"⟩ ∈ lw_good := lw_g 439 (by decide +kernel) rfl
theorem w_15 : Cond.selects "ImposeSheets$Scheme" ⟨"ImposeSheets$Scheme", "leafOf", "(I)I"⟩ ⟨"ImposeSheets$Scheme", "leafOf", "(I)I"⟩ ∈ lw_good := lw_g 15 (by decide +kernel) rfl
theorem w_441 : Cond.methodLink "ImposeSheets$Scheme" 46 ⟨"ImposeSheets$Scheme", "sideOf", "(I)I"⟩ ∈ lw_good := lw_g 441 (by decide +kernel) rfl
set_option maxRecDepth 100000 in
theorem w_444 : Cond.code y_Sc_sideOf c_Sc_sideOf 3 (some .int) ∈ lw_good := lw_g 444 rfl rfl
theorem w_443 : Cond.instanceMethod ⟨"ImposeSheets$Scheme", "sideOf", "(I)I"⟩ ∈ lw_good := lw_g 443 (by decide +kernel) rfl
theorem w_16 : Cond.selects "ImposeSheets$Scheme" ⟨"ImposeSheets$Scheme", "sideOf", "(I)I"⟩ ⟨"ImposeSheets$Scheme", "sideOf", "(I)I"⟩ ∈ lw_good := lw_g 16 (by decide +kernel) rfl
theorem w_433 : Cond.methodLink "ImposeSheets$Scheme" 56 ⟨"ImposeSheets$Scheme", "spotOf", "(II)I"⟩ ∈ lw_good := lw_g 433 (by decide +kernel) rfl
set_option maxRecDepth 100000 in
theorem w_436 : Cond.code y_Sc_spotOf c_Sc_spotOf 7 (some .int) ∈ lw_good := lw_g 436 rfl rfl
theorem w_434 : Cond.instanceMethod ⟨"ImposeSheets$Scheme", "spotOf", "(II)I"⟩ ∈ lw_good := lw_g 434 (by decide +kernel) rfl
theorem w_435 : Cond.selects "ImposeSheets$Scheme" ⟨"ImposeSheets$Scheme", "spotOf", "(II)I"⟩ ⟨"ImposeSheets$Scheme", "spotOf", "(II)I"⟩ ∈ lw_good := lw_g 435 (by decide +kernel) rfl
theorem w_445 : Cond.methodLink "ImposeSheets$Scheme" 60 ⟨"ImposeSheets$Scheme", "turnedOf", "(II)I"⟩ ∈ lw_good := lw_g 445 (by decide +kernel) rfl
set_option maxRecDepth 100000 in
theorem w_448 : Cond.code y_Sc_turnedOf c_Sc_turnedOf 4 (some .int) ∈ lw_good := lw_g 448 rfl rfl
theorem w_446 : Cond.instanceMethod ⟨"ImposeSheets$Scheme", "turnedOf", "(II)I"⟩ ∈ lw_good := lw_g 446 (by decide +kernel) rfl
theorem w_447 : Cond.selects "ImposeSheets$Scheme" ⟨"ImposeSheets$Scheme", "turnedOf", "(II)I"⟩ ⟨"ImposeSheets$Scheme", "turnedOf", "(II)I"⟩ ∈ lw_good := lw_g 447 (by decide +kernel) rfl
theorem w_428 : Cond.methodLink "ImposeSheets$Scheme" 49 ⟨"ImposeSheets$Scheme", "pageCount", "()I"⟩ ∈ lw_good := lw_g 428 (by decide +kernel) rfl
theorem w_429 : Cond.methodLink "ImposeSheets$Scheme" 52 ⟨"ImposeSheets$Scheme", "isToldRight", "(II)Z"⟩ ∈ lw_good := lw_g 429 (by decide +kernel) rfl
set_option maxRecDepth 100000 in
theorem w_432 : Cond.code y_Sc_isToldRight c_Sc_isToldRight 4 (some .boolean) ∈ lw_good := lw_g 432 rfl rfl
theorem w_431 : Cond.instanceMethod ⟨"ImposeSheets$Scheme", "isToldRight", "(II)Z"⟩ ∈ lw_good := lw_g 431 (by decide +kernel) rfl
theorem w_14 : Cond.selects "ImposeSheets$Scheme" ⟨"ImposeSheets$Scheme", "isToldRight", "(II)Z"⟩ ⟨"ImposeSheets$Scheme", "isToldRight", "(II)Z"⟩ ∈ lw_good := lw_g 14 (by decide +kernel) rfl
theorem w_268 : Cond.fieldLink "ImposeSheets" 25 "ImposeSheets" "settings" "[I" ∈ lw_good := lw_g 268 (by decide +kernel) rfl
theorem w_424 : Cond.methodLink "ImposeSheets" 111 ⟨"ImposeSheets$Scheme", "firstBroken", "(I)I"⟩ ∈ lw_good := lw_g 424 (by decide +kernel) rfl
set_option maxRecDepth 100000 in
theorem w_427 : Cond.code y_Sc_firstBroken c_Sc_firstBroken 4 (some .int) ∈ lw_good := lw_g 427 rfl rfl
theorem w_425 : Cond.instanceMethod ⟨"ImposeSheets$Scheme", "firstBroken", "(I)I"⟩ ∈ lw_good := lw_g 425 (by decide +kernel) rfl
theorem w_426 : Cond.selects "ImposeSheets$Scheme" ⟨"ImposeSheets$Scheme", "firstBroken", "(I)I"⟩ ⟨"ImposeSheets$Scheme", "firstBroken", "(I)I"⟩ ∈ lw_good := lw_g 426 (by decide +kernel) rfl
theorem w_199 : Cond.fieldLink "ImposeSheets$Sharing" 30 "ImposeSheets$Sharing" "jobs" "I" ∈ lw_good := lw_g 199 (by decide +kernel) rfl
theorem w_201 : Cond.fieldLink "ImposeSheets$Sharing" 37 "ImposeSheets$Sharing" "waysLookedAt" "I" ∈ lw_good := lw_g 201 (by decide +kernel) rfl
theorem w_270 : Cond.fieldLink "ImposeSheets" 48 "ImposeSheets" "sharing" "LImposeSheets$Sharing;" ∈ lw_good := lw_g 270 (by decide +kernel) rfl
theorem w_453 : Cond.methodLink "ImposeSheets" 174 ⟨"ImposeSheets$Sharing", "forget", "()V"⟩ ∈ lw_good := lw_g 453 (by decide +kernel) rfl
set_option maxRecDepth 100000 in
theorem w_456 : Cond.code y_Sh_forget c_Sh_forget 1 none ∈ lw_good := lw_g 456 rfl rfl
theorem w_66 : Cond.initialized "ImposeSheets$Sharing" ∈ lw_good := lw_g 66 (by decide +kernel) rfl
theorem w_454 : Cond.instanceMethod ⟨"ImposeSheets$Sharing", "forget", "()V"⟩ ∈ lw_good := lw_g 454 (by decide +kernel) rfl
theorem w_455 : Cond.selects "ImposeSheets$Sharing" ⟨"ImposeSheets$Sharing", "forget", "()V"⟩ ⟨"ImposeSheets$Sharing", "forget", "()V"⟩ ∈ lw_good := lw_g 455 (by decide +kernel) rfl
theorem w_831 : Cond.fieldLink "ImposeSheetsModel" 92 "ImposeSheetsModel" "thrown" "I" ∈ lw_good := lw_g 831 (by decide +kernel) rfl
theorem w_832 : Cond.fieldLink "ImposeSheetsModel" 96 "ImposeSheetsModel" "taped" "I" ∈ lw_good := lw_g 832 (by decide +kernel) rfl
theorem w_833 : Cond.fieldLink "ImposeSheetsModel" 7 "ImposeSheetsModel" "tape" "[I" ∈ lw_good := lw_g 833 (by decide +kernel) rfl
theorem w_1006 : Cond.constantLong "ImposeSheetsModel" 99 (255) ∈ lw_good := lw_g 1006 (by decide +kernel) rfl
theorem w_835 : Cond.fieldLink "ImposeSheetsModel" 101 "ImposeSheetsModel" "place" "I" ∈ lw_good := lw_g 835 (by decide +kernel) rfl
theorem w_834 : Cond.fieldLink "ImposeSheetsModel" 104 "ImposeSheetsModel" "size" "I" ∈ lw_good := lw_g 834 (by decide +kernel) rfl
theorem w_1019 : Cond.methodLink "ImposeSheetsModel" 107 ⟨"ImposeSheetsModel", "byteAt", "()I"⟩ ∈ lw_good := lw_g 1019 (by decide +kernel) rfl
set_option maxRecDepth 100000 in
theorem w_1022 : Cond.code y_Mo_byteAt c_Mo_byteAt 1 (some .int) ∈ lw_good := lw_g 1022 rfl rfl
theorem w_68 : Cond.initialized "ImposeSheetsModel" ∈ lw_good := lw_g 68 (by decide +kernel) rfl
theorem w_1021 : Cond.instanceMethod ⟨"ImposeSheetsModel", "byteAt", "()I"⟩ ∈ lw_good := lw_g 1021 (by decide +kernel) rfl
theorem w_38 : Cond.selects "ImposeSheetsModel" ⟨"ImposeSheetsModel", "byteAt", "()I"⟩ ⟨"ImposeSheetsModel", "byteAt", "()I"⟩ ∈ lw_good := lw_g 38 (by decide +kernel) rfl
theorem w_836 : Cond.fieldLink "ImposeSheetsModel" 111 "ImposeSheetsModel" "fault" "I" ∈ lw_good := lw_g 836 (by decide +kernel) rfl
theorem w_1015 : Cond.methodLink "ImposeSheetsModel" 114 ⟨"ImposeSheetsModel", "isDigit", "()Z"⟩ ∈ lw_good := lw_g 1015 (by decide +kernel) rfl
set_option maxRecDepth 100000 in
theorem w_1018 : Cond.code y_Mo_isDigit c_Mo_isDigit 1 (some .boolean) ∈ lw_good := lw_g 1018 rfl rfl
theorem w_1017 : Cond.instanceMethod ⟨"ImposeSheetsModel", "isDigit", "()Z"⟩ ∈ lw_good := lw_g 1017 (by decide +kernel) rfl
theorem w_37 : Cond.selects "ImposeSheetsModel" ⟨"ImposeSheetsModel", "isDigit", "()Z"⟩ ⟨"ImposeSheetsModel", "isDigit", "()Z"⟩ ∈ lw_good := lw_g 37 (by decide +kernel) rfl
theorem w_1023 : Cond.methodLink "ImposeSheetsModel" 118 ⟨"ImposeSheetsModel", "fail", "(I)V"⟩ ∈ lw_good := lw_g 1023 (by decide +kernel) rfl
set_option maxRecDepth 100000 in
theorem w_1026 : Cond.code y_Mo_fail c_Mo_fail 2 none ∈ lw_good := lw_g 1026 rfl rfl
theorem w_1025 : Cond.instanceMethod ⟨"ImposeSheetsModel", "fail", "(I)V"⟩ ∈ lw_good := lw_g 1025 (by decide +kernel) rfl
theorem w_39 : Cond.selects "ImposeSheetsModel" ⟨"ImposeSheetsModel", "fail", "(I)V"⟩ ⟨"ImposeSheetsModel", "fail", "(I)V"⟩ ∈ lw_good := lw_g 39 (by decide +kernel) rfl
theorem w_846 : Cond.fieldLink "ImposeSheetsModel" 122 "ImposeSheetsModel" "readFolds" "I" ∈ lw_good := lw_g 846 (by decide +kernel) rfl
theorem w_1035 : Cond.methodLink "ImposeSheetsModel" 125 ⟨"ImposeSheetsModel", "isFold", "(I)Z"⟩ ∈ lw_good := lw_g 1035 (by decide +kernel) rfl
set_option maxRecDepth 100000 in
theorem w_1037 : Cond.code y_Mo_isFold c_Mo_isFold 1 (some .boolean) ∈ lw_good := lw_g 1037 rfl rfl
theorem w_1036 : Cond.static ⟨"ImposeSheetsModel", "isFold", "(I)Z"⟩ ∈ lw_good := lw_g 1036 (by decide +kernel) rfl
theorem w_848 : Cond.fieldLink "ImposeSheetsModel" 23 "ImposeSheetsModel" "readFold" "[I" ∈ lw_good := lw_g 848 (by decide +kernel) rfl
theorem w_844 : Cond.fieldLink "ImposeSheetsModel" 129 "ImposeSheetsModel" "readColumns" "I" ∈ lw_good := lw_g 844 (by decide +kernel) rfl
theorem w_845 : Cond.fieldLink "ImposeSheetsModel" 132 "ImposeSheetsModel" "readRows" "I" ∈ lw_good := lw_g 845 (by decide +kernel) rfl
theorem w_1038 : Cond.methodLink "ImposeSheetsModel" 135 ⟨"ImposeSheetsModel", "areRight", "(II[II)Z"⟩ ∈ lw_good := lw_g 1038 (by decide +kernel) rfl
set_option maxRecDepth 100000 in
theorem w_1040 : Cond.code y_Mo_areRight c_Mo_areRight 9 (some .boolean) ∈ lw_good := lw_g 1040 rfl rfl
theorem w_1039 : Cond.static ⟨"ImposeSheetsModel", "areRight", "(II[II)Z"⟩ ∈ lw_good := lw_g 1039 (by decide +kernel) rfl
theorem w_1027 : Cond.methodLink "ImposeSheetsModel" 139 ⟨"ImposeSheetsModel", "sign", "(I)V"⟩ ∈ lw_good := lw_g 1027 (by decide +kernel) rfl
set_option maxRecDepth 100000 in
theorem w_1030 : Cond.code y_Mo_sign c_Mo_sign 2 none ∈ lw_good := lw_g 1030 rfl rfl
theorem w_1029 : Cond.instanceMethod ⟨"ImposeSheetsModel", "sign", "(I)V"⟩ ∈ lw_good := lw_g 1029 (by decide +kernel) rfl
theorem w_40 : Cond.selects "ImposeSheetsModel" ⟨"ImposeSheetsModel", "sign", "(I)V"⟩ ⟨"ImposeSheetsModel", "sign", "(I)V"⟩ ∈ lw_good := lw_g 40 (by decide +kernel) rfl
theorem w_850 : Cond.fieldLink "ImposeSheetsModel" 26 "ImposeSheetsModel" "readPage" "[I" ∈ lw_good := lw_g 850 (by decide +kernel) rfl
theorem w_1011 : Cond.methodLink "ImposeSheetsModel" 142 ⟨"ImposeSheetsModel", "number", "(I)I"⟩ ∈ lw_good := lw_g 1011 (by decide +kernel) rfl
set_option maxRecDepth 100000 in
theorem w_1014 : Cond.code y_Mo_number c_Mo_number 4 (some .int) ∈ lw_good := lw_g 1014 rfl rfl
theorem w_1013 : Cond.instanceMethod ⟨"ImposeSheetsModel", "number", "(I)I"⟩ ∈ lw_good := lw_g 1013 (by decide +kernel) rfl
theorem w_36 : Cond.selects "ImposeSheetsModel" ⟨"ImposeSheetsModel", "number", "(I)I"⟩ ⟨"ImposeSheetsModel", "number", "(I)I"⟩ ∈ lw_good := lw_g 36 (by decide +kernel) rfl
theorem w_851 : Cond.fieldLink "ImposeSheetsModel" 29 "ImposeSheetsModel" "readDown" "[Z" ∈ lw_good := lw_g 851 (by decide +kernel) rfl
theorem w_1031 : Cond.methodLink "ImposeSheetsModel" 146 ⟨"ImposeSheetsModel", "readFolds", "()V"⟩ ∈ lw_good := lw_g 1031 (by decide +kernel) rfl
set_option maxRecDepth 100000 in
theorem w_1034 : Cond.code y_Mo_readFolds c_Mo_readFolds 2 none ∈ lw_good := lw_g 1034 rfl rfl
theorem w_1033 : Cond.instanceMethod ⟨"ImposeSheetsModel", "readFolds", "()V"⟩ ∈ lw_good := lw_g 1033 (by decide +kernel) rfl
theorem w_41 : Cond.selects "ImposeSheetsModel" ⟨"ImposeSheetsModel", "readFolds", "()V"⟩ ⟨"ImposeSheetsModel", "readFolds", "()V"⟩ ∈ lw_good := lw_g 41 (by decide +kernel) rfl
theorem w_849 : Cond.fieldLink "ImposeSheetsModel" 148 "ImposeSheetsModel" "readTold" "Z" ∈ lw_good := lw_g 849 (by decide +kernel) rfl
theorem w_1041 : Cond.methodLink "ImposeSheetsModel" 152 ⟨"ImposeSheetsModel", "readPages", "()V"⟩ ∈ lw_good := lw_g 1041 (by decide +kernel) rfl
set_option maxRecDepth 100000 in
theorem w_1044 : Cond.code y_Mo_readPages c_Mo_readPages 3 none ∈ lw_good := lw_g 1044 rfl rfl
theorem w_1043 : Cond.instanceMethod ⟨"ImposeSheetsModel", "readPages", "()V"⟩ ∈ lw_good := lw_g 1043 (by decide +kernel) rfl
theorem w_42 : Cond.selects "ImposeSheetsModel" ⟨"ImposeSheetsModel", "readPages", "()V"⟩ ⟨"ImposeSheetsModel", "readPages", "()V"⟩ ∈ lw_good := lw_g 42 (by decide +kernel) rfl
theorem w_837 : Cond.fieldLink "ImposeSheetsModel" 155 "ImposeSheetsModel" "isScheme" "Z" ∈ lw_good := lw_g 837 (by decide +kernel) rfl
theorem w_838 : Cond.fieldLink "ImposeSheetsModel" 158 "ImposeSheetsModel" "columns" "I" ∈ lw_good := lw_g 838 (by decide +kernel) rfl
theorem w_839 : Cond.fieldLink "ImposeSheetsModel" 161 "ImposeSheetsModel" "rows" "I" ∈ lw_good := lw_g 839 (by decide +kernel) rfl
theorem w_840 : Cond.fieldLink "ImposeSheetsModel" 164 "ImposeSheetsModel" "folds" "I" ∈ lw_good := lw_g 840 (by decide +kernel) rfl
theorem w_841 : Cond.fieldLink "ImposeSheetsModel" 167 "ImposeSheetsModel" "isTold" "Z" ∈ lw_good := lw_g 841 (by decide +kernel) rfl
theorem w_847 : Cond.fieldLink "ImposeSheetsModel" 20 "ImposeSheetsModel" "fold" "[I" ∈ lw_good := lw_g 847 (by decide +kernel) rfl
theorem w_842 : Cond.fieldLink "ImposeSheetsModel" 13 "ImposeSheetsModel" "toldPage" "[I" ∈ lw_good := lw_g 842 (by decide +kernel) rfl
theorem w_843 : Cond.fieldLink "ImposeSheetsModel" 16 "ImposeSheetsModel" "toldDown" "[Z" ∈ lw_good := lw_g 843 (by decide +kernel) rfl
theorem w_852 : Cond.fieldLink "ImposeSheetsModel" 32 "ImposeSheetsModel" "height" "[I" ∈ lw_good := lw_g 852 (by decide +kernel) rfl
theorem w_853 : Cond.fieldLink "ImposeSheetsModel" 35 "ImposeSheetsModel" "pileCell" "[I" ∈ lw_good := lw_g 853 (by decide +kernel) rfl
theorem w_854 : Cond.fieldLink "ImposeSheetsModel" 38 "ImposeSheetsModel" "pileFront" "[Z" ∈ lw_good := lw_g 854 (by decide +kernel) rfl
theorem w_855 : Cond.fieldLink "ImposeSheetsModel" 41 "ImposeSheetsModel" "pileHead" "[Z" ∈ lw_good := lw_g 855 (by decide +kernel) rfl
theorem w_856 : Cond.fieldLink "ImposeSheetsModel" 170 "ImposeSheetsModel" "wide" "I" ∈ lw_good := lw_g 856 (by decide +kernel) rfl
theorem w_857 : Cond.fieldLink "ImposeSheetsModel" 173 "ImposeSheetsModel" "high" "I" ∈ lw_good := lw_g 857 (by decide +kernel) rfl
theorem w_1057 : Cond.methodLink "ImposeSheetsModel" 176 ⟨"ImposeSheetsModel", "spot", "(II)I"⟩ ∈ lw_good := lw_g 1057 (by decide +kernel) rfl
set_option maxRecDepth 100000 in
theorem w_1059 : Cond.code y_Mo_spot c_Mo_spot 2 (some .int) ∈ lw_good := lw_g 1059 rfl rfl
theorem w_1058 : Cond.static ⟨"ImposeSheetsModel", "spot", "(II)I"⟩ ∈ lw_good := lw_g 1058 (by decide +kernel) rfl
theorem w_1064 : Cond.methodLink "ImposeSheetsModel" 180 ⟨"ImposeSheetsModel", "turnOnto", "(IIZ)V"⟩ ∈ lw_good := lw_g 1064 (by decide +kernel) rfl
set_option maxRecDepth 100000 in
theorem w_1067 : Cond.code y_Mo_turnOnto c_Mo_turnOnto 8 none ∈ lw_good := lw_g 1067 rfl rfl
theorem w_1066 : Cond.instanceMethod ⟨"ImposeSheetsModel", "turnOnto", "(IIZ)V"⟩ ∈ lw_good := lw_g 1066 (by decide +kernel) rfl
theorem w_46 : Cond.selects "ImposeSheetsModel" ⟨"ImposeSheetsModel", "turnOnto", "(IIZ)V"⟩ ⟨"ImposeSheetsModel", "turnOnto", "(IIZ)V"⟩ ∈ lw_good := lw_g 46 (by decide +kernel) rfl
theorem w_1068 : Cond.methodLink "ImposeSheetsModel" 184 ⟨"ImposeSheetsModel", "movePile", "(II)V"⟩ ∈ lw_good := lw_g 1068 (by decide +kernel) rfl
set_option maxRecDepth 100000 in
theorem w_1071 : Cond.code y_Mo_movePile c_Mo_movePile 4 none ∈ lw_good := lw_g 1071 rfl rfl
theorem w_1070 : Cond.instanceMethod ⟨"ImposeSheetsModel", "movePile", "(II)V"⟩ ∈ lw_good := lw_g 1070 (by decide +kernel) rfl
theorem w_47 : Cond.selects "ImposeSheetsModel" ⟨"ImposeSheetsModel", "movePile", "(II)V"⟩ ⟨"ImposeSheetsModel", "movePile", "(II)V"⟩ ∈ lw_good := lw_g 47 (by decide +kernel) rfl
theorem w_861 : Cond.fieldLink "ImposeSheetsModel" 53 "ImposeSheetsModel" "settings" "[I" ∈ lw_good := lw_g 861 (by decide +kernel) rfl
theorem w_858 : Cond.fieldLink "ImposeSheetsModel" 44 "ImposeSheetsModel" "pageSide" "[I" ∈ lw_good := lw_g 858 (by decide +kernel) rfl
theorem w_859 : Cond.fieldLink "ImposeSheetsModel" 47 "ImposeSheetsModel" "pagePlace" "[I" ∈ lw_good := lw_g 859 (by decide +kernel) rfl
theorem w_860 : Cond.fieldLink "ImposeSheetsModel" 50 "ImposeSheetsModel" "pageDown" "[Z" ∈ lw_good := lw_g 860 (by decide +kernel) rfl
theorem w_1060 : Cond.methodLink "ImposeSheetsModel" 188 ⟨"ImposeSheetsModel", "foldOnce", "(I)V"⟩ ∈ lw_good := lw_g 1060 (by decide +kernel) rfl
set_option maxRecDepth 100000 in
theorem w_1063 : Cond.code y_Mo_foldOnce c_Mo_foldOnce 12 none ∈ lw_good := lw_g 1063 rfl rfl
theorem w_1062 : Cond.instanceMethod ⟨"ImposeSheetsModel", "foldOnce", "(I)V"⟩ ∈ lw_good := lw_g 1062 (by decide +kernel) rfl
theorem w_45 : Cond.selects "ImposeSheetsModel" ⟨"ImposeSheetsModel", "foldOnce", "(I)V"⟩ ⟨"ImposeSheetsModel", "foldOnce", "(I)V"⟩ ∈ lw_good := lw_g 45 (by decide +kernel) rfl
theorem w_1072 : Cond.methodLink "ImposeSheetsModel" 191 ⟨"ImposeSheetsModel", "setPage", "(IIZZ)V"⟩ ∈ lw_good := lw_g 1072 (by decide +kernel) rfl
set_option maxRecDepth 100000 in
theorem w_1075 : Cond.code y_Mo_setPage c_Mo_setPage 8 none ∈ lw_good := lw_g 1075 rfl rfl
theorem w_1074 : Cond.instanceMethod ⟨"ImposeSheetsModel", "setPage", "(IIZZ)V"⟩ ∈ lw_good := lw_g 1074 (by decide +kernel) rfl
theorem w_48 : Cond.selects "ImposeSheetsModel" ⟨"ImposeSheetsModel", "setPage", "(IIZZ)V"⟩ ⟨"ImposeSheetsModel", "setPage", "(IIZZ)V"⟩ ∈ lw_good := lw_g 48 (by decide +kernel) rfl
theorem w_1053 : Cond.methodLink "ImposeSheetsModel" 195 ⟨"ImposeSheetsModel", "foldAll", "()V"⟩ ∈ lw_good := lw_g 1053 (by decide +kernel) rfl
set_option maxRecDepth 100000 in
theorem w_1056 : Cond.code y_Mo_foldAll c_Mo_foldAll 4 none ∈ lw_good := lw_g 1056 rfl rfl
theorem w_1055 : Cond.instanceMethod ⟨"ImposeSheetsModel", "foldAll", "()V"⟩ ∈ lw_good := lw_g 1055 (by decide +kernel) rfl
theorem w_44 : Cond.selects "ImposeSheetsModel" ⟨"ImposeSheetsModel", "foldAll", "()V"⟩ ⟨"ImposeSheetsModel", "foldAll", "()V"⟩ ∈ lw_good := lw_g 44 (by decide +kernel) rfl
theorem w_1049 : Cond.methodLink "ImposeSheetsModel" 198 ⟨"ImposeSheetsModel", "brokenPage", "()I"⟩ ∈ lw_good := lw_g 1049 (by decide +kernel) rfl
set_option maxRecDepth 100000 in
theorem w_1052 : Cond.code y_Mo_brokenPage c_Mo_brokenPage 4 (some .int) ∈ lw_good := lw_g 1052 rfl rfl
theorem w_1051 : Cond.instanceMethod ⟨"ImposeSheetsModel", "brokenPage", "()I"⟩ ∈ lw_good := lw_g 1051 (by decide +kernel) rfl
theorem w_43 : Cond.selects "ImposeSheetsModel" ⟨"ImposeSheetsModel", "brokenPage", "()I"⟩ ⟨"ImposeSheetsModel", "brokenPage", "()I"⟩ ∈ lw_good := lw_g 43 (by decide +kernel) rfl
theorem w_1080 : Cond.constant "ImposeSheetsModel" 201 (100000) ∈ lw_good := lw_g 1080 (by decide +kernel) rfl
theorem w_862 : Cond.fieldLink "ImposeSheetsModel" 202 "ImposeSheetsModel" "sheets" "I" ∈ lw_good := lw_g 862 (by decide +kernel) rfl
theorem w_1097 : Cond.methodLink "ImposeSheetsModel" 205 ⟨"ImposeSheetsModel", "less", "(II)I"⟩ ∈ lw_good := lw_g 1097 (by decide +kernel) rfl
set_option maxRecDepth 100000 in
theorem w_1099 : Cond.code y_Mo_less c_Mo_less 2 (some .int) ∈ lw_good := lw_g 1099 rfl rfl
theorem w_1098 : Cond.static ⟨"ImposeSheetsModel", "less", "(II)I"⟩ ∈ lw_good := lw_g 1098 (by decide +kernel) rfl
theorem w_1089 : Cond.methodLink "ImposeSheetsModel" 208 ⟨"ImposeSheetsModel", "bookPlace", "(II)I"⟩ ∈ lw_good := lw_g 1089 (by decide +kernel) rfl
set_option maxRecDepth 100000 in
theorem w_1092 : Cond.code y_Mo_bookPlace c_Mo_bookPlace 5 (some .int) ∈ lw_good := lw_g 1092 rfl rfl
theorem w_1091 : Cond.instanceMethod ⟨"ImposeSheetsModel", "bookPlace", "(II)I"⟩ ∈ lw_good := lw_g 1091 (by decide +kernel) rfl
theorem w_50 : Cond.selects "ImposeSheetsModel" ⟨"ImposeSheetsModel", "bookPlace", "(II)I"⟩ ⟨"ImposeSheetsModel", "bookPlace", "(II)I"⟩ ∈ lw_good := lw_g 50 (by decide +kernel) rfl
theorem w_872 : Cond.fieldLink "ImposeSheetsModel" 71 "ImposeSheetsModel" "book" "[I" ∈ lw_good := lw_g 872 (by decide +kernel) rfl
theorem w_867 : Cond.fieldLink "ImposeSheetsModel" 56 "ImposeSheetsModel" "page" "[I" ∈ lw_good := lw_g 867 (by decide +kernel) rfl
theorem w_868 : Cond.fieldLink "ImposeSheetsModel" 59 "ImposeSheetsModel" "down" "[I" ∈ lw_good := lw_g 868 (by decide +kernel) rfl
theorem w_869 : Cond.fieldLink "ImposeSheetsModel" 62 "ImposeSheetsModel" "atX" "[I" ∈ lw_good := lw_g 869 (by decide +kernel) rfl
theorem w_870 : Cond.fieldLink "ImposeSheetsModel" 65 "ImposeSheetsModel" "atY" "[I" ∈ lw_good := lw_g 870 (by decide +kernel) rfl
theorem w_871 : Cond.fieldLink "ImposeSheetsModel" 68 "ImposeSheetsModel" "scales" "[I" ∈ lw_good := lw_g 871 (by decide +kernel) rfl
theorem w_1093 : Cond.methodLink "ImposeSheetsModel" 211 ⟨"ImposeSheetsModel", "creepOf", "(II)I"⟩ ∈ lw_good := lw_g 1093 (by decide +kernel) rfl
set_option maxRecDepth 100000 in
theorem w_1096 : Cond.code y_Mo_creepOf c_Mo_creepOf 7 (some .int) ∈ lw_good := lw_g 1096 rfl rfl
theorem w_1095 : Cond.instanceMethod ⟨"ImposeSheetsModel", "creepOf", "(II)I"⟩ ∈ lw_good := lw_g 1095 (by decide +kernel) rfl
theorem w_51 : Cond.selects "ImposeSheetsModel" ⟨"ImposeSheetsModel", "creepOf", "(II)I"⟩ ⟨"ImposeSheetsModel", "creepOf", "(II)I"⟩ ∈ lw_good := lw_g 51 (by decide +kernel) rfl
theorem w_873 : Cond.fieldLink "ImposeSheetsModel" 74 "ImposeSheetsModel" "creeps" "[I" ∈ lw_good := lw_g 873 (by decide +kernel) rfl
theorem w_1100 : Cond.constantLong "ImposeSheetsModel" 214 (1000) ∈ lw_good := lw_g 1100 (by decide +kernel) rfl
theorem w_1101 : Cond.methodLink "ImposeSheetsModel" 216 ⟨"ImposeSheetsModel", "lessLong", "(JJ)J"⟩ ∈ lw_good := lw_g 1101 (by decide +kernel) rfl
set_option maxRecDepth 100000 in
theorem w_1103 : Cond.code y_Mo_lessLong c_Mo_lessLong 4 (some .long) ∈ lw_good := lw_g 1103 rfl rfl
theorem w_1102 : Cond.static ⟨"ImposeSheetsModel", "lessLong", "(JJ)J"⟩ ∈ lw_good := lw_g 1102 (by decide +kernel) rfl
theorem w_1104 : Cond.methodLink "ImposeSheetsModel" 220 ⟨"ImposeSheetsModel", "down", "(II)I"⟩ ∈ lw_good := lw_g 1104 (by decide +kernel) rfl
set_option maxRecDepth 100000 in
theorem w_1106 : Cond.code y_Mo_down c_Mo_down 3 (some .int) ∈ lw_good := lw_g 1106 rfl rfl
theorem w_1105 : Cond.static ⟨"ImposeSheetsModel", "down", "(II)I"⟩ ∈ lw_good := lw_g 1105 (by decide +kernel) rfl
theorem w_863 : Cond.fieldLink "ImposeSheetsModel" 222 "ImposeSheetsModel" "laidPages" "I" ∈ lw_good := lw_g 863 (by decide +kernel) rfl
theorem w_864 : Cond.fieldLink "ImposeSheetsModel" 225 "ImposeSheetsModel" "laidColumns" "I" ∈ lw_good := lw_g 864 (by decide +kernel) rfl
theorem w_865 : Cond.fieldLink "ImposeSheetsModel" 228 "ImposeSheetsModel" "blanks" "I" ∈ lw_good := lw_g 865 (by decide +kernel) rfl
theorem w_866 : Cond.fieldLink "ImposeSheetsModel" 231 "ImposeSheetsModel" "tooLarge" "I" ∈ lw_good := lw_g 866 (by decide +kernel) rfl
theorem w_1085 : Cond.methodLink "ImposeSheetsModel" 234 ⟨"ImposeSheetsModel", "lay", "(IIII)V"⟩ ∈ lw_good := lw_g 1085 (by decide +kernel) rfl
set_option maxRecDepth 100000 in
theorem w_1088 : Cond.code y_Mo_lay c_Mo_lay 18 none ∈ lw_good := lw_g 1088 rfl rfl
theorem w_1087 : Cond.instanceMethod ⟨"ImposeSheetsModel", "lay", "(IIII)V"⟩ ∈ lw_good := lw_g 1087 (by decide +kernel) rfl
theorem w_49 : Cond.selects "ImposeSheetsModel" ⟨"ImposeSheetsModel", "lay", "(IIII)V"⟩ ⟨"ImposeSheetsModel", "lay", "(IIII)V"⟩ ∈ lw_good := lw_g 49 (by decide +kernel) rfl
theorem w_874 : Cond.fieldLink "ImposeSheetsModel" 238 "ImposeSheetsModel" "jobs" "I" ∈ lw_good := lw_g 874 (by decide +kernel) rfl
theorem w_875 : Cond.fieldLink "ImposeSheetsModel" 77 "ImposeSheetsModel" "copies" "[I" ∈ lw_good := lw_g 875 (by decide +kernel) rfl
theorem w_877 : Cond.fieldLink "ImposeSheetsModel" 241 "ImposeSheetsModel" "isTaken" "Z" ∈ lw_good := lw_g 877 (by decide +kernel) rfl
theorem w_878 : Cond.fieldLink "ImposeSheetsModel" 244 "ImposeSheetsModel" "wasShared" "Z" ∈ lw_good := lw_g 878 (by decide +kernel) rfl
theorem w_883 : Cond.fieldLink "ImposeSheetsModel" 247 "ImposeSheetsModel" "looked" "I" ∈ lw_good := lw_g 883 (by decide +kernel) rfl
theorem w_876 : Cond.fieldLink "ImposeSheetsModel" 80 "ImposeSheetsModel" "way" "[I" ∈ lw_good := lw_g 876 (by decide +kernel) rfl
theorem w_1156 : Cond.methodLink "ImposeSheetsModel" 250 ⟨"ImposeSheetsModel", "upward", "(II)I"⟩ ∈ lw_good := lw_g 1156 (by decide +kernel) rfl
set_option maxRecDepth 100000 in
theorem w_1158 : Cond.code y_Mo_upward c_Mo_upward 2 (some .int) ∈ lw_good := lw_g 1158 rfl rfl
theorem w_1157 : Cond.static ⟨"ImposeSheetsModel", "upward", "(II)I"⟩ ∈ lw_good := lw_g 1157 (by decide +kernel) rfl
theorem w_1148 : Cond.methodLink "ImposeSheetsModel" 253 ⟨"ImposeSheetsModel", "jobsOn", "(I)I"⟩ ∈ lw_good := lw_g 1148 (by decide +kernel) rfl
set_option maxRecDepth 100000 in
theorem w_1151 : Cond.code y_Mo_jobsOn c_Mo_jobsOn 4 (some .int) ∈ lw_good := lw_g 1151 rfl rfl
theorem w_1150 : Cond.instanceMethod ⟨"ImposeSheetsModel", "jobsOn", "(I)I"⟩ ∈ lw_good := lw_g 1150 (by decide +kernel) rfl
theorem w_55 : Cond.selects "ImposeSheetsModel" ⟨"ImposeSheetsModel", "jobsOn", "(I)I"⟩ ⟨"ImposeSheetsModel", "jobsOn", "(I)I"⟩ ∈ lw_good := lw_g 55 (by decide +kernel) rfl
theorem w_1152 : Cond.methodLink "ImposeSheetsModel" 256 ⟨"ImposeSheetsModel", "slotsFor", "(II)I"⟩ ∈ lw_good := lw_g 1152 (by decide +kernel) rfl
set_option maxRecDepth 100000 in
theorem w_1155 : Cond.code y_Mo_slotsFor c_Mo_slotsFor 5 (some .int) ∈ lw_good := lw_g 1155 rfl rfl
theorem w_1154 : Cond.instanceMethod ⟨"ImposeSheetsModel", "slotsFor", "(II)I"⟩ ∈ lw_good := lw_g 1154 (by decide +kernel) rfl
theorem w_56 : Cond.selects "ImposeSheetsModel" ⟨"ImposeSheetsModel", "slotsFor", "(II)I"⟩ ⟨"ImposeSheetsModel", "slotsFor", "(II)I"⟩ ∈ lw_good := lw_g 56 (by decide +kernel) rfl
theorem w_1140 : Cond.methodLink "ImposeSheetsModel" 259 ⟨"ImposeSheetsModel", "platesOf", "()I"⟩ ∈ lw_good := lw_g 1140 (by decide +kernel) rfl
set_option maxRecDepth 100000 in
theorem w_1143 : Cond.code y_Mo_platesOf c_Mo_platesOf 3 (some .int) ∈ lw_good := lw_g 1143 rfl rfl
theorem w_1142 : Cond.instanceMethod ⟨"ImposeSheetsModel", "platesOf", "()I"⟩ ∈ lw_good := lw_g 1142 (by decide +kernel) rfl
theorem w_53 : Cond.selects "ImposeSheetsModel" ⟨"ImposeSheetsModel", "platesOf", "()I"⟩ ⟨"ImposeSheetsModel", "platesOf", "()I"⟩ ∈ lw_good := lw_g 53 (by decide +kernel) rfl
theorem w_1144 : Cond.methodLink "ImposeSheetsModel" 262 ⟨"ImposeSheetsModel", "sheetsOf", "(II)I"⟩ ∈ lw_good := lw_g 1144 (by decide +kernel) rfl
set_option maxRecDepth 100000 in
theorem w_1147 : Cond.code y_Mo_sheetsOf c_Mo_sheetsOf 6 (some .int) ∈ lw_good := lw_g 1147 rfl rfl
theorem w_1146 : Cond.instanceMethod ⟨"ImposeSheetsModel", "sheetsOf", "(II)I"⟩ ∈ lw_good := lw_g 1146 (by decide +kernel) rfl
theorem w_54 : Cond.selects "ImposeSheetsModel" ⟨"ImposeSheetsModel", "sheetsOf", "(II)I"⟩ ⟨"ImposeSheetsModel", "sheetsOf", "(II)I"⟩ ∈ lw_good := lw_g 54 (by decide +kernel) rfl
theorem w_1135 : Cond.constantLong "ImposeSheetsModel" 265 (-1) ∈ lw_good := lw_g 1135 (by decide +kernel) rfl
theorem w_880 : Cond.fieldLink "ImposeSheetsModel" 267 "ImposeSheetsModel" "takenJobs" "I" ∈ lw_good := lw_g 880 (by decide +kernel) rfl
theorem w_881 : Cond.fieldLink "ImposeSheetsModel" 270 "ImposeSheetsModel" "takenPlates" "I" ∈ lw_good := lw_g 881 (by decide +kernel) rfl
theorem w_879 : Cond.fieldLink "ImposeSheetsModel" 83 "ImposeSheetsModel" "taken" "[I" ∈ lw_good := lw_g 879 (by decide +kernel) rfl
theorem w_885 : Cond.fieldLink "ImposeSheetsModel" 89 "ImposeSheetsModel" "takenCopies" "[I" ∈ lw_good := lw_g 885 (by decide +kernel) rfl
theorem w_882 : Cond.fieldLink "ImposeSheetsModel" 86 "ImposeSheetsModel" "plateSheets" "[I" ∈ lw_good := lw_g 882 (by decide +kernel) rfl
theorem w_1136 : Cond.methodLink "ImposeSheetsModel" 273 ⟨"ImposeSheetsModel", "costOf", "(II)J"⟩ ∈ lw_good := lw_g 1136 (by decide +kernel) rfl
set_option maxRecDepth 100000 in
theorem w_1139 : Cond.code y_Mo_costOf c_Mo_costOf 8 (some .long) ∈ lw_good := lw_g 1139 rfl rfl
theorem w_1138 : Cond.instanceMethod ⟨"ImposeSheetsModel", "costOf", "(II)J"⟩ ∈ lw_good := lw_g 1138 (by decide +kernel) rfl
theorem w_52 : Cond.selects "ImposeSheetsModel" ⟨"ImposeSheetsModel", "costOf", "(II)J"⟩ ⟨"ImposeSheetsModel", "costOf", "(II)J"⟩ ∈ lw_good := lw_g 52 (by decide +kernel) rfl
theorem w_1159 : Cond.methodLink "ImposeSheetsModel" 277 ⟨"ImposeSheetsModel", "take", "(I)V"⟩ ∈ lw_good := lw_g 1159 (by decide +kernel) rfl
set_option maxRecDepth 100000 in
theorem w_1162 : Cond.code y_Mo_take c_Mo_take 3 none ∈ lw_good := lw_g 1162 rfl rfl
theorem w_1161 : Cond.instanceMethod ⟨"ImposeSheetsModel", "take", "(I)V"⟩ ∈ lw_good := lw_g 1161 (by decide +kernel) rfl
theorem w_57 : Cond.selects "ImposeSheetsModel" ⟨"ImposeSheetsModel", "take", "(I)V"⟩ ⟨"ImposeSheetsModel", "take", "(I)V"⟩ ∈ lw_good := lw_g 57 (by decide +kernel) rfl
theorem w_1163 : Cond.methodLink "ImposeSheetsModel" 280 ⟨"ImposeSheetsModel", "nextWay", "()Z"⟩ ∈ lw_good := lw_g 1163 (by decide +kernel) rfl
set_option maxRecDepth 100000 in
theorem w_1166 : Cond.code y_Mo_nextWay c_Mo_nextWay 4 (some .boolean) ∈ lw_good := lw_g 1166 rfl rfl
theorem w_1165 : Cond.instanceMethod ⟨"ImposeSheetsModel", "nextWay", "()Z"⟩ ∈ lw_good := lw_g 1165 (by decide +kernel) rfl
theorem w_58 : Cond.selects "ImposeSheetsModel" ⟨"ImposeSheetsModel", "nextWay", "()Z"⟩ ⟨"ImposeSheetsModel", "nextWay", "()Z"⟩ ∈ lw_good := lw_g 58 (by decide +kernel) rfl
theorem w_884 : Cond.fieldLink "ImposeSheetsModel" 283 "ImposeSheetsModel" "isAll" "Z" ∈ lw_good := lw_g 884 (by decide +kernel) rfl
theorem w_166 : Cond.fieldLink "ImposeSheets$Book" 25 "ImposeSheets$Book" "cells" "I" ∈ lw_good := lw_g 166 (by decide +kernel) rfl
theorem w_162 : Cond.fieldLink "ImposeSheets$Book" 9 "ImposeSheets$Book" "settings" "[I" ∈ lw_good := lw_g 162 (by decide +kernel) rfl
theorem w_601 : Cond.methodLink "ImposeSheets$Book" 68 ⟨"ImposeSheets$Book", "isPageGreater", "()Z"⟩ ∈ lw_good := lw_g 601 (by decide +kernel) rfl
set_option maxRecDepth 100000 in
theorem w_604 : Cond.code y_Bo_isPageGreater c_Bo_isPageGreater 1 (some .boolean) ∈ lw_good := lw_g 604 rfl rfl
theorem w_65 : Cond.initialized "ImposeSheets$Book" ∈ lw_good := lw_g 65 (by decide +kernel) rfl
theorem w_603 : Cond.instanceMethod ⟨"ImposeSheets$Book", "isPageGreater", "()Z"⟩ ∈ lw_good := lw_g 603 (by decide +kernel) rfl
theorem w_19 : Cond.selects "ImposeSheets$Book" ⟨"ImposeSheets$Book", "isPageGreater", "()Z"⟩ ⟨"ImposeSheets$Book", "isPageGreater", "()Z"⟩ ∈ lw_good := lw_g 19 (by decide +kernel) rfl
theorem w_605 : Cond.methodLinkNest "ImposeSheets$Book" 72 ⟨"ImposeSheets", "downward", "(II)I"⟩ "ImposeSheets" ∈ lw_nest := lw_n 605 (by decide +kernel) rfl
theorem w_606 : Cond.methodLink "ImposeSheets$Book" 75 ⟨"java/lang/Math", "min", "(II)I"⟩ ∈ lw_good := lw_g 606 (by decide +kernel) rfl
theorem w_607 : Cond.methodLink "ImposeSheets$Book" 80 ⟨"java/lang/Math", "max", "(II)I"⟩ ∈ lw_good := lw_g 607 (by decide +kernel) rfl
set_option maxRecDepth 100000 in
theorem w_609 : Cond.code y_Ma_max c_Ma_max 2 (some .int) ∈ lw_good := lw_g 609 rfl rfl
theorem w_608 : Cond.static ⟨"java/lang/Math", "max", "(II)I"⟩ ∈ lw_good := lw_g 608 (by decide +kernel) rfl
theorem w_588 : Cond.methodLink "ImposeSheets$Book" 37 ⟨"java/lang/System", "arraycopy", "(Ljava/lang/Object;ILjava/lang/Object;II)V"⟩ ∈ lw_good := lw_g 588 (by decide +kernel) rfl
theorem w_155 : Cond.native ⟨"java/lang/System", "arraycopy", "(Ljava/lang/Object;ILjava/lang/Object;II)V"⟩ ∈ lw_good := lw_g 155 (by decide +kernel) rfl
theorem w_154 : Cond.static ⟨"java/lang/System", "arraycopy", "(Ljava/lang/Object;ILjava/lang/Object;II)V"⟩ ∈ lw_good := lw_g 154 (by decide +kernel) rfl
theorem w_64 : Cond.initialized "java/lang/System" ∈ lw_good := lw_g 64 (by decide +kernel) rfl
theorem w_242 : Cond.fieldLinkNest "ImposeSheets$Book" 43 "ImposeSheets$Scheme" "columns" "I" "ImposeSheets" ∈ lw_nest := lw_n 242 (by decide +kernel) rfl
theorem w_165 : Cond.fieldLink "ImposeSheets$Book" 21 "ImposeSheets$Book" "columns" "I" ∈ lw_good := lw_g 165 (by decide +kernel) rfl
theorem w_589 : Cond.methodLink "ImposeSheets$Book" 46 ⟨"ImposeSheets$Scheme", "cells", "()I"⟩ ∈ lw_good := lw_g 589 (by decide +kernel) rfl
theorem w_168 : Cond.fieldLink "ImposeSheets$Book" 31 "ImposeSheets$Book" "pages" "I" ∈ lw_good := lw_g 168 (by decide +kernel) rfl
theorem w_590 : Cond.methodLink "ImposeSheets$Book" 49 ⟨"ImposeSheets$Book", "bookletPages", "()I"⟩ ∈ lw_good := lw_g 590 (by decide +kernel) rfl
set_option maxRecDepth 100000 in
theorem w_593 : Cond.code y_Bo_bookletPages c_Bo_bookletPages 1 (some .int) ∈ lw_good := lw_g 593 rfl rfl
theorem w_591 : Cond.instanceMethod ⟨"ImposeSheets$Book", "bookletPages", "()I"⟩ ∈ lw_good := lw_g 591 (by decide +kernel) rfl
theorem w_592 : Cond.selects "ImposeSheets$Book" ⟨"ImposeSheets$Book", "bookletPages", "()I"⟩ ⟨"ImposeSheets$Book", "bookletPages", "()I"⟩ ∈ lw_good := lw_g 592 (by decide +kernel) rfl
theorem w_594 : Cond.methodLinkNest "ImposeSheets$Book" 52 ⟨"ImposeSheets", "upward", "(II)I"⟩ "ImposeSheets" ∈ lw_nest := lw_n 594 (by decide +kernel) rfl
set_option maxRecDepth 100000 in
theorem w_596 : Cond.code y_Im_upward c_Im_upward 2 (some .int) ∈ lw_good := lw_g 596 rfl rfl
theorem w_595 : Cond.static ⟨"ImposeSheets", "upward", "(II)I"⟩ ∈ lw_good := lw_g 595 (by decide +kernel) rfl
theorem w_167 : Cond.fieldLink "ImposeSheets$Book" 28 "ImposeSheets$Book" "sheets" "I" ∈ lw_good := lw_g 167 (by decide +kernel) rfl
theorem w_597 : Cond.methodLink "ImposeSheets$Book" 56 ⟨"ImposeSheets$Book", "findScale", "()I"⟩ ∈ lw_good := lw_g 597 (by decide +kernel) rfl
set_option maxRecDepth 100000 in
theorem w_600 : Cond.code y_Bo_findScale c_Bo_findScale 3 (some .int) ∈ lw_good := lw_g 600 rfl rfl
theorem w_599 : Cond.instanceMethod ⟨"ImposeSheets$Book", "findScale", "()I"⟩ ∈ lw_good := lw_g 599 (by decide +kernel) rfl
theorem w_18 : Cond.selects "ImposeSheets$Book" ⟨"ImposeSheets$Book", "findScale", "()I"⟩ ⟨"ImposeSheets$Book", "findScale", "()I"⟩ ∈ lw_good := lw_g 18 (by decide +kernel) rfl
theorem w_169 : Cond.fieldLink "ImposeSheets$Book" 34 "ImposeSheets$Book" "scale" "I" ∈ lw_good := lw_g 169 (by decide +kernel) rfl
theorem w_610 : Cond.methodLink "ImposeSheets$Book" 59 ⟨"ImposeSheets$Scheme", "spotOf", "(II)I"⟩ ∈ lw_good := lw_g 610 (by decide +kernel) rfl
theorem w_163 : Cond.fieldLink "ImposeSheets$Book" 15 "ImposeSheets$Book" "spotPages" "[I" ∈ lw_good := lw_g 163 (by decide +kernel) rfl
theorem w_164 : Cond.fieldLink "ImposeSheets$Book" 18 "ImposeSheets$Book" "spotTurned" "[I" ∈ lw_good := lw_g 164 (by decide +kernel) rfl
theorem w_611 : Cond.methodLink "ImposeSheets$Book" 62 ⟨"ImposeSheets$Scheme", "turnedOf", "(II)I"⟩ ∈ lw_good := lw_g 611 (by decide +kernel) rfl
theorem w_636 : Cond.methodLink "ImposeSheets$Book" 65 ⟨"ImposeSheets$Book", "placeCount", "()I"⟩ ∈ lw_good := lw_g 636 (by decide +kernel) rfl
set_option maxRecDepth 100000 in
theorem w_639 : Cond.code y_Bo_placeCount c_Bo_placeCount 1 (some .int) ∈ lw_good := lw_g 639 rfl rfl
theorem w_637 : Cond.instanceMethod ⟨"ImposeSheets$Book", "placeCount", "()I"⟩ ∈ lw_good := lw_g 637 (by decide +kernel) rfl
theorem w_638 : Cond.selects "ImposeSheets$Book" ⟨"ImposeSheets$Book", "placeCount", "()I"⟩ ⟨"ImposeSheets$Book", "placeCount", "()I"⟩ ∈ lw_good := lw_g 638 (by decide +kernel) rfl
theorem w_648 : Cond.methodLink "ImposeSheets$Book" 83 ⟨"ImposeSheets$Book", "blankCount", "()I"⟩ ∈ lw_good := lw_g 648 (by decide +kernel) rfl
set_option maxRecDepth 100000 in
theorem w_651 : Cond.code y_Bo_blankCount c_Bo_blankCount 1 (some .int) ∈ lw_good := lw_g 651 rfl rfl
theorem w_649 : Cond.instanceMethod ⟨"ImposeSheets$Book", "blankCount", "()I"⟩ ∈ lw_good := lw_g 649 (by decide +kernel) rfl
theorem w_650 : Cond.selects "ImposeSheets$Book" ⟨"ImposeSheets$Book", "blankCount", "()I"⟩ ⟨"ImposeSheets$Book", "blankCount", "()I"⟩ ∈ lw_good := lw_g 650 (by decide +kernel) rfl
theorem w_644 : Cond.methodLink "ImposeSheets$Book" 86 ⟨"ImposeSheets$Book", "blanksBefore", "()I"⟩ ∈ lw_good := lw_g 644 (by decide +kernel) rfl
set_option maxRecDepth 100000 in
theorem w_647 : Cond.code y_Bo_blanksBefore c_Bo_blanksBefore 1 (some .int) ∈ lw_good := lw_g 647 rfl rfl
theorem w_646 : Cond.instanceMethod ⟨"ImposeSheets$Book", "blanksBefore", "()I"⟩ ∈ lw_good := lw_g 646 (by decide +kernel) rfl
theorem w_21 : Cond.selects "ImposeSheets$Book" ⟨"ImposeSheets$Book", "blanksBefore", "()I"⟩ ⟨"ImposeSheets$Book", "blanksBefore", "()I"⟩ ∈ lw_good := lw_g 21 (by decide +kernel) rfl
theorem w_652 : Cond.methodLink "ImposeSheets$Book" 89 ⟨"ImposeSheets$Book", "hasPage", "(I)Z"⟩ ∈ lw_good := lw_g 652 (by decide +kernel) rfl
set_option maxRecDepth 100000 in
theorem w_655 : Cond.code y_Bo_hasPage c_Bo_hasPage 2 (some .boolean) ∈ lw_good := lw_g 655 rfl rfl
theorem w_653 : Cond.instanceMethod ⟨"ImposeSheets$Book", "hasPage", "(I)Z"⟩ ∈ lw_good := lw_g 653 (by decide +kernel) rfl
theorem w_654 : Cond.selects "ImposeSheets$Book" ⟨"ImposeSheets$Book", "hasPage", "(I)Z"⟩ ⟨"ImposeSheets$Book", "hasPage", "(I)Z"⟩ ∈ lw_good := lw_g 654 (by decide +kernel) rfl
theorem w_664 : Cond.methodLink "ImposeSheets$Book" 97 ⟨"ImposeSheets$Book", "depthOf", "(I)I"⟩ ∈ lw_good := lw_g 664 (by decide +kernel) rfl
set_option maxRecDepth 100000 in
theorem w_667 : Cond.code y_Bo_depthOf c_Bo_depthOf 4 (some .int) ∈ lw_good := lw_g 667 rfl rfl
theorem w_666 : Cond.instanceMethod ⟨"ImposeSheets$Book", "depthOf", "(I)I"⟩ ∈ lw_good := lw_g 666 (by decide +kernel) rfl
theorem w_24 : Cond.selects "ImposeSheets$Book" ⟨"ImposeSheets$Book", "depthOf", "(I)I"⟩ ⟨"ImposeSheets$Book", "depthOf", "(I)I"⟩ ∈ lw_good := lw_g 24 (by decide +kernel) rfl
theorem w_660 : Cond.methodLink "ImposeSheets$Book" 93 ⟨"ImposeSheets$Book", "creepOfPlace", "(I)I"⟩ ∈ lw_good := lw_g 660 (by decide +kernel) rfl
set_option maxRecDepth 100000 in
theorem w_663 : Cond.code y_Bo_creepOfPlace c_Bo_creepOfPlace 2 (some .int) ∈ lw_good := lw_g 663 rfl rfl
theorem w_662 : Cond.instanceMethod ⟨"ImposeSheets$Book", "creepOfPlace", "(I)I"⟩ ∈ lw_good := lw_g 662 (by decide +kernel) rfl
theorem w_23 : Cond.selects "ImposeSheets$Book" ⟨"ImposeSheets$Book", "creepOfPlace", "(I)I"⟩ ⟨"ImposeSheets$Book", "creepOfPlace", "(I)I"⟩ ∈ lw_good := lw_g 23 (by decide +kernel) rfl
theorem w_668 : Cond.methodLink "ImposeSheets$Book" 113 ⟨"ImposeSheets$Book", "margin", "(II)I"⟩ ∈ lw_good := lw_g 668 (by decide +kernel) rfl
set_option maxRecDepth 100000 in
theorem w_671 : Cond.code y_Bo_margin c_Bo_margin 3 (some .int) ∈ lw_good := lw_g 671 rfl rfl
theorem w_670 : Cond.instanceMethod ⟨"ImposeSheets$Book", "margin", "(II)I"⟩ ∈ lw_good := lw_g 670 (by decide +kernel) rfl
theorem w_25 : Cond.selects "ImposeSheets$Book" ⟨"ImposeSheets$Book", "margin", "(II)I"⟩ ⟨"ImposeSheets$Book", "margin", "(II)I"⟩ ∈ lw_good := lw_g 25 (by decide +kernel) rfl
theorem w_632 : Cond.methodLink "ImposeSheets$Book" 100 ⟨"ImposeSheets$Book", "placeOf", "(II)I"⟩ ∈ lw_good := lw_g 632 (by decide +kernel) rfl
set_option maxRecDepth 100000 in
theorem w_635 : Cond.code y_Bo_placeOf c_Bo_placeOf 3 (some .int) ∈ lw_good := lw_g 635 rfl rfl
theorem w_634 : Cond.instanceMethod ⟨"ImposeSheets$Book", "placeOf", "(II)I"⟩ ∈ lw_good := lw_g 634 (by decide +kernel) rfl
theorem w_20 : Cond.selects "ImposeSheets$Book" ⟨"ImposeSheets$Book", "placeOf", "(II)I"⟩ ⟨"ImposeSheets$Book", "placeOf", "(II)I"⟩ ∈ lw_good := lw_g 20 (by decide +kernel) rfl
theorem w_640 : Cond.methodLink "ImposeSheets$Book" 103 ⟨"ImposeSheets$Book", "pageAtPlace", "(I)I"⟩ ∈ lw_good := lw_g 640 (by decide +kernel) rfl
set_option maxRecDepth 100000 in
theorem w_643 : Cond.code y_Bo_pageAtPlace c_Bo_pageAtPlace 3 (some .int) ∈ lw_good := lw_g 643 rfl rfl
theorem w_641 : Cond.instanceMethod ⟨"ImposeSheets$Book", "pageAtPlace", "(I)I"⟩ ∈ lw_good := lw_g 641 (by decide +kernel) rfl
theorem w_642 : Cond.selects "ImposeSheets$Book" ⟨"ImposeSheets$Book", "pageAtPlace", "(I)I"⟩ ⟨"ImposeSheets$Book", "pageAtPlace", "(I)I"⟩ ∈ lw_good := lw_g 642 (by decide +kernel) rfl
theorem w_656 : Cond.methodLink "ImposeSheets$Book" 106 ⟨"ImposeSheets$Book", "leftEdge", "(III)I"⟩ ∈ lw_good := lw_g 656 (by decide +kernel) rfl
set_option maxRecDepth 100000 in
theorem w_659 : Cond.code y_Bo_leftEdge c_Bo_leftEdge 7 (some .int) ∈ lw_good := lw_g 659 rfl rfl
theorem w_658 : Cond.instanceMethod ⟨"ImposeSheets$Book", "leftEdge", "(III)I"⟩ ∈ lw_good := lw_g 658 (by decide +kernel) rfl
theorem w_22 : Cond.selects "ImposeSheets$Book" ⟨"ImposeSheets$Book", "leftEdge", "(III)I"⟩ ⟨"ImposeSheets$Book", "leftEdge", "(III)I"⟩ ∈ lw_good := lw_g 22 (by decide +kernel) rfl
theorem w_672 : Cond.methodLink "ImposeSheets$Book" 110 ⟨"ImposeSheets$Book", "topEdge", "(I)I"⟩ ∈ lw_good := lw_g 672 (by decide +kernel) rfl
set_option maxRecDepth 100000 in
theorem w_675 : Cond.code y_Bo_topEdge c_Bo_topEdge 3 (some .int) ∈ lw_good := lw_g 675 rfl rfl
theorem w_674 : Cond.instanceMethod ⟨"ImposeSheets$Book", "topEdge", "(I)I"⟩ ∈ lw_good := lw_g 674 (by decide +kernel) rfl
theorem w_26 : Cond.selects "ImposeSheets$Book" ⟨"ImposeSheets$Book", "topEdge", "(I)I"⟩ ⟨"ImposeSheets$Book", "topEdge", "(I)I"⟩ ∈ lw_good := lw_g 26 (by decide +kernel) rfl
theorem w_193 : Cond.fieldLink "ImposeSheets$Sharing" 9 "ImposeSheets$Sharing" "copies" "[I" ∈ lw_good := lw_g 193 (by decide +kernel) rfl
theorem w_196 : Cond.fieldLink "ImposeSheets$Sharing" 21 "ImposeSheets$Sharing" "plateJobs" "[I" ∈ lw_good := lw_g 196 (by decide +kernel) rfl
theorem w_760 : Cond.methodLink "ImposeSheets$Sharing" 50 ⟨"java/util/Arrays", "fill", "([II)V"⟩ ∈ lw_good := lw_g 760 (by decide +kernel) rfl
set_option maxRecDepth 100000 in
theorem w_762 : Cond.code y_Ar_fill c_Ar_fill 4 none ∈ lw_good := lw_g 762 rfl rfl
theorem w_77 : Cond.initialized "java/util/Arrays" ∈ lw_good := lw_g 77 (by decide +kernel) rfl
theorem w_761 : Cond.static ⟨"java/util/Arrays", "fill", "([II)V"⟩ ∈ lw_good := lw_g 761 (by decide +kernel) rfl
theorem w_195 : Cond.fieldLink "ImposeSheets$Sharing" 18 "ImposeSheets$Sharing" "way" "[I" ∈ lw_good := lw_g 195 (by decide +kernel) rfl
theorem w_779 : Cond.methodLink "ImposeSheets$Sharing" 101 ⟨"java/lang/Math", "max", "(II)I"⟩ ∈ lw_good := lw_g 779 (by decide +kernel) rfl
theorem w_775 : Cond.methodLink "ImposeSheets$Sharing" 67 ⟨"ImposeSheets$Sharing", "greatestBefore", "(I)I"⟩ ∈ lw_good := lw_g 775 (by decide +kernel) rfl
set_option maxRecDepth 100000 in
theorem w_778 : Cond.code y_Sh_greatestBefore c_Sh_greatestBefore 4 (some .int) ∈ lw_good := lw_g 778 rfl rfl
theorem w_777 : Cond.instanceMethod ⟨"ImposeSheets$Sharing", "greatestBefore", "(I)I"⟩ ∈ lw_good := lw_g 777 (by decide +kernel) rfl
theorem w_30 : Cond.selects "ImposeSheets$Sharing" ⟨"ImposeSheets$Sharing", "greatestBefore", "(I)I"⟩ ⟨"ImposeSheets$Sharing", "greatestBefore", "(I)I"⟩ ∈ lw_good := lw_g 30 (by decide +kernel) rfl
theorem w_787 : Cond.constant "java/lang/Integer" 265 (1431655765) ∈ lw_good := lw_g 787 (by decide +kernel) rfl
theorem w_788 : Cond.constant "java/lang/Integer" 266 (858993459) ∈ lw_good := lw_g 788 (by decide +kernel) rfl
theorem w_789 : Cond.constant "java/lang/Integer" 267 (252645135) ∈ lw_good := lw_g 789 (by decide +kernel) rfl
theorem w_799 : Cond.methodLinkNest "ImposeSheets$Sharing" 93 ⟨"ImposeSheets", "upward", "(II)I"⟩ "ImposeSheets" ∈ lw_nest := lw_n 799 (by decide +kernel) rfl
theorem w_794 : Cond.constant "ImposeSheets$Sharing" 88 (100000) ∈ lw_good := lw_g 794 (by decide +kernel) rfl
theorem w_795 : Cond.methodLink "ImposeSheets$Sharing" 89 ⟨"ImposeSheets$Sharing", "slotsFor", "(II)I"⟩ ∈ lw_good := lw_g 795 (by decide +kernel) rfl
set_option maxRecDepth 100000 in
theorem w_798 : Cond.code y_Sh_slotsFor c_Sh_slotsFor 5 (some .int) ∈ lw_good := lw_g 798 rfl rfl
theorem w_797 : Cond.instanceMethod ⟨"ImposeSheets$Sharing", "slotsFor", "(II)I"⟩ ∈ lw_good := lw_g 797 (by decide +kernel) rfl
theorem w_33 : Cond.selects "ImposeSheets$Sharing" ⟨"ImposeSheets$Sharing", "slotsFor", "(II)I"⟩ ⟨"ImposeSheets$Sharing", "slotsFor", "(II)I"⟩ ∈ lw_good := lw_g 33 (by decide +kernel) rfl
theorem w_200 : Cond.fieldLink "ImposeSheets$Sharing" 34 "ImposeSheets$Sharing" "slots" "I" ∈ lw_good := lw_g 200 (by decide +kernel) rfl
theorem w_194 : Cond.fieldLink "ImposeSheets$Sharing" 15 "ImposeSheets$Sharing" "needs" "[I" ∈ lw_good := lw_g 194 (by decide +kernel) rfl
theorem w_784 : Cond.methodLink "ImposeSheets$Sharing" 80 ⟨"java/lang/Integer", "bitCount", "(I)I"⟩ ∈ lw_good := lw_g 784 (by decide +kernel) rfl
set_option maxRecDepth 100000 in
theorem w_786 : Cond.code y_In_bitCount c_In_bitCount 1 (some .int) ∈ lw_good := lw_g 786 rfl rfl
theorem w_78 : Cond.initialized "java/lang/Integer" ∈ lw_good := lw_g 78 (by decide +kernel) rfl
theorem w_785 : Cond.static ⟨"java/lang/Integer", "bitCount", "(I)I"⟩ ∈ lw_good := lw_g 785 (by decide +kernel) rfl
theorem w_790 : Cond.methodLink "ImposeSheets$Sharing" 85 ⟨"ImposeSheets$Sharing", "leastSheets", "(I)I"⟩ ∈ lw_good := lw_g 790 (by decide +kernel) rfl
set_option maxRecDepth 100000 in
theorem w_793 : Cond.code y_Sh_leastSheets c_Sh_leastSheets 6 (some .int) ∈ lw_good := lw_g 793 rfl rfl
theorem w_792 : Cond.instanceMethod ⟨"ImposeSheets$Sharing", "leastSheets", "(I)I"⟩ ∈ lw_good := lw_g 792 (by decide +kernel) rfl
theorem w_32 : Cond.selects "ImposeSheets$Sharing" ⟨"ImposeSheets$Sharing", "leastSheets", "(I)I"⟩ ⟨"ImposeSheets$Sharing", "leastSheets", "(I)I"⟩ ∈ lw_good := lw_g 32 (by decide +kernel) rfl
theorem w_767 : Cond.methodLink "ImposeSheets$Sharing" 70 ⟨"ImposeSheets$Sharing", "fillPlates", "()V"⟩ ∈ lw_good := lw_g 767 (by decide +kernel) rfl
set_option maxRecDepth 100000 in
theorem w_770 : Cond.code y_Sh_fillPlates c_Sh_fillPlates 3 none ∈ lw_good := lw_g 770 rfl rfl
theorem w_769 : Cond.instanceMethod ⟨"ImposeSheets$Sharing", "fillPlates", "()V"⟩ ∈ lw_good := lw_g 769 (by decide +kernel) rfl
theorem w_28 : Cond.selects "ImposeSheets$Sharing" ⟨"ImposeSheets$Sharing", "fillPlates", "()V"⟩ ⟨"ImposeSheets$Sharing", "fillPlates", "()V"⟩ ∈ lw_good := lw_g 28 (by decide +kernel) rfl
theorem w_771 : Cond.methodLink "ImposeSheets$Sharing" 73 ⟨"ImposeSheets$Sharing", "plateCount", "()I"⟩ ∈ lw_good := lw_g 771 (by decide +kernel) rfl
set_option maxRecDepth 100000 in
theorem w_774 : Cond.code y_Sh_plateCount c_Sh_plateCount 1 (some .int) ∈ lw_good := lw_g 774 rfl rfl
theorem w_773 : Cond.instanceMethod ⟨"ImposeSheets$Sharing", "plateCount", "()I"⟩ ∈ lw_good := lw_g 773 (by decide +kernel) rfl
theorem w_29 : Cond.selects "ImposeSheets$Sharing" ⟨"ImposeSheets$Sharing", "plateCount", "()I"⟩ ⟨"ImposeSheets$Sharing", "plateCount", "()I"⟩ ∈ lw_good := lw_g 29 (by decide +kernel) rfl
theorem w_780 : Cond.methodLink "ImposeSheets$Sharing" 77 ⟨"ImposeSheets$Sharing", "sheetsFor", "(I)I"⟩ ∈ lw_good := lw_g 780 (by decide +kernel) rfl
set_option maxRecDepth 100000 in
theorem w_783 : Cond.code y_Sh_sheetsFor c_Sh_sheetsFor 2 (some .int) ∈ lw_good := lw_g 783 rfl rfl
theorem w_782 : Cond.instanceMethod ⟨"ImposeSheets$Sharing", "sheetsFor", "(I)I"⟩ ∈ lw_good := lw_g 782 (by decide +kernel) rfl
theorem w_31 : Cond.selects "ImposeSheets$Sharing" ⟨"ImposeSheets$Sharing", "sheetsFor", "(I)I"⟩ ⟨"ImposeSheets$Sharing", "sheetsFor", "(I)I"⟩ ∈ lw_good := lw_g 31 (by decide +kernel) rfl
theorem w_204 : Cond.fieldLink "ImposeSheets$Sharing" 47 "ImposeSheets$Sharing" "takenPlates" "I" ∈ lw_good := lw_g 204 (by decide +kernel) rfl
theorem w_197 : Cond.fieldLink "ImposeSheets$Sharing" 24 "ImposeSheets$Sharing" "takenPlate" "[I" ∈ lw_good := lw_g 197 (by decide +kernel) rfl
theorem w_198 : Cond.fieldLink "ImposeSheets$Sharing" 27 "ImposeSheets$Sharing" "takenSheets" "[I" ∈ lw_good := lw_g 198 (by decide +kernel) rfl
theorem w_808 : Cond.methodLink "ImposeSheets$Sharing" 96 ⟨"java/lang/Math", "min", "(II)I"⟩ ∈ lw_good := lw_g 808 (by decide +kernel) rfl
theorem w_203 : Cond.fieldLink "ImposeSheets$Sharing" 44 "ImposeSheets$Sharing" "sharedJobs" "I" ∈ lw_good := lw_g 203 (by decide +kernel) rfl
theorem w_202 : Cond.fieldLink "ImposeSheets$Sharing" 40 "ImposeSheets$Sharing" "allLookedAt" "Z" ∈ lw_good := lw_g 202 (by decide +kernel) rfl
theorem w_763 : Cond.methodLink "ImposeSheets$Sharing" 56 ⟨"ImposeSheets$Sharing", "costOfWay", "(I)I"⟩ ∈ lw_good := lw_g 763 (by decide +kernel) rfl
set_option maxRecDepth 100000 in
theorem w_766 : Cond.code y_Sh_costOfWay c_Sh_costOfWay 6 (some .int) ∈ lw_good := lw_g 766 rfl rfl
theorem w_765 : Cond.instanceMethod ⟨"ImposeSheets$Sharing", "costOfWay", "(I)I"⟩ ∈ lw_good := lw_g 765 (by decide +kernel) rfl
theorem w_27 : Cond.selects "ImposeSheets$Sharing" ⟨"ImposeSheets$Sharing", "costOfWay", "(I)I"⟩ ⟨"ImposeSheets$Sharing", "costOfWay", "(I)I"⟩ ∈ lw_good := lw_g 27 (by decide +kernel) rfl
theorem w_800 : Cond.methodLink "ImposeSheets$Sharing" 60 ⟨"ImposeSheets$Sharing", "takeWay", "()V"⟩ ∈ lw_good := lw_g 800 (by decide +kernel) rfl
set_option maxRecDepth 100000 in
theorem w_803 : Cond.code y_Sh_takeWay c_Sh_takeWay 3 none ∈ lw_good := lw_g 803 rfl rfl
theorem w_802 : Cond.instanceMethod ⟨"ImposeSheets$Sharing", "takeWay", "()V"⟩ ∈ lw_good := lw_g 802 (by decide +kernel) rfl
theorem w_34 : Cond.selects "ImposeSheets$Sharing" ⟨"ImposeSheets$Sharing", "takeWay", "()V"⟩ ⟨"ImposeSheets$Sharing", "takeWay", "()V"⟩ ∈ lw_good := lw_g 34 (by decide +kernel) rfl
theorem w_804 : Cond.methodLink "ImposeSheets$Sharing" 63 ⟨"ImposeSheets$Sharing", "goToNextWay", "()Z"⟩ ∈ lw_good := lw_g 804 (by decide +kernel) rfl
set_option maxRecDepth 100000 in
theorem w_807 : Cond.code y_Sh_goToNextWay c_Sh_goToNextWay 2 (some .boolean) ∈ lw_good := lw_g 807 rfl rfl
theorem w_806 : Cond.instanceMethod ⟨"ImposeSheets$Sharing", "goToNextWay", "()Z"⟩ ∈ lw_good := lw_g 806 (by decide +kernel) rfl
theorem w_35 : Cond.selects "ImposeSheets$Sharing" ⟨"ImposeSheets$Sharing", "goToNextWay", "()Z"⟩ ⟨"ImposeSheets$Sharing", "goToNextWay", "()Z"⟩ ∈ lw_good := lw_g 35 (by decide +kernel) rfl
