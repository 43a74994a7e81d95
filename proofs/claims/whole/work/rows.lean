section
-- ===== PART A: goes FIRST, ahead of the names: the tables' words, and 'selects' of the private methods out of them =====
/-- a private method of a class that the tables say can be made, by its rows of tables_1 -/
def lw_okq (q : MethodName × Nat) : Prop := (q.1.cls ≠ "java/lang/invoke/MethodHandle" ∧ q.1.cls ≠ "java/lang/invoke/VarHandle") ∧ Cond.instantiable q.1.cls q.2 ∈ tables_1 ∧ Cond.privateMethod q.1 ∈ tables_1 ∧ Cond.instanceMethod q.1 ∈ tables_1
theorem lw_p0 : lw_okq (⟨"ImposeSheets$SchemeReader", "readSize", "(LImposeSheets$Scheme;)Z"⟩, 5) := ⟨⟨by decide +kernel, by decide +kernel⟩, List.mem_of_getElem? (i := 43) (by decide +kernel), List.mem_of_getElem? (i := 246) (by decide +kernel), List.mem_of_getElem? (i := 247) (by decide +kernel)⟩
theorem lw_p1 : lw_okq (⟨"ImposeSheets$SchemeReader", "readNumber", "(I)Z"⟩, 5) := ⟨⟨by decide +kernel, by decide +kernel⟩, List.mem_of_getElem? (i := 43) (by decide +kernel), List.mem_of_getElem? (i := 250) (by decide +kernel), List.mem_of_getElem? (i := 251) (by decide +kernel)⟩
theorem lw_p2 : lw_okq (⟨"ImposeSheets$SchemeReader", "next", "()I"⟩, 5) := ⟨⟨by decide +kernel, by decide +kernel⟩, List.mem_of_getElem? (i := 43) (by decide +kernel), List.mem_of_getElem? (i := 254) (by decide +kernel), List.mem_of_getElem? (i := 255) (by decide +kernel)⟩
theorem lw_p3 : lw_okq (⟨"ImposeSheets$SchemeReader", "failAt", "(I)Z"⟩, 5) := ⟨⟨by decide +kernel, by decide +kernel⟩, List.mem_of_getElem? (i := 43) (by decide +kernel), List.mem_of_getElem? (i := 265) (by decide +kernel), List.mem_of_getElem? (i := 266) (by decide +kernel)⟩
theorem lw_p4 : lw_okq (⟨"ImposeSheets$SchemeReader", "expect", "(I)Z"⟩, 5) := ⟨⟨by decide +kernel, by decide +kernel⟩, List.mem_of_getElem? (i := 43) (by decide +kernel), List.mem_of_getElem? (i := 278) (by decide +kernel), List.mem_of_getElem? (i := 279) (by decide +kernel)⟩
theorem lw_p5 : lw_okq (⟨"ImposeSheets$SchemeReader", "readFolds", "(LImposeSheets$Scheme;)Z"⟩, 5) := ⟨⟨by decide +kernel, by decide +kernel⟩, List.mem_of_getElem? (i := 43) (by decide +kernel), List.mem_of_getElem? (i := 286) (by decide +kernel), List.mem_of_getElem? (i := 287) (by decide +kernel)⟩
theorem lw_p6 : lw_okq (⟨"ImposeSheets$Folding", "layOut", "(LImposeSheets$Scheme;)V"⟩, 7) := ⟨⟨by decide +kernel, by decide +kernel⟩, List.mem_of_getElem? (i := 49) (by decide +kernel), List.mem_of_getElem? (i := 316) (by decide +kernel), List.mem_of_getElem? (i := 317) (by decide +kernel)⟩
theorem lw_p7 : lw_okq (⟨"ImposeSheets$Folding", "foldOnce", "(I)Z"⟩, 7) := ⟨⟨by decide +kernel, by decide +kernel⟩, List.mem_of_getElem? (i := 49) (by decide +kernel), List.mem_of_getElem? (i := 320) (by decide +kernel), List.mem_of_getElem? (i := 321) (by decide +kernel)⟩
theorem lw_p8 : lw_okq (⟨"ImposeSheets$Folding", "foldAcross", "(I)V"⟩, 7) := ⟨⟨by decide +kernel, by decide +kernel⟩, List.mem_of_getElem? (i := 49) (by decide +kernel), List.mem_of_getElem? (i := 324) (by decide +kernel), List.mem_of_getElem? (i := 325) (by decide +kernel)⟩
theorem lw_p9 : lw_okq (⟨"ImposeSheets$Folding", "putOver", "(III)V"⟩, 7) := ⟨⟨by decide +kernel, by decide +kernel⟩, List.mem_of_getElem? (i := 49) (by decide +kernel), List.mem_of_getElem? (i := 328) (by decide +kernel), List.mem_of_getElem? (i := 329) (by decide +kernel)⟩
theorem lw_p10 : lw_okq (⟨"ImposeSheets$Folding", "foldDown", "(I)V"⟩, 7) := ⟨⟨by decide +kernel, by decide +kernel⟩, List.mem_of_getElem? (i := 49) (by decide +kernel), List.mem_of_getElem? (i := 332) (by decide +kernel), List.mem_of_getElem? (i := 333) (by decide +kernel)⟩
theorem lw_p11 : lw_okq (⟨"ImposeSheets$Folding", "takePile", "(LImposeSheets$Scheme;)V"⟩, 7) := ⟨⟨by decide +kernel, by decide +kernel⟩, List.mem_of_getElem? (i := 49) (by decide +kernel), List.mem_of_getElem? (i := 336) (by decide +kernel), List.mem_of_getElem? (i := 337) (by decide +kernel)⟩
theorem lw_p12 : lw_okq (⟨"ImposeSheets$SchemeReader", "readPages", "(LImposeSheets$Scheme;)Z"⟩, 5) := ⟨⟨by decide +kernel, by decide +kernel⟩, List.mem_of_getElem? (i := 43) (by decide +kernel), List.mem_of_getElem? (i := 340) (by decide +kernel), List.mem_of_getElem? (i := 341) (by decide +kernel)⟩
theorem lw_p13 : lw_okq (⟨"ImposeSheets$SchemeReader", "readSide", "(LImposeSheets$Scheme;I)Z"⟩, 5) := ⟨⟨by decide +kernel, by decide +kernel⟩, List.mem_of_getElem? (i := 43) (by decide +kernel), List.mem_of_getElem? (i := 344) (by decide +kernel), List.mem_of_getElem? (i := 345) (by decide +kernel)⟩
theorem lw_p14 : lw_okq (⟨"ImposeSheets$Scheme", "isToldRight", "(II)Z"⟩, 8) := ⟨⟨by decide +kernel, by decide +kernel⟩, List.mem_of_getElem? (i := 172) (by decide +kernel), List.mem_of_getElem? (i := 371) (by decide +kernel), List.mem_of_getElem? (i := 372) (by decide +kernel)⟩
theorem lw_p15 : lw_okq (⟨"ImposeSheets$Scheme", "leafOf", "(I)I"⟩, 8) := ⟨⟨by decide +kernel, by decide +kernel⟩, List.mem_of_getElem? (i := 172) (by decide +kernel), List.mem_of_getElem? (i := 379) (by decide +kernel), List.mem_of_getElem? (i := 380) (by decide +kernel)⟩
def lw_privs_1 : List (MethodName × Nat) := [(⟨"ImposeSheets$SchemeReader", "readSize", "(LImposeSheets$Scheme;)Z"⟩, 5), (⟨"ImposeSheets$SchemeReader", "readNumber", "(I)Z"⟩, 5), (⟨"ImposeSheets$SchemeReader", "next", "()I"⟩, 5), (⟨"ImposeSheets$SchemeReader", "failAt", "(I)Z"⟩, 5), (⟨"ImposeSheets$SchemeReader", "expect", "(I)Z"⟩, 5), (⟨"ImposeSheets$SchemeReader", "readFolds", "(LImposeSheets$Scheme;)Z"⟩, 5), (⟨"ImposeSheets$Folding", "layOut", "(LImposeSheets$Scheme;)V"⟩, 7), (⟨"ImposeSheets$Folding", "foldOnce", "(I)Z"⟩, 7), (⟨"ImposeSheets$Folding", "foldAcross", "(I)V"⟩, 7), (⟨"ImposeSheets$Folding", "putOver", "(III)V"⟩, 7), (⟨"ImposeSheets$Folding", "foldDown", "(I)V"⟩, 7), (⟨"ImposeSheets$Folding", "takePile", "(LImposeSheets$Scheme;)V"⟩, 7), (⟨"ImposeSheets$SchemeReader", "readPages", "(LImposeSheets$Scheme;)Z"⟩, 5), (⟨"ImposeSheets$SchemeReader", "readSide", "(LImposeSheets$Scheme;I)Z"⟩, 5), (⟨"ImposeSheets$Scheme", "isToldRight", "(II)Z"⟩, 8), (⟨"ImposeSheets$Scheme", "leafOf", "(I)I"⟩, 8)]
theorem lw_r1 : ∀ q ∈ lw_privs_1, lw_okq q := List.forall_mem_cons.mpr ⟨lw_p0, List.forall_mem_cons.mpr ⟨lw_p1, List.forall_mem_cons.mpr ⟨lw_p2, List.forall_mem_cons.mpr ⟨lw_p3, List.forall_mem_cons.mpr ⟨lw_p4, List.forall_mem_cons.mpr ⟨lw_p5, List.forall_mem_cons.mpr ⟨lw_p6, List.forall_mem_cons.mpr ⟨lw_p7, List.forall_mem_cons.mpr ⟨lw_p8, List.forall_mem_cons.mpr ⟨lw_p9, List.forall_mem_cons.mpr ⟨lw_p10, List.forall_mem_cons.mpr ⟨lw_p11, List.forall_mem_cons.mpr ⟨lw_p12, List.forall_mem_cons.mpr ⟨lw_p13, List.forall_mem_cons.mpr ⟨lw_p14, List.forall_mem_cons.mpr ⟨lw_p15, fun _ h => absurd h List.not_mem_nil⟩⟩⟩⟩⟩⟩⟩⟩⟩⟩⟩⟩⟩⟩⟩⟩
theorem lw_p16 : lw_okq (⟨"ImposeSheets$Scheme", "sideOf", "(I)I"⟩, 8) := ⟨⟨by decide +kernel, by decide +kernel⟩, List.mem_of_getElem? (i := 172) (by decide +kernel), List.mem_of_getElem? (i := 383) (by decide +kernel), List.mem_of_getElem? (i := 384) (by decide +kernel)⟩
theorem lw_p17 : lw_okq (⟨"java/lang/Throwable", "fillInStackTrace", "(I)Ljava/lang/Throwable;"⟩, 6) := ⟨⟨by decide +kernel, by decide +kernel⟩, List.mem_of_getElem? (i := 447) (by decide +kernel), List.mem_of_getElem? (i := 445) (by decide +kernel), List.mem_of_getElem? (i := 446) (by decide +kernel)⟩
theorem lw_p18 : lw_okq (⟨"ImposeSheets$Book", "findScale", "()I"⟩, 8) := ⟨⟨by decide +kernel, by decide +kernel⟩, List.mem_of_getElem? (i := 98) (by decide +kernel), List.mem_of_getElem? (i := 539) (by decide +kernel), List.mem_of_getElem? (i := 540) (by decide +kernel)⟩
theorem lw_p19 : lw_okq (⟨"ImposeSheets$Book", "isPageGreater", "()Z"⟩, 8) := ⟨⟨by decide +kernel, by decide +kernel⟩, List.mem_of_getElem? (i := 98) (by decide +kernel), List.mem_of_getElem? (i := 543) (by decide +kernel), List.mem_of_getElem? (i := 544) (by decide +kernel)⟩
theorem lw_p20 : lw_okq (⟨"ImposeSheets$Book", "placeOf", "(II)I"⟩, 8) := ⟨⟨by decide +kernel, by decide +kernel⟩, List.mem_of_getElem? (i := 98) (by decide +kernel), List.mem_of_getElem? (i := 574) (by decide +kernel), List.mem_of_getElem? (i := 575) (by decide +kernel)⟩
theorem lw_p21 : lw_okq (⟨"ImposeSheets$Book", "blanksBefore", "()I"⟩, 8) := ⟨⟨by decide +kernel, by decide +kernel⟩, List.mem_of_getElem? (i := 98) (by decide +kernel), List.mem_of_getElem? (i := 586) (by decide +kernel), List.mem_of_getElem? (i := 587) (by decide +kernel)⟩
theorem lw_p22 : lw_okq (⟨"ImposeSheets$Book", "leftEdge", "(III)I"⟩, 8) := ⟨⟨by decide +kernel, by decide +kernel⟩, List.mem_of_getElem? (i := 98) (by decide +kernel), List.mem_of_getElem? (i := 598) (by decide +kernel), List.mem_of_getElem? (i := 599) (by decide +kernel)⟩
theorem lw_p23 : lw_okq (⟨"ImposeSheets$Book", "creepOfPlace", "(I)I"⟩, 8) := ⟨⟨by decide +kernel, by decide +kernel⟩, List.mem_of_getElem? (i := 98) (by decide +kernel), List.mem_of_getElem? (i := 602) (by decide +kernel), List.mem_of_getElem? (i := 603) (by decide +kernel)⟩
theorem lw_p24 : lw_okq (⟨"ImposeSheets$Book", "depthOf", "(I)I"⟩, 8) := ⟨⟨by decide +kernel, by decide +kernel⟩, List.mem_of_getElem? (i := 98) (by decide +kernel), List.mem_of_getElem? (i := 606) (by decide +kernel), List.mem_of_getElem? (i := 607) (by decide +kernel)⟩
theorem lw_p25 : lw_okq (⟨"ImposeSheets$Book", "margin", "(II)I"⟩, 8) := ⟨⟨by decide +kernel, by decide +kernel⟩, List.mem_of_getElem? (i := 98) (by decide +kernel), List.mem_of_getElem? (i := 610) (by decide +kernel), List.mem_of_getElem? (i := 611) (by decide +kernel)⟩
theorem lw_p26 : lw_okq (⟨"ImposeSheets$Book", "topEdge", "(I)I"⟩, 8) := ⟨⟨by decide +kernel, by decide +kernel⟩, List.mem_of_getElem? (i := 98) (by decide +kernel), List.mem_of_getElem? (i := 614) (by decide +kernel), List.mem_of_getElem? (i := 615) (by decide +kernel)⟩
theorem lw_p27 : lw_okq (⟨"ImposeSheets$Sharing", "costOfWay", "(I)I"⟩, 12) := ⟨⟨by decide +kernel, by decide +kernel⟩, List.mem_of_getElem? (i := 129) (by decide +kernel), List.mem_of_getElem? (i := 705) (by decide +kernel), List.mem_of_getElem? (i := 706) (by decide +kernel)⟩
theorem lw_p28 : lw_okq (⟨"ImposeSheets$Sharing", "fillPlates", "()V"⟩, 12) := ⟨⟨by decide +kernel, by decide +kernel⟩, List.mem_of_getElem? (i := 129) (by decide +kernel), List.mem_of_getElem? (i := 709) (by decide +kernel), List.mem_of_getElem? (i := 710) (by decide +kernel)⟩
theorem lw_p29 : lw_okq (⟨"ImposeSheets$Sharing", "plateCount", "()I"⟩, 12) := ⟨⟨by decide +kernel, by decide +kernel⟩, List.mem_of_getElem? (i := 129) (by decide +kernel), List.mem_of_getElem? (i := 713) (by decide +kernel), List.mem_of_getElem? (i := 714) (by decide +kernel)⟩
theorem lw_p30 : lw_okq (⟨"ImposeSheets$Sharing", "greatestBefore", "(I)I"⟩, 12) := ⟨⟨by decide +kernel, by decide +kernel⟩, List.mem_of_getElem? (i := 129) (by decide +kernel), List.mem_of_getElem? (i := 717) (by decide +kernel), List.mem_of_getElem? (i := 718) (by decide +kernel)⟩
theorem lw_p31 : lw_okq (⟨"ImposeSheets$Sharing", "sheetsFor", "(I)I"⟩, 12) := ⟨⟨by decide +kernel, by decide +kernel⟩, List.mem_of_getElem? (i := 129) (by decide +kernel), List.mem_of_getElem? (i := 722) (by decide +kernel), List.mem_of_getElem? (i := 723) (by decide +kernel)⟩
def lw_privs_2 : List (MethodName × Nat) := [(⟨"ImposeSheets$Scheme", "sideOf", "(I)I"⟩, 8), (⟨"java/lang/Throwable", "fillInStackTrace", "(I)Ljava/lang/Throwable;"⟩, 6), (⟨"ImposeSheets$Book", "findScale", "()I"⟩, 8), (⟨"ImposeSheets$Book", "isPageGreater", "()Z"⟩, 8), (⟨"ImposeSheets$Book", "placeOf", "(II)I"⟩, 8), (⟨"ImposeSheets$Book", "blanksBefore", "()I"⟩, 8), (⟨"ImposeSheets$Book", "leftEdge", "(III)I"⟩, 8), (⟨"ImposeSheets$Book", "creepOfPlace", "(I)I"⟩, 8), (⟨"ImposeSheets$Book", "depthOf", "(I)I"⟩, 8), (⟨"ImposeSheets$Book", "margin", "(II)I"⟩, 8), (⟨"ImposeSheets$Book", "topEdge", "(I)I"⟩, 8), (⟨"ImposeSheets$Sharing", "costOfWay", "(I)I"⟩, 12), (⟨"ImposeSheets$Sharing", "fillPlates", "()V"⟩, 12), (⟨"ImposeSheets$Sharing", "plateCount", "()I"⟩, 12), (⟨"ImposeSheets$Sharing", "greatestBefore", "(I)I"⟩, 12), (⟨"ImposeSheets$Sharing", "sheetsFor", "(I)I"⟩, 12)]
theorem lw_r2 : ∀ q ∈ lw_privs_2, lw_okq q := List.forall_mem_cons.mpr ⟨lw_p16, List.forall_mem_cons.mpr ⟨lw_p17, List.forall_mem_cons.mpr ⟨lw_p18, List.forall_mem_cons.mpr ⟨lw_p19, List.forall_mem_cons.mpr ⟨lw_p20, List.forall_mem_cons.mpr ⟨lw_p21, List.forall_mem_cons.mpr ⟨lw_p22, List.forall_mem_cons.mpr ⟨lw_p23, List.forall_mem_cons.mpr ⟨lw_p24, List.forall_mem_cons.mpr ⟨lw_p25, List.forall_mem_cons.mpr ⟨lw_p26, List.forall_mem_cons.mpr ⟨lw_p27, List.forall_mem_cons.mpr ⟨lw_p28, List.forall_mem_cons.mpr ⟨lw_p29, List.forall_mem_cons.mpr ⟨lw_p30, List.forall_mem_cons.mpr ⟨lw_p31, fun _ h => absurd h List.not_mem_nil⟩⟩⟩⟩⟩⟩⟩⟩⟩⟩⟩⟩⟩⟩⟩⟩
theorem lw_p32 : lw_okq (⟨"ImposeSheets$Sharing", "leastSheets", "(I)I"⟩, 12) := ⟨⟨by decide +kernel, by decide +kernel⟩, List.mem_of_getElem? (i := 129) (by decide +kernel), List.mem_of_getElem? (i := 732) (by decide +kernel), List.mem_of_getElem? (i := 733) (by decide +kernel)⟩
theorem lw_p33 : lw_okq (⟨"ImposeSheets$Sharing", "slotsFor", "(II)I"⟩, 12) := ⟨⟨by decide +kernel, by decide +kernel⟩, List.mem_of_getElem? (i := 129) (by decide +kernel), List.mem_of_getElem? (i := 737) (by decide +kernel), List.mem_of_getElem? (i := 738) (by decide +kernel)⟩
theorem lw_p34 : lw_okq (⟨"ImposeSheets$Sharing", "takeWay", "()V"⟩, 12) := ⟨⟨by decide +kernel, by decide +kernel⟩, List.mem_of_getElem? (i := 129) (by decide +kernel), List.mem_of_getElem? (i := 742) (by decide +kernel), List.mem_of_getElem? (i := 743) (by decide +kernel)⟩
theorem lw_p35 : lw_okq (⟨"ImposeSheets$Sharing", "goToNextWay", "()Z"⟩, 12) := ⟨⟨by decide +kernel, by decide +kernel⟩, List.mem_of_getElem? (i := 129) (by decide +kernel), List.mem_of_getElem? (i := 746) (by decide +kernel), List.mem_of_getElem? (i := 747) (by decide +kernel)⟩
theorem lw_p36 : lw_okq (⟨"ImposeSheetsModel", "number", "(I)I"⟩, 55) := ⟨⟨by decide +kernel, by decide +kernel⟩, List.mem_of_getElem? (i := 766) (by decide +kernel), List.mem_of_getElem? (i := 952) (by decide +kernel), List.mem_of_getElem? (i := 953) (by decide +kernel)⟩
theorem lw_p37 : lw_okq (⟨"ImposeSheetsModel", "isDigit", "()Z"⟩, 55) := ⟨⟨by decide +kernel, by decide +kernel⟩, List.mem_of_getElem? (i := 766) (by decide +kernel), List.mem_of_getElem? (i := 956) (by decide +kernel), List.mem_of_getElem? (i := 957) (by decide +kernel)⟩
theorem lw_p38 : lw_okq (⟨"ImposeSheetsModel", "byteAt", "()I"⟩, 55) := ⟨⟨by decide +kernel, by decide +kernel⟩, List.mem_of_getElem? (i := 766) (by decide +kernel), List.mem_of_getElem? (i := 960) (by decide +kernel), List.mem_of_getElem? (i := 961) (by decide +kernel)⟩
theorem lw_p39 : lw_okq (⟨"ImposeSheetsModel", "fail", "(I)V"⟩, 55) := ⟨⟨by decide +kernel, by decide +kernel⟩, List.mem_of_getElem? (i := 766) (by decide +kernel), List.mem_of_getElem? (i := 964) (by decide +kernel), List.mem_of_getElem? (i := 965) (by decide +kernel)⟩
theorem lw_p40 : lw_okq (⟨"ImposeSheetsModel", "sign", "(I)V"⟩, 55) := ⟨⟨by decide +kernel, by decide +kernel⟩, List.mem_of_getElem? (i := 766) (by decide +kernel), List.mem_of_getElem? (i := 968) (by decide +kernel), List.mem_of_getElem? (i := 969) (by decide +kernel)⟩
theorem lw_p41 : lw_okq (⟨"ImposeSheetsModel", "readFolds", "()V"⟩, 55) := ⟨⟨by decide +kernel, by decide +kernel⟩, List.mem_of_getElem? (i := 766) (by decide +kernel), List.mem_of_getElem? (i := 972) (by decide +kernel), List.mem_of_getElem? (i := 973) (by decide +kernel)⟩
theorem lw_p42 : lw_okq (⟨"ImposeSheetsModel", "readPages", "()V"⟩, 55) := ⟨⟨by decide +kernel, by decide +kernel⟩, List.mem_of_getElem? (i := 766) (by decide +kernel), List.mem_of_getElem? (i := 982) (by decide +kernel), List.mem_of_getElem? (i := 983) (by decide +kernel)⟩
theorem lw_p43 : lw_okq (⟨"ImposeSheetsModel", "brokenPage", "()I"⟩, 55) := ⟨⟨by decide +kernel, by decide +kernel⟩, List.mem_of_getElem? (i := 766) (by decide +kernel), List.mem_of_getElem? (i := 990) (by decide +kernel), List.mem_of_getElem? (i := 991) (by decide +kernel)⟩
theorem lw_p44 : lw_okq (⟨"ImposeSheetsModel", "foldAll", "()V"⟩, 55) := ⟨⟨by decide +kernel, by decide +kernel⟩, List.mem_of_getElem? (i := 766) (by decide +kernel), List.mem_of_getElem? (i := 994) (by decide +kernel), List.mem_of_getElem? (i := 995) (by decide +kernel)⟩
theorem lw_p45 : lw_okq (⟨"ImposeSheetsModel", "foldOnce", "(I)V"⟩, 55) := ⟨⟨by decide +kernel, by decide +kernel⟩, List.mem_of_getElem? (i := 766) (by decide +kernel), List.mem_of_getElem? (i := 1001) (by decide +kernel), List.mem_of_getElem? (i := 1002) (by decide +kernel)⟩
theorem lw_p46 : lw_okq (⟨"ImposeSheetsModel", "turnOnto", "(IIZ)V"⟩, 55) := ⟨⟨by decide +kernel, by decide +kernel⟩, List.mem_of_getElem? (i := 766) (by decide +kernel), List.mem_of_getElem? (i := 1005) (by decide +kernel), List.mem_of_getElem? (i := 1006) (by decide +kernel)⟩
theorem lw_p47 : lw_okq (⟨"ImposeSheetsModel", "movePile", "(II)V"⟩, 55) := ⟨⟨by decide +kernel, by decide +kernel⟩, List.mem_of_getElem? (i := 766) (by decide +kernel), List.mem_of_getElem? (i := 1009) (by decide +kernel), List.mem_of_getElem? (i := 1010) (by decide +kernel)⟩
def lw_privs_3 : List (MethodName × Nat) := [(⟨"ImposeSheets$Sharing", "leastSheets", "(I)I"⟩, 12), (⟨"ImposeSheets$Sharing", "slotsFor", "(II)I"⟩, 12), (⟨"ImposeSheets$Sharing", "takeWay", "()V"⟩, 12), (⟨"ImposeSheets$Sharing", "goToNextWay", "()Z"⟩, 12), (⟨"ImposeSheetsModel", "number", "(I)I"⟩, 55), (⟨"ImposeSheetsModel", "isDigit", "()Z"⟩, 55), (⟨"ImposeSheetsModel", "byteAt", "()I"⟩, 55), (⟨"ImposeSheetsModel", "fail", "(I)V"⟩, 55), (⟨"ImposeSheetsModel", "sign", "(I)V"⟩, 55), (⟨"ImposeSheetsModel", "readFolds", "()V"⟩, 55), (⟨"ImposeSheetsModel", "readPages", "()V"⟩, 55), (⟨"ImposeSheetsModel", "brokenPage", "()I"⟩, 55), (⟨"ImposeSheetsModel", "foldAll", "()V"⟩, 55), (⟨"ImposeSheetsModel", "foldOnce", "(I)V"⟩, 55), (⟨"ImposeSheetsModel", "turnOnto", "(IIZ)V"⟩, 55), (⟨"ImposeSheetsModel", "movePile", "(II)V"⟩, 55)]
theorem lw_r3 : ∀ q ∈ lw_privs_3, lw_okq q := List.forall_mem_cons.mpr ⟨lw_p32, List.forall_mem_cons.mpr ⟨lw_p33, List.forall_mem_cons.mpr ⟨lw_p34, List.forall_mem_cons.mpr ⟨lw_p35, List.forall_mem_cons.mpr ⟨lw_p36, List.forall_mem_cons.mpr ⟨lw_p37, List.forall_mem_cons.mpr ⟨lw_p38, List.forall_mem_cons.mpr ⟨lw_p39, List.forall_mem_cons.mpr ⟨lw_p40, List.forall_mem_cons.mpr ⟨lw_p41, List.forall_mem_cons.mpr ⟨lw_p42, List.forall_mem_cons.mpr ⟨lw_p43, List.forall_mem_cons.mpr ⟨lw_p44, List.forall_mem_cons.mpr ⟨lw_p45, List.forall_mem_cons.mpr ⟨lw_p46, List.forall_mem_cons.mpr ⟨lw_p47, fun _ h => absurd h List.not_mem_nil⟩⟩⟩⟩⟩⟩⟩⟩⟩⟩⟩⟩⟩⟩⟩⟩
theorem lw_p48 : lw_okq (⟨"ImposeSheetsModel", "setPage", "(IIZZ)V"⟩, 55) := ⟨⟨by decide +kernel, by decide +kernel⟩, List.mem_of_getElem? (i := 766) (by decide +kernel), List.mem_of_getElem? (i := 1013) (by decide +kernel), List.mem_of_getElem? (i := 1014) (by decide +kernel)⟩
theorem lw_p49 : lw_okq (⟨"ImposeSheetsModel", "lay", "(IIII)V"⟩, 55) := ⟨⟨by decide +kernel, by decide +kernel⟩, List.mem_of_getElem? (i := 766) (by decide +kernel), List.mem_of_getElem? (i := 1026) (by decide +kernel), List.mem_of_getElem? (i := 1027) (by decide +kernel)⟩
theorem lw_p50 : lw_okq (⟨"ImposeSheetsModel", "bookPlace", "(II)I"⟩, 55) := ⟨⟨by decide +kernel, by decide +kernel⟩, List.mem_of_getElem? (i := 766) (by decide +kernel), List.mem_of_getElem? (i := 1030) (by decide +kernel), List.mem_of_getElem? (i := 1031) (by decide +kernel)⟩
theorem lw_p51 : lw_okq (⟨"ImposeSheetsModel", "creepOf", "(II)I"⟩, 55) := ⟨⟨by decide +kernel, by decide +kernel⟩, List.mem_of_getElem? (i := 766) (by decide +kernel), List.mem_of_getElem? (i := 1034) (by decide +kernel), List.mem_of_getElem? (i := 1035) (by decide +kernel)⟩
theorem lw_p52 : lw_okq (⟨"ImposeSheetsModel", "costOf", "(II)J"⟩, 55) := ⟨⟨by decide +kernel, by decide +kernel⟩, List.mem_of_getElem? (i := 766) (by decide +kernel), List.mem_of_getElem? (i := 1077) (by decide +kernel), List.mem_of_getElem? (i := 1078) (by decide +kernel)⟩
theorem lw_p53 : lw_okq (⟨"ImposeSheetsModel", "platesOf", "()I"⟩, 55) := ⟨⟨by decide +kernel, by decide +kernel⟩, List.mem_of_getElem? (i := 766) (by decide +kernel), List.mem_of_getElem? (i := 1081) (by decide +kernel), List.mem_of_getElem? (i := 1082) (by decide +kernel)⟩
theorem lw_p54 : lw_okq (⟨"ImposeSheetsModel", "sheetsOf", "(II)I"⟩, 55) := ⟨⟨by decide +kernel, by decide +kernel⟩, List.mem_of_getElem? (i := 766) (by decide +kernel), List.mem_of_getElem? (i := 1085) (by decide +kernel), List.mem_of_getElem? (i := 1086) (by decide +kernel)⟩
theorem lw_p55 : lw_okq (⟨"ImposeSheetsModel", "jobsOn", "(I)I"⟩, 55) := ⟨⟨by decide +kernel, by decide +kernel⟩, List.mem_of_getElem? (i := 766) (by decide +kernel), List.mem_of_getElem? (i := 1089) (by decide +kernel), List.mem_of_getElem? (i := 1090) (by decide +kernel)⟩
theorem lw_p56 : lw_okq (⟨"ImposeSheetsModel", "slotsFor", "(II)I"⟩, 55) := ⟨⟨by decide +kernel, by decide +kernel⟩, List.mem_of_getElem? (i := 766) (by decide +kernel), List.mem_of_getElem? (i := 1093) (by decide +kernel), List.mem_of_getElem? (i := 1094) (by decide +kernel)⟩
theorem lw_p57 : lw_okq (⟨"ImposeSheetsModel", "take", "(I)V"⟩, 55) := ⟨⟨by decide +kernel, by decide +kernel⟩, List.mem_of_getElem? (i := 766) (by decide +kernel), List.mem_of_getElem? (i := 1100) (by decide +kernel), List.mem_of_getElem? (i := 1101) (by decide +kernel)⟩
theorem lw_p58 : lw_okq (⟨"ImposeSheetsModel", "nextWay", "()Z"⟩, 55) := ⟨⟨by decide +kernel, by decide +kernel⟩, List.mem_of_getElem? (i := 766) (by decide +kernel), List.mem_of_getElem? (i := 1104) (by decide +kernel), List.mem_of_getElem? (i := 1105) (by decide +kernel)⟩
def lw_privs_4 : List (MethodName × Nat) := [(⟨"ImposeSheetsModel", "setPage", "(IIZZ)V"⟩, 55), (⟨"ImposeSheetsModel", "lay", "(IIII)V"⟩, 55), (⟨"ImposeSheetsModel", "bookPlace", "(II)I"⟩, 55), (⟨"ImposeSheetsModel", "creepOf", "(II)I"⟩, 55), (⟨"ImposeSheetsModel", "costOf", "(II)J"⟩, 55), (⟨"ImposeSheetsModel", "platesOf", "()I"⟩, 55), (⟨"ImposeSheetsModel", "sheetsOf", "(II)I"⟩, 55), (⟨"ImposeSheetsModel", "jobsOn", "(I)I"⟩, 55), (⟨"ImposeSheetsModel", "slotsFor", "(II)I"⟩, 55), (⟨"ImposeSheetsModel", "take", "(I)V"⟩, 55), (⟨"ImposeSheetsModel", "nextWay", "()Z"⟩, 55)]
theorem lw_r4 : ∀ q ∈ lw_privs_4, lw_okq q := List.forall_mem_cons.mpr ⟨lw_p48, List.forall_mem_cons.mpr ⟨lw_p49, List.forall_mem_cons.mpr ⟨lw_p50, List.forall_mem_cons.mpr ⟨lw_p51, List.forall_mem_cons.mpr ⟨lw_p52, List.forall_mem_cons.mpr ⟨lw_p53, List.forall_mem_cons.mpr ⟨lw_p54, List.forall_mem_cons.mpr ⟨lw_p55, List.forall_mem_cons.mpr ⟨lw_p56, List.forall_mem_cons.mpr ⟨lw_p57, List.forall_mem_cons.mpr ⟨lw_p58, fun _ h => absurd h List.not_mem_nil⟩⟩⟩⟩⟩⟩⟩⟩⟩⟩⟩
def lw_privs : List (MethodName × Nat) := lw_privs_1 ++ (lw_privs_2 ++ (lw_privs_3 ++ (lw_privs_4)))
def lw_tbl : List Cond := k2_sels lw_privs ++ tables_1
theorem lw_privs_ok : ∀ q ∈ lw_privs, lw_okq q := by
  show ∀ q ∈ lw_privs_1 ++ (lw_privs_2 ++ (lw_privs_3 ++ (lw_privs_4))), lw_okq q
  exact List.forall_mem_append.mpr ⟨lw_r1, List.forall_mem_append.mpr ⟨lw_r2, List.forall_mem_append.mpr ⟨lw_r3, lw_r4⟩⟩⟩
end
section
/-! the classes: their names, their fields in order, their types (written by gen/names.py) -/
def nR_Im : String := "ImposeSheets"
def nT_Im : u_T := fun k => match k with
  | 0 => ("ImposeSheets", "tape", "LImposeSheets$Tape;", true)
  | 1 => ("ImposeSheets", "reader", "LImposeSheets$SchemeReader;", true)
  | 2 => ("ImposeSheets", "settings", "[I", true)
  | 3 => ("ImposeSheets", "book", "LImposeSheets$Book;", true)
  | 4 => ("ImposeSheets", "sharing", "LImposeSheets$Sharing;", true)
  | 5 => ("ImposeSheets", "latest", "LImposeSheets$Scheme;", false)
  | _ => ("ImposeSheets", "spare", "LImposeSheets$Scheme;", false)
def nY_Im : Nat → FieldType := fun k => match k with
  | 0 => .object "ImposeSheets$Tape"
  | 1 => .object "ImposeSheets$SchemeReader"
  | 2 => .array .int
  | 3 => .object "ImposeSheets$Book"
  | 4 => .object "ImposeSheets$Sharing"
  | 5 => .object "ImposeSheets$Scheme"
  | _ => .object "ImposeSheets$Scheme"
theorem nN_Im : ∀ a, a < 7 → ∀ b, b < 7 → a ≠ b → (nT_Im a).2.1 ≠ (nT_Im b).2.1 := by decide +kernel
theorem nO_Im : ∀ k, k < 7 → parseFieldDescriptor (nT_Im k).2.2.1 = some (nY_Im k) := by decide +kernel
theorem nI_Im : ∀ w ∈ u_ws nR_Im nT_Im 7, w ∈ lw_tbl := by decide +kernel
def nR_Ta : String := "ImposeSheets$Tape"
def nT_Ta : u_T := fun k => match k with
  | 0 => ("ImposeSheets$Tape", "bytes", "[I", true)
  | _ => ("ImposeSheets$Tape", "size", "I", false)
def nY_Ta : Nat → FieldType := fun k => match k with
  | 0 => .array .int
  | _ => .int
theorem nN_Ta : ∀ a, a < 2 → ∀ b, b < 2 → a ≠ b → (nT_Ta a).2.1 ≠ (nT_Ta b).2.1 := by decide +kernel
theorem nO_Ta : ∀ k, k < 2 → parseFieldDescriptor (nT_Ta k).2.2.1 = some (nY_Ta k) := by decide +kernel
theorem nI_Ta : ∀ w ∈ u_ws nR_Ta nT_Ta 2, w ∈ lw_tbl := by decide +kernel
def nR_Re : String := "ImposeSheets$SchemeReader"
def nT_Re : u_T := fun k => match k with
  | 0 => ("ImposeSheets$SchemeReader", "tape", "LImposeSheets$Tape;", true)
  | 1 => ("ImposeSheets$SchemeReader", "folding", "LImposeSheets$Folding;", true)
  | 2 => ("ImposeSheets$SchemeReader", "place", "I", false)
  | 3 => ("ImposeSheets$SchemeReader", "wrongPlace", "I", false)
  | _ => ("ImposeSheets$SchemeReader", "number", "I", false)
def nY_Re : Nat → FieldType := fun k => match k with
  | 0 => .object "ImposeSheets$Tape"
  | 1 => .object "ImposeSheets$Folding"
  | 2 => .int
  | 3 => .int
  | _ => .int
theorem nN_Re : ∀ a, a < 5 → ∀ b, b < 5 → a ≠ b → (nT_Re a).2.1 ≠ (nT_Re b).2.1 := by decide +kernel
theorem nO_Re : ∀ k, k < 5 → parseFieldDescriptor (nT_Re k).2.2.1 = some (nY_Re k) := by decide +kernel
theorem nI_Re : ∀ w ∈ u_ws nR_Re nT_Re 5, w ∈ lw_tbl := by decide +kernel
def nR_Fo : String := "ImposeSheets$Folding"
def nT_Fo : u_T := fun k => match k with
  | 0 => ("ImposeSheets$Folding", "piles", "[I", true)
  | 1 => ("ImposeSheets$Folding", "stride", "I", false)
  | 2 => ("ImposeSheets$Folding", "left", "I", false)
  | 3 => ("ImposeSheets$Folding", "top", "I", false)
  | 4 => ("ImposeSheets$Folding", "columns", "I", false)
  | 5 => ("ImposeSheets$Folding", "rows", "I", false)
  | _ => ("ImposeSheets$Folding", "height", "I", false)
def nY_Fo : Nat → FieldType := fun k => match k with
  | 0 => .array .int
  | 1 => .int
  | 2 => .int
  | 3 => .int
  | 4 => .int
  | 5 => .int
  | _ => .int
theorem nN_Fo : ∀ a, a < 7 → ∀ b, b < 7 → a ≠ b → (nT_Fo a).2.1 ≠ (nT_Fo b).2.1 := by decide +kernel
theorem nO_Fo : ∀ k, k < 7 → parseFieldDescriptor (nT_Fo k).2.2.1 = some (nY_Fo k) := by decide +kernel
theorem nI_Fo : ∀ w ∈ u_ws nR_Fo nT_Fo 7, w ∈ lw_tbl := by decide +kernel
def nR_Bo : String := "ImposeSheets$Book"
def nT_Bo : u_T := fun k => match k with
  | 0 => ("ImposeSheets$Book", "settings", "[I", true)
  | 1 => ("ImposeSheets$Book", "spotPages", "[I", true)
  | 2 => ("ImposeSheets$Book", "spotTurned", "[I", true)
  | 3 => ("ImposeSheets$Book", "columns", "I", false)
  | 4 => ("ImposeSheets$Book", "cells", "I", false)
  | 5 => ("ImposeSheets$Book", "sheets", "I", false)
  | 6 => ("ImposeSheets$Book", "pages", "I", false)
  | _ => ("ImposeSheets$Book", "scale", "I", false)
def nY_Bo : Nat → FieldType := fun k => match k with
  | 0 => .array .int
  | 1 => .array .int
  | 2 => .array .int
  | 3 => .int
  | 4 => .int
  | 5 => .int
  | 6 => .int
  | _ => .int
theorem nN_Bo : ∀ a, a < 8 → ∀ b, b < 8 → a ≠ b → (nT_Bo a).2.1 ≠ (nT_Bo b).2.1 := by decide +kernel
theorem nO_Bo : ∀ k, k < 8 → parseFieldDescriptor (nT_Bo k).2.2.1 = some (nY_Bo k) := by decide +kernel
theorem nI_Bo : ∀ w ∈ u_ws nR_Bo nT_Bo 8, w ∈ lw_tbl := by decide +kernel
def nR_Sh : String := "ImposeSheets$Sharing"
def nT_Sh : u_T := fun k => match k with
  | 0 => ("ImposeSheets$Sharing", "copies", "[I", true)
  | 1 => ("ImposeSheets$Sharing", "needs", "[I", true)
  | 2 => ("ImposeSheets$Sharing", "way", "[I", true)
  | 3 => ("ImposeSheets$Sharing", "plateJobs", "[I", true)
  | 4 => ("ImposeSheets$Sharing", "takenPlate", "[I", true)
  | 5 => ("ImposeSheets$Sharing", "takenSheets", "[I", true)
  | 6 => ("ImposeSheets$Sharing", "jobs", "I", false)
  | 7 => ("ImposeSheets$Sharing", "slots", "I", false)
  | 8 => ("ImposeSheets$Sharing", "waysLookedAt", "I", false)
  | 9 => ("ImposeSheets$Sharing", "allLookedAt", "Z", false)
  | 10 => ("ImposeSheets$Sharing", "sharedJobs", "I", false)
  | _ => ("ImposeSheets$Sharing", "takenPlates", "I", false)
def nY_Sh : Nat → FieldType := fun k => match k with
  | 0 => .array .int
  | 1 => .array .int
  | 2 => .array .int
  | 3 => .array .int
  | 4 => .array .int
  | 5 => .array .int
  | 6 => .int
  | 7 => .int
  | 8 => .int
  | 9 => .boolean
  | 10 => .int
  | _ => .int
theorem nN_Sh : ∀ a, a < 12 → ∀ b, b < 12 → a ≠ b → (nT_Sh a).2.1 ≠ (nT_Sh b).2.1 := by decide +kernel
theorem nO_Sh : ∀ k, k < 12 → parseFieldDescriptor (nT_Sh k).2.2.1 = some (nY_Sh k) := by decide +kernel
theorem nI_Sh : ∀ w ∈ u_ws nR_Sh nT_Sh 12, w ∈ lw_tbl := by decide +kernel
def nR_Sc : String := "ImposeSheets$Scheme"
def nT_Sc : u_T := fun k => match k with
  | 0 => ("ImposeSheets$Scheme", "folds", "[I", true)
  | 1 => ("ImposeSheets$Scheme", "toldPages", "[I", true)
  | 2 => ("ImposeSheets$Scheme", "toldTurned", "[I", true)
  | 3 => ("ImposeSheets$Scheme", "leaves", "[I", true)
  | 4 => ("ImposeSheets$Scheme", "columns", "I", false)
  | 5 => ("ImposeSheets$Scheme", "rows", "I", false)
  | 6 => ("ImposeSheets$Scheme", "foldCount", "I", false)
  | _ => ("ImposeSheets$Scheme", "told", "Z", false)
def nY_Sc : Nat → FieldType := fun k => match k with
  | 0 => .array .int
  | 1 => .array .int
  | 2 => .array .int
  | 3 => .array .int
  | 4 => .int
  | 5 => .int
  | 6 => .int
  | _ => .boolean
theorem nN_Sc : ∀ a, a < 8 → ∀ b, b < 8 → a ≠ b → (nT_Sc a).2.1 ≠ (nT_Sc b).2.1 := by decide +kernel
theorem nO_Sc : ∀ k, k < 8 → parseFieldDescriptor (nT_Sc k).2.2.1 = some (nY_Sc k) := by decide +kernel
theorem nI_Sc : ∀ w ∈ u_ws nR_Sc nT_Sc 8, w ∈ lw_tbl := by decide +kernel
def nR_Mo : String := "ImposeSheetsModel"
def nT_Mo : u_T := fun k => match k with
  | 0 => ("ImposeSheetsModel", "thrown", "I", false)
  | 1 => ("ImposeSheetsModel", "taped", "I", false)
  | 2 => ("ImposeSheetsModel", "tape", "[I", true)
  | 3 => ("ImposeSheetsModel", "size", "I", false)
  | 4 => ("ImposeSheetsModel", "place", "I", false)
  | 5 => ("ImposeSheetsModel", "fault", "I", false)
  | 6 => ("ImposeSheetsModel", "isScheme", "Z", false)
  | 7 => ("ImposeSheetsModel", "columns", "I", false)
  | 8 => ("ImposeSheetsModel", "rows", "I", false)
  | 9 => ("ImposeSheetsModel", "folds", "I", false)
  | 10 => ("ImposeSheetsModel", "isTold", "Z", false)
  | 11 => ("ImposeSheetsModel", "toldPage", "[I", true)
  | 12 => ("ImposeSheetsModel", "toldDown", "[Z", true)
  | 13 => ("ImposeSheetsModel", "readColumns", "I", false)
  | 14 => ("ImposeSheetsModel", "readRows", "I", false)
  | 15 => ("ImposeSheetsModel", "readFolds", "I", false)
  | 16 => ("ImposeSheetsModel", "fold", "[I", true)
  | 17 => ("ImposeSheetsModel", "readFold", "[I", true)
  | 18 => ("ImposeSheetsModel", "readTold", "Z", false)
  | 19 => ("ImposeSheetsModel", "readPage", "[I", true)
  | 20 => ("ImposeSheetsModel", "readDown", "[Z", true)
  | 21 => ("ImposeSheetsModel", "height", "[I", true)
  | 22 => ("ImposeSheetsModel", "pileCell", "[I", true)
  | 23 => ("ImposeSheetsModel", "pileFront", "[Z", true)
  | 24 => ("ImposeSheetsModel", "pileHead", "[Z", true)
  | 25 => ("ImposeSheetsModel", "wide", "I", false)
  | 26 => ("ImposeSheetsModel", "high", "I", false)
  | 27 => ("ImposeSheetsModel", "pageSide", "[I", true)
  | 28 => ("ImposeSheetsModel", "pagePlace", "[I", true)
  | 29 => ("ImposeSheetsModel", "pageDown", "[Z", true)
  | 30 => ("ImposeSheetsModel", "settings", "[I", true)
  | 31 => ("ImposeSheetsModel", "sheets", "I", false)
  | 32 => ("ImposeSheetsModel", "laidPages", "I", false)
  | 33 => ("ImposeSheetsModel", "laidColumns", "I", false)
  | 34 => ("ImposeSheetsModel", "blanks", "I", false)
  | 35 => ("ImposeSheetsModel", "tooLarge", "I", false)
  | 36 => ("ImposeSheetsModel", "page", "[I", true)
  | 37 => ("ImposeSheetsModel", "down", "[I", true)
  | 38 => ("ImposeSheetsModel", "atX", "[I", true)
  | 39 => ("ImposeSheetsModel", "atY", "[I", true)
  | 40 => ("ImposeSheetsModel", "scales", "[I", true)
  | 41 => ("ImposeSheetsModel", "book", "[I", true)
  | 42 => ("ImposeSheetsModel", "creeps", "[I", true)
  | 43 => ("ImposeSheetsModel", "jobs", "I", false)
  | 44 => ("ImposeSheetsModel", "copies", "[I", true)
  | 45 => ("ImposeSheetsModel", "way", "[I", true)
  | 46 => ("ImposeSheetsModel", "isTaken", "Z", false)
  | 47 => ("ImposeSheetsModel", "wasShared", "Z", false)
  | 48 => ("ImposeSheetsModel", "taken", "[I", true)
  | 49 => ("ImposeSheetsModel", "takenJobs", "I", false)
  | 50 => ("ImposeSheetsModel", "takenPlates", "I", false)
  | 51 => ("ImposeSheetsModel", "plateSheets", "[I", true)
  | 52 => ("ImposeSheetsModel", "looked", "I", false)
  | 53 => ("ImposeSheetsModel", "isAll", "Z", false)
  | _ => ("ImposeSheetsModel", "takenCopies", "[I", true)
def nY_Mo : Nat → FieldType := fun k => match k with
  | 0 => .int
  | 1 => .int
  | 2 => .array .int
  | 3 => .int
  | 4 => .int
  | 5 => .int
  | 6 => .boolean
  | 7 => .int
  | 8 => .int
  | 9 => .int
  | 10 => .boolean
  | 11 => .array .int
  | 12 => .array .boolean
  | 13 => .int
  | 14 => .int
  | 15 => .int
  | 16 => .array .int
  | 17 => .array .int
  | 18 => .boolean
  | 19 => .array .int
  | 20 => .array .boolean
  | 21 => .array .int
  | 22 => .array .int
  | 23 => .array .boolean
  | 24 => .array .boolean
  | 25 => .int
  | 26 => .int
  | 27 => .array .int
  | 28 => .array .int
  | 29 => .array .boolean
  | 30 => .array .int
  | 31 => .int
  | 32 => .int
  | 33 => .int
  | 34 => .int
  | 35 => .int
  | 36 => .array .int
  | 37 => .array .int
  | 38 => .array .int
  | 39 => .array .int
  | 40 => .array .int
  | 41 => .array .int
  | 42 => .array .int
  | 43 => .int
  | 44 => .array .int
  | 45 => .array .int
  | 46 => .boolean
  | 47 => .boolean
  | 48 => .array .int
  | 49 => .int
  | 50 => .int
  | 51 => .array .int
  | 52 => .int
  | 53 => .boolean
  | _ => .array .int
theorem nN_Mo : ∀ a, a < 55 → ∀ b, b < 55 → a ≠ b → (nT_Mo a).2.1 ≠ (nT_Mo b).2.1 := by decide +kernel
theorem nO_Mo : ∀ k, k < 55 → parseFieldDescriptor (nT_Mo k).2.2.1 = some (nY_Mo k) := by decide +kernel
theorem nI_Mo : ∀ w ∈ u_ws nR_Mo nT_Mo 55, w ∈ lw_tbl := by decide +kernel
abbrev vwCl : List vw_C := [(nR_Im, nT_Im, 7), (nR_Ta, nT_Ta, 2), (nR_Re, nT_Re, 5), (nR_Fo, nT_Fo, 7), (nR_Bo, nT_Bo, 8), (nR_Sh, nT_Sh, 12), (nR_Sc, nT_Sc, 8), (nR_Mo, nT_Mo, 55)]
/-- the static arrays, at pretended places -/
def nS_0 (j : Nat) : Int32 := match j with
  | 0 => 0
  | 1 => 0
  | 2 => 0
  | 3 => 1000
  | 4 => 1000
  | 5 => 1000
  | 6 => 1000
  | 7 => 0
  | 8 => 0
  | _ => 0
def nS_1 (j : Nat) : Int32 := match j with
  | 0 => 0
  | 1 => 0
  | 2 => 0
  | 3 => 1
  | 4 => 1
  | 5 => 1
  | 6 => 1
  | 7 => 0
  | 8 => 0
  | _ => 0
def nS_2 (j : Nat) : Int32 := match j with
  | 0 => 2
  | 1 => 1
  | 2 => 1
  | 3 => 100000
  | 4 => 100000
  | 5 => 100000
  | 6 => 100000
  | 7 => 10000
  | 8 => 10000
  | _ => 1
def lw_stats : List (String × String × Nat × Nat × (Nat → Int32)) := [("ImposeSheets", "SETTING_FIRST", 100000, 10, nS_0), ("ImposeSheets", "SETTING_LEAST", 100001, 10, nS_1), ("ImposeSheets", "SETTING_MOST", 100002, 10, nS_2)]
end
section
/-! WHAT STANDS BESIDE THE TABLES' WORDS: links within the nest, arrays that are static -/
def lw_good : List Cond := lw_tbl.filter goodWord
theorem lw_g {w : Cond} (i : Nat) (h : lw_tbl[i]? = some w) (hg : goodWord w = true) : w ∈ lw_good := List.mem_filter.mpr ⟨List.mem_of_getElem? h, hg⟩
def am_isNest (w : Cond) : Bool := match w with
  | .fieldLinkNest .. => true
  | .methodLinkNest .. => true
  | .declares _ => true
  | .castable .. => true
  | _ => false
theorem am_isNest_warm {w : Cond} (h : am_isNest w = true) {s U : State} (hW : s.WarmedH U.vm) (hZ : va_Nw w s) : va_Nw w U := by
  cases w <;> first | exact va_Nw.warmF hW hZ | exact va_Nw.warmM hW hZ | exact va_Nw.warmD hW hZ | exact va_Nw.warmC hW hZ | (simp [am_isNest] at h; done)
theorem am_isNest_tab {w : Cond} (h : am_isNest w = true) : w.onTables = true := by
  cases w <;> first | rfl | (simp [am_isNest] at h; done)
def lw_nest : List Cond := lw_tbl.filter am_isNest
theorem lw_n {w : Cond} (i : Nat) (h : lw_tbl[i]? = some w) (hg : am_isNest w = true) : w ∈ lw_nest := List.mem_filter.mpr ⟨List.mem_of_getElem? h, hg⟩
/-- a static array of ints: (class, field, pretended place, length, contents) -/
abbrev am_St : Type := String × String × Nat × Nat × (Nat → Int32)
def am_StOk (q : am_St) (A : Nat → Nat) (A0 : Nat → Prop) (U : State) (H : Heap) : Prop := va_Z q.1 q.2.1 "[I" (.ref (A q.2.2.1)) A0 U H ∧ va_T .int (A q.2.2.1) q.2.2.2.1 (fun j => .int (q.2.2.2.2 j)) A0 U H
/-- the exceptions' texts -/
def lw_strs : List (String × Nat × String) := [("ImposeSheets", 75, "no such setting"), ("ImposeSheets", 88, "not within the setting's bounds"), ("ImposeSheets", 98, "not a number of pages that can be laid"), ("ImposeSheets", 102, "no scheme"), ("ImposeSheets", 109, "the binding is not one for the scheme"), ("ImposeSheets", 126, "no such place, or nothing of that kind to tell"), ("ImposeSheets", 135, "no such place in the book"), ("ImposeSheets", 144, "the page was not laid"), ("ImposeSheets", 158, "nothing of that kind to tell"), ("ImposeSheets", 161, "not a number of copies"), ("ImposeSheets", 168, "there are as many jobs as there may be"), ("ImposeSheets", 177, "slots, cost or ways not within bounds"), ("ImposeSheets", 179, "no jobs"), ("ImposeSheets", 189, "nothing such was shared out")]
/-- pairs of exceptions' classes of which the first is no kind of the second -/
def lw_nc : List (String × String) := [("java/lang/IllegalArgumentException", "java/lang/IndexOutOfBoundsException"), ("java/lang/IllegalStateException", "java/lang/IllegalArgumentException"), ("java/lang/UnsupportedOperationException", "java/lang/IllegalArgumentException")]
def am_thN : String := "java/lang/Throwable"
def am_thU : String × String := ("UNASSIGNED_STACK", "[Ljava/lang/StackTraceElement;")
def am_thS : String × String := ("SUPPRESSED_SENTINEL", "Ljava/util/List;")
/-- a static field's place, as the tables and the heap have it -/
def am_LS (C n d : String) (A : Nat → Prop) (U : State) (H : Heap) : Prop := ∃ (c : ClassId) (k : Class) (i : Nat) (f : Field) (a : Nat) (cell : Cell), U.vm.findClass C = some c ∧ U.fieldFound? C n d = some (c, k, i, f) ∧ f.isStatic = true ∧ k.statics = some a ∧ cell.vm.isStatics = true ∧ cell.cls = c ∧ f.slot < cell.slots.size ∧ k.staticTypes[f.slot]? = some f.type ∧ H[a]? = some cell ∧ ¬ A a
theorem am_LS.of {C n d : String} {A : Nat → Prop} {U : State} {args : Array Value} (h : (Cond.laysStatic C n d).before args U = true) (hA : ∀ a : Nat, a < U.heap.size → ¬ A a) : am_LS C n d A U U.heap := by
  obtain ⟨c, k, i, f, a, cell, h1, h2, h3, h4, h5, h6, h7, h8, h9⟩ := Cond.laysStatic_spec (show (Cond.laysStatic C n d).holds args U none U [] = true from h)
  exact ⟨c, k, i, f, a, cell, h1, h2, h3, h4, h6, h7, h8, h9, h5, hA a (Array.getElem?_eq_some_iff.mp h5).1⟩
theorem am_LS.moved {C n d : String} {A : Nat → Prop} {u U : State} {H : Heap} (hvm : u.vm.Alike U.vm) (h : am_LS C n d A u H) : am_LS C n d A U H := by
  obtain ⟨c, k, i, f, a, cell, h1, h2, h3, h4, h6, h7, h8, h9, h5, h10⟩ := h
  obtain ⟨k', hi', he⟩ := State.fieldFound?_setVm hvm h2
  exact ⟨c, k', i, f, a, cell, by rw [hvm.findClass]; exact h1, hi', h3, by rw [he]; exact h4, h6, h7, h8, by rw [he]; exact h9, h5, h10⟩
theorem am_LS.kept {C n d : String} {A B : Nat → Prop} {U : State} {H H1 : Heap} (h : am_LS C n d A U H) (hq : ∀ a : Nat, a < H.size → ¬ A a → H1[a]? = H[a]?) (hAB : ∀ q, B q → A q) : am_LS C n d B U H1 := by
  obtain ⟨c, k, i, f, a, cell, h1, h2, h3, h4, h6, h7, h8, h9, h5, h10⟩ := h
  exact ⟨c, k, i, f, a, cell, h1, h2, h3, h4, h6, h7, h8, h9, by rw [hq a (Array.getElem?_eq_some_iff.mp h5).1 h10]; exact h5, fun z => h10 (hAB a z)⟩
theorem am_LS.word {C n d : String} {A : Nat → Prop} {U : State} {args : Array Value} (h : am_LS C n d A U U.heap) : (Cond.laysStatic C n d).before args U = true := by
  obtain ⟨c, k, i, f, a, cell, h1, h2, h3, h4, h6, h7, h8, h9, h5, -⟩ := h
  simp [Cond.before, Cond.holds, Cond.value, h1, h2, h3, h4, h5, h6, h7, h8, h9]
def am_En (A : Nat → Nat) (A0 : Nat → Prop) (U : State) : Prop := (∀ w ∈ lw_nest, va_Nw w U) ∧ (∀ (k : Nat) (q : am_St), lw_stats[k]? = some q → am_StOk q A A0 U U.heap) ∧ (∀ q ∈ lw_strs, ∃ a : Nat, vk_R q.1 q.2.1 q.2.2 a U) ∧ va_Zq am_thN am_thU.1 am_thU.2 A0 U U.heap ∧ va_Zq am_thN am_thS.1 am_thS.2 A0 U U.heap ∧ (∀ q ∈ lw_nc, va_Nc q.1 q.2 U) ∧ am_LS am_thN am_thU.1 am_thU.2 A0 U U.heap ∧ am_LS am_thN am_thS.1 am_thS.2 A0 U U.heap
theorem am_Zq_same {C n d : String} {A : Nat → Prop} {u U : State} (hv : u.vm.Alike U.vm) (hh : u.heap = U.heap) (h : va_Zq C n d A u u.heap) : va_Zq C n d A U U.heap := by
  rw [← hh]
  exact va_Zq.moved hv h
theorem am_En.same {A : Nat → Nat} {A0 : Nat → Prop} {u U : State} (hv : u.vm = U.vm) (hh : u.heap = U.heap) (h : am_En A A0 u) : am_En A A0 U := by
  have ha : u.vm.Alike U.vm := hv ▸ Vm.Alike.refl u.vm
  refine ⟨fun w hw => va_Nw.same (am_isNest_tab (List.mem_filter.mp hw).2) hv (h.1 w hw), fun k q hq => ?_, fun q hq => ?_, am_Zq_same ha hh h.2.2.2.1, am_Zq_same ha hh h.2.2.2.2.1, fun q hq => (h.2.2.2.2.2.1 q hq).moved ha, hh ▸ h.2.2.2.2.2.2.1.moved ha, hh ▸ h.2.2.2.2.2.2.2.moved ha⟩
  · have := h.2.1 k q hq
    rw [← hh]
    exact ⟨this.1.moved ha, this.2.moved ha⟩
  · obtain ⟨a, e⟩ := h.2.2.1 q hq
    exact ⟨a, vk_R.same hv.symm e⟩
theorem am_En.call {A : Nat → Nat} {A0 A1 : Nat → Prop} {s U : State} {locs : List Loc} (h : am_En A A0 s) (hW : s.WarmedH U.vm) (hS : va_S A0 s.heap U.heap locs) (hA : ∀ q, A1 q → A0 q) : am_En A A1 U := by
  refine ⟨fun w hw => am_isNest_warm (List.mem_filter.mp hw).2 hW (h.1 w hw), fun k q hq => ?_, fun q hq => ?_, ?_, ?_, fun q hq => (h.2.2.2.2.2.1 q hq).moved hW.alike, (h.2.2.2.2.2.2.1.moved hW.alike).kept hS.2.1 hA, (h.2.2.2.2.2.2.2.moved hW.alike).kept hS.2.1 hA⟩
  · have := h.2.1 k q hq
    exact ⟨((this.1.moved hW.alike).kept hS.2.1).narrow hA, ((this.2.moved hW.alike).kept hS.2.1).narrow hA⟩
  · obtain ⟨a, e⟩ := h.2.2.1 q hq
    exact ⟨a, e.warm hW⟩
  · exact ((va_Zq.moved hW.alike h.2.2.2.1).kept hS.2.1).narrow hA
  · exact ((va_Zq.moved hW.alike h.2.2.2.2.1).kept hS.2.1).narrow hA
end
section
/-! THE ABSTRACT MACHINE. A method's bytecode as a table of predicate transformers over (locals, operand stack, abstract heap); a reference is a PLACE of the abstract heap. Its soundness over the kit's W, an instruction once; a method's contract out of its table. -/
abbrev am_E : Type := (Nat × vp_A) ⊕ (Nat × List Value)
abbrev am_H : Type := List am_E
abbrev am_L : Type := List (Option Value)
abbrev am_O : Type := Nat ⊕ Option Value
abbrev am_K : Type := Nat → am_L → List Value → am_H → Prop
abbrev am_P : Type := am_O → am_H → Prop
abbrev am_A : Type := am_L → List Value → am_H → am_K → am_P → Prop
def am_v (A : Nat → Nat) (v : Value) : Value := match v with
  | .ref k => .ref (A k)
  | w => w
def am_e (dA : Nat → ClassId) (A : Nat → Nat) (x : am_E) : va_E := match x with
  | .inl a => .inl (dA a.1, a.2)
  | .inr o => .inr (o.1, o.2.map (am_v A))
def am_c (dA : Nat → ClassId) (A : Nat → Nat) : Nat → am_H → va_W
  | _, [] => []
  | k, e :: t => (A k, am_e dA A e) :: am_c dA A (k + 1) t
theorem am_c_get (dA : Nat → ClassId) (A : Nat → Nat) : ∀ (h : am_H) (k0 k : Nat), (am_c dA A k0 h)[k]? = (h[k]?).map (fun e => (A (k0 + k), am_e dA A e))
  | [], k0, k => by simp [am_c]
  | e :: t, k0, 0 => by simp [am_c]
  | e :: t, k0, k + 1 => by
    simp only [am_c, List.getElem?_cons_succ]
    rw [am_c_get dA A t (k0 + 1) k, show k0 + 1 + k = k0 + (k + 1) by omega]
theorem am_c_at {dA : Nat → ClassId} {A : Nat → Nat} {h : am_H} {k : Nat} {x : am_E} (e : h[k]? = some x) : (am_c dA A 0 h)[k]? = some (A k, am_e dA A x) := by
  rw [am_c_get, e, Nat.zero_add]; rfl
theorem am_c_set (dA : Nat → ClassId) (A : Nat → Nat) (x : am_E) : ∀ (h : am_H) (k0 k : Nat), (am_c dA A k0 h).set k (A (k0 + k), am_e dA A x) = am_c dA A k0 (h.set k x)
  | [], k0, k => by simp [am_c]
  | e :: t, k0, 0 => by simp [am_c]
  | e :: t, k0, k + 1 => by
    simp only [am_c, List.set_cons_succ]
    rw [← am_c_set dA A x t (k0 + 1) k, show k0 + 1 + k = k0 + (k + 1) by omega]
theorem am_c_put {dA : Nat → ClassId} {A : Nat → Nat} {x : am_E} {h : am_H} {k : Nat} {y : Nat × va_E} (e : y = (A k, am_e dA A x)) : (am_c dA A 0 h).set k y = am_c dA A 0 (h.set k x) := by
  have := am_c_set dA A x h 0 k
  rw [Nat.zero_add] at this
  rw [e, this]
theorem am_v_cat (A : Nat → Nat) (v : Value) : (am_v A v).category = v.category := by cases v <;> rfl
theorem am_v_int (A : Nat → Nat) (x : Int32) : am_v A (.int x) = .int x := rfl
def am_lv (A : Nat → Nat) : Nat → am_L → List (Nat × Value)
  | _, [] => []
  | i, none :: t => am_lv A (i + 1) t
  | i, some v :: t => (i, am_v A v) :: am_lv A (i + 1) t
theorem am_lv_mem (A : Nat → Nat) (q : Nat × Value) : ∀ (l : am_L) (i : Nat), q ∈ am_lv A i l ↔ ∃ (j : Nat) (v : Value), l[j]? = some (some v) ∧ q = (i + j, am_v A v)
  | [], i => by simp [am_lv]
  | none :: t, i => by
    simp only [am_lv]
    rw [am_lv_mem A q t (i + 1)]
    constructor
    · rintro ⟨j, v, h, e⟩
      exact ⟨j + 1, v, by simpa using h, by rw [e, show i + 1 + j = i + (j + 1) by omega]⟩
    · rintro ⟨j, v, h, e⟩
      cases j with
      | zero => simp at h
      | succ j => exact ⟨j, v, by simpa using h, by rw [e, show i + 1 + j = i + (j + 1) by omega]⟩
  | some w :: t, i => by
    simp only [am_lv, List.mem_cons]
    rw [am_lv_mem A q t (i + 1)]
    constructor
    · rintro (e | ⟨j, v, h, e⟩)
      · exact ⟨0, w, rfl, e⟩
      · exact ⟨j + 1, v, by simpa using h, by rw [e, show i + 1 + j = i + (j + 1) by omega]⟩
    · rintro ⟨j, v, h, e⟩
      cases j with
      | zero => left; simp at h; rw [e, h]; rfl
      | succ j => right; exact ⟨j, v, by simpa using h, by rw [e, show i + 1 + j = i + (j + 1) by omega]⟩
theorem am_lv_at {A : Nat → Nat} {ls : Array Slot} {nL : Nat} {l : am_L} (h : lv_has ls nL (am_lv A 0 l)) {i : Nat} {v : Value} (e : l[i]? = some (some v)) : ls[i]? = some (.val (am_v A v)) := by
  have := h.2.2 (i, am_v A v) ((am_lv_mem A _ l 0).mpr ⟨i, v, e, by rw [Nat.zero_add]⟩)
  exact this
theorem am_lv_more {ls : Array Slot} {nL : Nat} {l l' : List (Nat × Value)} (h : lv_has ls nL l) (hs : ∀ q ∈ l', q ∈ l) : lv_has ls nL l' := ⟨h.1, h.2.1, fun q hq => h.2.2 q (hs q hq)⟩
/-- the place ahead of i holds no value of two words -/
def am_g2 (l : am_L) (i : Nat) : Bool := (i == 0) || (match l[i - 1]? with
  | some (some v) => v.category == 1
  | _ => true)
theorem am_lv_set {A : Nat → Nat} {l : am_L} {i : Nat} {v : Value} (hg : am_g2 l i = true) : ∀ q ∈ am_lv A 0 (l.set i (some v)), q ∈ (i, am_v A v) :: (am_lv A 0 l).filter (fun q => !(q.1 == i) && !(q.1 + 1 == i && q.2.category == 2)) := by
  intro q hq
  obtain ⟨j, w, h, e⟩ := (am_lv_mem A q _ 0).mp hq
  rw [Nat.zero_add] at e
  by_cases hj : i = j
  · subst hj
    rw [List.getElem?_set] at h
    split at h
    · split at h
      · cases h; rw [e]; exact List.mem_cons_self
      · cases h
    · rename_i hne; exact absurd rfl hne
  · rw [List.getElem?_set_ne hj] at h
    refine List.mem_cons_of_mem _ (List.mem_filter.mpr ⟨(am_lv_mem A q l 0).mpr ⟨j, w, h, by rw [Nat.zero_add]; exact e⟩, ?_⟩)
    rw [e]
    have h1 : (j == i) = false := by simpa using fun z => hj z.symm
    simp only [h1, Bool.not_false, Bool.true_and, am_v_cat]
    cases hc : (j + 1 == i) with
    | false => rfl
    | true =>
      have hi : i = j + 1 := by simp at hc; omega
      subst hi
      have hg2 : (match l[j]? with
        | some (some v) => v.category == 1
        | _ => true) = true := by simpa [am_g2] using hg
      rw [h] at hg2
      have h3 : w.category = 1 := by simpa using hg2
      simp [h3]
def am_le : am_L → am_L → Prop
  | [], [] => True
  | none :: t', _ :: t => am_le t' t
  | some v :: t', w :: t => w = some v ∧ am_le t' t
  | _, _ => False
theorem am_le_at : ∀ (l' l : am_L), am_le l' l → ∀ (j : Nat) (v : Value), l'[j]? = some (some v) → l[j]? = some (some v)
  | [], [], _, j, v, h => by simp at h
  | none :: t', _ :: t, hl, 0, v, h => by simp at h
  | none :: t', _ :: t, hl, j + 1, v, h => by
    have := am_le_at t' t hl j v (by simpa using h)
    simpa using this
  | some w :: t', x :: t, hl, 0, v, h => by
    have e : w = v := by simpa using h
    rw [hl.1, e]; rfl
  | some w :: t', x :: t, hl, j + 1, v, h => by
    have := am_le_at t' t hl.2 j v (by simpa using h)
    simpa using this
theorem am_le_lv {A : Nat → Nat} {l' l : am_L} (hl : am_le l' l) : ∀ q ∈ am_lv A 0 l', q ∈ am_lv A 0 l := by
  intro q hq
  obtain ⟨j, v, h, e⟩ := (am_lv_mem A q _ 0).mp hq
  exact (am_lv_mem A q _ 0).mpr ⟨j, v, am_le_at l' l hl j v h, e⟩
def am_l0 : List Value → Nat → am_L
  | [], n => List.replicate n none
  | v :: vs, n => if v.category = 2 then some v :: none :: am_l0 vs (n - 2) else some v :: am_l0 vs (n - 1)
/-! ## the logic: the least predicate that is closed under going back over a step, and under forgetting of locals -/
def am_Wp (acts : Nat → am_A) (R : am_P) (pc : Nat) (lo : am_L) (st : List Value) (h : am_H) : Prop :=
  ∀ P : am_K, (∀ pc lo st h K, acts pc lo st h K R → (∀ pc' lo' st' h', K pc' lo' st' h' → P pc' lo' st' h') → P pc lo st h) → (∀ pc lo lo' st h, am_le lo' lo → P pc lo' st h → P pc lo st h) → P pc lo st h
theorem am_step {acts : Nat → am_A} {R : am_P} {pc : Nat} {lo : am_L} {st : List Value} {h : am_H} (k : acts pc lo st h (am_Wp acts R) R) : am_Wp acts R pc lo st h :=
  fun P hc hf => hc _ _ _ _ _ k (fun _ _ _ _ k' => k' P hc hf)
theorem am_forget {acts : Nat → am_A} {R : am_P} {pc : Nat} {lo lo' : am_L} {st : List Value} {h : am_H} (hl : am_le lo' lo) (k : am_Wp acts R pc lo' st h) : am_Wp acts R pc lo st h :=
  fun P hc hf => hf _ _ _ _ _ hl (k P hc hf)
/-- n steps at once -/
def am_pre (acts : Nat → am_A) (R : am_P) : Nat → am_K
  | 0 => am_Wp acts R
  | n + 1 => fun pc lo st h => acts pc lo st h (am_pre acts R n) R
theorem am_pres {acts : Nat → am_A} {R : am_P} : ∀ (n : Nat) {pc : Nat} {lo : am_L} {st : List Value} {h : am_H}, am_pre acts R n pc lo st h → am_Wp acts R pc lo st h
  | 0, _, _, _, _, k => k
  | n + 1, _, _, _, _, k => fun P hc hf => hc _ _ _ _ _ k (fun _ _ _ _ k' => am_pres n k' P hc hf)
/-- up to n steps at once, up to the places 'stop' (loops' heads) -/
def am_run (acts : Nat → am_A) (R : am_P) (stop : Nat → Bool) : Nat → am_K
  | 0 => am_Wp acts R
  | n + 1 => fun pc lo st h => match stop pc with
    | true => am_Wp acts R pc lo st h
    | false => acts pc lo st h (am_run acts R stop n) R
theorem am_runs {acts : Nat → am_A} {R : am_P} {stop : Nat → Bool} : ∀ (n : Nat) {pc : Nat} {lo : am_L} {st : List Value} {h : am_H}, am_run acts R stop n pc lo st h → am_Wp acts R pc lo st h
  | 0, _, _, _, _, k => k
  | n + 1, pc, lo, st, h, k => by
    unfold am_run at k
    split at k
    · exact k
    · exact fun P hc hf => hc _ _ _ _ _ k (fun _ _ _ _ k' => am_runs n k' P hc hf)
/-- the first step is taken also at a place of 'stop' -/
theorem am_go {acts : Nat → am_A} {R : am_P} (stop : Nat → Bool) (n : Nat) {pc : Nat} {lo : am_L} {st : List Value} {h : am_H} (k : acts pc lo st h (am_run acts R stop n) R) : am_Wp acts R pc lo st h :=
  fun P hc hf => hc _ _ _ _ _ k (fun _ _ _ _ k' => am_runs n k' P hc hf)
/-! ## the instructions -/
def am_stuck : am_A := fun _ _ _ _ _ => False
def am_push (v : Value) (n : Nat) : am_A := fun lo st h K _ => K n lo (v :: st) h
def am_iload (i n : Nat) : am_A := fun lo st h K _ => match lo[i]? with
  | some (some (.int x)) => K n lo (.int x :: st) h
  | _ => False
def am_lload (i n : Nat) : am_A := fun lo st h K _ => match lo[i]? with
  | some (some (.long x)) => K n lo (.long x :: st) h
  | _ => False
def am_aload (i n : Nat) : am_A := fun lo st h K _ => match lo[i]? with
  | some (some (.ref x)) => K n lo (.ref x :: st) h
  | _ => False
def am_istore (i n : Nat) : am_A := fun lo st h K _ => match st with
  | .int x :: r => (am_g2 lo i = true ∧ i < lo.length) ∧ K n (lo.set i (some (.int x))) r h
  | _ => False
def am_astore (i n : Nat) : am_A := fun lo st h K _ => match st with
  | .ref x :: r => (am_g2 lo i = true ∧ i < lo.length) ∧ K n (lo.set i (some (.ref x))) r h
  | _ => False
def am_iinc (i : Nat) (d : Int) (n : Nat) : am_A := fun lo st h K _ => match lo[i]? with
  | some (some (.int x)) => (am_g2 lo i = true ∧ i < lo.length) ∧ K n (lo.set i (some (.int (x + Int32.ofInt d)))) st h
  | _ => False
def am_i1 (f : Int32 → Int32) (n : Nat) : am_A := fun lo st h K _ => match st with
  | .int x :: r => K n lo (.int (f x) :: r) h
  | _ => False
def am_i2 (f : Int32 → Int32 → Int32) (n : Nat) : am_A := fun lo st h K _ => match st with
  | .int y :: .int x :: r => K n lo (.int (f x y) :: r) h
  | _ => False
def am_idiv (f : Int32 → Int32 → Int32) (n : Nat) : am_A := fun lo st h K _ => match st with
  | .int y :: .int x :: r => ¬ y = 0 ∧ K n lo (.int (f x y) :: r) h
  | _ => False
def am_ldiv (n : Nat) : am_A := fun lo st h K _ => match st with
  | .long y :: .long x :: r => ¬ y = 0 ∧ K n lo (.long (x / y) :: r) h
  | _ => False
def am_lstore (i n : Nat) : am_A := fun lo st h K _ => match st with
  | .long x :: r => (am_g2 lo i = true ∧ i + 1 < lo.length) ∧ K n ((lo.set i (some (.long x))).set (i + 1) none) r h
  | _ => False
def am_l2 (f : Int64 → Int64 → Int64) (n : Nat) : am_A := fun lo st h K _ => match st with
  | .long y :: .long x :: r => K n lo (.long (f x y) :: r) h
  | _ => False
def am_lsh (f : Int64 → Int32 → Int64) (n : Nat) : am_A := fun lo st h K _ => match st with
  | .int y :: .long x :: r => K n lo (.long (f x y) :: r) h
  | _ => False
def am_lcmp (n : Nat) : am_A := fun lo st h K _ => match st with
  | .long y :: .long x :: r => K n lo (.int (lg_cmp x y) :: r) h
  | _ => False
def am_i2l (n : Nat) : am_A := fun lo st h K _ => match st with
  | .int x :: r => K n lo (.long x.toInt64 :: r) h
  | _ => False
def am_l2i (n : Nat) : am_A := fun lo st h K _ => match st with
  | .long x :: r => K n lo (.int x.toInt32 :: r) h
  | _ => False
def am_dup (n : Nat) : am_A := fun lo st h K _ => match st with
  | v :: r => v.category = 1 ∧ K n lo (v :: v :: r) h
  | _ => False
def am_pop (n : Nat) : am_A := fun lo st h K _ => match st with
  | v :: r => v.category = 1 ∧ K n lo r h
  | _ => False
def am_dup_x1 (n : Nat) : am_A := fun lo st h K _ => match st with
  | v :: w :: r => (v.category = 1 ∧ w.category = 1) ∧ K n lo (v :: w :: v :: r) h
  | _ => False
def am_dup_x2 (n : Nat) : am_A := fun lo st h K _ => match st with
  | v :: w :: u :: r => (v.category = 1 ∧ w.category = 1 ∧ u.category = 1) ∧ K n lo (v :: w :: u :: v :: r) h
  | _ => False
def am_dup2 (n : Nat) : am_A := fun lo st h K _ => match st with
  | v :: w :: r => (v.category = 1 ∧ w.category = 1) ∧ K n lo (v :: w :: v :: w :: r) h
  | _ => False
def am_if (q : Int32 → Prop) (t n : Nat) : am_A := fun lo st h K _ => match st with
  | .int x :: r => (q x → K t lo r h) ∧ (¬ q x → K n lo r h)
  | _ => False
def am_if2 (q : Int32 → Int32 → Prop) (t n : Nat) : am_A := fun lo st h K _ => match st with
  | .int y :: .int x :: r => (q x y → K t lo r h) ∧ (¬ q x y → K n lo r h)
  | _ => False
def am_goto (t : Nat) : am_A := fun lo st h K _ => K t lo st h
/-- a switch: the list has the numbers and where they go -/
def am_sw (ps : List (Int32 × Nat)) (t : Nat) : am_A := fun lo st h K _ => match st with
  | .int x :: r => (∀ q ∈ ps, x = q.1 → K q.2 lo r h) ∧ ((∀ q ∈ ps, ¬ x = q.1) → K t lo r h)
  | _ => False
def am_get (ci k n : Nat) : am_A := fun lo st h K _ => match st with
  | .ref a :: r => (match h[a]? with
    | some (.inr (cj, fs)) => cj = ci ∧ (match fs[k]? with
      | some v => K n lo (v :: r) h
      | _ => False)
    | _ => False)
  | _ => False
def am_putI (ci k : Nat) (ty : FieldType) (n : Nat) : am_A := fun lo st h K _ => match st with
  | .int x :: .ref a :: r => (match h[a]? with
    | some (.inr (cj, fs)) => (cj = ci ∧ k < fs.length ∧ narrow ty (.int x) = .int x ∧ fits ty (.int x) = true) ∧ K n lo r (h.set a (.inr (cj, fs.set k (.int x))))
    | _ => False)
  | _ => False
def am_putR (ci k n : Nat) : am_A := fun lo st h K _ => match st with
  | .ref x :: .ref a :: r => (match h[a]? with
    | some (.inr (cj, fs)) => (cj = ci ∧ k < fs.length) ∧ K n lo r (h.set a (.inr (cj, fs.set k (.ref x))))
    | _ => False)
  | _ => False
def am_iald (n : Nat) : am_A := fun lo st h K _ => match st with
  | .int i :: .ref a :: r => (match h[a]? with
    | some (.inl (0, N, .inl f)) => vp_in i N ∧ K n lo (.int (f i.toNatClampNeg) :: r) h
    | _ => False)
  | _ => False
def am_iast (n : Nat) : am_A := fun lo st h K _ => match st with
  | .int x :: .int i :: .ref a :: r => (match h[a]? with
    | some (.inl (0, N, .inl f)) => vp_in i N ∧ K n lo r (h.set a (.inl (0, N, .inl (upd f i.toNatClampNeg x))))
    | _ => False)
  | _ => False
def am_zald (n : Nat) : am_A := fun lo st h K _ => match st with
  | .int i :: .ref a :: r => (match h[a]? with
    | some (.inl (2, N, .inl f)) => vp_in i N ∧ K n lo (.int (f i.toNatClampNeg) :: r) h
    | _ => False)
  | _ => False
def am_zast (n : Nat) : am_A := fun lo st h K _ => match st with
  | .int x :: .int i :: .ref a :: r => (match h[a]? with
    | some (.inl (2, N, .inl f)) => vp_in i N ∧ K n lo r (h.set a (.inl (2, N, .inl (upd f i.toNatClampNeg (vp_nar .boolean x)))))
    | _ => False)
  | _ => False
def am_lald (n : Nat) : am_A := fun lo st h K _ => match st with
  | .int i :: .ref a :: r => (match h[a]? with
    | some (.inl (1, N, .inr (.inl f))) => vp_in i N ∧ K n lo (.long (f i.toNatClampNeg) :: r) h
    | _ => False)
  | _ => False
def am_last (n : Nat) : am_A := fun lo st h K _ => match st with
  | .long x :: .int i :: .ref a :: r => (match h[a]? with
    | some (.inl (1, N, .inr (.inl f))) => vp_in i N ∧ K n lo r (h.set a (.inl (1, N, .inr (.inl (vp_updL f i.toNatClampNeg x)))))
    | _ => False)
  | _ => False
def am_alen (n : Nat) : am_A := fun lo st h K _ => match st with
  | .ref a :: r => (match h[a]? with
    | some (.inl (t, N, _)) => t < 3 ∧ K n lo (.int (Int32.ofNat N) :: r) h
    | _ => False)
  | _ => False
/-- an array that is read alone, at the pretended place t: of length N, holding f -/
def am_sld (t N : Nat) (f : Nat → Int32) (n : Nat) : am_A := fun lo st h K _ => match st with
  | .int i :: .ref a :: r => (a = t ∧ vp_in i N) ∧ K n lo (.int (f i.toNatClampNeg) :: r) h
  | _ => False
def am_slen (t N n : Nat) : am_A := fun lo st h K _ => match st with
  | .ref a :: r => a = t ∧ K n lo (.int (Int32.ofNat N) :: r) h
  | _ => False
def am_iret : am_A := fun _ st h _ R => match st with
  | [.int x] => R (.inr (some (.int x))) h
  | _ => False
def am_lret : am_A := fun _ st h _ R => match st with
  | [.long x] => R (.inr (some (.long x))) h
  | _ => False
def am_vret : am_A := fun _ st h _ R => match st with
  | [] => R (.inr none) h
  | _ => False
/-- 'throw new E("..")', an exception of kind k: the five instructions at once -/
def am_throw (k : Nat) : am_A := fun _ st h _ R => match st with
  | [] => R (.inl k) h
  | _ => False
/-- a callee's meaning: from arguments and heap, what must hold behind it -/
abbrev am_M : Type := List Value → am_H → am_P → Prop
def am_cut : Nat → List Value → List Value → Option (List Value × List Value)
  | 0, acc, st => some (acc, st)
  | _ + 1, _, [] => none
  | n + 1, acc, v :: st => am_cut n (v :: acc) st
def am_on (n : Nat) (lo : am_L) (r : List Value) (K : am_K) : am_P := fun o h => match o with
  | .inr v => K n lo (v.toList ++ r) h
  | .inl _ => False
/-- a call of a method with np words of arguments besides none: static -/
def am_callS (M : am_M) (np n : Nat) : am_A := fun lo st h K _ => match am_cut np [] st with
  | some (as, r) => (r.map fun v => v.category).sum ≤ 8 ∧ M as h (am_on n lo r K)
  | none => False
/-- a call upon an object of class ci: the receiver is the first of np + 1 arguments -/
def am_callV (M : am_M) (ci np n : Nat) : am_A := fun lo st h K _ => match am_cut (np + 1) [] st with
  | some (.ref a :: as, r) => ((r.map fun v => v.category).sum ≤ 8 ∧ (match h[a]? with
    | some (.inr (cj, _)) => cj = ci
    | _ => False)) ∧ M (.ref a :: as) h (am_on n lo r K)
  | _ => False
/-! ## soundness -/
def am_tys (dA : Nat → ClassId) : List (ClassId × FieldType) := [(dA 0, .int), (dA 1, .long), (dA 2, .boolean)]
/-- what an abstract state says of the machine -/
def am_W (p : Program) (l : Launch) (e : Env) (R : Room) (s : State) (m : MethodId) (args : Array Value) (below : List Frame) (meth : Method) (c : Code) (Q : State → Prop) (nL : Nat) (dC : Nat → ClassId) (dI : Nat → Nat → Nat) (dA : Nat → ClassId) (A : Nat → Nat) (A0 : Nat → Prop) (cells slots : Nat) : am_K := fun pc lo st h =>
  ∀ (H : Heap) (ls : Array Slot) (locs : List Loc), lv_has ls nL (am_lv A 0 lo) → va_P (dC, dI) vwCl (am_c dA A 0 h) H → va_D A0 (am_c dA A 0 h) → va_S A0 s.heap H locs → W p l e R s m args below meth c H locs cells slots Q (F0 m pc ls (st.map (am_v A)))
/-- what stands throughout a method's walk -/
def am_C (En : (Nat → Nat) → (Nat → Prop) → State → Prop) (cc : ByteArray) (nL : Nat) (own : String) (d w : Nat) (p : Program) (R : Room) (s : State) (m : MethodId) (args : Array Value) (c : Code) (dC : Nat → ClassId) (dI : Nat → Nat → Nat) (dA : Nat → ClassId) (A : Nat → Nat) (A0 : Nat → Prop) (cells slots : Nat) : Prop :=
  p.tables.exec = Jvm.exec ∧ c.code = cc ∧ c.maxLocals = nL ∧ s.vm.findClass own = some m.cls ∧ (∀ w ∈ lw_good, w.before args s = true) ∧ va_K (dC, dI) vwCl (am_tys dA) s ∧ (∀ q, s.heap.size ≤ q → A0 q) ∧ En A A0 s ∧ (d ≤ R.frames ∧ w ≤ R.locals ∧ cells ≤ R.cells ∧ slots ≤ R.slots)
/-- 'throw new E("..")' stands at pc: new, dup, ldc, invokespecial, athrow; what the tables say of it -/
def am_kind (k : Nat) : String := match k with
  | 0 => "java/lang/IndexOutOfBoundsException"
  | 1 => "java/lang/IllegalArgumentException"
  | 2 => "java/lang/IllegalStateException"
  | _ => "java/lang/UnsupportedOperationException"
def am_up : List String := ["java/lang/RuntimeException", "java/lang/Exception"]
def am_isTh (w : Cond) : Bool := decide (w = .isRef (.static am_thN am_thU.1 am_thU.2)) || decide (w = .isRef (.static am_thN am_thS.1 am_thS.2)) || decide (w = .laysStatic am_thN am_thU.1 am_thU.2) || decide (w = .laysStatic am_thN am_thS.1 am_thS.2)
def am_thr (cc : ByteArray) (own : String) (k pc : Nat) : Prop :=
  ∃ (i1 i2 i3 : Nat) (tx : String), decode cc pc = .ok (.new i1, 3) ∧ decode cc (pc + 3) = .ok (.dup, 1) ∧ decode cc (pc + 4) = .ok (.ldc i2, 2) ∧ decode cc (pc + 6) = .ok (.invokespecial i3, 3) ∧ decode cc (pc + 9) = .ok (.athrow, 1) ∧
    Cond.classLink own i1 (am_kind k) ∈ lw_good ∧ Cond.instantiable (am_kind k) 6 ∈ lw_good ∧ Cond.initialized (am_kind k) ∈ lw_good ∧ (own, i2, tx) ∈ lw_strs ∧ ∀ w ∈ Bundle.ownAtoms own i3 (am_kind k) am_up, w ∈ lw_good ∨ w ∈ lw_nest ∨ am_isTh w = true
/-- how the method's own ends are met -/
def am_End (own : String) (cc : ByteArray) (p : Program) (l : Launch) (e : Env) (R : Room) (s : State) (m : MethodId) (args : Array Value) (below : List Frame) (meth : Method) (c : Code) (Q : State → Prop) (nL : Nat) (dC : Nat → ClassId) (dI : Nat → Nat → Nat) (dA : Nat → ClassId) (A : Nat → Nat) (A0 : Nat → Prop) (cells slots : Nat) (Rp : am_P) : Prop :=
  (∀ (x : Int32) (h : am_H) (H : Heap) (locs : List Loc) (ls : Array Slot) (pc : Nat), Rp (.inr (some (.int x))) h → va_P (dC, dI) vwCl (am_c dA A 0 h) H → va_D A0 (am_c dA A 0 h) → va_S A0 s.heap H locs → decode cc pc = .ok (.ireturn, 1) → W p l e R s m args below meth c H locs cells slots Q (F0 m pc ls [.int x])) ∧
  (∀ (x : Int64) (h : am_H) (H : Heap) (locs : List Loc) (ls : Array Slot) (pc : Nat), Rp (.inr (some (.long x))) h → va_P (dC, dI) vwCl (am_c dA A 0 h) H → va_D A0 (am_c dA A 0 h) → va_S A0 s.heap H locs → decode cc pc = .ok (.lreturn, 1) → W p l e R s m args below meth c H locs cells slots Q (F0 m pc ls [.long x])) ∧
  (∀ (h : am_H) (H : Heap) (locs : List Loc) (ls : Array Slot) (pc : Nat), Rp (.inr none) h → va_P (dC, dI) vwCl (am_c dA A 0 h) H → va_D A0 (am_c dA A 0 h) → va_S A0 s.heap H locs → decode cc pc = .ok (.return_, 1) → W p l e R s m args below meth c H locs cells slots Q (F0 m pc ls [])) ∧
  (∀ (k : Nat) (h : am_H) (H : Heap) (locs : List Loc) (ls : Array Slot) (pc : Nat), Rp (.inl k) h → ls.size = nL → va_P (dC, dI) vwCl (am_c dA A 0 h) H → va_D A0 (am_c dA A 0 h) → va_S A0 s.heap H locs → am_thr cc own k pc → W p l e R s m args below meth c H locs cells slots Q (F0 m pc ls []))
def am_Snd (En : (Nat → Nat) → (Nat → Prop) → State → Prop) (cc : ByteArray) (nL : Nat) (own : String) (d w pc : Nat) (a : am_A) : Prop :=
  ∀ (p : Program) (l : Launch) (e : Env) (R : Room) (s : State) (m : MethodId) (args : Array Value) (below : List Frame) (meth : Method) (c : Code) (Q : State → Prop) (dC : Nat → ClassId) (dI : Nat → Nat → Nat) (dA : Nat → ClassId) (A : Nat → Nat) (A0 : Nat → Prop) (cells slots : Nat) (Rp : am_P),
    am_C En cc nL own d w p R s m args c dC dI dA A A0 cells slots → am_End own cc p l e R s m args below meth c Q nL dC dI dA A A0 cells slots Rp → ∀ (lo : am_L) (st : List Value) (h : am_H) (K : am_K), a lo st h K Rp → (∀ pc' lo' st' h', K pc' lo' st' h' → am_W p l e R s m args below meth c Q nL dC dI dA A A0 cells slots pc' lo' st' h') → am_W p l e R s m args below meth c Q nL dC dI dA A A0 cells slots pc lo st h
section SND
variable {En : (Nat → Nat) → (Nat → Prop) → State → Prop} {cc : ByteArray} {nL d w pc : Nat} {own : String}
theorem am_s_stuck  : am_Snd En cc nL own d w pc (am_stuck) := by
  intro p l e R s m args below meth c Q dC dI dA A A0 cells slots Rp hC hE lo st h K ha hk H ls locs hl hP hD hS
  exact ha.elim
theorem am_s_iconst {n : Int} {v : Int32} (hd : decode cc pc = .ok (.iconst n, 1)) (hv : Int32.ofInt n = v) : am_Snd En cc nL own d w pc (am_push (.int v) (pc + 1)) := by
  intro p l e R s m args below meth c Q dC dI dA A A0 cells slots Rp hC hE lo st h K ha hk H ls locs hl hP hD hS
  exact lv_iconst hC.1 hC.2.1 hd hv (hk _ _ _ _ ha H ls locs hl hP hD hS)
theorem am_s_bipush {n : Int} {v : Int32} (hd : decode cc pc = .ok (.bipush n, 2)) (hv : (Int8.ofInt n).toInt32 = v) : am_Snd En cc nL own d w pc (am_push (.int v) (pc + 2)) := by
  intro p l e R s m args below meth c Q dC dI dA A A0 cells slots Rp hC hE lo st h K ha hk H ls locs hl hP hD hS
  exact lv_bipush hC.1 hC.2.1 hd hv (hk _ _ _ _ ha H ls locs hl hP hD hS)
theorem am_s_sipush {n : Int} {v : Int32} (hd : decode cc pc = .ok (.sipush n, 3)) (hv : (Int16.ofInt n).toInt32 = v) : am_Snd En cc nL own d w pc (am_push (.int v) (pc + 3)) := by
  intro p l e R s m args below meth c Q dC dI dA A A0 cells slots Rp hC hE lo st h K ha hk H ls locs hl hP hD hS
  exact lv_sipush hC.1 hC.2.1 hd hv (hk _ _ _ _ ha H ls locs hl hP hD hS)
theorem am_s_ldc {i : Nat} {v : Int32} (hw : Cond.constant own i v ∈ lw_good) (hd : decode cc pc = .ok (.ldc i, 2)) : am_Snd En cc nL own d w pc (am_push (.int v) (pc + 2)) := by
  intro p l e R s m args below meth c Q dC dI dA A A0 cells slots Rp hC hE lo st h K ha hk H ls locs hl hP hD hS
  exact lv_ldc hC.1 hC.2.1 hC.2.2.2.1 (hC.2.2.2.2.1 _ hw) hd (hk _ _ _ _ ha H ls locs hl hP hD hS)
theorem am_s_ldc2 {i : Nat} {v : Int64} (hw : Cond.constantLong own i v ∈ lw_good) (hd : decode cc pc = .ok (.ldc2_w i, 3)) : am_Snd En cc nL own d w pc (am_push (.long v) (pc + 3)) := by
  intro p l e R s m args below meth c Q dC dI dA A A0 cells slots Rp hC hE lo st h K ha hk H ls locs hl hP hD hS
  exact lv_ldc2 hC.1 hC.2.1 hC.2.2.2.1 (hC.2.2.2.2.1 _ hw) hd (hk _ _ _ _ ha H ls locs hl hP hD hS)
theorem am_s_iload_n {k : Fin 4} (i : Nat) (hd : decode cc pc = .ok (.iload_n k, 1)) (hi : (k : Nat) = i) : am_Snd En cc nL own d w pc (am_iload i (pc + 1)) := by
  intro p l e R s m args below meth c Q dC dI dA A A0 cells slots Rp hC hE lo st h K ha hk H ls locs hl hP hD hS
  unfold am_iload at ha
  split at ha
  · rename_i x hx
    exact lv_iload_n hC.1 hC.2.1 hd hi (am_lv_at hl hx) (hk _ _ _ _ ha H ls locs hl hP hD hS)
  · exact ha.elim
theorem am_s_iload {i : Nat} (hd : decode cc pc = .ok (.iload i, 2)) : am_Snd En cc nL own d w pc (am_iload i (pc + 2)) := by
  intro p l e R s m args below meth c Q dC dI dA A A0 cells slots Rp hC hE lo st h K ha hk H ls locs hl hP hD hS
  unfold am_iload at ha
  split at ha
  · rename_i x hx
    exact lv_iload hC.1 hC.2.1 hd (am_lv_at hl hx) (hk _ _ _ _ ha H ls locs hl hP hD hS)
  · exact ha.elim
theorem am_s_lload_n {k : Fin 4} (i : Nat) (hd : decode cc pc = .ok (.lload_n k, 1)) (hi : (k : Nat) = i) : am_Snd En cc nL own d w pc (am_lload i (pc + 1)) := by
  intro p l e R s m args below meth c Q dC dI dA A A0 cells slots Rp hC hE lo st h K ha hk H ls locs hl hP hD hS
  unfold am_lload at ha
  split at ha
  · rename_i x hx
    exact lv_lload_n hC.1 hC.2.1 hd hi (am_lv_at hl hx) (hk _ _ _ _ ha H ls locs hl hP hD hS)
  · exact ha.elim
theorem am_s_lload {i : Nat} (hd : decode cc pc = .ok (.lload i, 2)) : am_Snd En cc nL own d w pc (am_lload i (pc + 2)) := by
  intro p l e R s m args below meth c Q dC dI dA A A0 cells slots Rp hC hE lo st h K ha hk H ls locs hl hP hD hS
  unfold am_lload at ha
  split at ha
  · rename_i x hx
    exact lv_lload hC.1 hC.2.1 hd (am_lv_at hl hx) (hk _ _ _ _ ha H ls locs hl hP hD hS)
  · exact ha.elim
theorem am_s_aload_n {k : Fin 4} (i : Nat) (hd : decode cc pc = .ok (.aload_n k, 1)) (hi : (k : Nat) = i) : am_Snd En cc nL own d w pc (am_aload i (pc + 1)) := by
  intro p l e R s m args below meth c Q dC dI dA A A0 cells slots Rp hC hE lo st h K ha hk H ls locs hl hP hD hS
  unfold am_aload at ha
  split at ha
  · rename_i x hx
    exact lv_aload_n hC.1 hC.2.1 hd hi (am_lv_at hl hx) (hk _ _ _ _ ha H ls locs hl hP hD hS)
  · exact ha.elim
theorem am_s_aload {i : Nat} (hd : decode cc pc = .ok (.aload i, 2)) : am_Snd En cc nL own d w pc (am_aload i (pc + 2)) := by
  intro p l e R s m args below meth c Q dC dI dA A A0 cells slots Rp hC hE lo st h K ha hk H ls locs hl hP hD hS
  unfold am_aload at ha
  split at ha
  · rename_i x hx
    exact lv_aload hC.1 hC.2.1 hd (am_lv_at hl hx) (hk _ _ _ _ ha H ls locs hl hP hD hS)
  · exact ha.elim
theorem am_s_istore_n {k : Fin 4} (i : Nat) (hd : decode cc pc = .ok (.istore_n k, 1)) (hi : (k : Nat) = i) (hn : i < nL) : am_Snd En cc nL own d w pc (am_istore i (pc + 1)) := by
  intro p l e R s m args below meth c Q dC dI dA A A0 cells slots Rp hC hE lo st h K ha hk H ls locs hl hP hD hS
  unfold am_istore at ha
  split at ha
  · exact lv_istore_n hC.1 hC.2.1 hd hi hl hn rfl (fun ls' hl' => hk _ _ _ _ ha.2 H ls' locs (am_lv_more hl' (am_lv_set ha.1.1)) hP hD hS)
  · exact ha.elim
theorem am_s_istore {i : Nat} (hd : decode cc pc = .ok (.istore i, 2)) (hn : i < nL) : am_Snd En cc nL own d w pc (am_istore i (pc + 2)) := by
  intro p l e R s m args below meth c Q dC dI dA A A0 cells slots Rp hC hE lo st h K ha hk H ls locs hl hP hD hS
  unfold am_istore at ha
  split at ha
  · exact lv_istore hC.1 hC.2.1 hd hl hn rfl (fun ls' hl' => hk _ _ _ _ ha.2 H ls' locs (am_lv_more hl' (am_lv_set ha.1.1)) hP hD hS)
  · exact ha.elim
theorem am_s_astore_n {k : Fin 4} (i : Nat) (hd : decode cc pc = .ok (.astore_n k, 1)) (hi : (k : Nat) = i) (hn : i < nL) : am_Snd En cc nL own d w pc (am_astore i (pc + 1)) := by
  intro p l e R s m args below meth c Q dC dI dA A A0 cells slots Rp hC hE lo st h K ha hk H ls locs hl hP hD hS
  unfold am_astore at ha
  split at ha
  · exact lv_astore_n hC.1 hC.2.1 hd hi hl hn rfl (fun ls' hl' => hk _ _ _ _ ha.2 H ls' locs (am_lv_more hl' (am_lv_set ha.1.1)) hP hD hS)
  · exact ha.elim
theorem am_s_astore {i : Nat} (hd : decode cc pc = .ok (.astore i, 2)) (hn : i < nL) : am_Snd En cc nL own d w pc (am_astore i (pc + 2)) := by
  intro p l e R s m args below meth c Q dC dI dA A A0 cells slots Rp hC hE lo st h K ha hk H ls locs hl hP hD hS
  unfold am_astore at ha
  split at ha
  · exact lv_astore hC.1 hC.2.1 hd hl hn rfl (fun ls' hl' => hk _ _ _ _ ha.2 H ls' locs (am_lv_more hl' (am_lv_set ha.1.1)) hP hD hS)
  · exact ha.elim
theorem am_lv_find {A : Nat → Nat} : ∀ (l : am_L) (i0 i : Nat) (v : Value), l[i]? = some (some v) → ∃ k : Nat, (am_lv A i0 l)[k]? = some (i0 + i, am_v A v)
  | [], i0, i, v, h => by simp at h
  | none :: t, i0, 0, v, h => by simp at h
  | none :: t, i0, i + 1, v, h => by
    obtain ⟨k, e⟩ := am_lv_find t (i0 + 1) i v (by simpa using h)
    exact ⟨k, by simp only [am_lv]; rw [e, show i0 + 1 + i = i0 + (i + 1) by omega]⟩
  | some w :: t, i0, 0, v, h => ⟨0, by have e : w = v := by simpa using h
                                       rw [e]; rfl⟩
  | some w :: t, i0, i + 1, v, h => by
    obtain ⟨k, e⟩ := am_lv_find t (i0 + 1) i v (by simpa using h)
    exact ⟨k + 1, by simp only [am_lv, List.getElem?_cons_succ]; rw [e, show i0 + 1 + i = i0 + (i + 1) by omega]⟩
theorem am_s_iinc {i : Nat} {n : Int} (hd : decode cc pc = .ok (.iinc i n, 3)) (hn : i < nL) : am_Snd En cc nL own d w pc (am_iinc i n (pc + 3)) := by
  intro p l e R s m args below meth c Q dC dI dA A A0 cells slots Rp hC hE lo st h K ha hk H ls locs hl hP hD hS
  unfold am_iinc at ha
  split at ha
  · rename_i x hx
    obtain ⟨k, ek⟩ := am_lv_find (A := A) lo 0 i (.int x) hx
    rw [Nat.zero_add] at ek
    exact lv_iinc (k := k) hC.1 hC.2.1 hd hl ek rfl hn rfl (fun ls' hl' => hk _ _ _ _ ha.2 H ls' locs (am_lv_more hl' (am_lv_set ha.1.1)) hP hD hS)
  · exact ha.elim
theorem am_s_iadd (hd : decode cc pc = .ok (.iadd, 1)) : am_Snd En cc nL own d w pc (am_i2 (fun x y => x + y) (pc + 1)) := by
  intro p l e R s m args below meth c Q dC dI dA A A0 cells slots Rp hC hE lo st h K ha hk H ls locs hl hP hD hS
  unfold am_i2 at ha
  split at ha
  · exact lv_iadd hC.1 hC.2.1 hd (hk _ _ _ _ ha H ls locs hl hP hD hS)
  · exact ha.elim
theorem am_s_isub (hd : decode cc pc = .ok (.isub, 1)) : am_Snd En cc nL own d w pc (am_i2 (fun x y => x - y) (pc + 1)) := by
  intro p l e R s m args below meth c Q dC dI dA A A0 cells slots Rp hC hE lo st h K ha hk H ls locs hl hP hD hS
  unfold am_i2 at ha
  split at ha
  · exact lv_isub hC.1 hC.2.1 hd (hk _ _ _ _ ha H ls locs hl hP hD hS)
  · exact ha.elim
theorem am_s_imul (hd : decode cc pc = .ok (.imul, 1)) : am_Snd En cc nL own d w pc (am_i2 (fun x y => x * y) (pc + 1)) := by
  intro p l e R s m args below meth c Q dC dI dA A A0 cells slots Rp hC hE lo st h K ha hk H ls locs hl hP hD hS
  unfold am_i2 at ha
  split at ha
  · exact lv_imul hC.1 hC.2.1 hd (hk _ _ _ _ ha H ls locs hl hP hD hS)
  · exact ha.elim
theorem am_s_iand (hd : decode cc pc = .ok (.iand, 1)) : am_Snd En cc nL own d w pc (am_i2 (fun x y => x &&& y) (pc + 1)) := by
  intro p l e R s m args below meth c Q dC dI dA A A0 cells slots Rp hC hE lo st h K ha hk H ls locs hl hP hD hS
  unfold am_i2 at ha
  split at ha
  · exact lv_iand hC.1 hC.2.1 hd (hk _ _ _ _ ha H ls locs hl hP hD hS)
  · exact ha.elim
theorem am_s_ior (hd : decode cc pc = .ok (.ior, 1)) : am_Snd En cc nL own d w pc (am_i2 (fun x y => x ||| y) (pc + 1)) := by
  intro p l e R s m args below meth c Q dC dI dA A A0 cells slots Rp hC hE lo st h K ha hk H ls locs hl hP hD hS
  unfold am_i2 at ha
  split at ha
  · exact lv_ior hC.1 hC.2.1 hd (hk _ _ _ _ ha H ls locs hl hP hD hS)
  · exact ha.elim
theorem am_s_ixor (hd : decode cc pc = .ok (.ixor, 1)) : am_Snd En cc nL own d w pc (am_i2 (fun x y => x ^^^ y) (pc + 1)) := by
  intro p l e R s m args below meth c Q dC dI dA A A0 cells slots Rp hC hE lo st h K ha hk H ls locs hl hP hD hS
  unfold am_i2 at ha
  split at ha
  · exact lv_ixor hC.1 hC.2.1 hd (hk _ _ _ _ ha H ls locs hl hP hD hS)
  · exact ha.elim
theorem am_s_ishl (hd : decode cc pc = .ok (.ishl, 1)) : am_Snd En cc nL own d w pc (am_i2 (fun x y => x <<< (y &&& 31)) (pc + 1)) := by
  intro p l e R s m args below meth c Q dC dI dA A A0 cells slots Rp hC hE lo st h K ha hk H ls locs hl hP hD hS
  unfold am_i2 at ha
  split at ha
  · exact lv_ishl hC.1 hC.2.1 hd (hk _ _ _ _ ha H ls locs hl hP hD hS)
  · exact ha.elim
theorem am_s_ishr (hd : decode cc pc = .ok (.ishr, 1)) : am_Snd En cc nL own d w pc (am_i2 (fun x y => x >>> (y &&& 31)) (pc + 1)) := by
  intro p l e R s m args below meth c Q dC dI dA A A0 cells slots Rp hC hE lo st h K ha hk H ls locs hl hP hD hS
  unfold am_i2 at ha
  split at ha
  · exact lv_ishr hC.1 hC.2.1 hd (hk _ _ _ _ ha H ls locs hl hP hD hS)
  · exact ha.elim
theorem am_s_iushr (hd : decode cc pc = .ok (.iushr, 1)) : am_Snd En cc nL own d w pc (am_i2 (fun x y => (x.toUInt32 >>> (y.toUInt32 &&& Int32.toUInt32 31)).toInt32) (pc + 1)) := by
  intro p l e R s m args below meth c Q dC dI dA A A0 cells slots Rp hC hE lo st h K ha hk H ls locs hl hP hD hS
  unfold am_i2 at ha
  split at ha
  · exact lv_iushr hC.1 hC.2.1 hd rfl (hk _ _ _ _ ha H ls locs hl hP hD hS)
  · exact ha.elim
theorem am_s_idiv (hd : decode cc pc = .ok (.idiv, 1)) : am_Snd En cc nL own d w pc (am_idiv (fun x y => x / y) (pc + 1)) := by
  intro p l e R s m args below meth c Q dC dI dA A A0 cells slots Rp hC hE lo st h K ha hk H ls locs hl hP hD hS
  unfold am_idiv at ha
  split at ha
  · exact lv_idiv hC.1 hC.2.1 hd ha.1 (hk _ _ _ _ ha.2 H ls locs hl hP hD hS)
  · exact ha.elim
theorem am_s_irem (hd : decode cc pc = .ok (.irem, 1)) : am_Snd En cc nL own d w pc (am_idiv (fun x y => x - x / y * y) (pc + 1)) := by
  intro p l e R s m args below meth c Q dC dI dA A A0 cells slots Rp hC hE lo st h K ha hk H ls locs hl hP hD hS
  unfold am_idiv at ha
  split at ha
  · exact lv_irem hC.1 hC.2.1 hd ha.1 (hk _ _ _ _ ha.2 H ls locs hl hP hD hS)
  · exact ha.elim
theorem am_s_ineg (hd : decode cc pc = .ok (.ineg, 1)) : am_Snd En cc nL own d w pc (am_i1 (fun x => -x) (pc + 1)) := by
  intro p l e R s m args below meth c Q dC dI dA A A0 cells slots Rp hC hE lo st h K ha hk H ls locs hl hP hD hS
  unfold am_i1 at ha
  split at ha
  · exact lv_ineg hC.1 hC.2.1 hd (hk _ _ _ _ ha H ls locs hl hP hD hS)
  · exact ha.elim
theorem am_s_ladd (hd : decode cc pc = .ok (.ladd, 1)) : am_Snd En cc nL own d w pc (am_l2 (fun x y => x + y) (pc + 1)) := by
  intro p l e R s m args below meth c Q dC dI dA A A0 cells slots Rp hC hE lo st h K ha hk H ls locs hl hP hD hS
  unfold am_l2 at ha
  split at ha
  · exact lv_ladd hC.1 hC.2.1 hd (hk _ _ _ _ ha H ls locs hl hP hD hS)
  · exact ha.elim
theorem am_s_lsub (hd : decode cc pc = .ok (.lsub, 1)) : am_Snd En cc nL own d w pc (am_l2 (fun x y => x - y) (pc + 1)) := by
  intro p l e R s m args below meth c Q dC dI dA A A0 cells slots Rp hC hE lo st h K ha hk H ls locs hl hP hD hS
  unfold am_l2 at ha
  split at ha
  · exact lv_lsub hC.1 hC.2.1 hd (hk _ _ _ _ ha H ls locs hl hP hD hS)
  · exact ha.elim
theorem am_s_lmul (hd : decode cc pc = .ok (.lmul, 1)) : am_Snd En cc nL own d w pc (am_l2 (fun x y => x * y) (pc + 1)) := by
  intro p l e R s m args below meth c Q dC dI dA A A0 cells slots Rp hC hE lo st h K ha hk H ls locs hl hP hD hS
  unfold am_l2 at ha
  split at ha
  · exact lv_lmul hC.1 hC.2.1 hd (hk _ _ _ _ ha H ls locs hl hP hD hS)
  · exact ha.elim
theorem am_s_land (hd : decode cc pc = .ok (.land, 1)) : am_Snd En cc nL own d w pc (am_l2 (fun x y => x &&& y) (pc + 1)) := by
  intro p l e R s m args below meth c Q dC dI dA A A0 cells slots Rp hC hE lo st h K ha hk H ls locs hl hP hD hS
  unfold am_l2 at ha
  split at ha
  · exact lv_land hC.1 hC.2.1 hd (hk _ _ _ _ ha H ls locs hl hP hD hS)
  · exact ha.elim
theorem am_s_lor (hd : decode cc pc = .ok (.lor, 1)) : am_Snd En cc nL own d w pc (am_l2 (fun x y => x ||| y) (pc + 1)) := by
  intro p l e R s m args below meth c Q dC dI dA A A0 cells slots Rp hC hE lo st h K ha hk H ls locs hl hP hD hS
  unfold am_l2 at ha
  split at ha
  · exact lv_lor hC.1 hC.2.1 hd (hk _ _ _ _ ha H ls locs hl hP hD hS)
  · exact ha.elim
theorem am_s_lxor (hd : decode cc pc = .ok (.lxor, 1)) : am_Snd En cc nL own d w pc (am_l2 (fun x y => x ^^^ y) (pc + 1)) := by
  intro p l e R s m args below meth c Q dC dI dA A A0 cells slots Rp hC hE lo st h K ha hk H ls locs hl hP hD hS
  unfold am_l2 at ha
  split at ha
  · exact lv_lxor hC.1 hC.2.1 hd (hk _ _ _ _ ha H ls locs hl hP hD hS)
  · exact ha.elim
theorem am_s_ldiv (hd : decode cc pc = .ok (.ldiv, 1)) : am_Snd En cc nL own d w pc (am_ldiv (pc + 1)) := by
  intro p l e R s m args below meth c Q dC dI dA A A0 cells slots Rp hC hE lo st h K ha hk H ls locs hl hP hD hS
  unfold am_ldiv at ha
  split at ha
  · exact lv_ldiv hC.1 hC.2.1 hd ha.1 (hk _ _ _ _ ha.2 H ls locs hl hP hD hS)
  · exact ha.elim
theorem am_s_lconst {n : Fin 2} {v : Int64} (hd : decode cc pc = .ok (.lconst n, 1)) (hv : Int64.ofNat (n : Nat) = v) : am_Snd En cc nL own d w pc (am_push (.long v) (pc + 1)) := by
  intro p l e R s m args below meth c Q dC dI dA A A0 cells slots Rp hC hE lo st h K ha hk H ls locs hl hP hD hS
  exact lv_lconst hC.1 hC.2.1 hd hv (hk _ _ _ _ ha H ls locs hl hP hD hS)
theorem am_s_ldcw {i : Nat} {v : Int32} (hw : Cond.constant own i v ∈ lw_good) (hd : decode cc pc = .ok (.ldc_w i, 3)) : am_Snd En cc nL own d w pc (am_push (.int v) (pc + 3)) := by
  intro p l e R s m args below meth c Q dC dI dA A A0 cells slots Rp hC hE lo st h K ha hk H ls locs hl hP hD hS
  exact lv_ldcw hC.1 hC.2.1 hC.2.2.2.1 (hC.2.2.2.2.1 _ hw) hd (hk _ _ _ _ ha H ls locs hl hP hD hS)
theorem am_lv_set2 {A : Nat → Nat} {l : am_L} {i : Nat} {x : Int64} (hg : am_g2 l i = true) : ∀ q ∈ am_lv A 0 ((l.set i (some (.long x))).set (i + 1) none), q ∈ (i, Value.long x) :: (am_lv A 0 l).filter (fun q => !(q.1 == i) && (!(q.1 == i + 1) && !(q.1 + 1 == i && q.2.category == 2))) := by
  intro q hq
  obtain ⟨j, v, h, e⟩ := (am_lv_mem A q _ 0).mp hq
  rw [Nat.zero_add] at e
  by_cases hj1 : i + 1 = j
  · subst hj1
    rw [List.getElem?_set] at h
    split at h
    · split at h
      · cases h
      · cases h
    · rename_i hne; exact absurd rfl hne
  · rw [List.getElem?_set_ne hj1] at h
    have h2 := am_lv_set (A := A) (v := .long x) hg q ((am_lv_mem A q _ 0).mpr ⟨j, v, h, by rw [Nat.zero_add]; exact e⟩)
    rcases List.mem_cons.mp h2 with h2 | h2
    · rw [h2]; exact List.mem_cons_self
    · obtain ⟨h3, h4⟩ := List.mem_filter.mp h2
      refine List.mem_cons_of_mem _ (List.mem_filter.mpr ⟨h3, ?_⟩)
      have h5 : (q.1 == i + 1) = false := by rw [e]; simpa using fun z => hj1 z.symm
      simp only [Bool.and_eq_true] at h4 ⊢
      exact ⟨h4.1, by rw [h5]; rfl, h4.2⟩
theorem am_s_lstore_n {k : Fin 4} (i : Nat) (hd : decode cc pc = .ok (.lstore_n k, 1)) (hi : (k : Nat) = i) (hn : i + 1 < nL) : am_Snd En cc nL own d w pc (am_lstore i (pc + 1)) := by
  intro p l e R s m args below meth c Q dC dI dA A A0 cells slots Rp hC hE lo st h K ha hk H ls locs hl hP hD hS
  unfold am_lstore at ha
  split at ha
  · exact lv_lstore_n hC.1 hC.2.1 hd hi hl hn rfl (fun ls' hl' => hk _ _ _ _ ha.2 H ls' locs (am_lv_more hl' (am_lv_set2 ha.1.1)) hP hD hS)
  · exact ha.elim
theorem am_s_lstore {i : Nat} (hd : decode cc pc = .ok (.lstore i, 2)) (hn : i + 1 < nL) : am_Snd En cc nL own d w pc (am_lstore i (pc + 2)) := by
  intro p l e R s m args below meth c Q dC dI dA A A0 cells slots Rp hC hE lo st h K ha hk H ls locs hl hP hD hS
  unfold am_lstore at ha
  split at ha
  · exact lv_lstore hC.1 hC.2.1 hd hl hn rfl (fun ls' hl' => hk _ _ _ _ ha.2 H ls' locs (am_lv_more hl' (am_lv_set2 ha.1.1)) hP hD hS)
  · exact ha.elim
theorem am_s_lushr (hd : decode cc pc = .ok (.lushr, 1)) : am_Snd En cc nL own d w pc (am_lsh (fun x y => (x.toUInt64 >>> (y.toInt64.toUInt64 &&& Int64.toUInt64 63)).toInt64) (pc + 1)) := by
  intro p l e R s m args below meth c Q dC dI dA A A0 cells slots Rp hC hE lo st h K ha hk H ls locs hl hP hD hS
  unfold am_lsh at ha
  split at ha
  · exact lv_lushr hC.1 hC.2.1 hd rfl (hk _ _ _ _ ha H ls locs hl hP hD hS)
  · exact ha.elim
theorem am_s_lshl (hd : decode cc pc = .ok (.lshl, 1)) : am_Snd En cc nL own d w pc (am_lsh (fun x y => x <<< (y.toInt64 &&& 63)) (pc + 1)) := by
  intro p l e R s m args below meth c Q dC dI dA A A0 cells slots Rp hC hE lo st h K ha hk H ls locs hl hP hD hS
  unfold am_lsh at ha
  split at ha
  · exact lv_lshl hC.1 hC.2.1 hd rfl (hk _ _ _ _ ha H ls locs hl hP hD hS)
  · exact ha.elim
theorem am_s_lshr (hd : decode cc pc = .ok (.lshr, 1)) : am_Snd En cc nL own d w pc (am_lsh (fun x y => x >>> (y.toInt64 &&& 63)) (pc + 1)) := by
  intro p l e R s m args below meth c Q dC dI dA A A0 cells slots Rp hC hE lo st h K ha hk H ls locs hl hP hD hS
  unfold am_lsh at ha
  split at ha
  · exact lv_lshr hC.1 hC.2.1 hd rfl (hk _ _ _ _ ha H ls locs hl hP hD hS)
  · exact ha.elim
theorem am_s_lcmp (hd : decode cc pc = .ok (.lcmp, 1)) : am_Snd En cc nL own d w pc (am_lcmp (pc + 1)) := by
  intro p l e R s m args below meth c Q dC dI dA A A0 cells slots Rp hC hE lo st h K ha hk H ls locs hl hP hD hS
  unfold am_lcmp at ha
  split at ha
  · exact W.lcmp hC.1 hC.2.1 hd (hk _ _ _ _ ha H ls locs hl hP hD hS)
  · exact ha.elim
theorem am_s_i2l (hd : decode cc pc = .ok (.i2l, 1)) : am_Snd En cc nL own d w pc (am_i2l (pc + 1)) := by
  intro p l e R s m args below meth c Q dC dI dA A A0 cells slots Rp hC hE lo st h K ha hk H ls locs hl hP hD hS
  unfold am_i2l at ha
  split at ha
  · exact lv_i2l hC.1 hC.2.1 hd rfl (hk _ _ _ _ ha H ls locs hl hP hD hS)
  · exact ha.elim
theorem am_s_l2i (hd : decode cc pc = .ok (.l2i, 1)) : am_Snd En cc nL own d w pc (am_l2i (pc + 1)) := by
  intro p l e R s m args below meth c Q dC dI dA A A0 cells slots Rp hC hE lo st h K ha hk H ls locs hl hP hD hS
  unfold am_l2i at ha
  split at ha
  · exact lv_l2i hC.1 hC.2.1 hd rfl (hk _ _ _ _ ha H ls locs hl hP hD hS)
  · exact ha.elim
theorem am_s_dup (hd : decode cc pc = .ok (.dup, 1)) : am_Snd En cc nL own d w pc (am_dup (pc + 1)) := by
  intro p l e R s m args below meth c Q dC dI dA A A0 cells slots Rp hC hE lo st h K ha hk H ls locs hl hP hD hS
  unfold am_dup at ha
  split at ha
  · exact lv_dup hC.1 hC.2.1 hd ((am_v_cat A _).trans ha.1) (hk _ _ _ _ ha.2 H ls locs hl hP hD hS)
  · exact ha.elim
theorem am_s_pop (hd : decode cc pc = .ok (.pop, 1)) : am_Snd En cc nL own d w pc (am_pop (pc + 1)) := by
  intro p l e R s m args below meth c Q dC dI dA A A0 cells slots Rp hC hE lo st h K ha hk H ls locs hl hP hD hS
  unfold am_pop at ha
  split at ha
  · exact lv_pop hC.1 hC.2.1 hd ((am_v_cat A _).trans ha.1) (hk _ _ _ _ ha.2 H ls locs hl hP hD hS)
  · exact ha.elim
theorem am_s_dup_x1 (hd : decode cc pc = .ok (.dup_x1, 1)) : am_Snd En cc nL own d w pc (am_dup_x1 (pc + 1)) := by
  intro p l e R s m args below meth c Q dC dI dA A A0 cells slots Rp hC hE lo st h K ha hk H ls locs hl hP hD hS
  unfold am_dup_x1 at ha
  split at ha
  · exact lv_dup_x1 hC.1 hC.2.1 hd ((am_v_cat A _).trans ha.1.1) ((am_v_cat A _).trans ha.1.2) (hk _ _ _ _ ha.2 H ls locs hl hP hD hS)
  · exact ha.elim
theorem am_s_dup_x2 (hd : decode cc pc = .ok (.dup_x2, 1)) : am_Snd En cc nL own d w pc (am_dup_x2 (pc + 1)) := by
  intro p l e R s m args below meth c Q dC dI dA A A0 cells slots Rp hC hE lo st h K ha hk H ls locs hl hP hD hS
  unfold am_dup_x2 at ha
  split at ha
  · exact lv_dup_x2 hC.1 hC.2.1 hd ((am_v_cat A _).trans ha.1.1) ((am_v_cat A _).trans ha.1.2.1) ((am_v_cat A _).trans ha.1.2.2) (hk _ _ _ _ ha.2 H ls locs hl hP hD hS)
  · exact ha.elim
theorem am_s_dup2 (hd : decode cc pc = .ok (.dup2, 1)) : am_Snd En cc nL own d w pc (am_dup2 (pc + 1)) := by
  intro p l e R s m args below meth c Q dC dI dA A A0 cells slots Rp hC hE lo st h K ha hk H ls locs hl hP hD hS
  unfold am_dup2 at ha
  split at ha
  · exact lv_dup2_11 hC.1 hC.2.1 hd ((am_v_cat A _).trans ha.1.1) ((am_v_cat A _).trans ha.1.2) (hk _ _ _ _ ha.2 H ls locs hl hP hD hS)
  · exact ha.elim
theorem am_s_if_eq {off : Int} (t : Nat) (hd : decode cc pc = .ok (.ifCond .eq off, 3)) (ht : (pc : Int) + off = (t : Int)) : am_Snd En cc nL own d w pc (am_if (fun x => x = 0) t (pc + 3)) := by
  intro p l e R s m args below meth c Q dC dI dA A A0 cells slots Rp hC hE lo st h K ha hk H ls locs hl hP hD hS
  unfold am_if at ha
  split at ha
  · exact lv_if_eq hC.1 hC.2.1 hd ht (fun q => hk _ _ _ _ (ha.1 q) H ls locs hl hP hD hS) (fun q => hk _ _ _ _ (ha.2 q) H ls locs hl hP hD hS)
  · exact ha.elim
theorem am_s_if_ne {off : Int} (t : Nat) (hd : decode cc pc = .ok (.ifCond .ne off, 3)) (ht : (pc : Int) + off = (t : Int)) : am_Snd En cc nL own d w pc (am_if (fun x => ¬ x = 0) t (pc + 3)) := by
  intro p l e R s m args below meth c Q dC dI dA A A0 cells slots Rp hC hE lo st h K ha hk H ls locs hl hP hD hS
  unfold am_if at ha
  split at ha
  · exact lv_if_ne hC.1 hC.2.1 hd ht (fun q => hk _ _ _ _ (ha.1 q) H ls locs hl hP hD hS) (fun q => hk _ _ _ _ (ha.2 (fun z => z q)) H ls locs hl hP hD hS)
  · exact ha.elim
theorem am_s_if_lt {off : Int} (t : Nat) (hd : decode cc pc = .ok (.ifCond .lt off, 3)) (ht : (pc : Int) + off = (t : Int)) : am_Snd En cc nL own d w pc (am_if (fun x => x < 0) t (pc + 3)) := by
  intro p l e R s m args below meth c Q dC dI dA A A0 cells slots Rp hC hE lo st h K ha hk H ls locs hl hP hD hS
  unfold am_if at ha
  split at ha
  · exact lv_if_lt hC.1 hC.2.1 hd ht (fun q => hk _ _ _ _ (ha.1 q) H ls locs hl hP hD hS) (fun q => hk _ _ _ _ (ha.2 q) H ls locs hl hP hD hS)
  · exact ha.elim
theorem am_s_if_ge {off : Int} (t : Nat) (hd : decode cc pc = .ok (.ifCond .ge off, 3)) (ht : (pc : Int) + off = (t : Int)) : am_Snd En cc nL own d w pc (am_if (fun x => 0 ≤ x) t (pc + 3)) := by
  intro p l e R s m args below meth c Q dC dI dA A A0 cells slots Rp hC hE lo st h K ha hk H ls locs hl hP hD hS
  unfold am_if at ha
  split at ha
  · exact lv_if_ge hC.1 hC.2.1 hd ht (fun q => hk _ _ _ _ (ha.1 q) H ls locs hl hP hD hS) (fun q => hk _ _ _ _ (ha.2 q) H ls locs hl hP hD hS)
  · exact ha.elim
theorem am_s_if_gt {off : Int} (t : Nat) (hd : decode cc pc = .ok (.ifCond .gt off, 3)) (ht : (pc : Int) + off = (t : Int)) : am_Snd En cc nL own d w pc (am_if (fun x => 0 < x) t (pc + 3)) := by
  intro p l e R s m args below meth c Q dC dI dA A A0 cells slots Rp hC hE lo st h K ha hk H ls locs hl hP hD hS
  unfold am_if at ha
  split at ha
  · exact lv_if_gt hC.1 hC.2.1 hd ht (fun q => hk _ _ _ _ (ha.1 q) H ls locs hl hP hD hS) (fun q => hk _ _ _ _ (ha.2 q) H ls locs hl hP hD hS)
  · exact ha.elim
theorem am_s_if_le {off : Int} (t : Nat) (hd : decode cc pc = .ok (.ifCond .le off, 3)) (ht : (pc : Int) + off = (t : Int)) : am_Snd En cc nL own d w pc (am_if (fun x => x ≤ 0) t (pc + 3)) := by
  intro p l e R s m args below meth c Q dC dI dA A A0 cells slots Rp hC hE lo st h K ha hk H ls locs hl hP hD hS
  unfold am_if at ha
  split at ha
  · exact lv_if_le hC.1 hC.2.1 hd ht (fun q => hk _ _ _ _ (ha.1 q) H ls locs hl hP hD hS) (fun q => hk _ _ _ _ (ha.2 q) H ls locs hl hP hD hS)
  · exact ha.elim
theorem am_s_icmp_eq {off : Int} (t : Nat) (hd : decode cc pc = .ok (.if_icmp .eq off, 3)) (ht : (pc : Int) + off = (t : Int)) : am_Snd En cc nL own d w pc (am_if2 (fun x y => x = y) t (pc + 3)) := by
  intro p l e R s m args below meth c Q dC dI dA A A0 cells slots Rp hC hE lo st h K ha hk H ls locs hl hP hD hS
  unfold am_if2 at ha
  split at ha
  · exact lv_icmp_eq hC.1 hC.2.1 hd ht (fun q => hk _ _ _ _ (ha.1 q) H ls locs hl hP hD hS) (fun q => hk _ _ _ _ (ha.2 q) H ls locs hl hP hD hS)
  · exact ha.elim
theorem am_s_icmp_ne {off : Int} (t : Nat) (hd : decode cc pc = .ok (.if_icmp .ne off, 3)) (ht : (pc : Int) + off = (t : Int)) : am_Snd En cc nL own d w pc (am_if2 (fun x y => ¬ x = y) t (pc + 3)) := by
  intro p l e R s m args below meth c Q dC dI dA A A0 cells slots Rp hC hE lo st h K ha hk H ls locs hl hP hD hS
  unfold am_if2 at ha
  split at ha
  · exact lv_icmp_ne hC.1 hC.2.1 hd ht (fun q => hk _ _ _ _ (ha.1 q) H ls locs hl hP hD hS) (fun q => hk _ _ _ _ (ha.2 (fun z => z q)) H ls locs hl hP hD hS)
  · exact ha.elim
theorem am_s_icmp_lt {off : Int} (t : Nat) (hd : decode cc pc = .ok (.if_icmp .lt off, 3)) (ht : (pc : Int) + off = (t : Int)) : am_Snd En cc nL own d w pc (am_if2 (fun x y => x < y) t (pc + 3)) := by
  intro p l e R s m args below meth c Q dC dI dA A A0 cells slots Rp hC hE lo st h K ha hk H ls locs hl hP hD hS
  unfold am_if2 at ha
  split at ha
  · exact lv_icmp_lt hC.1 hC.2.1 hd ht (fun q => hk _ _ _ _ (ha.1 q) H ls locs hl hP hD hS) (fun q => hk _ _ _ _ (ha.2 q) H ls locs hl hP hD hS)
  · exact ha.elim
theorem am_s_icmp_ge {off : Int} (t : Nat) (hd : decode cc pc = .ok (.if_icmp .ge off, 3)) (ht : (pc : Int) + off = (t : Int)) : am_Snd En cc nL own d w pc (am_if2 (fun x y => y ≤ x) t (pc + 3)) := by
  intro p l e R s m args below meth c Q dC dI dA A A0 cells slots Rp hC hE lo st h K ha hk H ls locs hl hP hD hS
  unfold am_if2 at ha
  split at ha
  · exact lv_icmp_ge hC.1 hC.2.1 hd ht (fun q => hk _ _ _ _ (ha.1 q) H ls locs hl hP hD hS) (fun q => hk _ _ _ _ (ha.2 q) H ls locs hl hP hD hS)
  · exact ha.elim
theorem am_s_icmp_gt {off : Int} (t : Nat) (hd : decode cc pc = .ok (.if_icmp .gt off, 3)) (ht : (pc : Int) + off = (t : Int)) : am_Snd En cc nL own d w pc (am_if2 (fun x y => y < x) t (pc + 3)) := by
  intro p l e R s m args below meth c Q dC dI dA A A0 cells slots Rp hC hE lo st h K ha hk H ls locs hl hP hD hS
  unfold am_if2 at ha
  split at ha
  · exact lv_icmp_gt hC.1 hC.2.1 hd ht (fun q => hk _ _ _ _ (ha.1 q) H ls locs hl hP hD hS) (fun q => hk _ _ _ _ (ha.2 q) H ls locs hl hP hD hS)
  · exact ha.elim
theorem am_s_icmp_le {off : Int} (t : Nat) (hd : decode cc pc = .ok (.if_icmp .le off, 3)) (ht : (pc : Int) + off = (t : Int)) : am_Snd En cc nL own d w pc (am_if2 (fun x y => x ≤ y) t (pc + 3)) := by
  intro p l e R s m args below meth c Q dC dI dA A A0 cells slots Rp hC hE lo st h K ha hk H ls locs hl hP hD hS
  unfold am_if2 at ha
  split at ha
  · exact lv_icmp_le hC.1 hC.2.1 hd ht (fun q => hk _ _ _ _ (ha.1 q) H ls locs hl hP hD hS) (fun q => hk _ _ _ _ (ha.2 q) H ls locs hl hP hD hS)
  · exact ha.elim
theorem am_s_goto {off : Int} (t : Nat) (hd : decode cc pc = .ok (.goto off, 3)) (ht : (pc : Int) + off = (t : Int)) : am_Snd En cc nL own d w pc (am_goto t) := by
  intro p l e R s m args below meth c Q dC dI dA A A0 cells slots Rp hC hE lo st h K ha hk H ls locs hl hP hD hS
  exact lv_goto hC.1 hC.2.1 hd ht (hk _ _ _ _ ha H ls locs hl hP hD hS)
def am_tab (pc : Nat) : Int → List Int → List (Int32 × Nat)
  | _, [] => []
  | lo, o :: t => (Int32.ofInt lo, ((pc : Int) + o).toNat) :: am_tab pc (lo + 1) t
theorem am_tab_get (pc : Nat) : ∀ (os : List Int) (lo : Int) (j : Nat) (o : Int), os[j]? = some o → (am_tab pc lo os)[j]? = some (Int32.ofInt (lo + j), ((pc : Int) + o).toNat)
  | [], lo, j, o, h => by simp at h
  | a :: t, lo, 0, o, h => by
    have e : a = o := by simpa using h
    simp [am_tab, e]
  | a :: t, lo, j + 1, o, h => by
    have := am_tab_get pc t (lo + 1) j o (by simpa using h)
    simp only [am_tab, List.getElem?_cons_succ]
    rw [this, show lo + 1 + (j : Int) = lo + ((j + 1 : Nat) : Int) by omega]
theorem am_tab_mem (pc : Nat) : ∀ (os : List Int) (lo : Int) (q : Int32 × Nat), q ∈ am_tab pc lo os → ∃ j : Nat, j < os.length ∧ q.1 = Int32.ofInt (lo + j)
  | [], lo, q, h => by simp [am_tab] at h
  | a :: t, lo, q, h => by
    simp only [am_tab, List.mem_cons] at h
    rcases h with h | h
    · exact ⟨0, by simp, by rw [h]; simp⟩
    · obtain ⟨j, h1, h2⟩ := am_tab_mem pc t (lo + 1) q h
      exact ⟨j + 1, by simp; omega, by rw [h2, show lo + 1 + (j : Int) = lo + ((j + 1 : Nat) : Int) by omega]⟩
theorem am_s_table {dflt a b : Int} {offs : Array Int} {len : Nat} (t : Nat) (hd : decode cc pc = .ok (.tableswitch dflt a b offs, len)) (hb : b = a + (offs.size : Int) - 1) (hr : (-2147483648 : Int) ≤ a ∧ b ≤ 2147483647) (hn : offs.toList.all (fun o => decide (0 ≤ (pc : Int) + o)) = true) (ht : (pc : Int) + dflt = (t : Int)) : am_Snd En cc nL own d w pc (am_sw (am_tab pc a offs.toList) t) := by
  intro p l e R s m args below meth c Q dC dI dA A A0 cells slots Rp hC hE lo st h K ha hk H ls locs hl hP hD hS
  unfold am_sw at ha
  split at ha
  · rename_i x r
    by_cases hx : x.toInt < a ∨ b < x.toInt
    · refine lv_tableOut hC.1 hC.2.1 hd hx ht (hk _ _ _ _ (ha.2 ?_) H ls locs hl hP hD hS)
      intro q hq he
      obtain ⟨j, h1, h2⟩ := am_tab_mem pc _ _ q hq
      rw [h2] at he
      have h3 : x.toInt = a + j := by
        rw [he, Int32.toInt_ofInt_of_le]
        · simp at h1 ⊢; omega
        · simp at h1 ⊢; omega
      simp at h1
      omega
    · have h1 : ¬ x.toInt < a := fun z => hx (Or.inl z)
      have h2 : ¬ b < x.toInt := fun z => hx (Or.inr z)
      have hj : (x.toInt - a).toNat < offs.size := by omega
      have ho : offs[(x.toInt - a).toNat]? = some (offs[(x.toInt - a).toNat]'hj) := by simp [hj]
      have hp : 0 ≤ (pc : Int) + offs[(x.toInt - a).toNat]'hj := by
        have := List.all_eq_true.mp hn (offs[(x.toInt - a).toNat]'hj) (by simp)
        simpa using this
      refine lv_tableIn (tgt := ((pc : Int) + offs[(x.toInt - a).toNat]'hj).toNat) hC.1 hC.2.1 hd h1 h2 ho (by omega) (hk _ _ _ _ (ha.1 _ (List.mem_of_getElem? (am_tab_get pc offs.toList a (x.toInt - a).toNat _ (by rw [Array.getElem?_toList]; exact ho))) ?_) H ls locs hl hP hD hS)
      show x = Int32.ofInt (a + ((x.toInt - a).toNat : Int))
      rw [show a + ((x.toInt - a).toNat : Int) = x.toInt by omega, Int32.ofInt_toInt]
  · exact ha.elim
theorem am_s_get {ci k N index : Nat} {C : String} {T : u_T} (hc : vwCl[ci]? = some (C, T, N)) (hin : ∀ w ∈ u_ws C T N, w ∈ lw_good) (hkN : k < N) (hlink : Cond.fieldLink own index (T k).1 (T k).2.1 (T k).2.2.1 ∈ lw_good) (hd : decode cc pc = .ok (.getfield index, 3)) : am_Snd En cc nL own d w pc (am_get ci k (pc + 3)) := by
  intro p l e R s m args below meth c Q dC dI dA A A0 cells slots Rp hC hE lo st h K ha hk H ls locs hl hP hD hS
  unfold am_get at ha
  split at ha
  · rename_i a r
    split at ha
    · rename_i cj fs ea
      obtain ⟨hcj, ha⟩ := ha
      subst hcj
      split at ha
      · rename_i v ev
        exact va_get hC.1 hC.2.1 hC.2.2.2.2.1 hin hC.2.2.2.1 hC.2.2.2.2.2.1 hP a (am_c_at ea) hc k hkN (hC.2.2.2.2.1 _ hlink) (fun _ z => z) (by show (fs.map (am_v A))[k]? = _; rw [List.getElem?_map, ev]; rfl) hd (hk _ _ _ _ ha H ls locs hl hP hD hS)
      · exact ha.elim
    · exact ha.elim
  · exact ha.elim
theorem am_s_getN {ci k N index : Nat} {C host : String} {T : u_T} (hEn : ∀ A A0 s, En A A0 s → am_En A A0 s) (hc : vwCl[ci]? = some (C, T, N)) (hin : ∀ w ∈ u_ws C T N, w ∈ lw_good) (hkN : k < N) (hlink : Cond.fieldLinkNest own index (T k).1 (T k).2.1 (T k).2.2.1 host ∈ lw_nest) (hd : decode cc pc = .ok (.getfield index, 3)) : am_Snd En cc nL own d w pc (am_get ci k (pc + 3)) := by
  intro p l e R s m args below meth c Q dC dI dA A A0 cells slots Rp hC hE lo st h K ha hk H ls locs hl hP hD hS
  unfold am_get at ha
  split at ha
  · rename_i a r
    split at ha
    · rename_i cj fs ea
      obtain ⟨hcj, ha⟩ := ha
      subst hcj
      split at ha
      · rename_i v ev
        exact va_getN hC.1 hC.2.1 hC.2.2.2.2.1 hin hC.2.2.2.1 hC.2.2.2.2.2.1 hP a (am_c_at ea) hc k hkN (va_Nw.use rfl ((hEn _ _ _ hC.2.2.2.2.2.2.2.1).1 _ hlink)) (fun _ z => z) (by show (fs.map (am_v A))[k]? = _; rw [List.getElem?_map, ev]; rfl) hd (hk _ _ _ _ ha H ls locs hl hP hD hS)
      · exact ha.elim
    · exact ha.elim
  · exact ha.elim
theorem am_putE {dA : Nat → ClassId} {A : Nat → Nat} {a ci k : Nat} {fs : List Value} {v : Value} : ((A a, Sum.inr (ci, (fs.map (am_v A)).set k (am_v A v))) : Nat × va_E) = (A a, am_e dA A (.inr (ci, fs.set k v))) := by
  show _ = (A a, Sum.inr (ci, (fs.set k v).map (am_v A)))
  rw [List.map_set]
theorem am_s_putI {ci k N index : Nat} {C : String} {T : u_T} {tf : Nat → FieldType} (hc : vwCl[ci]? = some (C, T, N)) (hin : ∀ w ∈ u_ws C T N, w ∈ lw_good) (hty : ∀ k, k < N → parseFieldDescriptor (T k).2.2.1 = some (tf k)) (hnm : ∀ a, a < N → ∀ b, b < N → a ≠ b → (T a).2.1 ≠ (T b).2.1) (hkN : k < N) (hlink : Cond.fieldLink own index (T k).1 (T k).2.1 (T k).2.2.1 ∈ lw_good) (hfin : (T k).2.2.2 = false) (hd : decode cc pc = .ok (.putfield index, 3)) : am_Snd En cc nL own d w pc (am_putI ci k (tf k) (pc + 3)) := by
  intro p l e R s m args below meth c Q dC dI dA A A0 cells slots Rp hC hE lo st h K ha hk H ls locs hl hP hD hS
  unfold am_putI at ha
  split at ha
  · rename_i x a r
    split at ha
    · rename_i cj fs ea
      obtain ⟨⟨hcj, hkl, hn, hf⟩, ha⟩ := ha
      subst hcj
      refine va_put hC.1 hC.2.1 hC.2.2.2.2.1 hin tf hty hnm hC.2.2.2.1 hC.2.2.2.2.2.1 hP hD hS a (am_c_at ea) hc k hkN (hC.2.2.2.2.1 _ hlink) (fun _ z => z) hfin (hty k hkN) hn hf (by rw [List.length_map]; exact hkl) hd (fun H1 locs1 hP1 hD1 hS1 => ?_)
      rw [show (Value.int x) = am_v A (.int x) from rfl, am_c_put am_putE] at hP1 hD1
      exact hk _ _ _ _ ha H1 ls locs1 hl hP1 hD1 hS1
    · exact ha.elim
  · exact ha.elim
theorem am_s_putIN {ci k N index : Nat} {C host : String} {T : u_T} {tf : Nat → FieldType} (hEn : ∀ A A0 s, En A A0 s → am_En A A0 s) (hc : vwCl[ci]? = some (C, T, N)) (hin : ∀ w ∈ u_ws C T N, w ∈ lw_good) (hty : ∀ k, k < N → parseFieldDescriptor (T k).2.2.1 = some (tf k)) (hnm : ∀ a, a < N → ∀ b, b < N → a ≠ b → (T a).2.1 ≠ (T b).2.1) (hkN : k < N) (hlink : Cond.fieldLinkNest own index (T k).1 (T k).2.1 (T k).2.2.1 host ∈ lw_nest) (hfin : (T k).2.2.2 = false) (hd : decode cc pc = .ok (.putfield index, 3)) : am_Snd En cc nL own d w pc (am_putI ci k (tf k) (pc + 3)) := by
  intro p l e R s m args below meth c Q dC dI dA A A0 cells slots Rp hC hE lo st h K ha hk H ls locs hl hP hD hS
  unfold am_putI at ha
  split at ha
  · rename_i x a r
    split at ha
    · rename_i cj fs ea
      obtain ⟨⟨hcj, hkl, hn, hf⟩, ha⟩ := ha
      subst hcj
      refine va_putN hC.1 hC.2.1 hC.2.2.2.2.1 hin tf hty hnm hC.2.2.2.1 hC.2.2.2.2.2.1 hP hD hS a (am_c_at ea) hc k hkN (va_Nw.use rfl ((hEn _ _ _ hC.2.2.2.2.2.2.2.1).1 _ hlink)) (fun _ z => z) hfin (hty k hkN) hn hf (by rw [List.length_map]; exact hkl) hd (fun H1 locs1 hP1 hD1 hS1 => ?_)
      rw [show (Value.int x) = am_v A (.int x) from rfl, am_c_put am_putE] at hP1 hD1
      exact hk _ _ _ _ ha H1 ls locs1 hl hP1 hD1 hS1
    · exact ha.elim
  · exact ha.elim
theorem am_s_putR {ci k N index : Nat} {C D : String} {T : u_T} {tf : Nat → FieldType} (hc : vwCl[ci]? = some (C, T, N)) (hin : ∀ w ∈ u_ws C T N, w ∈ lw_good) (hty : ∀ k, k < N → parseFieldDescriptor (T k).2.2.1 = some (tf k)) (hnm : ∀ a, a < N → ∀ b, b < N → a ≠ b → (T a).2.1 ≠ (T b).2.1) (hkN : k < N) (hlink : Cond.fieldLink own index (T k).1 (T k).2.1 (T k).2.2.1 ∈ lw_good) (hfin : (T k).2.2.2 = false) (ho : tf k = .object D) (hd : decode cc pc = .ok (.putfield index, 3)) : am_Snd En cc nL own d w pc (am_putR ci k (pc + 3)) := by
  intro p l e R s m args below meth c Q dC dI dA A A0 cells slots Rp hC hE lo st h K ha hk H ls locs hl hP hD hS
  unfold am_putR at ha
  split at ha
  · rename_i x a r
    split at ha
    · rename_i cj fs ea
      obtain ⟨⟨hcj, hkl⟩, ha⟩ := ha
      subst hcj
      refine va_put hC.1 hC.2.1 hC.2.2.2.2.1 hin tf hty hnm hC.2.2.2.1 hC.2.2.2.2.2.1 hP hD hS a (am_c_at ea) hc k hkN (hC.2.2.2.2.1 _ hlink) (fun _ z => z) hfin (hty k hkN) (by rw [ho]; rfl) (by rw [ho]; rfl) (by rw [List.length_map]; exact hkl) hd (fun H1 locs1 hP1 hD1 hS1 => ?_)
      rw [am_c_put am_putE] at hP1 hD1
      exact hk _ _ _ _ ha H1 ls locs1 hl hP1 hD1 hS1
    · exact ha.elim
  · exact ha.elim
theorem am_s_iald (hd : decode cc pc = .ok (.iaload, 1)) : am_Snd En cc nL own d w pc (am_iald (pc + 1)) := by
  intro p l e R s m args below meth c Q dC dI dA A A0 cells slots Rp hC hE lo st h K ha hk H ls locs hl hP hD hS
  unfold am_iald at ha
  split at ha
  · rename_i i a r
    split at ha
    · rename_i N f ea
      exact va_iald hC.1 hC.2.1 hC.2.2.2.2.2.1 hP a 0 (am_c_at ea) rfl ha.1 hd (hk _ _ _ _ ha.2 H ls locs hl hP hD hS)
    · exact ha.elim
  · exact ha.elim
theorem am_s_iast (hd : decode cc pc = .ok (.iastore, 1)) : am_Snd En cc nL own d w pc (am_iast (pc + 1)) := by
  intro p l e R s m args below meth c Q dC dI dA A A0 cells slots Rp hC hE lo st h K ha hk H ls locs hl hP hD hS
  unfold am_iast at ha
  split at ha
  · rename_i x i a r
    split at ha
    · rename_i N f ea
      refine va_iast hC.1 hC.2.1 hC.2.2.2.2.2.1 hP hD hS a 0 (am_c_at ea) rfl ha.1 hd (fun H1 locs1 hP1 hD1 hS1 => ?_)
      have hP1 : va_P (dC, dI) vwCl (am_c dA A 0 (h.set a (.inl (0, N, .inl (upd f i.toNatClampNeg x))))) H1 := by rw [← am_c_put (x := .inl (0, N, .inl (upd f i.toNatClampNeg x))) rfl]; exact hP1
      have hD1 : va_D A0 (am_c dA A 0 (h.set a (.inl (0, N, .inl (upd f i.toNatClampNeg x))))) := by rw [← am_c_put (x := .inl (0, N, .inl (upd f i.toNatClampNeg x))) rfl]; exact hD1
      exact hk _ _ _ _ ha.2 H1 ls locs1 hl hP1 hD1 hS1
    · exact ha.elim
  · exact ha.elim
theorem am_s_zald (hd : decode cc pc = .ok (.baload, 1)) : am_Snd En cc nL own d w pc (am_zald (pc + 1)) := by
  intro p l e R s m args below meth c Q dC dI dA A A0 cells slots Rp hC hE lo st h K ha hk H ls locs hl hP hD hS
  unfold am_zald at ha
  split at ha
  · rename_i i a r
    split at ha
    · rename_i N f ea
      exact va_zald hC.1 hC.2.1 hC.2.2.2.2.2.1 hP a 2 (am_c_at ea) rfl ha.1 hd (hk _ _ _ _ ha.2 H ls locs hl hP hD hS)
    · exact ha.elim
  · exact ha.elim
theorem am_s_zast (hd : decode cc pc = .ok (.bastore, 1)) : am_Snd En cc nL own d w pc (am_zast (pc + 1)) := by
  intro p l e R s m args below meth c Q dC dI dA A A0 cells slots Rp hC hE lo st h K ha hk H ls locs hl hP hD hS
  unfold am_zast at ha
  split at ha
  · rename_i x i a r
    split at ha
    · rename_i N f ea
      refine va_zast hC.1 hC.2.1 hC.2.2.2.2.2.1 hP hD hS a 2 (am_c_at ea) rfl ha.1 hd (fun H1 locs1 hP1 hD1 hS1 => ?_)
      have hP1 : va_P (dC, dI) vwCl (am_c dA A 0 (h.set a (.inl (2, N, .inl (upd f i.toNatClampNeg (vp_nar .boolean x)))))) H1 := by rw [← am_c_put (x := .inl (2, N, .inl (upd f i.toNatClampNeg (vp_nar .boolean x)))) rfl]; exact hP1
      have hD1 : va_D A0 (am_c dA A 0 (h.set a (.inl (2, N, .inl (upd f i.toNatClampNeg (vp_nar .boolean x)))))) := by rw [← am_c_put (x := .inl (2, N, .inl (upd f i.toNatClampNeg (vp_nar .boolean x)))) rfl]; exact hD1
      exact hk _ _ _ _ ha.2 H1 ls locs1 hl hP1 hD1 hS1
    · exact ha.elim
  · exact ha.elim
theorem am_s_lald (hd : decode cc pc = .ok (.laload, 1)) : am_Snd En cc nL own d w pc (am_lald (pc + 1)) := by
  intro p l e R s m args below meth c Q dC dI dA A A0 cells slots Rp hC hE lo st h K ha hk H ls locs hl hP hD hS
  unfold am_lald at ha
  split at ha
  · rename_i i a r
    split at ha
    · rename_i N f ea
      exact va_lald hC.1 hC.2.1 hC.2.2.2.2.2.1 hP a 1 (am_c_at ea) rfl ha.1 hd (hk _ _ _ _ ha.2 H ls locs hl hP hD hS)
    · exact ha.elim
  · exact ha.elim
theorem am_s_last (hd : decode cc pc = .ok (.lastore, 1)) : am_Snd En cc nL own d w pc (am_last (pc + 1)) := by
  intro p l e R s m args below meth c Q dC dI dA A A0 cells slots Rp hC hE lo st h K ha hk H ls locs hl hP hD hS
  unfold am_last at ha
  split at ha
  · rename_i x i a r
    split at ha
    · rename_i N f ea
      refine va_last hC.1 hC.2.1 hC.2.2.2.2.2.1 hP hD hS a 1 (am_c_at ea) rfl ha.1 hd (fun H1 locs1 hP1 hD1 hS1 => ?_)
      have hP1 : va_P (dC, dI) vwCl (am_c dA A 0 (h.set a (.inl (1, N, .inr (.inl (vp_updL f i.toNatClampNeg x)))))) H1 := by rw [← am_c_put (x := .inl (1, N, .inr (.inl (vp_updL f i.toNatClampNeg x)))) rfl]; exact hP1
      have hD1 : va_D A0 (am_c dA A 0 (h.set a (.inl (1, N, .inr (.inl (vp_updL f i.toNatClampNeg x)))))) := by rw [← am_c_put (x := .inl (1, N, .inr (.inl (vp_updL f i.toNatClampNeg x)))) rfl]; exact hD1
      exact hk _ _ _ _ ha.2 H1 ls locs1 hl hP1 hD1 hS1
    · exact ha.elim
  · exact ha.elim
theorem am_s_alen (hd : decode cc pc = .ok (.arraylength, 1)) : am_Snd En cc nL own d w pc (am_alen (pc + 1)) := by
  intro p l e R s m args below meth c Q dC dI dA A A0 cells slots Rp hC hE lo st h K ha hk H ls locs hl hP hD hS
  unfold am_alen at ha
  split at ha
  · rename_i a r
    split at ha
    · rename_i t N y ea
      obtain ⟨ht, ha⟩ := ha
      rcases (show t = 0 ∨ t = 1 ∨ t = 2 by omega) with rfl | rfl | rfl
      · exact va_alen hC.1 hC.2.1 hC.2.2.2.2.2.1 hP a 0 (am_c_at ea) rfl rfl hd (hk _ _ _ _ ha H ls locs hl hP hD hS)
      · exact va_alen hC.1 hC.2.1 hC.2.2.2.2.2.1 hP a 1 (am_c_at ea) rfl rfl hd (hk _ _ _ _ ha H ls locs hl hP hD hS)
      · exact va_alen hC.1 hC.2.1 hC.2.2.2.2.2.1 hP a 2 (am_c_at ea) rfl rfl hd (hk _ _ _ _ ha H ls locs hl hP hD hS)
    · exact ha.elim
  · exact ha.elim
theorem am_s_sld {t N : Nat} {f : Nat → Int32} (hT : ∀ A A0 s, En A A0 s → va_T .int (A t) N (fun j => .int (f j)) A0 s s.heap) (hd : decode cc pc = .ok (.iaload, 1)) : am_Snd En cc nL own d w pc (am_sld t N f (pc + 1)) := by
  intro p l e R s m args below meth c Q dC dI dA A A0 cells slots Rp hC hE lo st h K ha hk H ls locs hl hP hD hS
  unfold am_sld at ha
  split at ha
  · rename_i i a r
    obtain ⟨⟨rfl, hi⟩, ha⟩ := ha
    exact va_ti hC.1 hC.2.1 (hT _ _ _ hC.2.2.2.2.2.2.2.1) hS hi rfl hd (hk _ _ _ _ ha H ls locs hl hP hD hS)
  · exact ha.elim
theorem am_s_slen {t N : Nat} {f : Nat → Int32} (hT : ∀ A A0 s, En A A0 s → va_T .int (A t) N (fun j => .int (f j)) A0 s s.heap) (hd : decode cc pc = .ok (.arraylength, 1)) : am_Snd En cc nL own d w pc (am_slen t N (pc + 1)) := by
  intro p l e R s m args below meth c Q dC dI dA A A0 cells slots Rp hC hE lo st h K ha hk H ls locs hl hP hD hS
  unfold am_slen at ha
  split at ha
  · rename_i a r
    obtain ⟨rfl, ha⟩ := ha
    exact va_tlen hC.1 hC.2.1 (hT _ _ _ hC.2.2.2.2.2.2.2.1) hS rfl hd (hk _ _ _ _ ha H ls locs hl hP hD hS)
  · exact ha.elim
theorem am_s_gets {t index : Nat} {C n ds : String} (hZ : ∀ A A0 s, En A A0 s → va_Z C n ds (.ref (A t)) A0 s s.heap) (hlink : Cond.fieldLink own index C n ds ∈ lw_good) (hd : decode cc pc = .ok (.getstatic index, 3)) : am_Snd En cc nL own d w pc (am_push (.ref t) (pc + 3)) := by
  intro p l e R s m args below meth c Q dC dI dA A A0 cells slots Rp hC hE lo st h K ha hk H ls locs hl hP hD hS
  exact va_gets hC.1 hC.2.1 (hZ _ _ _ hC.2.2.2.2.2.2.2.1) hS hC.2.2.2.1 (hC.2.2.2.2.1 _ hlink) (fun _ z => z) hd (hk _ _ _ _ ha H ls locs hl hP hD hS)
theorem am_s_iret (hd : decode cc pc = .ok (.ireturn, 1)) : am_Snd En cc nL own d w pc am_iret := by
  intro p l e R s m args below meth c Q dC dI dA A A0 cells slots Rp hC hE lo st h K ha hk H ls locs hl hP hD hS
  unfold am_iret at ha
  split at ha
  · exact hE.1 _ h H locs ls pc ha hP hD hS hd
  · exact ha.elim
theorem am_s_throw {k : Nat} (ht : am_thr cc own k pc) : am_Snd En cc nL own d w pc (am_throw k) := by
  intro p l e R s m args below meth c Q dC dI dA A A0 cells slots Rp hC hE lo st h K ha hk H ls locs hl hP hD hS
  unfold am_throw at ha
  split at ha
  · exact hE.2.2.2 k h H locs ls pc ha hl.1 hP hD hS ht
  · exact ha.elim
theorem am_s_lret (hd : decode cc pc = .ok (.lreturn, 1)) : am_Snd En cc nL own d w pc am_lret := by
  intro p l e R s m args below meth c Q dC dI dA A A0 cells slots Rp hC hE lo st h K ha hk H ls locs hl hP hD hS
  unfold am_lret at ha
  split at ha
  · exact hE.2.1 _ h H locs ls pc ha hP hD hS hd
  · exact ha.elim
theorem am_s_vret (hd : decode cc pc = .ok (.return_, 1)) : am_Snd En cc nL own d w pc am_vret := by
  intro p l e R s m args below meth c Q dC dI dA A A0 cells slots Rp hC hE lo st h K ha hk H ls locs hl hP hD hS
  unfold am_vret at ha
  split at ha
  · exact hE.2.2.1 h H locs ls pc ha hP hD hS hd
  · exact ha.elim
end SND
/-! ## calls and contracts -/
def am_rm (d w : Nat) : Room := { frames := d, cells := 0, slots := 0, locals := w }
def am_ws (y : MethodName) (b : ByteArray) (maxL : Nat) (ret : Option FieldType) : List Cond := .code y b maxL ret :: lw_good
def am_Q (dC : Nat → ClassId) (dI : Nat → Nat → Nat) (dA : Nat → ClassId) (A : Nat → Nat) (Rp : am_P) (ws0 : va_W) (sz : Nat) : Array Value → State → Outcome → State → Prop := fun _ st oc t =>
  (∃ (v : Option Value) (h' : am_H), oc = .returned (v.map (am_v A)) ∧ Rp (.inr v) h' ∧ va_P (dC, dI) vwCl (am_c dA A 0 h') t.heap ∧ va_K (dC, dI) vwCl (am_tys dA) t ∧ va_D (va_A ws0 sz) (am_c dA A 0 h')) ∧ va_F (va_A ws0 sz) st t
def am_B (dC : Nat → ClassId) (dI : Nat → Nat → Nat) (dA : Nat → ClassId) (A : Nat → Nat) (h : am_H) (sz : Nat) (U : State) : Prop :=
  U.heap.size = sz ∧ va_P (dC, dI) vwCl (am_c dA A 0 h) U.heap ∧ va_K (dC, dI) vwCl (am_tys dA) U ∧ va_D (fun _ => True) (am_c dA A 0 h) ∧ am_En A (va_A (am_c dA A 0 h) sz) U
def am_Met (y : MethodName) (b : ByteArray) (maxL : Nat) (ret : Option FieldType) (d w : Nat) (M : am_M) : Prop :=
  ∀ (l : Launch) (dC : Nat → ClassId) (dI : Nat → Nat → Nat) (dA : Nat → ClassId) (A : Nat → Nat) (h : am_H) (as : List Value) (Rp : am_P) (sz : Nat), M as h Rp →
    Met l y (am_ws y b maxL ret) (am_rm d w) (va_Pc (as.map (am_v A)) (am_B dC dI dA A h sz)) (am_Q dC dI dA A Rp (am_c dA A 0 h) sz) 0 0 (va_A (am_c dA A 0 h) sz)
theorem am_cut_spec : ∀ (n : Nat) (acc st as r : List Value), am_cut n acc st = some (as, r) → ∃ pre : List Value, st = pre ++ r ∧ as = pre.reverse ++ acc ∧ pre.length = n
  | 0, acc, st, as, r, h => by
    simp only [am_cut, Option.some.injEq, Prod.mk.injEq] at h
    exact ⟨[], by simp [h.2], by simp [h.1], rfl⟩
  | n + 1, acc, [], as, r, h => by simp [am_cut] at h
  | n + 1, acc, v :: st, as, r, h => by
    obtain ⟨pre, h1, h2, h3⟩ := am_cut_spec n (v :: acc) st as r (by simpa [am_cut] using h)
    exact ⟨v :: pre, by simp [h1], by simp [h2], by simp [h3]⟩
theorem am_cat_sum (A : Nat → Nat) (r : List Value) : ((r.map (am_v A)).map fun v => v.category).sum = (r.map fun v => v.category).sum := by
  induction r with
  | nil => rfl
  | cons v t ih => simp only [List.map_cons, List.sum_cons, am_v_cat, ih]
theorem am_good {w : Cond} (h : w ∈ lw_good) : (w.onTables && w.keeps) = true ∨ ∃ ty, w = .arrayClass ty := good_of_word (List.mem_filter.mp h).2
theorem am_goodIn {y : MethodName} {b : ByteArray} {maxL : Nat} {ret : Option FieldType} (h : Cond.code y b maxL ret ∈ lw_good) : GoodIn lw_good (am_ws y b maxL ret) := by
  intro w hw
  have hm : w ∈ lw_good := by
    rcases List.mem_cons.mp hw with rfl | hw
    · exact h
    · exact hw
  exact ⟨hm, am_good hm⟩
theorem am_B_blind (dC : Nat → ClassId) (dI : Nat → Nat → Nat) (dA : Nat → ClassId) (A : Nat → Nat) (h : am_H) (sz : Nat) (as : List Value) : FrameBlind (va_Pc as (am_B dC dI dA A h sz)) := by
  intro a U g mk q
  obtain ⟨q0, q1, qP, qK, qD, qE⟩ := q
  exact ⟨q0, q1, qP, va_K.moved (u := U) (U := U.calling g mk a) (Vm.Alike.refl U.vm) qK, qD, am_En.same (u := U) (U := U.calling g mk a) rfl rfl qE⟩
section CALL
variable {En : (Nat → Nat) → (Nat → Prop) → State → Prop} {cc : ByteArray} {nL d w pc : Nat} {own : String}
variable {p : Program} {l : Launch} {e : Env} {R : Room} {s : State} {m : MethodId} {args : Array Value} {below : List Frame} {meth : Method} {c : Code} {Q : State → Prop} {dC : Nat → ClassId} {dI : Nat → Nat → Nat} {dA : Nat → ClassId} {A : Nat → Nat} {A0 : Nat → Prop} {cells slots : Nat}
theorem am_free {h : am_H} {H : Heap} {locs : List Loc} (hD : va_D A0 (am_c dA A 0 h)) (hS : va_S A0 s.heap H locs) (hA : ∀ q, s.heap.size ≤ q → A0 q) : ∀ q, va_A (am_c dA A 0 h) H.size q → A0 q := by
  intro q hq
  rcases hq with ⟨k, x, hk⟩ | hq
  · exact hD.2 k _ hk
  · exact hA q (Nat.le_trans hS.1 hq)
theorem am_pre_call {h : am_H} {H : Heap} {locs : List Loc} {as : List Value} (hEn : ∀ A A0 s, En A A0 s → am_En A A0 s) (hC : am_C En cc nL own d w p R s m args c dC dI dA A A0 cells slots) (hP : va_P (dC, dI) vwCl (am_c dA A 0 h) H) (hD : va_D A0 (am_c dA A 0 h)) (hS : va_S A0 s.heap H locs) :
    ∀ U : State, U.heap = H → s.WarmedH U.vm → va_Pc as (am_B dC dI dA A h H.size) as.toArray U := by
  intro U hU hW
  refine ⟨rfl, by rw [hU], by rw [hU]; exact hP, va_K.moved hW.alike hC.2.2.2.2.2.1, hD.weaken (fun _ _ _ _ => trivial), ?_⟩
  exact am_En.call (hEn _ _ _ hC.2.2.2.2.2.2.2.1) hW (by rw [hU]; exact hS) (am_free hD hS hC.2.2.2.2.2.2.1)
/-- behind a call -/
theorem am_behind {h : am_H} {H : Heap} {locs : List Loc} {ls : Array Slot} {lo : am_L} {r st0 : List Value} {M' : am_K} {a : Array Value} (hC : am_C En cc nL own d w p R s m args c dC dI dA A A0 cells slots)
    (hr : va_Run p l e R s m args below meth c H locs cells slots 0 0 (F0 m pc ls st0) (r.map (am_v A)) (am_Q dC dI dA A (am_on (pc + 3) lo r M') (am_c dA A 0 h) H.size a) (va_A (am_c dA A 0 h) H.size)) (hl : lv_has ls nL (am_lv A 0 lo)) (hD : va_D A0 (am_c dA A 0 h)) (hS : va_S A0 s.heap H locs)
    (hk : ∀ pc' lo' st' h', M' pc' lo' st' h' → am_W p l e R s m args below meth c Q nL dC dI dA A A0 cells slots pc' lo' st' h') : W p l e R s m args below meth c H locs cells slots Q (F0 m pc ls st0) := by
  have hA := am_free hD hS hC.2.2.2.2.2.2.1
  intro T hT X
  obtain ⟨v0, st₀, t, T', L, h0, X', hL, e1, e2, ⟨⟨v, h', hv, hp, hP1, hK1, hD1⟩, hz, hk1⟩, st⟩ := hr T hT X
  cases hv
  rw [h0] at hz hk1
  have hS' : va_S A0 s.heap T'.heap (locs ++ L) := ⟨Nat.le_trans hS.1 (by rw [e1]; exact hz), fun q h1 h2 => by rw [e1, hk1 q (Nat.lt_of_lt_of_le h1 hS.1) (fun z => h2 (hA q z))]; exact hS.2.1 q h1 h2, fun q hq => by
      rcases List.mem_append.mp hq with h | h
      · exact hS.2.2 q h
      · exact hA _ (hL q h)⟩
  obtain ⟨t2, a1, b1⟩ := hk _ _ _ _ hp T'.heap ls (locs ++ L) hl (by rw [e1]; exact hP1) (hD1.weaken (fun _ q _ z => hA q.1 z)) hS' T' rfl X'
  refine ⟨t2, st t2 ?_, b1⟩
  have es : (v.toList ++ r).map (am_v A) = (v.map (am_v A)).toList ++ r.map (am_v A) := by cases v <;> simp
  rw [es] at a1
  exact a1
theorem am_s_callS {M : am_M} {d' w' index np maxL : Nat} {y : MethodName} {b : ByteArray} {ret : Option FieldType} (hEn : ∀ A A0 s, En A A0 s → am_En A A0 s) (hM : am_Met y b maxL ret d' w' M) (hd' : d' < d) (hmx : 19 + maxL + w' ≤ w) (hcode : Cond.code y b maxL ret ∈ lw_good) (hini : Cond.initialized y.cls ∈ lw_good) (hlink : Cond.methodLink own index y ∈ lw_good) (hst : Cond.static y ∈ lw_good)
    (hdesc : y.cls ≠ "java/lang/invoke/MethodHandle" ∧ y.cls ≠ "java/lang/invoke/VarHandle" ∧ (parseMethodDescriptor y.desc).map (fun d => d.parameters.length) = some np) (hdg : decode cc pc = .ok (.invokestatic index, 3)) : am_Snd En cc nL own d w pc (am_callS M np (pc + 3)) := by
  intro p l e R s m args below meth c Q dC dI dA A A0 cells slots Rp hC hE lo st h K ha hk H ls locs hl hP hD hS
  unfold am_callS at ha
  split at ha
  · rename_i as r hcut
    obtain ⟨pre, h1, h2, h3⟩ := am_cut_spec _ _ _ _ _ hcut
    rw [List.append_nil] at h2
    obtain ⟨hx, hb, hml, hown, hts, hK, hA, hEnv, hf, hlo, hcl, hsl⟩ := id hC
    have cb : CallB R s args own index y b maxL ret (am_ws y b maxL ret) (am_rm d' w') 0 0 np := callB_of np hts (am_goodIn hcode) rfl rfl rfl (hts _ hini) (hts _ hlink) hdesc ⟨by show d' + 1 ≤ R.frames; omega, by show 8 + (maxL + 11) + w' ≤ R.locals; omega⟩
    exact am_behind hC (va_runS (As := as.map (am_v A)) (rest := r.map (am_v A)) ⟨hx, hb, hml, hown, hts⟩ (hM l dC dI dA A h as _ H.size ha.2) ⟨cb, hts _ hst⟩ ⟨am_B_blind dC dI dA A h H.size _, am_pre_call hEn hC hP hD hS⟩ rfl (by rw [List.length_map, h2, List.length_reverse, h3]) hl.1 (by show st.map (am_v A) = _; rw [h1, h2, List.map_append, List.map_reverse, List.reverse_reverse]) (lv_room (by rw [am_cat_sum]; exact ha.1)) hdg ⟨hcl, hsl⟩) hl hD hS hk
  · exact ha.elim
theorem am_s_callSN {M : am_M} {d' w' index np maxL : Nat} {y : MethodName} {b : ByteArray} {ret : Option FieldType} {host : String} (hEn : ∀ A A0 s, En A A0 s → am_En A A0 s) (hM : am_Met y b maxL ret d' w' M) (hd' : d' < d) (hmx : 19 + maxL + w' ≤ w) (hcode : Cond.code y b maxL ret ∈ lw_good) (hini : Cond.initialized y.cls ∈ lw_good) (hlink : Cond.methodLinkNest own index y host ∈ lw_nest) (hst : Cond.static y ∈ lw_good)
    (hdesc : y.cls ≠ "java/lang/invoke/MethodHandle" ∧ y.cls ≠ "java/lang/invoke/VarHandle" ∧ (parseMethodDescriptor y.desc).map (fun d => d.parameters.length) = some np) (hdg : decode cc pc = .ok (.invokestatic index, 3)) : am_Snd En cc nL own d w pc (am_callS M np (pc + 3)) := by
  intro p l e R s m args below meth c Q dC dI dA A A0 cells slots Rp hC hE lo st h K ha hk H ls locs hl hP hD hS
  unfold am_callS at ha
  split at ha
  · rename_i as r hcut
    obtain ⟨pre, h1, h2, h3⟩ := am_cut_spec _ _ _ _ _ hcut
    rw [List.append_nil] at h2
    obtain ⟨hx, hb, hml, hown, hts, hK, hA, hEnv, hf, hlo, hcl, hsl⟩ := id hC
    have cb : va_CN R s args own index y host b maxL ret (am_ws y b maxL ret) (am_rm d' w') 0 0 np := va_cnB np hts (am_goodIn hcode) rfl rfl rfl ((hEn _ _ _ hEnv).1 _ hlink) (hts _ hini) hdesc ⟨by show d' + 1 ≤ R.frames; omega, by show 8 + (maxL + 11) + w' ≤ R.locals; omega⟩
    exact am_behind hC (va_runSN (As := as.map (am_v A)) (rest := r.map (am_v A)) ⟨hx, hb, hml, hown, hts⟩ (hM l dC dI dA A h as _ H.size ha.2) ⟨cb, hts _ hst, trivial⟩ ⟨am_B_blind dC dI dA A h H.size _, am_pre_call hEn hC hP hD hS⟩ rfl (by rw [List.length_map, h2, List.length_reverse, h3]) hl.1 (by show st.map (am_v A) = _; rw [h1, h2, List.map_append, List.map_reverse, List.reverse_reverse]) (lv_room (by rw [am_cat_sum]; exact ha.1)) hdg ⟨hcl, hsl⟩) hl hD hS hk
  · exact ha.elim
theorem am_s_callV {M : am_M} {ci d' w' index np maxL N : Nat} {T : u_T} {y : MethodName} {b : ByteArray} {ret : Option FieldType} (hEn : ∀ A A0 s, En A A0 s → am_En A A0 s) (hc : vwCl[ci]? = some (y.cls, T, N)) (hM : am_Met y b maxL ret d' w' M) (hd' : d' < d) (hmx : 19 + maxL + w' ≤ w) (hcode : Cond.code y b maxL ret ∈ lw_good) (hini : Cond.initialized y.cls ∈ lw_good) (hlink : Cond.methodLink own index y ∈ lw_good) (hin : Cond.instanceMethod y ∈ lw_good) (hse : Cond.selects y.cls y y ∈ lw_good)
    (hdesc : y.cls ≠ "java/lang/invoke/MethodHandle" ∧ y.cls ≠ "java/lang/invoke/VarHandle" ∧ (parseMethodDescriptor y.desc).map (fun d => d.parameters.length) = some np) (hdg : decode cc pc = .ok (.invokevirtual index, 3)) : am_Snd En cc nL own d w pc (am_callV M ci np (pc + 3)) := by
  intro p l e R s m args below meth c Q dC dI dA A A0 cells slots Rp hC hE lo st h K ha hk H ls locs hl hP hD hS
  unfold am_callV at ha
  split at ha
  · rename_i a as r hcut
    obtain ⟨pre, h1, h2, h3⟩ := am_cut_spec _ _ _ _ _ hcut
    rw [List.append_nil] at h2
    obtain ⟨hx, hb, hml, hown, hts, hK, hA, hEnv, hf, hlo, hcl, hsl⟩ := id hC
    obtain ⟨⟨hroom, hrecv⟩, ha⟩ := ha
    split at hrecv
    · rename_i cj fs ea
      subst hrecv
      have cb : CallB R s args own index y b maxL ret (am_ws y b maxL ret) (am_rm d' w') 0 0 np := callB_of np hts (am_goodIn hcode) rfl rfl rfl (hts _ hini) (hts _ hlink) hdesc ⟨by show d' + 1 ≤ R.frames; omega, by show 8 + (maxL + 11) + w' ≤ R.locals; omega⟩
      have hst : st = as.reverse ++ .ref a :: r := by
        have : pre = (Value.ref a :: as).reverse := by rw [h2, List.reverse_reverse]
        rw [h1, this]; simp
      exact am_behind hC (va_runV (C := y.cls) (b := A a) (As := as.map (am_v A)) (rest := r.map (am_v A)) ⟨hx, hb, hml, hown, hts⟩ (hM l dC dI dA A h (.ref a :: as) _ H.size ha) ⟨cb, hts _ hin, hts _ hse⟩ ⟨am_B_blind dC dI dA A h H.size _, va_recv hK hP hc (am_c_at ea), am_pre_call hEn hC hP hD hS⟩ rfl (by rw [List.length_map]; have := congrArg List.length h2; simp at this; omega) hl.1 (by show st.map (am_v A) = _; rw [hst, List.map_append, List.map_reverse]; rfl) (lv_room (by rw [am_cat_sum]; exact hroom)) hdg ⟨hcl, hsl⟩) hl hD hS hk
    · exact hrecv.elim
  · exact ha.elim
theorem am_s_callVN {M : am_M} {ci d' w' index np maxL N : Nat} {T : u_T} {y : MethodName} {b : ByteArray} {ret : Option FieldType} {host : String} (hEn : ∀ A A0 s, En A A0 s → am_En A A0 s) (hc : vwCl[ci]? = some (y.cls, T, N)) (hM : am_Met y b maxL ret d' w' M) (hd' : d' < d) (hmx : 19 + maxL + w' ≤ w) (hcode : Cond.code y b maxL ret ∈ lw_good) (hini : Cond.initialized y.cls ∈ lw_good) (hlink : Cond.methodLinkNest own index y host ∈ lw_nest) (hin : Cond.instanceMethod y ∈ lw_good) (hse : Cond.selects y.cls y y ∈ lw_good)
    (hdesc : y.cls ≠ "java/lang/invoke/MethodHandle" ∧ y.cls ≠ "java/lang/invoke/VarHandle" ∧ (parseMethodDescriptor y.desc).map (fun d => d.parameters.length) = some np) (hdg : decode cc pc = .ok (.invokevirtual index, 3)) : am_Snd En cc nL own d w pc (am_callV M ci np (pc + 3)) := by
  intro p l e R s m args below meth c Q dC dI dA A A0 cells slots Rp hC hE lo st h K ha hk H ls locs hl hP hD hS
  unfold am_callV at ha
  split at ha
  · rename_i a as r hcut
    obtain ⟨pre, h1, h2, h3⟩ := am_cut_spec _ _ _ _ _ hcut
    rw [List.append_nil] at h2
    obtain ⟨hx, hb, hml, hown, hts, hK, hA, hEnv, hf, hlo, hcl, hsl⟩ := id hC
    obtain ⟨⟨hroom, hrecv⟩, ha⟩ := ha
    split at hrecv
    · rename_i cj fs ea
      subst hrecv
      have cb : va_CN R s args own index y host b maxL ret (am_ws y b maxL ret) (am_rm d' w') 0 0 np := va_cnB np hts (am_goodIn hcode) rfl rfl rfl ((hEn _ _ _ hEnv).1 _ hlink) (hts _ hini) hdesc ⟨by show d' + 1 ≤ R.frames; omega, by show 8 + (maxL + 11) + w' ≤ R.locals; omega⟩
      have hst : st = as.reverse ++ .ref a :: r := by
        have : pre = (Value.ref a :: as).reverse := by rw [h2, List.reverse_reverse]
        rw [h1, this]; simp
      exact am_behind hC (va_runVN (C := y.cls) (b := A a) (As := as.map (am_v A)) (rest := r.map (am_v A)) ⟨hx, hb, hml, hown, hts⟩ (hM l dC dI dA A h (.ref a :: as) _ H.size ha) ⟨cb, hts _ hin, hts _ hse⟩ ⟨am_B_blind dC dI dA A h H.size _, va_recv hK hP hc (am_c_at ea), am_pre_call hEn hC hP hD hS⟩ rfl (by rw [List.length_map]; have := congrArg List.length h2; simp at this; omega) hl.1 (by show st.map (am_v A) = _; rw [hst, List.map_append, List.map_reverse]; rfl) (lv_room (by rw [am_cat_sum]; exact hroom)) hdg ⟨hcl, hsl⟩) hl hD hS hk
    · exact hrecv.elim
  · exact ha.elim
end CALL
/-! ## a method's contract out of its table -/
def am_fitL (as : List Value) (n : Nat) : Prop := (lg_sl as).length ≤ n
theorem am_l0_args (A : Nat → Nat) : ∀ (as : List Value) (n : Nat) (i : Nat) (q : Nat × Value), q ∈ am_lv A i (am_l0 as n) → q ∈ lv_args i (as.map (am_v A))
  | [], n, i, q, h => by
    obtain ⟨j, v, h1, h2⟩ := (am_lv_mem A q _ i).mp h
    have := List.eq_of_mem_replicate (List.mem_of_getElem? h1)
    cases this
  | v :: vs, n, i, q, h => by
    by_cases hc : v.category = 2
    · simp only [am_l0, hc, if_true, am_lv, List.mem_cons] at h
      simp only [List.map_cons, lv_args, am_v_cat, hc, if_true, List.mem_cons]
      rcases h with h | h
      · exact Or.inl h
      · exact Or.inr (am_l0_args A vs (n - 2) (i + 2) q h)
    · simp only [am_l0, hc, if_false, am_lv, List.mem_cons] at h
      simp only [List.map_cons, lv_args, am_v_cat, hc, if_false, List.mem_cons]
      rcases h with h | h
      · exact Or.inl h
      · exact Or.inr (am_l0_args A vs (n - 1) (i + 1) q h)
theorem am_sl_len (A : Nat → Nat) (as : List Value) : (lg_sl (as.map (am_v A))).length = (lg_sl as).length := by
  induction as with
  | nil => rfl
  | cons v t ih =>
    simp only [lg_sl, List.map_cons, List.flatMap_cons, List.length_append, am_v_cat] at ih ⊢
    rw [ih]
    congr 1
    by_cases hc : v.category = 2 <;> simp [hc]
def am_ok (ret : Option FieldType) (o : am_O) : Prop := match ret, o with
  | none, .inr none => True
  | some .int, .inr (some (.int _)) => True
  | some .long, .inr (some (.long _)) => True
  | some .boolean, .inr (some (.int x)) => narrow .boolean (.int x) = .int x
  | _, _ => False
/-- the meaning of a method that its table has -/
def am_Mof (acts : Nat → am_A) (maxL : Nat) (ret : Option FieldType) : am_M := fun as h Rp => (lg_sl as).length ≤ maxL ∧ am_Wp acts (fun o h' => am_ok ret o ∧ Rp o h') 0 (am_l0 as maxL) [] h
set_option maxHeartbeats 1000000 in
theorem am_met {y : MethodName} {b : ByteArray} {maxL d w : Nat} {ret : Option FieldType} {acts : Nat → am_A} (hy : plainFor y = true) (hs : ∀ pc, am_Snd am_En b maxL y.cls d w pc (acts pc)) : am_Met y b maxL ret d w (am_Mof acts maxL ret) := by
  intro l dC dI dA A h as Rp sz hM
  obtain ⟨hfit, hM⟩ := hM
  refine va_MetF (cc := b) (maxL := maxL) (ret := ret) hy rfl ?_
  intro p e s m args below meth c s₁ B hml hpc
  obtain ⟨rfl, hsz, hP, hK, hD, hE⟩ := hpc
  subst hsz
  have hts : ∀ w ∈ am_ws y b maxL ret, w.before (as.map (am_v A)).toArray s = true := atoms_spec (ws := am_ws y b maxL ret) B.pre
  have hown : s.vm.findClass y.cls = some m.cls := findClass_of_methodNamed B.named
  have hr : meth.sig.returnType = ret := B.returns
  have hlk : meth.locks = false := B.notSynchronized
  have hx := B.exec
  have hb := B.bytes
  have hC : am_C am_En b maxL y.cls d w p (headSpec (am_ws y b maxL ret) (am_rm d w)).room s m (as.map (am_v A)).toArray c dC dI dA A (va_A (am_c dA A 0 h) s.heap.size) 0 0 :=
    ⟨hx, hb, hml, hown, fun w hw => hts w (List.mem_cons_of_mem _ hw), hK, fun q hq => Or.inr hq, hE, Nat.le_refl _, Nat.le_refl _, Nat.le_refl _, Nat.le_refl _⟩
  have hEnd : am_End y.cls b p l e (headSpec (am_ws y b maxL ret) (am_rm d w)).room s m (as.map (am_v A)).toArray below meth c (MQ below (am_Q dC dI dA A Rp (am_c dA A 0 h) s.heap.size) (as.map (am_v A)).toArray s 0 0 (va_A (am_c dA A 0 h) s.heap.size)) maxL dC dI dA A (va_A (am_c dA A 0 h) s.heap.size) 0 0 (fun o h' => am_ok ret o ∧ Rp o h') := by
    refine ⟨fun x h' H locs ls pc hR hP' hD' hS' hd => ?_, fun x h' H locs ls pc hR hP' hD' hS' hd => ?_, fun h' H locs ls pc hR hP' hD' hS' hd => ?_, fun k h' H locs ls pc hR => ?_⟩
    · obtain ⟨hok, hR⟩ := hR
      have hq : ∀ t : State, t.heap = H → s.WarmedH t.vm → am_Q dC dI dA A Rp (am_c dA A 0 h) s.heap.size (as.map (am_v A)).toArray s (.returned (some (.int x))) t := fun t ht hW => ⟨⟨some (.int x), h', rfl, hR, by rw [ht]; exact hP', va_K.moved hW.alike hK, hD'⟩, hS'.F ht⟩
      cases ret with
      | none => exact hok.elim
      | some ty => cases ty <;> first | exact hok.elim | exact W.iret hx hb hr hq hS'.2.2 hd hlk | exact W.zret hx hb hr hok hq hS'.2.2 hd hlk
    · obtain ⟨hok, hR⟩ := hR
      have hq : ∀ t : State, t.heap = H → s.WarmedH t.vm → am_Q dC dI dA A Rp (am_c dA A 0 h) s.heap.size (as.map (am_v A)).toArray s (.returned (some (.long x))) t := fun t ht hW => ⟨⟨some (.long x), h', rfl, hR, by rw [ht]; exact hP', va_K.moved hW.alike hK, hD'⟩, hS'.F ht⟩
      cases ret with
      | none => exact hok.elim
      | some ty => cases ty <;> first | exact hok.elim | exact W.lret hx hb hr hq hS'.2.2 hd hlk
    · obtain ⟨hok, hR⟩ := hR
      have hq : ∀ t : State, t.heap = H → s.WarmedH t.vm → am_Q dC dI dA A Rp (am_c dA A 0 h) s.heap.size (as.map (am_v A)).toArray s (.returned none) t := fun t ht hW => ⟨⟨none, h', rfl, hR, by rw [ht]; exact hP', va_K.moved hW.alike hK, hD'⟩, hS'.F ht⟩
      cases ret with
      | none => exact W.vret hx hb hr hq hS'.2.2 hd hlk
      | some ty => cases ty <;> exact hok.elim
    · exact (by have h0 := hR.1; cases ret with
        | none => exact h0.elim
        | some ty => cases ty <;> exact h0.elim)
  have key := hM (am_W p l e (headSpec (am_ws y b maxL ret) (am_rm d w)).room s m (as.map (am_v A)).toArray below meth c (MQ below (am_Q dC dI dA A Rp (am_c dA A 0 h) s.heap.size) (as.map (am_v A)).toArray s 0 0 (va_A (am_c dA A 0 h) s.heap.size)) maxL dC dI dA A (va_A (am_c dA A 0 h) s.heap.size) 0 0)
    (fun pc lo st h K ha hk => hs pc p l e _ s m _ below meth c _ dC dI dA A _ 0 0 _ hC hEnd lo st h K ha hk)
    (fun pc lo lo' st h hle hk H ls locs hl hP hD hS => hk H ls locs (am_lv_more hl (am_le_lv hle)) hP hD hS)
  rw [lg_entry_eq]
  exact key s.heap _ [] (am_lv_more (lv_entry _ (by rw [am_sl_len]; exact hfit)) (fun q hq => am_l0_args A as maxL 0 q hq)) hP hD.self va_S.rf
end
section
/-! a throw: the walk begun anew at the state where it stands, so that what it leaves untouched is known; then the library's law of 'throw new' -/
def am_re (s T : State) : State := { s with heap := T.heap, slotsUsed := T.slotsUsed }
theorem am_frames_re (s T : State) : (am_re s T).frames = s.frames := rfl
section RB
variable {p : Program} {l : Launch} {e : Env} {R : Room} {s : State} {m : MethodId} {args : Array Value} {below : List Frame} {meth : Method} {c : Code} {T : State} {locs : List Loc}
theorem am_rebase (X : Stand p l e R s m args below meth c T locs 0 0) : Stand p l e R (am_re s T) m args below meth c T [] 0 0 := by
  have hsz : T.heap.size = s.heap.size := Nat.le_antisymm (by simpa using X.heapSize) X.same.2.1
  have hus : T.slotsUsed ≤ s.slotsUsed := by simpa using X.used
  have hbk : T.slotsTrue = true := X.book
  have hdr : T.heap.toList.drop T.heap.size = [] := by rw [List.drop_eq_nil_iff]; simp
  refine ⟨X.admits, X.cas, X.clock, X.frames, ?_, X.hears, X.method, X.code, X.here, X.tail, X.warmed, X.limits, X.bytes, ?_⟩
  · have h := X.room
    simp only [State.hasRoom, Bool.and_eq_true, decide_eq_true_eq] at h ⊢
    obtain ⟨⟨⟨⟨h1, h2⟩, h3⟩, h4⟩, h5⟩ := h
    refine ⟨⟨⟨⟨h1, h2⟩, ?_⟩, ?_⟩, hbk⟩
    · show T.heap.size + R.cells ≤ _
      omega
    · show T.slotsUsed + R.slots ≤ _
      omega
  · have h1 := X.same.1
    refine ⟨?_, Nat.le_refl _, by simp [am_re, State.setVm], ?_, ?_, ?_⟩
    · show T.setVm s.vm = _
      have h2 : T.setVm s.vm = { s.setFrames T.frames with heap := T.heap, slotsUsed := T.slotsUsed } := h1
      rw [h2]
      rfl
    · show T.slotsUsed = T.slotsUsed + ((T.heap.toList.drop T.heap.size).map (·.slots.size)).sum
      rw [hdr]; rfl
    · show ((T.heap.toList.drop T.heap.size).map (·.slots.size)).sum ≤ 0
      rw [hdr]; exact Nat.le_refl _
    · intro a c hc
      exact ⟨c, hc, rfl, rfl, fun _ _ => rfl⟩
theorem am_static_eval {C n ds : String} {v : Value} {A : Nat → Prop} {U : State} {a : Array Value} (h : va_Z C n ds v A U U.heap) : (Term.static C n ds).eval a U none [] U = some v := by
  obtain ⟨cf, kf, fi, f, x, cell, h1, h2, h3, h4, h5, h6, h7, -⟩ := h
  simp [Term.eval, State.fieldNamed?, h1, h2, h4, h5, h6, h7]
theorem am_isRefOf {C n ds : String} {A : Nat → Prop} {U : State} {a : Array Value} (h : va_Zq C n ds A U U.heap) : (Cond.isRef (.static C n ds)).before a U = true := by
  rcases h with h | ⟨t, h⟩
  · simp [Cond.before, Cond.holds, Cond.value, am_static_eval (a := a) h]
  · simp [Cond.before, Cond.holds, Cond.value, am_static_eval (a := a) h]
end RB
section TH
variable {p : Program} {l : Launch} {e : Env} {R : Room} {s : State} {m : MethodId} {args : Array Value} {below : List Frame} {meth : Method} {c : Code} {Q : State → Prop} {dC : Nat → ClassId} {dI : Nat → Nat → Nat} {dA : Nat → ClassId} {A : Nat → Nat} {A0 : Nat → Prop} {cc : ByteArray} {nL d w pc : Nat} {own : String}
theorem am_fits (k : Nat) : Bundle.fit (am_kind k) = true := by
  unfold am_kind; split <;> decide
theorem am_throws {H : Heap} {locs : List Loc} {ls : Array Slot} {k : Nat} (hC : am_C am_En cc nL own d w p R s m args c dC dI dA A A0 0 0) (hst : l.stackTraces = false) (hout : ∀ x ∈ c.exceptionTable.toList, covers x (pc + 9) = false) (hlk : meth.locks = false) (hR1 : 1 ≤ R.cells) (hR2 : 6 ≤ R.slots) (hR3 : 6 ≤ R.frames) (hR4 : 90 ≤ R.locals) (hls : ls.size = nL) (hS : va_S A0 s.heap H locs) (ht : am_thr cc own k pc)
    (hq : ∀ (x : Addr) (t : State) (ce : Cell), t.status = .running → Ended t below (.threw x) → s.WarmedH t.vm → s.sameButNew ({ t with vm := s.vm } : State) locs 1 6 → H.size ≤ t.heap.size → (∀ q, q < H.size → t.heap[q]? = H[q]?) → H.size ≤ x → t.heap[x]? = some ce → s.vm.findClass (am_kind k) = some ce.cls → ce.vm = .none → Q t) : W p l e R s m args below meth c H locs 0 0 Q (F0 m pc ls []) := by
  obtain ⟨hx, hb, hml, hown, hts, hK, hA, hEn, hf, hlo, -, -⟩ := hC
  obtain ⟨i1, i2, i3, tx, d0, d3, d4, d6, d9, w1, w2, w3, w4, w5⟩ := ht
  intro T hT X
  have X' := am_rebase X
  have hWr : s.WarmedH (am_re s T).vm := State.WarmedH.refl s
  have good : ∀ w ∈ lw_good, w.before args (am_re s T) = true := fun w hw => word_at hWr (am_good hw) (hts w hw)
  obtain ⟨str, hstr⟩ := hEn.2.2.1 _ w4
  have htr : e.platform.stackTraces = false := by rw [X.admits.platform]; exact hst
  have hkeep : ∀ a : Nat, a < s.heap.size → ¬ A0 a → T.heap[a]? = s.heap[a]? := by rw [hT]; exact hS.2.1
  have hatoms : ∀ a ∈ Bundle.ownAtoms own i3 (am_kind k) am_up, a.before args (am_re s T) = true := by
    intro a ha
    rcases w5 a ha with h | h | h
    · exact good a h
    · exact va_Nw.use (am_isNest_tab (List.mem_filter.mp h).2) (va_Nw.same (am_isNest_tab (List.mem_filter.mp h).2) (u := s) (U := am_re s T) rfl (hEn.1 a h))
    · unfold am_isTh at h
      simp only [Bool.or_eq_true, decide_eq_true_eq] at h
      rcases h with ((h | h) | h) | h
      · rw [h]
        exact am_isRefOf (A := A0) (va_Zq.kept (U := am_re s T) (va_Zq.moved (U := am_re s T) (Vm.Alike.refl s.vm) hEn.2.2.2.1) hkeep)
      · rw [h]
        exact am_isRefOf (A := A0) (va_Zq.kept (U := am_re s T) (va_Zq.moved (U := am_re s T) (Vm.Alike.refl s.vm) hEn.2.2.2.2.1) hkeep)
      · rw [h]
        exact am_LS.word (A := A0) (U := am_re s T) (am_LS.kept (U := am_re s T) (am_LS.moved (U := am_re s T) (Vm.Alike.refl s.vm) hEn.2.2.2.2.2.2.1) hkeep (fun _ z => z))
      · rw [h]
        exact am_LS.word (A := A0) (U := am_re s T) (am_LS.kept (U := am_re s T) (am_LS.moved (U := am_re s T) (Vm.Alike.refl s.vm) hEn.2.2.2.2.2.2.2) hkeep (fun _ z => z))
  have hK2 : W p l e R (am_re s T) m args below meth c T.heap [] 0 0 Q (F0 m pc ls []) := by
    refine W.newc hx hb (s := am_re s T) hown (good _ w1) (good _ w2) (good _ w3) rfl d0 (by omega) (by omega) (fun cX kX q1 q2 q3 q4 => ?_)
    refine W.eq (g2 := F0 m (pc + 3) ls [.ref T.heap.size]) rfl ?_
    refine lv_dup hx hb d3 rfl ?_
    refine va_ldcS (s := am_re s T) hx hb hown (vk_R.same (u := s) (U := am_re s T) rfl hstr) d4 ?_
    intro T2 hT2 X2
    obtain ⟨U, u1, u2, u3, u4, u5, ce, u6, u7⟩ := X2.ctorThrowS hx htr (own := own) (cls := am_kind k) (names := am_up) (ic := i3) hown (am_fits k) (by decide) hatoms (fun x h => by cases h) q1 q2 (a := T.heap.size)
      (by rw [hT2]; simp [freshCell]) (Nat.le_refl _) (msg := .ref str) rfl (g := F0 m (pc + 6) ls [.ref str, .ref T.heap.size, .ref T.heap.size]) rfl (by show ls.size = c.maxLocals; rw [hls, hml]) rfl rfl (rest := []) rfl
      (by rw [hb]; exact d6) (by rw [hb]; exact d9) hout (by show 2 + 3 < R.frames; omega) (by show 2 * 0 + 1 + (13 * (2 + 1) + 42) ≤ R.locals; omega) hlk
    refine ⟨U, u1, hq T.heap.size U ce u2 u3 u4 ?_ ?_ ?_ ?_ u6 u7.cls u7.vm⟩
    · have h0 : T.setVm s.vm = ({ s.setFrames T.frames with heap := T.heap, slotsUsed := T.slotsUsed } : State) := X.same.1
      have h1 : (T.setVm s.vm).sameButNew ({ U with vm := s.vm } : State) [] 1 6 := by
        obtain ⟨a1, a2, a3, a4, a5, a6⟩ := u5
        refine ⟨?_, a2, a3, a4, a5, a6⟩
        refine a1.trans ?_
        rw [h0]
        have e1 : ∀ F : List Frame, ({ s.setFrames T.frames with heap := T.heap, slotsUsed := T.slotsUsed } : State).setFrames F = ({ (s.setFrames T.frames).setFrames F with heap := T.heap, slotsUsed := T.slotsUsed } : State) := fun _ => rfl
        rw [e1, State.setFrames_setFrames]
        rfl
      have h2 := X.same.trans h1
      rw [List.append_nil] at h2
      exact h2
    · rw [← hT]; exact u5.2.1
    · intro q hq'
      rw [← hT] at hq' ⊢
      have hc : (am_re s T).heap[q]? = some (T.heap[q]'hq') := by show T.heap[q]? = _; simp [hq']
      have := State.sameButNew.old_cell u5 hc
      have h2 : U.heap[q]? = some (T.heap[q]'hq') := this
      rw [h2]; simp [hq']
    · rw [← hT]; exact Nat.le_refl _
  exact hK2 T rfl X'
end TH
end
section
/-! a method that may throw: its contract out of its table -/
def am_rmX (d w : Nat) : Room := { frames := d, cells := 1, slots := 6, locals := w }
def am_QX (dC : Nat → ClassId) (dI : Nat → Nat → Nat) (dA : Nat → ClassId) (A : Nat → Nat) (Rp : am_P) (ws0 : va_W) (sz : Nat) : Array Value → State → Outcome → State → Prop := fun a st oc t =>
  (am_Q dC dI dA A Rp ws0 sz a st oc t ∧ ∃ L, FrameEnd st oc t L 1 6 ∧ ∀ q ∈ L, va_A ws0 sz q.base) ∨
  (∃ (k : Nat) (x : Addr) (h' : am_H) (ce : Cell) (L : List Loc), oc = .threw x ∧ Rp (.inl k) h' ∧ va_P (dC, dI) vwCl (am_c dA A 0 h') t.heap ∧ va_D (va_A ws0 sz) (am_c dA A 0 h') ∧ va_F (va_A ws0 sz) st t ∧ st.WarmedH t.vm ∧ st.sameButNew ({ t with vm := st.vm } : State) L 1 6 ∧ (∀ q ∈ L, va_A ws0 sz q.base) ∧ t.heap[x]? = some ce ∧ st.vm.findClass (am_kind k) = some ce.cls ∧ ce.vm = .none)
def am_MetX (l : Launch) (y : MethodName) (b : ByteArray) (maxL : Nat) (ret : Option FieldType) (d w : Nat) (M : am_M) : Prop :=
  ∀ (dC : Nat → ClassId) (dI : Nat → Nat → Nat) (dA : Nat → ClassId) (A : Nat → Nat) (h : am_H) (as : List Value) (Rp : am_P) (sz : Nat), M as h Rp →
    MetFree l y (headSpec (am_ws y b maxL ret) (am_rmX d w)) (va_Pc (as.map (am_v A)) (am_B dC dI dA A h sz)) (fun _ _ _ _ _ => True) (am_QX dC dI dA A Rp (am_c dA A 0 h) sz)
def am_okX (ret : Option FieldType) (o : am_O) : Prop := match o with
  | .inl _ => True
  | .inr v => am_ok ret (.inr v)
def am_RX (ret : Option FieldType) (Rp : am_P) : am_P := fun o h => am_okX ret o ∧ Rp o h
def am_MofX (acts : Nat → am_A) (maxL : Nat) (ret : Option FieldType) : am_M := fun as h Rp => (lg_sl as).length ≤ maxL ∧ am_Wp acts (am_RX ret Rp) 0 (am_l0 as maxL) [] h
theorem am_W_mono {p : Program} {l : Launch} {e : Env} {R : Room} {s : State} {m : MethodId} {args : Array Value} {below : List Frame} {meth : Method} {c : Code} {H : Heap} {locs : List Loc} {cells slots : Nat} {Q Q' : State → Prop} {g : JFrame} (h : W p l e R s m args below meth c H locs cells slots Q g) (hq : ∀ t, Q t → Q' t) : W p l e R s m args below meth c H locs cells slots Q' g :=
  fun T hT X => let ⟨t, a, b⟩ := h T hT X; ⟨t, a, hq t b⟩
set_option maxHeartbeats 1000000 in
theorem am_metX {y : MethodName} {b : ByteArray} {maxL d w : Nat} {ret : Option FieldType} {acts : Nat → am_A} (hy : plainFor y = true) (hs : ∀ pc, am_Snd am_En b maxL y.cls d w pc (acts pc)) (hd6 : 6 ≤ d) (hw9 : 90 ≤ w) (l : Launch) (hst : l.stackTraces = false) : am_MetX l y b maxL ret d w (am_MofX acts maxL ret) := by
  intro dC dI dA A h as Rp sz hM
  obtain ⟨hfit, hM⟩ := hM
  refine MetFree.of_bodySF (code := b) (maxLocals := maxL) (ret := ret) hy ?_ ?_
  · intro args s m h hn
    obtain ⟨meth, c, h1, h2, h3, h4, h5, h6, -, -⟩ := Cond.code_spec hn (atoms_spec (ws := am_ws y b maxL ret) h _ List.mem_cons_self)
    exact ⟨meth, c, h1, h2, h3, h4, h5, h6⟩
  intro p e s m args below meth c s₁ B hml hpc _
  obtain ⟨rfl, hsz, hP, hK, hD, hE⟩ := hpc
  subst hsz
  have hts : ∀ w ∈ am_ws y b maxL ret, w.before (as.map (am_v A)).toArray s = true := atoms_spec (ws := am_ws y b maxL ret) B.pre
  have hown : s.vm.findClass y.cls = some m.cls := findClass_of_methodNamed B.named
  have hr : meth.sig.returnType = ret := B.returns
  have hlk : meth.locks = false := B.notSynchronized
  have hx := B.exec
  have hb := B.bytes
  have hnh := B.noHandlers (hts _ List.mem_cons_self)
  have hC : am_C am_En b maxL y.cls d w p (headSpec (am_ws y b maxL ret) (am_rmX d w)).room s m (as.map (am_v A)).toArray c dC dI dA A (va_A (am_c dA A 0 h) s.heap.size) 0 0 :=
    ⟨hx, hb, hml, hown, fun w hw => hts w (List.mem_cons_of_mem _ hw), hK, fun q hq => Or.inr hq, hE, Nat.le_refl _, Nat.le_refl _, Nat.zero_le _, Nat.zero_le _⟩
  have toQ : ∀ t : State, MQ below (am_Q dC dI dA A Rp (am_c dA A 0 h) s.heap.size) (as.map (am_v A)).toArray s 0 0 (va_A (am_c dA A 0 h) s.heap.size) t → ∃ o, t.status = .running ∧ Ended t below o ∧ am_QX dC dI dA A Rp (am_c dA A 0 h) s.heap.size (as.map (am_v A)).toArray s o t := by
    rintro t ⟨o, q1, q2, q3, L, ⟨f1, f2, f3⟩, q5⟩
    exact ⟨o, q1, q2, Or.inl ⟨q3, L, ⟨f1, f2, f3.mono (Nat.zero_le _) (Nat.zero_le _)⟩, q5⟩⟩
  have hEnd : am_End y.cls b p l e (headSpec (am_ws y b maxL ret) (am_rmX d w)).room s m (as.map (am_v A)).toArray below meth c (fun t => ∃ o, t.status = .running ∧ Ended t below o ∧ am_QX dC dI dA A Rp (am_c dA A 0 h) s.heap.size (as.map (am_v A)).toArray s o t) maxL dC dI dA A (va_A (am_c dA A 0 h) s.heap.size) 0 0 (am_RX ret Rp) := by
    refine ⟨fun x h' H locs ls pc hR hP' hD' hS' hd => ?_, fun x h' H locs ls pc hR hP' hD' hS' hd => ?_, fun h' H locs ls pc hR hP' hD' hS' hd => ?_, fun k h' H locs ls pc hR hls hP' hD' hS' ht => ?_⟩
    · obtain ⟨hok, hR⟩ := hR
      have hq : ∀ t : State, t.heap = H → s.WarmedH t.vm → am_Q dC dI dA A Rp (am_c dA A 0 h) s.heap.size (as.map (am_v A)).toArray s (.returned (some (.int x))) t := fun t ht hW => ⟨⟨some (.int x), h', rfl, hR, by rw [ht]; exact hP', va_K.moved hW.alike hK, hD'⟩, hS'.F ht⟩
      refine am_W_mono ?_ toQ
      cases ret with
      | none => exact hok.elim
      | some ty => cases ty <;> first | exact hok.elim | exact W.iret hx hb hr hq hS'.2.2 hd hlk | exact W.zret hx hb hr hok hq hS'.2.2 hd hlk
    · obtain ⟨hok, hR⟩ := hR
      have hq : ∀ t : State, t.heap = H → s.WarmedH t.vm → am_Q dC dI dA A Rp (am_c dA A 0 h) s.heap.size (as.map (am_v A)).toArray s (.returned (some (.long x))) t := fun t ht hW => ⟨⟨some (.long x), h', rfl, hR, by rw [ht]; exact hP', va_K.moved hW.alike hK, hD'⟩, hS'.F ht⟩
      refine am_W_mono ?_ toQ
      cases ret with
      | none => exact hok.elim
      | some ty => cases ty <;> first | exact hok.elim | exact W.lret hx hb hr hq hS'.2.2 hd hlk
    · obtain ⟨hok, hR⟩ := hR
      have hq : ∀ t : State, t.heap = H → s.WarmedH t.vm → am_Q dC dI dA A Rp (am_c dA A 0 h) s.heap.size (as.map (am_v A)).toArray s (.returned none) t := fun t ht hW => ⟨⟨none, h', rfl, hR, by rw [ht]; exact hP', va_K.moved hW.alike hK, hD'⟩, hS'.F ht⟩
      refine am_W_mono ?_ toQ
      cases ret with
      | none => exact W.vret hx hb hr hq hS'.2.2 hd hlk
      | some ty => cases ty <;> exact hok.elim
    · refine am_throws hC hst (covers_of_empty hnh _) hlk (Nat.le_refl 1) (Nat.le_refl 6) hd6 hw9 hls hS' ht (fun x t ce t1 t2 t3 t4 t5 t6 t7 t8 t9 t10 => ⟨.threw x, t1, t2, Or.inr ⟨k, x, h', ce, locs, rfl, hR.2, ?_, hD', ?_, t3, t4, hS'.2.2, t8, t9, t10⟩⟩)
      · exact va_P.kept hP' (fun k q hq => t6 q.1 (hP' k q hq).lt)
      · refine ⟨Nat.le_trans hS'.1 t5, fun q h1 h2 => ?_⟩
        rw [t6 q (Nat.lt_of_lt_of_le h1 hS'.1)]
        exact hS'.2.1 q h1 h2
  have key := hM (am_W p l e (headSpec (am_ws y b maxL ret) (am_rmX d w)).room s m (as.map (am_v A)).toArray below meth c (fun t => ∃ o, t.status = .running ∧ Ended t below o ∧ am_QX dC dI dA A Rp (am_c dA A 0 h) s.heap.size (as.map (am_v A)).toArray s o t) maxL dC dI dA A (va_A (am_c dA A 0 h) s.heap.size) 0 0)
    (fun pc lo st h K ha hk => hs pc p l e _ s m _ below meth c _ dC dI dA A _ 0 0 _ hC hEnd lo st h K ha hk)
    (fun pc lo lo' st h hle hk H ls locs hl hP hD hS => hk H ls locs (am_lv_more hl (am_le_lv hle)) hP hD hS)
  have X₀ : Stand p l e (headSpec (am_ws y b maxL ret) (am_rmX d w)).room s m (as.map (am_v A)).toArray below meth c s₁ [] 0 0 := Stand.of_body B
  have hh0 : s₁.heap = s.heap := by rw [B.state]; rfl
  rw [lg_entry_eq]
  obtain ⟨t, a1, o, b1, b2, b3⟩ := key s.heap _ [] (am_lv_more (lv_entry _ (by rw [am_sl_len]; exact hfit)) (fun q hq => am_l0_args A as maxL 0 q hq)) hP hD.self va_S.rf s₁ hh0 X₀
  exact ⟨t, o, a1, b1, b2, b3⟩
end
section
/-! more instructions; trees of instructions -/
section MORE
variable {En : (Nat → Nat) → (Nat → Prop) → State → Prop} {cc : ByteArray} {nL d w pc : Nat} {own : String}
theorem am_node {P : am_A → Prop} {b : Bool} {x y : am_A} (hx : P x) (hy : P y) : P (cond b x y) := by cases b <;> assumption
theorem am_leaf {k : Nat} {a : am_A} (h : am_Snd En cc nL own d w k a) : am_Snd En cc nL own d w pc (cond (Nat.beq pc k) a am_stuck) := by
  cases hb : Nat.beq pc k with
  | false => exact am_s_stuck
  | true =>
    have e := Nat.eq_of_beq_eq_true hb
    subst e
    exact h
/-- System.arraycopy between two arrays of ints -/
def am_copy (n : Nat) : am_A := fun lo st h K _ => match st with
  | .int k :: .int dp :: .ref b :: .int sp :: .ref a :: r => (match h[a]?, h[b]? with
    | some (.inl (0, n0, .inl f)), some (.inl (0, n1, .inl g)) => ((r.map fun v => v.category).sum ≤ 8 ∧ ¬ sp < 0 ∧ ¬ dp < 0 ∧ ¬ k < 0 ∧ sp.toNatClampNeg + k.toNatClampNeg ≤ n0 ∧ dp.toNatClampNeg + k.toNatClampNeg ≤ n1) ∧ K n lo r (h.set b (.inl (0, n1, .inl (va_cpy f g sp.toNatClampNeg dp.toNatClampNeg k.toNatClampNeg))))
    | _, _ => False)
  | _ => False
theorem am_s_copy {index : Nat} (hlink : Cond.methodLink own index arraycopyName ∈ lw_good) (hnat : Cond.native arraycopyName ∈ lw_good) (hst : Cond.static arraycopyName ∈ lw_good) (hini : Cond.initialized "java/lang/System" ∈ lw_good) (hd1 : 1 ≤ d) (hw1 : 8 + (nativeFrameWords "java/lang/System" "arraycopy" 5 + 11) ≤ w) (hd : decode cc pc = .ok (.invokestatic index, 3)) : am_Snd En cc nL own d w pc (am_copy (pc + 3)) := by
  intro p l e R s m args below meth c Q dC dI dA A A0 cells slots Rp hC hE lo st h K ha hk H ls locs hl hP hD hS
  obtain ⟨hx, hb, hml, hown, hts, hK, hA, hEnv, hf, hlo, hcl, hsl⟩ := id hC
  unfold am_copy at ha
  split at ha
  · rename_i k dp b sp a r
    split at ha
    · rename_i n0 f n1 g ea eb
      obtain ⟨⟨h0, h1, h2, h3, h4, h5⟩, ha⟩ := ha
      refine va_copyi hx hb (by rw [hml, hl.1]) hown (hts _ hlink) (hts _ hnat) (hts _ hst) (hts _ hini) hK hP hD hS a b 0 0 (am_c_at ea) (am_c_at eb) rfl rfl rfl h1 h2 h3 h4 h5 (fun _ _ => rfl) (by omega) (by rw [am_cat_sum]; omega) hd (fun H1 locs1 hP1 hD1 hS1 => ?_)
      have hP1 : va_P (dC, dI) vwCl (am_c dA A 0 (h.set b (.inl (0, n1, .inl (va_cpy f g sp.toNatClampNeg dp.toNatClampNeg k.toNatClampNeg))))) H1 := by rw [← am_c_put (x := .inl (0, n1, .inl (va_cpy f g sp.toNatClampNeg dp.toNatClampNeg k.toNatClampNeg))) rfl]; exact hP1
      have hD1 : va_D A0 (am_c dA A 0 (h.set b (.inl (0, n1, .inl (va_cpy f g sp.toNatClampNeg dp.toNatClampNeg k.toNatClampNeg))))) := by rw [← am_c_put (x := .inl (0, n1, .inl (va_cpy f g sp.toNatClampNeg dp.toNatClampNeg k.toNatClampNeg))) rfl]; exact hD1
      exact hk _ _ _ _ ha H1 ls locs1 hl hP1 hD1 hS1
    · exact ha.elim
  · exact ha.elim
def am_prs (pc : Nat) (ps : List (Int × Int)) : List (Int32 × Nat) := ps.map (fun q => (Int32.ofInt q.1, ((pc : Int) + q.2).toNat))
theorem am_off (pc : Nat) (x : Int32) (dflt : Int) : ∀ ps : List (Int × Int), (∀ q ∈ ps, (-2147483648 : Int) ≤ q.1 ∧ q.1 ≤ 2147483647) →
    (∃ q ∈ ps, Op.lookupswitch.offset ps dflt x.toInt = q.2 ∧ x = Int32.ofInt q.1) ∨ (Op.lookupswitch.offset ps dflt x.toInt = dflt ∧ ∀ q ∈ ps, ¬ x = Int32.ofInt q.1)
  | [], _ => Or.inr ⟨rfl, fun q h => by cases h⟩
  | (a, o) :: t, hb => by
    have hk : (Int32.ofInt a).toInt = a := by
      have := hb (a, o) List.mem_cons_self
      rw [Int32.toInt_ofInt_of_le (by simpa using this.1) (by have := this.2; omega)]
    by_cases hx : x = Int32.ofInt a
    · refine Or.inl ⟨(a, o), List.mem_cons_self, ?_, hx⟩
      rw [hx]
      simp [Op.lookupswitch.offset, hk]
    · rw [lv_osw hx hk]
      rcases am_off pc x dflt t (fun q hq => hb q (List.mem_cons_of_mem _ hq)) with ⟨q, hq, h1, h2⟩ | ⟨h1, h2⟩
      · exact Or.inl ⟨q, List.mem_cons_of_mem _ hq, h1, h2⟩
      · refine Or.inr ⟨h1, fun q hq => ?_⟩
        rcases List.mem_cons.mp hq with rfl | hq
        · exact hx
        · exact h2 q hq
theorem am_s_lookup {dflt : Int} {ps : Array (Int × Int)} {len : Nat} (t : Nat) (hd : decode cc pc = .ok (.lookupswitch dflt ps, len)) (hp : (ps.toList.zip (ps.toList.drop 1)).all (fun (a, next) => a.1 < next.1) = true) (hb : ps.toList.all (fun q => decide ((-2147483648 : Int) ≤ q.1 ∧ q.1 ≤ 2147483647 ∧ 0 ≤ (pc : Int) + q.2)) = true) (ht : (pc : Int) + dflt = (t : Int)) : am_Snd En cc nL own d w pc (am_sw (am_prs pc ps.toList) t) := by
  intro p l e R s m args below meth c Q dC dI dA A A0 cells slots Rp hC hE lo st h K ha hk H ls locs hl hP hD hS
  have hb' : ∀ q ∈ ps.toList, (-2147483648 : Int) ≤ q.1 ∧ q.1 ≤ 2147483647 ∧ 0 ≤ (pc : Int) + q.2 := fun q hq => by simpa using List.all_eq_true.mp hb q hq
  unfold am_sw at ha
  split at ha
  · rename_i x r
    rcases am_off pc x dflt ps.toList (fun q hq => ⟨(hb' q hq).1, (hb' q hq).2.1⟩) with ⟨q, hq, h1, h2⟩ | ⟨h1, h2⟩
    · refine lv_lookup (tgt := ((pc : Int) + q.2).toNat) hC.1 hC.2.1 hd hp h1 (by have := (hb' q hq).2.2; omega) (hk _ _ _ _ (ha.1 _ (List.mem_map.mpr ⟨q, hq, rfl⟩) h2) H ls locs hl hP hD hS)
    · refine lv_lookup hC.1 hC.2.1 hd hp h1 ht (hk _ _ _ _ (ha.2 ?_) H ls locs hl hP hD hS)
      intro q hq
      obtain ⟨q', hq', rfl⟩ := List.mem_map.mp hq
      exact h2 q' hq'
  · exact ha.elim
end MORE
end
section
/-! a throw that the walked method catches: the search through its table, the catch types linked at that moment or before -/
section CT
variable {e : Env} {f : JFrame} {a : Addr}
/-- the rows of a table, as the thrown object's class meets them, each over the throwing instruction, up to the one that takes it -/
def am_Rows (pl : Platform) (s : State) (d : ClassId) (pc : Nat) (thrown : ClassId) (hpc : Nat) : List ExceptionTableEntry → Prop
  | [] => False
  | y :: t => covers y pc = true ∧ y.catchType ≠ 0 ∧ ∃ c, s.vm.ClassLinks pl d y.catchType c ∧ ((s.vm.assignable thrown c = true ∧ y.handlerPc = hpc) ∨ (s.vm.assignable thrown c = false ∧ am_Rows pl s d pc thrown hpc t))
theorem am_find {s : State} {cell : Cell} {hpc : Nat} (hobj : ∀ k, cell.vm ≠ .statics k) (hk0 : ∃ k, s.vm.classes[cell.cls]? = some k) :
    ∀ (ts : List ExceptionTableEntry) (S : State), s.WarmedH S.vm → S.heap[a]? = some cell → am_Rows e.platform s f.method.cls f.pc cell.cls hpc ts →
      ∃ vm', s.WarmedH vm' ∧ ∀ (Q : Handler → Pre) (E : CtlPost) (d : Bool) (acts : List Action), wp (findHandler.go f a ts) Q E e d acts S ↔ Q (.found hpc) d acts (S.setVm vm')
  | [], _, _, _, h => h.elim
  | y :: t, S, hW, hcell, h => by
    obtain ⟨hcov, h0, c, hl, h⟩ := h
    obtain ⟨k0, hk⟩ := hk0
    obtain ⟨k1, hk1, -⟩ := hW.alike.2.2 _ _ hk
    obtain ⟨dk, _, _, kt, hd, _, _, _, _, hkt, _, hopen⟩ := hl.here
    obtain ⟨k2, hk2, -⟩ := hW.alike.2.2 _ _ hkt
    have hl' := hW.classLinks hl
    have hWn := hW.noted hd hopen (State.rightAt_cls hl)
    obtain ⟨ra, rt⟩ := (resolveClass_links e.toSetting hl').op (op := VmOp.resolveClass f.method.cls y.catchType) rfl
    have hal : S.vm.Alike (S.vm.noted f.method.cls y.catchType (.cls c)) := (Vm.Alike.refl S.vm).noted _ _ _
    obtain ⟨k1', hk1', -⟩ := hal.2.2 _ _ hk1
    obtain ⟨k2', hk2', -⟩ := hal.2.2 _ _ hk2
    have hasg : (S.vm.noted f.method.cls y.catchType (.cls c)).assignable cell.cls c = s.vm.assignable cell.cls c := by rw [hal.assignable, hW.alike.assignable]
    have hcov' : (decide (y.startPc ≤ f.pc) && decide (f.pc < y.endPc)) = true := hcov
    rcases h with ⟨hy, rfl⟩ | ⟨hn, h⟩
    · rw [hy] at hasg
      refine ⟨_, hWn, fun Q E d acts => ?_⟩
      simp [findHandler.go, hcov', h0, ra, rt, hcell, hobj, hk1', hk2', hasg, VmOp.dirties, VmOp.acts]
    · rw [hn] at hasg
      obtain ⟨vm', hW', hq⟩ := am_find hobj ⟨k0, hk⟩ t (S.setVm (S.vm.noted f.method.cls y.catchType (.cls c))) hWn hcell h
      refine ⟨vm', hW', fun Q E d acts => ?_⟩
      have := hq Q E d acts
      simp [findHandler.go, hcov', h0, ra, rt, hcell, hobj, hk1', hk2', hasg, VmOp.dirties, VmOp.acts]
      exact this
end CT
section CU
variable {p : Program} {l : Launch} {e : Env} {R : Room} {s : State} {m : MethodId} {args : Array Value} {below : List Frame} {meth : Method} {c : Code} {T : State} {locs : List Loc} {cells slots : Nat}
theorem am_caught (X : Stand p l e R s m args below meth c T locs cells slots) (a : Addr) {g : JFrame} (hg : g.method = m) {cell : Cell} {hpc : Nat} (hcell : T.heap[a]? = some cell) (hobj : cell.vm.isStatics = false) (hk0 : ∃ k, s.vm.classes[cell.cls]? = some k) (hrows : am_Rows e.platform s m.cls g.pc cell.cls hpc c.exceptionTable.toList) :
    ∃ vm', Stand p l e R s m args below meth c (T.setVm vm') locs cells slots ∧ ∀ target, Steps p.tables e below ((T.setVm vm').setTop { g with pc := hpc, stack := [.ref a] }) target → Steps p.tables e below ((T.setTop g).pushFrame (.throwing a)) target := by
  subst hg
  obtain ⟨vm', hW', hf⟩ := am_find (e := e) (f := g) (a := a) (s := s) (VmData.ne_statics_of hobj) hk0 c.exceptionTable.toList ((T.setTop g).pushFrame (.throwing a)) X.warmed hcell hrows
  refine ⟨vm', X.noted hW', fun target hrest => ?_⟩
  have hfind : ∀ (Q : Handler → Pre) (E : CtlPost) (d : Bool) (acts : List Action), wp (findHandler g a) Q E e d acts ((T.setTop g).pushFrame (.throwing a)) ↔ Q (.found hpc) d acts (((T.setTop g).pushFrame (.throwing a)).setVm vm') := fun Q E d acts => by
    rw [W.findHandler_eq (s := (T.setTop g).pushFrame (.throwing a)) (f := g) X.method' X.code]
    exact hf Q E d acts
  obtain ⟨hgo, hw⟩ := X.here.throwing (g := g) a
  refine Steps.head hgo hw ?_
  have hstep : (stepThrowing e ((T.setTop g).pushFrame (.throwing a)) a (.java g :: T.frames.tail)).Is ((((T.setTop g).pushFrame (.throwing a)).setVm vm').setFrames (.java { g with pc := hpc, stack := [.ref a] } :: T.frames.tail)) [] := by
    simp only [stepThrowing, searchFrame, vmDo]
    generalize hr : Sem.go _ e false [] _ = res
    obtain ⟨as, rfl, ha⟩ := Sem.eq_ok_of hr (a := Handler.found hpc) (s' := ((T.setTop g).pushFrame (.throwing a)).setVm vm') (acts' := []) (by simp [hfind _ _ _ _])
    exact ⟨rfl, ha⟩
  rw [stepThread_throwing (frames_entered X.here.top _), hstep.1]
  obtain ⟨g₀, hg0⟩ := Option.isSome_iff_exists.mp X.here.top
  obtain ⟨r, hr⟩ := State.topJava?_eq_some.mp hg0
  have hr' : (T.setVm vm').frames = .java g₀ :: r := hr
  have two : ∀ (u : State) (F G : List Frame), ((u.setFrames F).setVm vm').setFrames G = (u.setVm vm').setFrames G := fun u F G => by
    have h1 : (u.setFrames F).setVm vm' = (u.setVm vm').setFrames F := rfl
    rw [h1, State.setFrames_setFrames]
  rw [State.setTop_of_frames _ hr'] at hrest
  rw [hr, List.tail_cons, State.pushFrame, two, State.setTop_of_frames _ hr, two]
  exact hrest
end CU
end
section
/-! a call that may return or throw: what it leaves, in the caller's walk -/
section BK
variable {p : Program} {l : Launch} {e : Env} {R : Room} {s : State} {m : MethodId} {args : Array Value} {below : List Frame} {meth : Method} {c : Code}
def am_left (U t : State) : State := ({ U with heap := t.heap, slotsUsed := t.slotsUsed } : State).setVm t.vm
theorem am_back {U t : State} {g : JFrame} {mk : MethodId} {a : Array Value} {o : Outcome} {L : List Loc} {k n : Nat} (h : At U g.method c below) (hend : Ended t (U.setTop g).frames o) (hW : U.WarmedH t.vm) (hs : (U.calling g mk a).sameButNew ({ t with vm := (U.calling g mk a).vm } : State) L k n) :
    U.sameButNew ({ U with heap := t.heap, slotsUsed := t.slotsUsed } : State) L k n ∧ (∀ x, o = .threw x → t = ((am_left U t).setTop g).pushFrame (.throwing x)) ∧
    (∀ (v : Option Value) (ig : Instr) (len : Nat), o = .returned v → decode c.code g.pc = .ok (ig, len) → t = (am_left U t).setTop { g with pc := g.pc + len, stack := v.toList ++ g.stack }) := by
  obtain ⟨e2, q2, q3, q4, q5, q6⟩ := hs
  have e3 : t = ({ (U.calling g mk a).setFrames t.frames with heap := t.heap, slotsUsed := t.slotsUsed } : State).setVm t.vm := by
    have h1 : t = ({ t with vm := (U.calling g mk a).vm } : State).setVm t.vm := rfl
    rw [e2] at h1
    exact h1
  obtain ⟨g₀, hg0⟩ := Option.isSome_iff_exists.mp h.top
  obtain ⟨r, hr⟩ := State.topJava?_eq_some.mp hg0
  have hr' : (am_left U t).frames = .java g₀ :: r := hr
  rw [State.frames_setTop' g h.top] at hend
  refine ⟨⟨?_, q2, q3, q4, q5, q6⟩, ?_, ?_⟩
  · obtain ⟨th, ht, -⟩ := State.frames_cons hr
    show ({ U with heap := t.heap, slotsUsed := t.slotsUsed } : State) = { U.setFrames U.frames with heap := t.heap, slotsUsed := t.slotsUsed }
    rw [State.setFrames_self ht]
  · intro x hx
    subst hx
    have hf : t.frames = .throwing x :: .java g :: U.frames.tail := hend
    refine e3.trans ?_
    rw [hf, State.calling_eq h.top, State.setFrames_setFrames, State.pushFrame, State.frames_setTop _ hr', State.setTop_of_frames _ hr', State.setFrames_setFrames, hr]
    rfl
  · intro v ig len hv hd
    subst hv
    obtain ⟨c₂, i₂, len₂, hc₂, hd₂, hf⟩ := hend
    have hcc : c₂ = c := by
      have h1 : t.code? g.method = U.code? g.method := by rw [State.code?_eq, State.code?_eq, hW.alike.method?]
      exact Option.some.inj (hc₂.symm.trans (h1.trans h.code))
    subst hcc
    have hlen : len₂ = len := by rw [hd] at hd₂; cases hd₂; rfl
    subst hlen
    refine e3.trans ?_
    rw [hf, State.calling_eq h.top, State.setFrames_setFrames, State.setTop_of_frames _ hr', hr]
    rfl
theorem am_stand_left {T t : State} {locs L : List Loc} {cells slots k n : Nat} (X : Stand p l e R s m args below meth c T locs cells slots) (hW : T.WarmedH t.vm) (hs : T.sameButNew ({ T with heap := t.heap, slotsUsed := t.slotsUsed } : State) L k n) : Stand p l e R s m args below meth c (am_left T t) (locs ++ L) (cells + k) (slots + n) :=
  ⟨X.admits, X.cas, X.clock, X.frames, X.room, X.hears, X.method, X.code, (X.here.setHeapUsed t.heap t.slotsUsed).setVm hW.alike, X.tail, State.WarmedH.trans X.warmed hW, X.limits, X.bytes, X.same.trans (hs.setVm s.vm)⟩
/-- 'invokevirtual' of a method of the own class C, by its free contract, whatever its outcome -/
theorem am_invokeV {T : State} {locs : List Loc} {cells slots : Nat} (X : Stand p l e R s m args below meth c T locs cells slots) (hexec : p.tables.exec = Jvm.exec) {own C : String} {index : Nat} {y : MethodName} {bytes : ByteArray} {maxL : Nat} {ret : Option FieldType} {ws : List Cond} {rm : Room} {P : Array Value → State → Prop} {Q : Array Value → State → Outcome → State → Prop}
    (hown : s.vm.findClass own = some m.cls) (hlink : (Cond.methodLink own index y).before args s = true) (hinst : (Cond.instanceMethod y).before args s = true) (hsel : (Cond.selects C y y).before args s = true) (hini : (Cond.initialized y.cls).before args s = true)
    (hcode : (Cond.code y bytes maxL ret).before args s = true) (hy : y.cls ≠ "java/lang/invoke/MethodHandle" ∧ y.cls ≠ "java/lang/invoke/VarHandle") (hM : MetFree l y (headSpec ws rm) P (fun _ _ _ _ _ => True) Q) (hws : ∀ w ∈ ws, ∀ (a' : Array Value) (U : State), s.WarmedH U.vm → w.before a' U = true)
    (hfr : rm.frames + 1 ≤ R.frames) (hlo : 8 + (maxL + 11) + rm.locals ≤ R.locals) (hce : cells + rm.cells ≤ R.cells) (hsl : slots + rm.slots ≤ R.slots)
    {b : Addr} {cellB : Cell} (hcell : T.heap[b]? = some cellB) (hobj : cellB.vm.isStatics = false) (hcls : s.vm.findClass C = some cellB.cls)
    {g : JFrame} (hg : g.method = m) (hsize : g.locals.size = c.maxLocals) {argsL rest : List Value} (hlen : ∀ sig, parseMethodDescriptor y.desc = some sig → argsL.length = sig.parameters.length) (hstack : g.stack = argsL.reverse ++ .ref b :: rest) (hW : 2 * g.monitorRoom + (rest.map fun v => v.category).sum ≤ 8) (hdg : decode c.code g.pc = .ok (.invokevirtual index, 3))
    (hP : ∀ (U : State), U.heap = T.heap → s.WarmedH U.vm → P (Value.ref b :: argsL).toArray U) :
    ∃ (vm₁ : Vm) (mk : MethodId) (o : Outcome) (t : State), s.WarmedH vm₁ ∧ Stand p l e R s m args below meth c (T.setVm vm₁) locs cells slots ∧ Ended t ((T.setVm vm₁).setTop { g with stack := rest }).frames o ∧
      Q (Value.ref b :: argsL).toArray ((T.setVm vm₁).calling { g with stack := rest } mk (Value.ref b :: argsL).toArray) o t ∧ ∀ target, Steps p.tables e below t target → Steps p.tables e below (T.setTop g) target := by
  obtain ⟨mk, methM, hnamed, hmethM, hstM, habM⟩ := Cond.instanceMethod_spec hinst
  obtain ⟨methM', cM, hmethM', hcM, -, hlM, -, -, -, hsigM⟩ := Cond.code_spec hnamed hcode
  cases hmethM.symm.trans hmethM'
  obtain ⟨c2, r2, m2, q1, q2, q3, q4, kP, hkP, hkPi⟩ := Cond.selects_spec hsel
  cases hcls.symm.trans q1
  cases (State.methodFound?_of_named hnamed hy).symm.trans q2
  cases hnamed.symm.trans q3
  have hselP : selectMethod e.platform s.vm cellB.cls mk = .method mk := by rw [Launch.admits_selectMethod X.admits]; exact q4
  obtain ⟨vm₁, X₁, hstep₁⟩ := X.invokevirtual hexec hown hlink hnamed hmethM hstM hkP hkPi hy (a := b) (cell := cellB) hcell
    (fun z h => by rw [h] at hobj; cases hobj) hselP hmethM habM hkP hkPi (g := g) hg (argsL := argsL) (rest := rest) (hlen _ hsigM) hstack hdg
  have hinitP : kP.init = .initialized := Cond.initialized_spec (findClass_of_methodNamed hnamed) hkP hini
  obtain ⟨kP₁, hkP₁, heP₁⟩ := X₁.warmed.alike.2.2 _ _ hkP
  have hAt : At (T.setVm vm₁) ({ g with stack := rest } : JFrame).method c below := by show At (T.setVm vm₁) g.method c below; rw [hg]; exact X₁.here
  have happ : (headSpec ws rm).appliesLoose y e.platform ((T.setVm vm₁).calling { g with stack := rest } mk (Value.ref b :: argsL).toArray) = true :=
    Spec.appliesLoose_calling (g := { g with stack := rest }) hAt hdg (X₁.named hnamed) hkP₁ (by rw [heP₁]; exact hinitP)
      (X₁.room_calling (g := { g with stack := rest }) (R' := (headSpec ws rm).room) hsize (show (T.setVm vm₁).vm.method? mk = some methM by rw [X₁.warmed.alike.method?]; exact hmethM) hcM hfr (by rw [hlM]; show 2 * ({ g with stack := rest } : JFrame).monitorRoom + (rest.map fun v => v.category).sum + (maxL + 11) + rm.locals ≤ R.locals; have : ({ g with stack := rest } : JFrame).monitorRoom = g.monitorRoom := rfl; omega) hce hsl)
      (atoms_intro fun w hw => hws w hw _ _ X₁.warmed)
  obtain ⟨mid, hmid⟩ := hAt.above
  have hfrm : ((T.setVm vm₁).setTop { g with stack := rest }).frames = (.java { g with stack := rest } :: mid) ++ below := by rw [State.frames_setTop' _ hAt.top, hmid]; rfl
  obtain ⟨o, t, hsteps, -, hend, hq⟩ := Steps.callFree hM p X.admits X.cas X.clock (acts := []) hfrm happ (hP _ rfl X₁.warmed) trivial
  exact ⟨vm₁, mk, o, t, X₁.warmed, X₁, hend, hq, fun target h => hstep₁ _ fun acts => by rw [doInvoke_state]; exact hsteps.trans h⟩
end BK
end
section
/-! runs with exits; a call within a handler's range -/
def am_Wx (acts : Nat → am_A) (R : am_P) (X : am_K) : am_K := fun pc lo st h =>
  ∀ P : am_K, (∀ pc lo st h K, acts pc lo st h K R → (∀ pc' lo' st' h', K pc' lo' st' h' → P pc' lo' st' h') → P pc lo st h) → (∀ pc lo lo' st h, am_le lo' lo → P pc lo' st h → P pc lo st h) → (∀ pc lo st h, X pc lo st h → P pc lo st h) → P pc lo st h
theorem am_exit {acts : Nat → am_A} {R : am_P} {X : am_K} {pc : Nat} {lo : am_L} {st : List Value} {h : am_H} (k : X pc lo st h) : am_Wx acts R X pc lo st h := fun _ _ _ hx => hx _ _ _ _ k
theorem am_xforget {acts : Nat → am_A} {R : am_P} {X : am_K} {pc : Nat} {lo lo' : am_L} {st : List Value} {h : am_H} (hl : am_le lo' lo) (k : am_Wx acts R X pc lo' st h) : am_Wx acts R X pc lo st h := fun P hc hf hx => hf _ _ _ _ _ hl (k P hc hf hx)
def am_xrun (acts : Nat → am_A) (R : am_P) (X : am_K) (stop : Nat → Bool) : Nat → am_K
  | 0 => am_Wx acts R X
  | n + 1 => fun pc lo st h => match stop pc with
    | true => am_Wx acts R X pc lo st h
    | false => acts pc lo st h (am_xrun acts R X stop n) R
theorem am_xruns {acts : Nat → am_A} {R : am_P} {X : am_K} {stop : Nat → Bool} : ∀ (n : Nat) {pc : Nat} {lo : am_L} {st : List Value} {h : am_H}, am_xrun acts R X stop n pc lo st h → am_Wx acts R X pc lo st h
  | 0, _, _, _, _, k => k
  | n + 1, pc, lo, st, h, k => by
    unfold am_xrun at k
    split at k
    · exact k
    · exact fun P hc hf hx => hc _ _ _ _ _ k (fun _ _ _ _ k' => am_xruns n k' P hc hf hx)
theorem am_xgo {acts : Nat → am_A} {R : am_P} {X : am_K} (stop : Nat → Bool) (n : Nat) {pc : Nat} {lo : am_L} {st : List Value} {h : am_H} (k : acts pc lo st h (am_xrun acts R X stop n) R) : am_Wx acts R X pc lo st h :=
  fun P hc hf hx => hc _ _ _ _ _ k (fun _ _ _ _ k' => am_xruns n k' P hc hf hx)
section TRY
variable {p : Program} {l : Launch} {e : Env} {R : Room} {s : State} {m : MethodId} {args : Array Value} {below : List Frame} {meth : Method} {c : Code} {Q : State → Prop} {dC : Nat → ClassId} {dI : Nat → Nat → Nat} {dA : Nat → ClassId} {A : Nat → Nat} {A0 : Nat → Prop} {cc : ByteArray} {nL d w pc cells slots : Nat} {own : String} {En : (Nat → Nat) → (Nat → Prop) → State → Prop}
theorem am_soundX {acts : Nat → am_A} {Rp : am_P} {X : am_K} (hs : ∀ pc, am_Snd En cc nL own d w pc (acts pc)) (hC : am_C En cc nL own d w p R s m args c dC dI dA A A0 cells slots) (hE : am_End own cc p l e R s m args below meth c Q nL dC dI dA A A0 cells slots Rp)
    (hX : ∀ pc lo st h, X pc lo st h → am_W p l e R s m args below meth c Q nL dC dI dA A A0 cells slots pc lo st h) {lo : am_L} {st : List Value} {h : am_H} (k : am_Wx acts Rp X pc lo st h) : am_W p l e R s m args below meth c Q nL dC dI dA A A0 cells slots pc lo st h :=
  k (am_W p l e R s m args below meth c Q nL dC dI dA A A0 cells slots) (fun pc lo st h K ha hk => hs pc p l e R s m args below meth c Q dC dI dA A A0 cells slots Rp hC hE lo st h K ha hk) (fun pc lo lo' st h hle hk H ls locs hl hP hD hS => hk H ls locs (am_lv_more hl (am_le_lv hle)) hP hD hS) hX
/-- a row that takes class 'name' at the entry ct -/
theorem am_row_yes {name thrown : String} {y : ExceptionTableEntry} {t : List ExceptionTableEntry} {cX : ClassId} {hpc : Nat} (hpl : e.platform.magicAccessors = ({} : Platform).magicAccessors) (hown : s.vm.findClass own = some m.cls) (hcov : covers y pc = true) (h0 : y.catchType ≠ 0) (hlink : (Cond.classLink own y.catchType name).before args s = true) (hc : va_Nw (.castable thrown name) s) (hX : s.vm.findClass thrown = some cX) (hh : y.handlerPc = hpc) : am_Rows e.platform s m.cls pc cX hpc (y :: t) := by
  obtain ⟨c', hc', hcl⟩ := Cond.classLink_spec hown hlink e.platform hpl
  obtain ⟨c3, t3, w1, w2, w3⟩ := Cond.castable_spec (args := #[]) hc
  cases hX.symm.trans w1
  cases hc'.symm.trans w2
  exact ⟨hcov, h0, c', hcl, Or.inl ⟨w3, hh⟩⟩
theorem am_row_no {name thrown : String} {y : ExceptionTableEntry} {t : List ExceptionTableEntry} {cX : ClassId} {hpc : Nat} (hpl : e.platform.magicAccessors = ({} : Platform).magicAccessors) (hown : s.vm.findClass own = some m.cls) (hcov : covers y pc = true) (h0 : y.catchType ≠ 0) (hlink : (Cond.classLink own y.catchType name).before args s = true) (hc : va_Nc thrown name s) (hX : s.vm.findClass thrown = some cX) (hr : am_Rows e.platform s m.cls pc cX hpc t) : am_Rows e.platform s m.cls pc cX hpc (y :: t) := by
  obtain ⟨c', hc', hcl⟩ := Cond.classLink_spec hown hlink e.platform hpl
  obtain ⟨c3, t3, w1, w2, w3⟩ := hc
  cases hX.symm.trans w1
  cases hc'.symm.trans w2
  exact ⟨hcov, h0, c', hcl, Or.inr ⟨w3, hr⟩⟩
theorem am_set_none {lo : am_L} {j : Nat} {x : Value} {A : Nat → Nat} (hg : am_g2 lo j = true) : ∀ q ∈ am_lv A 0 (lo.set j none), q ∈ (j, x) :: (am_lv A 0 lo).filter (fun q => !(q.1 == j) && !(q.1 + 1 == j && q.2.category == 2)) := by
  intro q hq
  obtain ⟨i, v, h, e⟩ := (am_lv_mem A q _ 0).mp hq
  rw [Nat.zero_add] at e
  by_cases hj : j = i
  · subst hj
    rw [List.getElem?_set] at h
    split at h
    · split at h <;> cases h
    · rename_i hne; exact absurd rfl hne
  · rw [List.getElem?_set_ne hj] at h
    have h2 : q ∈ am_lv A 0 (lo.set j (some (.int 0))) := (am_lv_mem A q _ 0).mpr ⟨i, v, by rw [List.getElem?_set_ne hj]; exact h, by rw [Nat.zero_add]; exact e⟩
    rcases List.mem_cons.mp (am_lv_set hg q h2) with h3 | h3
    · exact absurd (by have := congrArg Prod.fst (e.symm.trans h3); exact this.symm) hj
    · exact List.mem_cons_of_mem _ h3
set_option maxHeartbeats 1000000 in
theorem am_try {M : am_M} {ci d' w' index maxL N : Nat} {T0 : u_T} {y : MethodName} {b : ByteArray} {ret : Option FieldType} (hC : am_C am_En cc nL own d w p R s m args c dC dI dA A A0 0 0) (hc : vwCl[ci]? = some (y.cls, T0, N)) (hM : am_MetX l y b maxL ret d' w' M) (hd' : d' < d) (hmx : 19 + maxL + w' ≤ w) (hR1 : 1 ≤ R.cells) (hR2 : 6 ≤ R.slots)
    (hcode : Cond.code y b maxL ret ∈ lw_good) (hini : Cond.initialized y.cls ∈ lw_good) (hlink : Cond.methodLink own index y ∈ lw_good) (hin : Cond.instanceMethod y ∈ lw_good) (hse : Cond.selects y.cls y y ∈ lw_good) {np : Nat}
    (hdesc : y.cls ≠ "java/lang/invoke/MethodHandle" ∧ y.cls ≠ "java/lang/invoke/VarHandle" ∧ (parseMethodDescriptor y.desc).map (fun d => d.parameters.length) = some np) (hdg : decode cc pc = .ok (.invokevirtual index, 3))
    {lo : am_L} {st as r : List Value} {h : am_H} {a : Nat} {fs : List Value} (hst : st = as.reverse ++ .ref a :: r) (hnp : as.length = np) (ea : h[a]? = some (.inr (ci, fs))) (hroom : (r.map fun v => v.category).sum ≤ 8) {Rp : am_P} (ha : M (.ref a :: as) h Rp)
    (hret : ∀ v h', Rp (.inr v) h' → am_W p l e R s m args below meth c Q nL dC dI dA A A0 1 6 (pc + 3) lo (v.toList ++ r) h')
    (hthr : ∀ k h', Rp (.inl k) h' → ∃ (hpc j t : Nat), (∀ cX, s.vm.findClass (am_kind k) = some cX → am_Rows e.platform s m.cls pc cX hpc c.exceptionTable.toList) ∧ ((∃ i : Fin 4, decode cc hpc = .ok (.astore_n i, 1) ∧ (i : Nat) = j ∧ t = hpc + 1) ∨ (decode cc hpc = .ok (.astore j, 2) ∧ t = hpc + 2)) ∧ j < nL ∧ am_g2 lo j = true ∧ am_W p l e R s m args below meth c Q nL dC dI dA A A0 1 6 t (lo.set j none) [] h') :
    am_W p l e R s m args below meth c Q nL dC dI dA A A0 0 0 pc lo st h := by
  obtain ⟨hx, hb, hml, hown, hts, hK, hA, hEnv, hf, hlo, -, -⟩ := id hC
  intro H ls locs hl hP hD hS T hT X
  have hfree := am_free hD hS hA
  obtain ⟨cellB, hcB, hoB, hclB⟩ := va_recv hK hP hc (am_c_at ea)
  have hws : ∀ w ∈ am_ws y b maxL ret, ∀ (a' : Array Value) (U : State), s.WarmedH U.vm → w.before a' U = true := pay_in hts (am_goodIn hcode)
  obtain ⟨vm₁, mk, o, t, hW1, X1, hend, hq, hgo⟩ := am_invokeV X hx (C := y.cls) (bytes := b) (maxL := maxL) (ret := ret) hown (hts _ hlink) (hts _ hin) (hts _ hse) (hts _ hini) (hts _ hcode) ⟨hdesc.1, hdesc.2.1⟩ (hM dC dI dA A h (.ref a :: as) Rp H.size ha) hws
    (by show d' + 1 ≤ R.frames; omega) (by show 8 + (maxL + 11) + w' ≤ R.locals; omega) (by show 0 + 1 ≤ R.cells; omega) (by show 0 + 6 ≤ R.slots; omega) (by rw [hT]; exact hcB) hoB hclB (g := F0 m pc ls (st.map (am_v A))) rfl (by show ls.size = c.maxLocals; rw [hl.1, hml]) (argsL := as.map (am_v A)) (rest := r.map (am_v A))
    (fun sig hsig => by rw [List.length_map, hnp]; have h2 := hdesc.2.2; rw [hsig] at h2; exact (Option.some.inj h2).symm) (by show st.map (am_v A) = _; rw [hst, List.map_append, List.map_reverse]; rfl) (lv_room (by rw [am_cat_sum]; exact hroom)) (by rw [hb]; exact hdg)
    (fun U hU hW => am_pre_call (as := (Value.ref a :: as).map (am_v A)) (fun _ _ _ h => h) hC hP hD hS U (hU.trans hT) hW)
  have hheap : (T.setVm vm₁).heap = H := hT
  have hAt : At (T.setVm vm₁) ({ (F0 m pc ls (st.map (am_v A))) with stack := r.map (am_v A) } : JFrame).method c below := X1.here
  have hfr : ∀ {z : Nat} {L : List Loc}, H.size ≤ t.heap.size → (∀ q : Nat, q < H.size → ¬ va_A (am_c dA A 0 h) H.size q → t.heap[q]? = H[q]?) → (∀ q ∈ L, va_A (am_c dA A 0 h) H.size q.base) → va_S A0 s.heap t.heap (locs ++ L) := by
    intro z L h1 h2 h3
    refine ⟨Nat.le_trans hS.1 h1, fun q g1 g2 => ?_, fun q hq => ?_⟩
    · rw [h2 q (Nat.lt_of_lt_of_le g1 hS.1) (fun z => g2 (hfree q z))]
      exact hS.2.1 q g1 g2
    · rcases List.mem_append.mp hq with h | h
      · exact hS.2.2 q h
      · exact hfree _ (h3 q h)
  rcases hq with ⟨⟨⟨v, h', hv, hR, hP1, hK1, hD1⟩, hz, hk1⟩, L, ⟨-, hW2, hs2⟩, hL⟩ | ⟨k, x, h', ce, L, ho, hR, hP1, hD1, ⟨hz, hk1⟩, hW2, hs2, hL, hce, hcls, hvm⟩
  · obtain ⟨b1, -, b3⟩ := am_back hAt hend hW2 hs2
    have X2 := am_stand_left X1 hW2 b1
    have et := b3 _ _ _ hv (by show decode c.code pc = _; rw [hb]; exact hdg)
    have hz' : H.size ≤ t.heap.size := by rw [← hheap]; exact hz
    have hk' : ∀ q : Nat, q < H.size → ¬ va_A (am_c dA A 0 h) H.size q → t.heap[q]? = H[q]? := fun q g1 g2 => (hk1 q (by show q < T.heap.size; rw [hT]; exact g1) g2).trans (by show T.heap[q]? = H[q]?; rw [hT])
    obtain ⟨t2, a1, b2⟩ := hret v h' hR t.heap ls (locs ++ L) hl hP1 (hD1.weaken (fun _ q _ z => hfree q.1 z)) (hfr (z := 0) hz' hk' hL) (am_left (T.setVm vm₁) t) rfl X2
    refine ⟨t2, hgo t2 ?_, b2⟩
    rw [et]
    have es : (v.toList ++ r).map (am_v A) = (v.map (am_v A)).toList ++ r.map (am_v A) := by cases v <;> simp
    rw [es] at a1
    exact a1
  · obtain ⟨b1, b2, -⟩ := am_back hAt hend hW2 hs2
    have X2 := am_stand_left X1 hW2 b1
    have et := b2 x ho
    have hz' : H.size ≤ t.heap.size := by rw [← hheap]; exact hz
    have hk' : ∀ q : Nat, q < H.size → ¬ va_A (am_c dA A 0 h) H.size q → t.heap[q]? = H[q]? := fun q g1 g2 => (hk1 q (by show q < T.heap.size; rw [hT]; exact g1) g2).trans (by show T.heap[q]? = H[q]?; rw [hT])
    obtain ⟨hpc, j, tt, hrows, hast, hj, hg2, hWt⟩ := hthr k h' hR
    have hcls' : s.vm.findClass (am_kind k) = some ce.cls := by rw [← X1.warmed.alike.findClass]; exact hcls
    obtain ⟨vm', X3, hgo3⟩ := am_caught X2 x (g := { (F0 m pc ls (st.map (am_v A))) with stack := r.map (am_v A) }) rfl (cell := ce) (hpc := hpc) hce (by rw [hvm]; rfl) (by
      obtain ⟨kC, hkC, -⟩ := Vm.findClass_spec hcls'
      exact ⟨kC, hkC⟩) (hrows _ hcls')
    have hS' := hfr (z := 0) (L := L) hz' hk' hL
    have K : W p l e R s m args below meth c t.heap (locs ++ L) (0 + 1) (0 + 6) Q (F0 m hpc ls [.ref x]) := by
      rcases hast with ⟨i, d1, d2, rfl⟩ | ⟨d1, rfl⟩
      · exact lv_astore_n hx hb d1 d2 hl hj rfl (fun ls' hl' => hWt t.heap ls' (locs ++ L) (am_lv_more hl' (am_set_none hg2)) hP1 (hD1.weaken (fun _ q _ z => hfree q.1 z)) hS')
      · exact lv_astore hx hb d1 hl hj rfl (fun ls' hl' => hWt t.heap ls' (locs ++ L) (am_lv_more hl' (am_set_none hg2)) hP1 (hD1.weaken (fun _ q _ z => hfree q.1 z)) hS')
    obtain ⟨t2, a1, b2⟩ := K ((am_left (T.setVm vm₁) t).setVm vm') rfl X3
    refine ⟨t2, hgo t2 ?_, b2⟩
    rw [et]
    exact hgo3 t2 a1
end TRY
end
section
/-! the law's helpers: static methods with handlers round one call -/
abbrev am_Hs : Type := List (Nat × Nat × Nat × Nat)
def am_wsH (y : MethodName) (b : ByteArray) (nL : Nat) (hs : am_Hs) : List Cond := .codeWith y b nL (some .int) hs :: lw_good
def am_QH (dC : Nat → ClassId) (dI : Nat → Nat → Nat) (dA : Nat → ClassId) (A : Nat → Nat) (Rp : am_P) (ws0 : va_W) (sz : Nat) : Array Value → State → Outcome → State → Prop := fun a st oc t =>
  am_Q dC dI dA A Rp ws0 sz a st oc t ∧ ∃ L, FrameEnd st oc t L 1 6 ∧ ∀ q ∈ L, va_A ws0 sz q.base
def am_MetH (l : Launch) (y : MethodName) (b : ByteArray) (nL : Nat) (hs : am_Hs) (d w : Nat) (M : am_M) : Prop :=
  ∀ (dC : Nat → ClassId) (dI : Nat → Nat → Nat) (dA : Nat → ClassId) (A : Nat → Nat) (h : am_H) (as : List Value) (Rp : am_P) (sz : Nat), M as h Rp →
    MetFree l y (headSpec (am_wsH y b nL hs) (am_rmX d w)) (va_Pc (as.map (am_v A)) (am_B dC dI dA A h sz)) (fun _ _ _ _ _ => True) (am_QH dC dI dA A Rp (am_c dA A 0 h) sz)
/-- where a handler's table goes for a kind of exception: (the handler's pc, the local that takes the object, the pc behind the store) -/
abbrev am_Tb : Type := Nat → Option (Nat × Nat × Nat)
/-- behind the call: its answer, or the handler -/
def am_cont (acts : Nat → am_A) (Rp : am_P) (tb : am_Tb) (n : Nat) (lo : am_L) (r : List Value) : am_P := fun o h => match o with
  | .inr v => am_Wp acts (fun o h' => am_ok (some .int) o ∧ Rp o h') n lo (v.toList ++ r) h
  | .inl k => match tb k with
    | some q => am_g2 lo q.2.1 = true ∧ am_Wp acts (fun o h' => am_ok (some .int) o ∧ Rp o h') q.2.2 (lo.set q.2.1 none) [] h
    | none => False
/-- the state at the call -/
def am_atCall (acts : Nat → am_A) (Rp : am_P) (tb : am_Tb) (M : am_M) (ci np cpc : Nat) : am_K := fun pc lo st h => pc = cpc ∧ ∃ (a : Nat) (as r : List Value) (fs : List Value), st = as.reverse ++ .ref a :: r ∧ as.length = np ∧ h[a]? = some (.inr (ci, fs)) ∧ (r.map fun v => v.category).sum ≤ 8 ∧ M (.ref a :: as) h (am_cont acts Rp tb (cpc + 3) lo r)
def am_MofH (acts : Nat → am_A) (nL : Nat) (tb : am_Tb) (M : am_M) (ci np cpc : Nat) : am_M := fun as h Rp => (lg_sl as).length ≤ nL ∧ am_Wx acts (fun _ _ => False) (am_atCall acts Rp tb M ci np cpc) 0 (am_l0 as nL) [] h
set_option maxHeartbeats 2000000 in
theorem am_metH {y : MethodName} {b : ByteArray} {nL d w ci np cpc index : Nat} {hs : am_Hs} {acts : Nat → am_A} {tb : am_Tb} {M : am_M} {y' : MethodName} {b' : ByteArray} {maxL d' w' N : Nat} {ret' : Option FieldType} {T0 : u_T} {l : Launch} (hy : plainFor y = true) (hsnd : ∀ pc, am_Snd am_En b nL y.cls d w pc (acts pc))
    (hc : vwCl[ci]? = some (y'.cls, T0, N)) (hM : am_MetX l y' b' maxL ret' d' w' M) (hd' : d' < d) (hmx : 19 + maxL + w' ≤ w) (hcode : Cond.code y' b' maxL ret' ∈ lw_good) (hini : Cond.initialized y'.cls ∈ lw_good) (hlink : Cond.methodLink y.cls index y' ∈ lw_good) (hin : Cond.instanceMethod y' ∈ lw_good) (hse : Cond.selects y'.cls y' y' ∈ lw_good)
    (hdesc : y'.cls ≠ "java/lang/invoke/MethodHandle" ∧ y'.cls ≠ "java/lang/invoke/VarHandle" ∧ (parseMethodDescriptor y'.desc).map (fun d => d.parameters.length) = some np) (hdg : decode b cpc = .ok (.invokevirtual index, 3))
    (hrow : ∀ (e : Env) (s : State) (m : MethodId) (args : Array Value) (A : Nat → Nat) (A0 : Nat → Prop), e.platform.magicAccessors = ({} : Platform).magicAccessors → s.vm.findClass y.cls = some m.cls → (∀ w ∈ lw_good, w.before args s = true) → am_En A A0 s → ∀ (k : Nat) (q : Nat × Nat × Nat), tb k = some q → (∀ cX, s.vm.findClass (am_kind k) = some cX → am_Rows e.platform s m.cls cpc cX q.1 (tableOf hs)))
    (hast : ∀ (k : Nat) (q : Nat × Nat × Nat), tb k = some q → ((∃ i : Fin 4, decode b q.1 = .ok (.astore_n i, 1) ∧ (i : Nat) = q.2.1 ∧ q.2.2 = q.1 + 1) ∨ (decode b q.1 = .ok (.astore q.2.1, 2) ∧ q.2.2 = q.1 + 2)) ∧ q.2.1 < nL) : am_MetH l y b nL hs d w (am_MofH acts nL tb M ci np cpc) := by
  intro dC dI dA A h as Rp sz hMM
  obtain ⟨hfit, hMM⟩ := hMM
  refine MetFree.of_bodySF (code := b) (maxLocals := nL) (ret := some .int) hy ?_ ?_
  · intro args s m h hn
    obtain ⟨m', meth, c, hn', h1, h2, h3, h4, -, h5, h6, -⟩ := Cond.codeWith_spec (show (Cond.codeWith y b nL (some .int) hs).holds args s none s [] = true from atoms_spec (ws := am_wsH y b nL hs) h _ List.mem_cons_self)
    cases hn.symm.trans hn'
    exact ⟨meth, c, h1, h2, h3, h4, h5, h6⟩
  intro p e s m args below meth c s₁ B hml hpc _
  obtain ⟨rfl, hsz, hP, hK, hD, hE⟩ := hpc
  subst hsz
  have hts : ∀ w ∈ am_wsH y b nL hs, w.before (as.map (am_v A)).toArray s = true := atoms_spec (ws := am_wsH y b nL hs) B.pre
  have hgood : ∀ w ∈ lw_good, w.before (as.map (am_v A)).toArray s = true := fun w hw => hts w (List.mem_cons_of_mem _ hw)
  have hown : s.vm.findClass y.cls = some m.cls := findClass_of_methodNamed B.named
  have hr : meth.sig.returnType = some .int := B.returns
  have hlk : meth.locks = false := B.notSynchronized
  have hx := B.exec
  have hb := B.bytes
  have hpl : e.platform.magicAccessors = ({} : Platform).magicAccessors := by rw [B.admits.platform]
  have htab : c.exceptionTable.toList = tableOf hs := by
    obtain ⟨m', meth', c', hn', h1, h2, -, -, h3, -⟩ := Cond.codeWith_spec (show (Cond.codeWith y b nL (some .int) hs).holds (as.map (am_v A)).toArray s none s [] = true from hts _ List.mem_cons_self)
    cases B.named.symm.trans hn'
    cases B.method.symm.trans h1
    cases (Stand.of_body B).code.symm.trans h2
    rw [← h3, table_eq]
  have hC0 : am_C am_En b nL y.cls d w p (headSpec (am_wsH y b nL hs) (am_rmX d w)).room s m (as.map (am_v A)).toArray c dC dI dA A (va_A (am_c dA A 0 h) s.heap.size) 0 0 :=
    ⟨hx, hb, hml, hown, hgood, hK, fun q hq => Or.inr hq, hE, Nat.le_refl _, Nat.le_refl _, Nat.zero_le _, Nat.zero_le _⟩
  have hC1 : am_C am_En b nL y.cls d w p (headSpec (am_wsH y b nL hs) (am_rmX d w)).room s m (as.map (am_v A)).toArray c dC dI dA A (va_A (am_c dA A 0 h) s.heap.size) 1 6 :=
    ⟨hx, hb, hml, hown, hgood, hK, fun q hq => Or.inr hq, hE, Nat.le_refl _, Nat.le_refl _, Nat.le_refl _, Nat.le_refl _⟩
  have hE0 : am_End y.cls b p l e (headSpec (am_wsH y b nL hs) (am_rmX d w)).room s m (as.map (am_v A)).toArray below meth c (MQ below (am_Q dC dI dA A Rp (am_c dA A 0 h) s.heap.size) (as.map (am_v A)).toArray s 1 6 (va_A (am_c dA A 0 h) s.heap.size)) nL dC dI dA A (va_A (am_c dA A 0 h) s.heap.size) 0 0 (fun _ _ => False) :=
    ⟨fun x h' H locs ls pc hR => hR.elim, fun x h' H locs ls pc hR => hR.elim, fun h' H locs ls pc hR => hR.elim, fun k h' H locs ls pc hR => hR.elim⟩
  have hE1 : am_End y.cls b p l e (headSpec (am_wsH y b nL hs) (am_rmX d w)).room s m (as.map (am_v A)).toArray below meth c (MQ below (am_Q dC dI dA A Rp (am_c dA A 0 h) s.heap.size) (as.map (am_v A)).toArray s 1 6 (va_A (am_c dA A 0 h) s.heap.size)) nL dC dI dA A (va_A (am_c dA A 0 h) s.heap.size) 1 6 (fun o h' => am_ok (some .int) o ∧ Rp o h') := by
    refine ⟨fun x h' H locs ls pc hR hP' hD' hS' hd => ?_, fun x h' H locs ls pc hR => hR.1.elim, fun h' H locs ls pc hR => hR.1.elim, fun k h' H locs ls pc hR => hR.1.elim⟩
    exact W.iret hx hb hr (fun t ht hW => ⟨⟨some (.int x), h', rfl, hR.2, by rw [ht]; exact hP', va_K.moved hW.alike hK, hD'⟩, hS'.F ht⟩) hS'.2.2 hd hlk
  have hWp : ∀ {pc : Nat} {lo : am_L} {st : List Value} {h' : am_H}, am_Wp acts (fun o h' => am_ok (some .int) o ∧ Rp o h') pc lo st h' → am_W p l e (headSpec (am_wsH y b nL hs) (am_rmX d w)).room s m (as.map (am_v A)).toArray below meth c (MQ below (am_Q dC dI dA A Rp (am_c dA A 0 h) s.heap.size) (as.map (am_v A)).toArray s 1 6 (va_A (am_c dA A 0 h) s.heap.size)) nL dC dI dA A (va_A (am_c dA A 0 h) s.heap.size) 1 6 pc lo st h' := fun k =>
    k _ (fun pc lo st h K ha hk => hsnd pc p l e _ s m _ below meth c _ dC dI dA A _ 1 6 _ hC1 hE1 lo st h K ha hk) (fun pc lo lo' st h hle hk H ls locs hl hP hD hS => hk H ls locs (am_lv_more hl (am_le_lv hle)) hP hD hS)
  have key := am_soundX hsnd hC0 hE0 (fun pc lo st h' hX => by
    obtain ⟨rfl, a, as', r, fs, e1, e2, e3, e4, e5⟩ := hX
    refine am_try hC0 hc hM hd' hmx (Nat.le_refl 1) (Nat.le_refl 6) hcode hini hlink hin hse hdesc hdg e1 e2 e3 e4 e5 (fun v h2 hR => hWp hR) (fun k h2 hR => ?_)
    simp only [am_cont] at hR
    split at hR
    · rename_i q hq
      refine ⟨q.1, q.2.1, q.2.2, ?_, (hast k q hq).1, (hast k q hq).2, hR.1, hWp hR.2⟩
      rw [htab]
      exact hrow e s m _ A _ hpl hown hgood hE k q hq
    · exact hR.elim) hMM
  have X₀ : Stand p l e (headSpec (am_wsH y b nL hs) (am_rmX d w)).room s m (as.map (am_v A)).toArray below meth c s₁ [] 0 0 := Stand.of_body B
  have hh0 : s₁.heap = s.heap := by rw [B.state]; rfl
  rw [lg_entry_eq]
  obtain ⟨t, a1, o, b1, b2, b3, L, b4, b5⟩ := key s.heap _ [] (am_lv_more (lv_entry _ (by rw [am_sl_len]; exact hfit)) (fun q hq => am_l0_args A as nL 0 q hq)) hP hD.self va_S.rf s₁ hh0 X₀
  exact ⟨t, o, a1, b1, b2, b3, L, b4, b5⟩
end
section
/-! the law's call of a helper -/
section HC
variable {p : Program} {l : Launch} {e : Env} {R : Room} {s : State} {m : MethodId} {args : Array Value} {below : List Frame} {meth : Method} {c : Code}
theorem am_invokeS {T : State} {locs : List Loc} {cells slots : Nat} (X : Stand p l e R s m args below meth c T locs cells slots) (hexec : p.tables.exec = Jvm.exec) {own : String} {index : Nat} {y : MethodName} {bytes : ByteArray} {maxL : Nat} {ret : Option FieldType} {hs : am_Hs} {ws : List Cond} {rm : Room} {P : Array Value → State → Prop} {Q : Array Value → State → Outcome → State → Prop}
    (hown : s.vm.findClass own = some m.cls) (hlink : (Cond.methodLink own index y).before args s = true) (hstat : (Cond.static y).before args s = true) (hini : (Cond.initialized y.cls).before args s = true)
    (hcode : (Cond.codeWith y bytes maxL ret hs).before args s = true) (hy : y.cls ≠ "java/lang/invoke/MethodHandle" ∧ y.cls ≠ "java/lang/invoke/VarHandle") (hM : MetFree l y (headSpec ws rm) P (fun _ _ _ _ _ => True) Q) (hws : ∀ w ∈ ws, ∀ (a' : Array Value) (U : State), s.WarmedH U.vm → w.before a' U = true)
    (hfr : rm.frames + 1 ≤ R.frames) (hlo : 8 + (maxL + 11) + rm.locals ≤ R.locals) (hce : cells + rm.cells ≤ R.cells) (hsl : slots + rm.slots ≤ R.slots)
    {g : JFrame} (hg : g.method = m) (hsize : g.locals.size = c.maxLocals) {argsL rest : List Value} (hlen : ∀ sig, parseMethodDescriptor y.desc = some sig → argsL.length = sig.parameters.length) (hstack : g.stack = argsL.reverse ++ rest) (hW : 2 * g.monitorRoom + (rest.map fun v => v.category).sum ≤ 8) (hdg : decode c.code g.pc = .ok (.invokestatic index, 3))
    (hP : ∀ (U : State), U.heap = T.heap → s.WarmedH U.vm → P argsL.toArray U) :
    ∃ (vm₁ : Vm) (mk : MethodId) (o : Outcome) (t : State), s.WarmedH vm₁ ∧ Stand p l e R s m args below meth c (T.setVm vm₁) locs cells slots ∧ Ended t ((T.setVm vm₁).setTop { g with stack := rest }).frames o ∧
      Q argsL.toArray ((T.setVm vm₁).calling { g with stack := rest } mk argsL.toArray) o t ∧ ∀ target, Steps p.tables e below t target → Steps p.tables e below (T.setTop g) target := by
  obtain ⟨mk, methM, cM, hnamed, hmethM, hcM, -, hlM, -, -, -, hsigM⟩ := Cond.codeWith_spec (show (Cond.codeWith y bytes maxL ret hs).holds args s none s [] = true from hcode)
  have hstatic : methM.isStatic = true := Cond.static_spec hnamed hmethM hstat
  obtain ⟨kP, hkP, -⟩ := className_of_methodNamed hnamed
  have hinitP : kP.init = .initialized := Cond.initialized_spec (findClass_of_methodNamed hnamed) hkP hini
  obtain ⟨vm₁, X₁, hstep₁⟩ := X.invokestatic hexec hown hlink hnamed hmethM hstatic hkP hinitP hy (g := g) hg (argsL := argsL) (rest := rest) (hlen _ hsigM) hstack hdg
  obtain ⟨kP₁, hkP₁, heP₁⟩ := X₁.warmed.alike.2.2 _ _ hkP
  have hAt : At (T.setVm vm₁) ({ g with stack := rest } : JFrame).method c below := by show At (T.setVm vm₁) g.method c below; rw [hg]; exact X₁.here
  have happ : (headSpec ws rm).appliesLoose y e.platform ((T.setVm vm₁).calling { g with stack := rest } mk argsL.toArray) = true :=
    Spec.appliesLoose_calling (g := { g with stack := rest }) hAt hdg (X₁.named hnamed) hkP₁ (by rw [heP₁]; exact hinitP)
      (X₁.room_calling (g := { g with stack := rest }) (R' := (headSpec ws rm).room) hsize (show (T.setVm vm₁).vm.method? mk = some methM by rw [X₁.warmed.alike.method?]; exact hmethM) hcM hfr (by rw [hlM]; show 2 * ({ g with stack := rest } : JFrame).monitorRoom + (rest.map fun v => v.category).sum + (maxL + 11) + rm.locals ≤ R.locals; have : ({ g with stack := rest } : JFrame).monitorRoom = g.monitorRoom := rfl; omega) hce hsl)
      (atoms_intro fun w hw => hws w hw _ _ X₁.warmed)
  obtain ⟨mid, hmid⟩ := hAt.above
  have hfrm : ((T.setVm vm₁).setTop { g with stack := rest }).frames = (.java { g with stack := rest } :: mid) ++ below := by rw [State.frames_setTop' _ hAt.top, hmid]; rfl
  obtain ⟨o, t, hsteps, -, hend, hq⟩ := Steps.callFree hM p X.admits X.cas X.clock (acts := []) hfrm happ (hP _ rfl X₁.warmed) trivial
  exact ⟨vm₁, mk, o, t, X₁.warmed, X₁, hend, hq, fun target h => hstep₁ _ fun acts => by rw [doInvoke_state]; exact hsteps.trans h⟩
variable {Q : State → Prop} {dC : Nat → ClassId} {dI : Nat → Nat → Nat} {dA : Nat → ClassId} {A : Nat → Nat} {A0 : Nat → Prop} {cc : ByteArray} {nL d w pc cells slots : Nat} {own : String} {En : (Nat → Nat) → (Nat → Prop) → State → Prop}
set_option maxHeartbeats 1000000 in
theorem am_callH {M : am_M} {d' w' index maxL : Nat} {y : MethodName} {b : ByteArray} {hs : am_Hs} (hEn : ∀ A A0 s, En A A0 s → am_En A A0 s) (hC : am_C En cc nL own d w p R s m args c dC dI dA A A0 cells slots) (hM : am_MetH l y b maxL hs d' w' M) (hd' : d' < d) (hmx : 19 + maxL + w' ≤ w) (hR1 : cells + 1 ≤ R.cells) (hR2 : slots + 6 ≤ R.slots)
    (hcode : Cond.codeWith y b maxL (some .int) hs ∈ lw_good) (hini : Cond.initialized y.cls ∈ lw_good) (hlink : Cond.methodLink own index y ∈ lw_good) (hst : Cond.static y ∈ lw_good) {np : Nat}
    (hdesc : y.cls ≠ "java/lang/invoke/MethodHandle" ∧ y.cls ≠ "java/lang/invoke/VarHandle" ∧ (parseMethodDescriptor y.desc).map (fun d => d.parameters.length) = some np) (hdg : decode cc pc = .ok (.invokestatic index, 3))
    {lo : am_L} {st as r : List Value} {h : am_H} (hstk : st = as.reverse ++ r) (hnp : as.length = np) (hroom : (r.map fun v => v.category).sum ≤ 8) {Rp : am_P} (ha : M as h Rp)
    (hret : ∀ v h', Rp (.inr v) h' → am_W p l e R s m args below meth c Q nL dC dI dA A A0 (cells + 1) (slots + 6) (pc + 3) lo (v.toList ++ r) h') :
    am_W p l e R s m args below meth c Q nL dC dI dA A A0 cells slots pc lo st h := by
  obtain ⟨hx, hb, hml, hown, hts, hK, hA, hEnv, hf, hlo, -, -⟩ := id hC
  intro H ls locs hl hP hD hS T hT X
  have hfree := am_free hD hS hA
  have hws : ∀ w ∈ am_wsH y b maxL hs, ∀ (a' : Array Value) (U : State), s.WarmedH U.vm → w.before a' U = true := pay_in hts (fun w hw => by
    have hm : w ∈ lw_good := by
      rcases List.mem_cons.mp hw with rfl | hw
      · exact hcode
      · exact hw
    exact ⟨hm, am_good hm⟩)
  obtain ⟨vm₁, mk, o, t, hW1, X1, hend, hq, hgo⟩ := am_invokeS X hx (bytes := b) (maxL := maxL) (ret := some .int) (hs := hs) hown (hts _ hlink) (hts _ hst) (hts _ hini) (hts _ hcode) ⟨hdesc.1, hdesc.2.1⟩ (hM dC dI dA A h as Rp H.size ha) hws
    (by show d' + 1 ≤ R.frames; omega) (by show 8 + (maxL + 11) + w' ≤ R.locals; omega) hR1 hR2 (g := F0 m pc ls (st.map (am_v A))) rfl (by show ls.size = c.maxLocals; rw [hl.1, hml]) (argsL := as.map (am_v A)) (rest := r.map (am_v A))
    (fun sig hsig => by rw [List.length_map, hnp]; have h2 := hdesc.2.2; rw [hsig] at h2; exact (Option.some.inj h2).symm) (by show st.map (am_v A) = _; rw [hstk, List.map_append, List.map_reverse]) (lv_room (by rw [am_cat_sum]; exact hroom)) (by rw [hb]; exact hdg)
    (fun U hU hW => am_pre_call (as := as.map (am_v A)) hEn hC hP hD hS U (hU.trans hT) hW)
  have hAt : At (T.setVm vm₁) ({ (F0 m pc ls (st.map (am_v A))) with stack := r.map (am_v A) } : JFrame).method c below := X1.here
  obtain ⟨⟨⟨v, h', hv, hR, hP1, hK1, hD1⟩, hz, hk1⟩, L, ⟨-, hW2, hs2⟩, hL⟩ := hq
  obtain ⟨b1, -, b3⟩ := am_back hAt hend hW2 hs2
  have X2 := am_stand_left X1 hW2 b1
  have et := b3 _ _ _ hv (by show decode c.code pc = _; rw [hb]; exact hdg)
  have hz' : H.size ≤ t.heap.size := by rw [← hT]; exact hz
  have hk' : ∀ q : Nat, q < H.size → ¬ va_A (am_c dA A 0 h) H.size q → t.heap[q]? = H[q]? := fun q g1 g2 => (hk1 q (by show q < T.heap.size; rw [hT]; exact g1) g2).trans (by show T.heap[q]? = H[q]?; rw [hT])
  have hS' : va_S A0 s.heap t.heap (locs ++ L) := by
    refine ⟨Nat.le_trans hS.1 hz', fun q g1 g2 => ?_, fun q hq => ?_⟩
    · rw [hk' q (Nat.lt_of_lt_of_le g1 hS.1) (fun z => g2 (hfree q z))]
      exact hS.2.1 q g1 g2
    · rcases List.mem_append.mp hq with h | h
      · exact hS.2.2 q h
      · exact hfree _ (hL q h)
  obtain ⟨t2, a1, b2⟩ := hret v h' hR t.heap ls (locs ++ L) hl hP1 (hD1.weaken (fun _ q _ z => hfree q.1 z)) hS' (am_left (T.setVm vm₁) t) rfl X2
  refine ⟨t2, hgo t2 ?_, b2⟩
  rw [et]
  have es : (v.toList ++ r).map (am_v A) = (v.map (am_v A)).toList ++ r.map (am_v A) := by cases v <;> simp
  rw [es] at a1
  exact a1
end HC
end
section
/-! the law's own script -/
def am_scr : Nat := 200000
def am_EnL (L : Nat) (xs : Nat → Int32) (A : Nat → Nat) (A0 : Nat → Prop) (s : State) : Prop := am_En A A0 s ∧ va_X (A am_scr) L xs s s.heap ∧ A am_scr < s.heap.size ∧ ¬ A0 (A am_scr)
section SC
variable {L : Nat} {xs : Nat → Int32} {cc : ByteArray} {nL d w pc : Nat} {own : String}
theorem am_s_xld (hd : decode cc pc = .ok (.iaload, 1)) : am_Snd (am_EnL L xs) cc nL own d w pc (am_sld am_scr L xs (pc + 1)) := by
  intro p l e R s m args below meth c Q dC dI dA A A0 cells slots Rp hC hE lo st h K ha hk H ls locs hl hP hD hS
  unfold am_sld at ha
  split at ha
  · rename_i i a r
    obtain ⟨⟨rfl, hi⟩, ha⟩ := ha
    obtain ⟨-, q1, q2, q3⟩ := hC.2.2.2.2.2.2.2.1
    exact va_sld hC.1 hC.2.1 q1 q2 q3 hS hi hd (hk _ _ _ _ ha H ls locs hl hP hD hS)
  · exact ha.elim
theorem am_s_xlen (hd : decode cc pc = .ok (.arraylength, 1)) : am_Snd (am_EnL L xs) cc nL own d w pc (am_slen am_scr L (pc + 1)) := by
  intro p l e R s m args below meth c Q dC dI dA A A0 cells slots Rp hC hE lo st h K ha hk H ls locs hl hP hD hS
  unfold am_slen at ha
  split at ha
  · rename_i a r
    obtain ⟨rfl, ha⟩ := ha
    obtain ⟨-, q1, q2, q3⟩ := hC.2.2.2.2.2.2.2.1
    exact va_slen hC.1 hC.2.1 q1 q2 q3 hS hd (hk _ _ _ _ ha H ls locs hl hP hD hS)
  · exact ha.elim
end SC
theorem am_atoms {own X : String} {ic : Nat} (h : (Bundle.ownAtoms own ic X am_up).all (fun w => (decide (w ∈ lw_tbl) && (goodWord w || am_isNest w)) || am_isTh w) = true) : ∀ w ∈ Bundle.ownAtoms own ic X am_up, w ∈ lw_good ∨ w ∈ lw_nest ∨ am_isTh w = true := by
  intro w hw
  have h1 := List.all_eq_true.mp h w hw
  simp only [Bool.or_eq_true, Bool.and_eq_true, decide_eq_true_eq] at h1
  rcases h1 with ⟨h2, h3 | h3⟩ | h3
  · exact Or.inl (List.mem_filter.mpr ⟨h2, h3⟩)
  · exact Or.inr (Or.inl (List.mem_filter.mpr ⟨h2, h3⟩))
  · exact Or.inr (Or.inr h3)
end
