section
-- ===== PART A: goes FIRST, ahead of the names: the tables' words, and 'selects' of the private methods out of them =====
/-- a private method of a class that the tables say can be made, by its rows of tables_1 -/
def lw_okq (q : MethodName × Nat) : Prop := (q.1.cls ≠ "java/lang/invoke/MethodHandle" ∧ q.1.cls ≠ "java/lang/invoke/VarHandle") ∧ Cond.instantiable q.1.cls q.2 ∈ tables_1 ∧ Cond.privateMethod q.1 ∈ tables_1 ∧ Cond.instanceMethod q.1 ∈ tables_1
theorem lw_p0 : lw_okq (⟨"ImposeSheets$SchemeReader", "readSize", "(LImposeSheets$Scheme;)Z"⟩, 5) := ⟨⟨by decide +kernel, by decide +kernel⟩, List.mem_of_getElem? (i := 43) (by decide +kernel), List.mem_of_getElem? (i := 246) (by decide +kernel), List.mem_of_getElem? (i := 247) (by decide +kernel)⟩
theorem lw_p1 : lw_okq (⟨"ImposeSheets$SchemeReader", "readNumber", "(I)Z"⟩, 5) := ⟨⟨by decide +kernel, by decide +kernel⟩, List.mem_of_getElem? (i := 43) (by decide +kernel), List.mem_of_getElem? (i := 250) (by decide +kernel), List.mem_of_getElem? (i := 251) (by decide +kernel)⟩
theorem lw_p2 : lw_okq (⟨"ImposeSheets$SchemeReader", "next", "()I"⟩, 5) := ⟨⟨by decide +kernel, by decide +kernel⟩, List.mem_of_getElem? (i := 43) (by decide +kernel), List.mem_of_getElem? (i := 254) (by decide +kernel), List.mem_of_getElem? (i := 255) (by decide +kernel)⟩
theorem lw_p3 : lw_okq (⟨"ImposeSheets$SchemeReader", "failAt", "(I)Z"⟩, 5) := ⟨⟨by decide +kernel, by decide +kernel⟩, List.mem_of_getElem? (i := 43) (by decide +kernel), List.mem_of_getElem? (i := 265) (by decide +kernel), List.mem_of_getElem? (i := 266) (by decide +kernel)⟩
theorem lw_p4 : lw_okq (⟨"ImposeSheets$SchemeReader", "expect", "(I)Z"⟩, 5) := ⟨⟨by decide +kernel, by decide +kernel⟩, List.mem_of_getElem? (i := 43) (by decide +kernel), List.mem_of_getElem? (i := 278) (by decide +kernel), List.mem_of_getElem? (i := 279) (by decide +kernel)⟩
theorem lw_p5 : lw_okq (⟨"ImposeSheets$SchemeReader", "readFolds", "(LImposeSheets$Scheme;)Z"⟩, 5) := ⟨⟨by decide +kernel, by decide +kernel⟩, List.mem_of_getElem? (i := 43) (by decide +kernel), List.mem_of_getElem? (i := 286) (by decide +kernel), List.mem_of_getElem? (i := 287) (by decide +kernel)⟩
theorem lw_p6 : lw_okq (⟨"ImposeSheets$Folding", "layOut", "(LImposeSheets$Scheme;)V"⟩, 7) := ⟨⟨by decide +kernel, by decide +kernel⟩, List.mem_of_getElem? (i := 49) (by decide +kernel), List.mem_of_getElem? (i := 316) (by decide +kernel), List.mem_of_getElem? (i := 317) (by decide +kernel)⟩
theorem lw_p7 : lw_okq (⟨"ImposeSheets$Folding", "foldOnce", "(I)Z"⟩, 7) := ⟨⟨by decide +kernel, by decide +kernel⟩, List.mem_of_getElem? (i := 49) (by decide +kernel), List.mem_of_getElem? (i := 320) (by decide +kernel), List.mem_of_getElem? (i := 321) (by decide +kernel)⟩
theorem lw_p8 : lw_okq (⟨"ImposeSheets$Folding", "foldAcross", "(I)V"⟩, 7) := ⟨⟨by decide +kernel, by decide +kernel⟩, List.mem_of_getElem? (i := 49) (by decide +kernel), List.mem_of_getElem? (i := 324) (by decide +kernel), List.mem_of_getElem? (i := 325) (by decide +kernel)⟩
theorem lw_p9 : lw_okq (⟨"ImposeSheets$Folding", "putOver", "(III)V"⟩, 7) := ⟨⟨by decide +kernel, by decide +kernel⟩, List.mem_of_getElem? (i := 49) (by decide +kernel), List.mem_of_getElem? (i := 328) (by decide +kernel), List.mem_of_getElem? (i := 329) (by decide +kernel)⟩
theorem lw_p10 : lw_okq (⟨"ImposeSheets$Folding", "foldDown", "(I)V"⟩, 7) := ⟨⟨by decide +kernel, by decide +kernel⟩, List.mem_of_getElem? (i := 49) (by decide +kernel), List.mem_of_getElem? (i := 332) (by decide +kernel), List.mem_of_getElem? (i := 333) (by decide +kernel)⟩
theorem lw_p11 : lw_okq (⟨"ImposeSheets$Folding", "takePile", "(LImposeSheets$Scheme;)V"⟩, 7) := ⟨⟨by decide +kernel, by decide +kernel⟩, List.mem_of_getElem? (i := 49) (by decide +kernel), List.mem_of_getElem? (i := 336) (by decide +kernel), List.mem_of_getElem? (i := 337) (by decide +kernel)⟩
theorem lw_p12 : lw_okq (⟨"ImposeSheets$SchemeReader", "readPages", "(LImposeSheets$Scheme;)Z"⟩, 5) := ⟨⟨by decide +kernel, by decide +kernel⟩, List.mem_of_getElem? (i := 43) (by decide +kernel), List.mem_of_getElem? (i := 340) (by decide +kernel), List.mem_of_getElem? (i := 341) (by decide +kernel)⟩
theorem lw_p13 : lw_okq (⟨"ImposeSheets$SchemeReader", "readSide", "(LImposeSheets$Scheme;I)Z"⟩, 5) := ⟨⟨by decide +kernel, by decide +kernel⟩, List.mem_of_getElem? (i := 43) (by decide +kernel), List.mem_of_getElem? (i := 344) (by decide +kernel), List.mem_of_getElem? (i := 345) (by decide +kernel)⟩
theorem lw_p14 : lw_okq (⟨"ImposeSheets$Scheme", "isToldRight", "(II)Z"⟩, 8) := ⟨⟨by decide +kernel, by decide +kernel⟩, List.mem_of_getElem? (i := 172) (by decide +kernel), List.mem_of_getElem? (i := 371) (by decide +kernel), List.mem_of_getElem? (i := 372) (by decide +kernel)⟩
theorem lw_p15 : lw_okq (⟨"ImposeSheets$Scheme", "leafOf", "(I)I"⟩, 8) := ⟨⟨by decide +kernel, by decide +kernel⟩, List.mem_of_getElem? (i := 172) (by decide +kernel), List.mem_of_getElem? (i := 379) (by decide +kernel), List.mem_of_getElem? (i := 380) (by decide +kernel)⟩
def lw_privs_1 : List (MethodName × Nat) := [(⟨"ImposeSheets$SchemeReader", "readSize", "(LImposeSheets$Scheme;)Z"⟩, 5), (⟨"ImposeSheets$SchemeReader", "readNumber", "(I)Z"⟩, 5), (⟨"ImposeSheets$SchemeReader", "next", "()I"⟩, 5), (⟨"ImposeSheets$SchemeReader", "failAt", "(I)Z"⟩, 5), (⟨"ImposeSheets$SchemeReader", "expect", "(I)Z"⟩, 5), (⟨"ImposeSheets$SchemeReader", "readFolds", "(LImposeSheets$Scheme;)Z"⟩, 5), (⟨"ImposeSheets$Folding", "layOut", "(LImposeSheets$Scheme;)V"⟩, 7), (⟨"ImposeSheets$Folding", "foldOnce", "(I)Z"⟩, 7), (⟨"ImposeSheets$Folding", "foldAcross", "(I)V"⟩, 7), (⟨"ImposeSheets$Folding", "putOver", "(III)V"⟩, 7), (⟨"ImposeSheets$Folding", "foldDown", "(I)V"⟩, 7), (⟨"ImposeSheets$Folding", "takePile", "(LImposeSheets$Scheme;)V"⟩, 7), (⟨"ImposeSheets$SchemeReader", "readPages", "(LImposeSheets$Scheme;)Z"⟩, 5), (⟨"ImposeSheets$SchemeReader", "readSide", "(LImposeSheets$Scheme;I)Z"⟩, 5), (⟨"ImposeSheets$Scheme", "isToldRight", "(II)Z"⟩, 8), (⟨"ImposeSheets$Scheme", "leafOf", "(I)I"⟩, 8)]
theorem lw_r1 : ∀ q ∈ lw_privs_1, lw_okq q := List.forall_mem_cons.mpr ⟨lw_p0, List.forall_mem_cons.mpr ⟨lw_p1, List.forall_mem_cons.mpr ⟨lw_p2, List.forall_mem_cons.mpr ⟨lw_p3, List.forall_mem_cons.mpr ⟨lw_p4, List.forall_mem_cons.mpr ⟨lw_p5, List.forall_mem_cons.mpr ⟨lw_p6, List.forall_mem_cons.mpr ⟨lw_p7, List.forall_mem_cons.mpr ⟨lw_p8, List.forall_mem_cons.mpr ⟨lw_p9, List.forall_mem_cons.mpr ⟨lw_p10, List.forall_mem_cons.mpr ⟨lw_p11, List.forall_mem_cons.mpr ⟨lw_p12, List.forall_mem_cons.mpr ⟨lw_p13, List.forall_mem_cons.mpr ⟨lw_p14, List.forall_mem_cons.mpr ⟨lw_p15, fun _ h => absurd h List.not_mem_nil⟩⟩⟩⟩⟩⟩⟩⟩⟩⟩⟩⟩⟩⟩⟩⟩
theorem lw_p16 : lw_okq (⟨"ImposeSheets$Scheme", "sideOf", "(I)I"⟩, 8) := ⟨⟨by decide +kernel, by decide +kernel⟩, List.mem_of_getElem? (i := 172) (by decide +kernel), List.mem_of_getElem? (i := 383) (by decide +kernel), List.mem_of_getElem? (i := 384) (by decide +kernel)⟩
theorem lw_p17 : lw_okq (⟨"java/lang/Throwable", "fillInStackTrace", "(I)Ljava/lang/Throwable;"⟩, 6) := ⟨⟨by decide +kernel, by decide +kernel⟩, List.mem_of_getElem? (i := 447) (by decide +kernel), List.mem_of_getElem? (i := 445) (by decide +kernel), List.mem_of_getElem? (i := 446) (by decide +kernel)⟩
theorem lw_p18 : lw_okq (⟨"ImposeSheets$Book", "findScale", "()I"⟩, 8) := ⟨⟨by decide +kernel, by decide +kernel⟩, List.mem_of_getElem? (i := 98) (by decide +kernel), List.mem_of_getElem? (i := 539) (by decide +kernel), List.mem_of_getElem? (i := 540) (by decide +kernel)⟩
theorem lw_p19 : lw_okq (⟨"ImposeSheets$Book", "isPageGreater", "()Z"⟩, 8) := ⟨⟨by decide +kernel, by decide +kernel⟩, List.mem_of_getElem? (i := 98) (by decide +kernel), List.mem_of_getElem? (i := 543) (by decide +kernel), List.mem_of_getElem? (i := 544) (by decide +kernel)⟩
theorem lw_p20 : lw_okq (⟨"ImposeSheets$Book", "placeOf", "(II)I"⟩, 8) := ⟨⟨by decide +kernel, by decide +kernel⟩, List.mem_of_getElem? (i := 98) (by decide +kernel), List.mem_of_getElem? (i := 574) (by decide +kernel), List.mem_of_getElem? (i := 575) (by decide +kernel)⟩
theorem lw_p21 : lw_okq (⟨"ImposeSheets$Book", "blanksBefore", "()I"⟩, 8) := ⟨⟨by decide +kernel, by decide +kernel⟩, List.mem_of_getElem? (i := 98) (by decide +kernel), List.mem_of_getElem? (i := 586) (by decide +kernel), List.mem_of_getElem? (i := 587) (by decide +kernel)⟩
theorem lw_p22 : lw_okq (⟨"ImposeSheets$Book", "leftEdge", "(III)I"⟩, 8) := ⟨⟨by decide +kernel, by decide +kernel⟩, List.mem_of_getElem? (i := 98) (by decide +kernel), List.mem_of_getElem? (i := 598) (by decide +kernel), List.mem_of_getElem? (i := 599) (by decide +kernel)⟩
theorem lw_p23 : lw_okq (⟨"ImposeSheets$Book", "creepOfPlace", "(I)I"⟩, 8) := ⟨⟨by decide +kernel, by decide +kernel⟩, List.mem_of_getElem? (i := 98) (by decide +kernel), List.mem_of_getElem? (i := 602) (by decide +kernel), List.mem_of_getElem? (i := 603) (by decide +kernel)⟩
theorem lw_p24 : lw_okq (⟨"ImposeSheets$Book", "depthOf", "(I)I"⟩, 8) := ⟨⟨by decide +kernel, by decide +kernel⟩, List.mem_of_getElem? (i := 98) (by decide +kernel), List.mem_of_getElem? (i := 606) (by decide +kernel), List.mem_of_getElem? (i := 607) (by decide +kernel)⟩
theorem lw_p25 : lw_okq (⟨"ImposeSheets$Book", "margin", "(II)I"⟩, 8) := ⟨⟨by decide +kernel, by decide +kernel⟩, List.mem_of_getElem? (i := 98) (by decide +kernel), List.mem_of_getElem? (i := 610) (by decide +kernel), List.mem_of_getElem? (i := 611) (by decide +kernel)⟩
theorem lw_p26 : lw_okq (⟨"ImposeSheets$Book", "topEdge", "(I)I"⟩, 8) := ⟨⟨by decide +kernel, by decide +kernel⟩, List.mem_of_getElem? (i := 98) (by decide +kernel), List.mem_of_getElem? (i := 614) (by decide +kernel), List.mem_of_getElem? (i := 615) (by decide +kernel)⟩
theorem lw_p27 : lw_okq (⟨"ImposeSheets$Sharing", "costOfWay", "(I)I"⟩, 12) := ⟨⟨by decide +kernel, by decide +kernel⟩, List.mem_of_getElem? (i := 129) (by decide +kernel), List.mem_of_getElem? (i := 705) (by decide +kernel), List.mem_of_getElem? (i := 706) (by decide +kernel)⟩
theorem lw_p28 : lw_okq (⟨"ImposeSheets$Sharing", "fillPlates", "()V"⟩, 12) := ⟨⟨by decide +kernel, by decide +kernel⟩, List.mem_of_getElem? (i := 129) (by decide +kernel), List.mem_of_getElem? (i := 709) (by decide +kernel), List.mem_of_getElem? (i := 710) (by decide +kernel)⟩
theorem lw_p29 : lw_okq (⟨"ImposeSheets$Sharing", "plateCount", "()I"⟩, 12) := ⟨⟨by decide +kernel, by decide +kernel⟩, List.mem_of_getElem? (i := 129) (by decide +kernel), List.mem_of_getElem? (i := 713) (by decide +kernel), List.mem_of_getElem? (i := 714) (by decide +kernel)⟩
theorem lw_p30 : lw_okq (⟨"ImposeSheets$Sharing", "greatestBefore", "(I)I"⟩, 12) := ⟨⟨by decide +kernel, by decide +kernel⟩, List.mem_of_getElem? (i := 129) (by decide +kernel), List.mem_of_getElem? (i := 717) (by decide +kernel), List.mem_of_getElem? (i := 718) (by decide +kernel)⟩
theorem lw_p31 : lw_okq (⟨"ImposeSheets$Sharing", "sheetsFor", "(I)I"⟩, 12) := ⟨⟨by decide +kernel, by decide +kernel⟩, List.mem_of_getElem? (i := 129) (by decide +kernel), List.mem_of_getElem? (i := 722) (by decide +kernel), List.mem_of_getElem? (i := 723) (by decide +kernel)⟩
def lw_privs_2 : List (MethodName × Nat) := [(⟨"ImposeSheets$Scheme", "sideOf", "(I)I"⟩, 8), (⟨"java/lang/Throwable", "fillInStackTrace", "(I)Ljava/lang/Throwable;"⟩, 6), (⟨"ImposeSheets$Book", "findScale", "()I"⟩, 8), (⟨"ImposeSheets$Book", "isPageGreater", "()Z"⟩, 8), (⟨"ImposeSheets$Book", "placeOf", "(II)I"⟩, 8), (⟨"ImposeSheets$Book", "blanksBefore", "()I"⟩, 8), (⟨"ImposeSheets$Book", "leftEdge", "(III)I"⟩, 8), (⟨"ImposeSheets$Book", "creepOfPlace", "(I)I"⟩, 8), (⟨"ImposeSheets$Book", "depthOf", "(I)I"⟩, 8), (⟨"ImposeSheets$Book", "margin", "(II)I"⟩, 8), (⟨"ImposeSheets$Book", "topEdge", "(I)I"⟩, 8), (⟨"ImposeSheets$Sharing", "costOfWay", "(I)I"⟩, 12), (⟨"ImposeSheets$Sharing", "fillPlates", "()V"⟩, 12), (⟨"ImposeSheets$Sharing", "plateCount", "()I"⟩, 12), (⟨"ImposeSheets$Sharing", "greatestBefore", "(I)I"⟩, 12), (⟨"ImposeSheets$Sharing", "sheetsFor", "(I)I"⟩, 12)]
theorem lw_r2 : ∀ q ∈ lw_privs_2, lw_okq q := List.forall_mem_cons.mpr ⟨lw_p16, List.forall_mem_cons.mpr ⟨lw_p17, List.forall_mem_cons.mpr ⟨lw_p18, List.forall_mem_cons.mpr ⟨lw_p19, List.forall_mem_cons.mpr ⟨lw_p20, List.forall_mem_cons.mpr ⟨lw_p21, List.forall_mem_cons.mpr ⟨lw_p22, List.forall_mem_cons.mpr ⟨lw_p23, List.forall_mem_cons.mpr ⟨lw_p24, List.forall_mem_cons.mpr ⟨lw_p25, List.forall_mem_cons.mpr ⟨lw_p26, List.forall_mem_cons.mpr ⟨lw_p27, List.forall_mem_cons.mpr ⟨lw_p28, List.forall_mem_cons.mpr ⟨lw_p29, List.forall_mem_cons.mpr ⟨lw_p30, List.forall_mem_cons.mpr ⟨lw_p31, fun _ h => absurd h List.not_mem_nil⟩⟩⟩⟩⟩⟩⟩⟩⟩⟩⟩⟩⟩⟩⟩⟩
theorem lw_p32 : lw_okq (⟨"ImposeSheets$Sharing", "leastSheets", "(I)I"⟩, 12) := ⟨⟨by decide +kernel, by decide +kernel⟩, List.mem_of_getElem? (i := 129) (by decide +kernel), List.mem_of_getElem? (i := 732) (by decide +kernel), List.mem_of_getElem? (i := 733) (by decide +kernel)⟩
theorem lw_p33 : lw_okq (⟨"ImposeSheets$Sharing", "slotsFor", "(II)I"⟩, 12) := ⟨⟨by decide +kernel, by decide +kernel⟩, List.mem_of_getElem? (i := 129) (by decide +kernel), List.mem_of_getElem? (i := 737) (by decide +kernel), List.mem_of_getElem? (i := 738) (by decide +kernel)⟩
theorem lw_p34 : lw_okq (⟨"ImposeSheets$Sharing", "takeWay", "()V"⟩, 12) := ⟨⟨by decide +kernel, by decide +kernel⟩, List.mem_of_getElem? (i := 129) (by decide +kernel), List.mem_of_getElem? (i := 742) (by decide +kernel), List.mem_of_getElem? (i := 743) (by decide +kernel)⟩
theorem lw_p35 : lw_okq (⟨"ImposeSheets$Sharing", "goToNextWay", "()Z"⟩, 12) := ⟨⟨by decide +kernel, by decide +kernel⟩, List.mem_of_getElem? (i := 129) (by decide +kernel), List.mem_of_getElem? (i := 746) (by decide +kernel), List.mem_of_getElem? (i := 747) (by decide +kernel)⟩
theorem lw_p36 : lw_okq (⟨"ImposeSheetsModel", "number", "(I)I"⟩, 55) := ⟨⟨by decide +kernel, by decide +kernel⟩, List.mem_of_getElem? (i := 766) (by decide +kernel), List.mem_of_getElem? (i := 952) (by decide +kernel), List.mem_of_getElem? (i := 953) (by decide +kernel)⟩
theorem lw_p37 : lw_okq (⟨"ImposeSheetsModel", "isDigit", "()Z"⟩, 55) := ⟨⟨by decide +kernel, by decide +kernel⟩, List.mem_of_getElem? (i := 766) (by decide +kernel), List.mem_of_getElem? (i := 956) (by decide +kernel), List.mem_of_getElem? (i := 957) (by decide +kernel)⟩
theorem lw_p38 : lw_okq (⟨"ImposeSheetsModel", "byteAt", "()I"⟩, 55) := ⟨⟨by decide +kernel, by decide +kernel⟩, List.mem_of_getElem? (i := 766) (by decide +kernel), List.mem_of_getElem? (i := 960) (by decide +kernel), List.mem_of_getElem? (i := 961) (by decide +kernel)⟩
theorem lw_p39 : lw_okq (⟨"ImposeSheetsModel", "fail", "(I)V"⟩, 55) := ⟨⟨by decide +kernel, by decide +kernel⟩, List.mem_of_getElem? (i := 766) (by decide +kernel), List.mem_of_getElem? (i := 964) (by decide +kernel), List.mem_of_getElem? (i := 965) (by decide +kernel)⟩
theorem lw_p40 : lw_okq (⟨"ImposeSheetsModel", "sign", "(I)V"⟩, 55) := ⟨⟨by decide +kernel, by decide +kernel⟩, List.mem_of_getElem? (i := 766) (by decide +kernel), List.mem_of_getElem? (i := 968) (by decide +kernel), List.mem_of_getElem? (i := 969) (by decide +kernel)⟩
theorem lw_p41 : lw_okq (⟨"ImposeSheetsModel", "readFolds", "()V"⟩, 55) := ⟨⟨by decide +kernel, by decide +kernel⟩, List.mem_of_getElem? (i := 766) (by decide +kernel), List.mem_of_getElem? (i := 972) (by decide +kernel), List.mem_of_getElem? (i := 973) (by decide +kernel)⟩
theorem lw_p42 : lw_okq (⟨"ImposeSheetsModel", "readPages", "()V"⟩, 55) := ⟨⟨by decide +kernel, by decide +kernel⟩, List.mem_of_getElem? (i := 766) (by decide +kernel), List.mem_of_getElem? (i := 982) (by decide +kernel), List.mem_of_getElem? (i := 983) (by decide +kernel)⟩
theorem lw_p43 : lw_okq (⟨"ImposeSheetsModel", "brokenPage", "()I"⟩, 55) := ⟨⟨by decide +kernel, by decide +kernel⟩, List.mem_of_getElem? (i := 766) (by decide +kernel), List.mem_of_getElem? (i := 990) (by decide +kernel), List.mem_of_getElem? (i := 991) (by decide +kernel)⟩
theorem lw_p44 : lw_okq (⟨"ImposeSheetsModel", "foldAll", "()V"⟩, 55) := ⟨⟨by decide +kernel, by decide +kernel⟩, List.mem_of_getElem? (i := 766) (by decide +kernel), List.mem_of_getElem? (i := 994) (by decide +kernel), List.mem_of_getElem? (i := 995) (by decide +kernel)⟩
theorem lw_p45 : lw_okq (⟨"ImposeSheetsModel", "foldOnce", "(I)V"⟩, 55) := ⟨⟨by decide +kernel, by decide +kernel⟩, List.mem_of_getElem? (i := 766) (by decide +kernel), List.mem_of_getElem? (i := 1001) (by decide +kernel), List.mem_of_getElem? (i := 1002) (by decide +kernel)⟩
theorem lw_p46 : lw_okq (⟨"ImposeSheetsModel", "turnOnto", "(IIZ)V"⟩, 55) := ⟨⟨by decide +kernel, by decide +kernel⟩, List.mem_of_getElem? (i := 766) (by decide +kernel), List.mem_of_getElem? (i := 1005) (by decide +kernel), List.mem_of_getElem? (i := 1006) (by decide +kernel)⟩
theorem lw_p47 : lw_okq (⟨"ImposeSheetsModel", "movePile", "(II)V"⟩, 55) := ⟨⟨by decide +kernel, by decide +kernel⟩, List.mem_of_getElem? (i := 766) (by decide +kernel), List.mem_of_getElem? (i := 1009) (by decide +kernel), List.mem_of_getElem? (i := 1010) (by decide +kernel)⟩
def lw_privs_3 : List (MethodName × Nat) := [(⟨"ImposeSheets$Sharing", "leastSheets", "(I)I"⟩, 12), (⟨"ImposeSheets$Sharing", "slotsFor", "(II)I"⟩, 12), (⟨"ImposeSheets$Sharing", "takeWay", "()V"⟩, 12), (⟨"ImposeSheets$Sharing", "goToNextWay", "()Z"⟩, 12), (⟨"ImposeSheetsModel", "number", "(I)I"⟩, 55), (⟨"ImposeSheetsModel", "isDigit", "()Z"⟩, 55), (⟨"ImposeSheetsModel", "byteAt", "()I"⟩, 55), (⟨"ImposeSheetsModel", "fail", "(I)V"⟩, 55), (⟨"ImposeSheetsModel", "sign", "(I)V"⟩, 55), (⟨"ImposeSheetsModel", "readFolds", "()V"⟩, 55), (⟨"ImposeSheetsModel", "readPages", "()V"⟩, 55), (⟨"ImposeSheetsModel", "brokenPage", "()I"⟩, 55), (⟨"ImposeSheetsModel", "foldAll", "()V"⟩, 55), (⟨"ImposeSheetsModel", "foldOnce", "(I)V"⟩, 55), (⟨"ImposeSheetsModel", "turnOnto", "(IIZ)V"⟩, 55), (⟨"ImposeSheetsModel", "movePile", "(II)V"⟩, 55)]
theorem lw_r3 : ∀ q ∈ lw_privs_3, lw_okq q := List.forall_mem_cons.mpr ⟨lw_p32, List.forall_mem_cons.mpr ⟨lw_p33, List.forall_mem_cons.mpr ⟨lw_p34, List.forall_mem_cons.mpr ⟨lw_p35, List.forall_mem_cons.mpr ⟨lw_p36, List.forall_mem_cons.mpr ⟨lw_p37, List.forall_mem_cons.mpr ⟨lw_p38, List.forall_mem_cons.mpr ⟨lw_p39, List.forall_mem_cons.mpr ⟨lw_p40, List.forall_mem_cons.mpr ⟨lw_p41, List.forall_mem_cons.mpr ⟨lw_p42, List.forall_mem_cons.mpr ⟨lw_p43, List.forall_mem_cons.mpr ⟨lw_p44, List.forall_mem_cons.mpr ⟨lw_p45, List.forall_mem_cons.mpr ⟨lw_p46, List.forall_mem_cons.mpr ⟨lw_p47, fun _ h => absurd h List.not_mem_nil⟩⟩⟩⟩⟩⟩⟩⟩⟩⟩⟩⟩⟩⟩⟩⟩
theorem lw_p48 : lw_okq (⟨"ImposeSheetsModel", "setPage", "(IIZZ)V"⟩, 55) := ⟨⟨by decide +kernel, by decide +kernel⟩, List.mem_of_getElem? (i := 766) (by decide +kernel), List.mem_of_getElem? (i := 1013) (by decide +kernel), List.mem_of_getElem? (i := 1014) (by decide +kernel)⟩
theorem lw_p49 : lw_okq (⟨"ImposeSheetsModel", "lay", "(IIII)V"⟩, 55) := ⟨⟨by decide +kernel, by decide +kernel⟩, List.mem_of_getElem? (i := 766) (by decide +kernel), List.mem_of_getElem? (i := 1026) (by decide +kernel), List.mem_of_getElem? (i := 1027) (by decide +kernel)⟩
theorem lw_p50 : lw_okq (⟨"ImposeSheetsModel", "bookPlace", "(II)I"⟩, 55) := ⟨⟨by decide +kernel, by decide +kernel⟩, List.mem_of_getElem? (i := 766) (by decide +kernel), List.mem_of_getElem? (i := 1030) (by decide +kernel), List.mem_of_getElem? (i := 1031) (by decide +kernel)⟩
theorem lw_p51 : lw_okq (⟨"ImposeSheetsModel", "creepOf", "(II)I"⟩, 55) := ⟨⟨by decide +kernel, by decide +kernel⟩, List.mem_of_getElem? (i := 766) (by decide +kernel), List.mem_of_getElem? (i := 1034) (by decide +kernel), List.mem_of_getElem? (i := 1035) (by decide +kernel)⟩
theorem lw_p52 : lw_okq (⟨"ImposeSheetsModel", "costOf", "(II)J"⟩, 55) := ⟨⟨by decide +kernel, by decide +kernel⟩, List.mem_of_getElem? (i := 766) (by decide +kernel), List.mem_of_getElem? (i := 1077) (by decide +kernel), List.mem_of_getElem? (i := 1078) (by decide +kernel)⟩
theorem lw_p53 : lw_okq (⟨"ImposeSheetsModel", "platesOf", "()I"⟩, 55) := ⟨⟨by decide +kernel, by decide +kernel⟩, List.mem_of_getElem? (i := 766) (by decide +kernel), List.mem_of_getElem? (i := 1081) (by decide +kernel), List.mem_of_getElem? (i := 1082) (by decide +kernel)⟩
theorem lw_p54 : lw_okq (⟨"ImposeSheetsModel", "sheetsOf", "(II)I"⟩, 55) := ⟨⟨by decide +kernel, by decide +kernel⟩, List.mem_of_getElem? (i := 766) (by decide +kernel), List.mem_of_getElem? (i := 1085) (by decide +kernel), List.mem_of_getElem? (i := 1086) (by decide +kernel)⟩
theorem lw_p55 : lw_okq (⟨"ImposeSheetsModel", "jobsOn", "(I)I"⟩, 55) := ⟨⟨by decide +kernel, by decide +kernel⟩, List.mem_of_getElem? (i := 766) (by decide +kernel), List.mem_of_getElem? (i := 1089) (by decide +kernel), List.mem_of_getElem? (i := 1090) (by decide +kernel)⟩
theorem lw_p56 : lw_okq (⟨"ImposeSheetsModel", "slotsFor", "(II)I"⟩, 55) := ⟨⟨by decide +kernel, by decide +kernel⟩, List.mem_of_getElem? (i := 766) (by decide +kernel), List.mem_of_getElem? (i := 1093) (by decide +kernel), List.mem_of_getElem? (i := 1094) (by decide +kernel)⟩
theorem lw_p57 : lw_okq (⟨"ImposeSheetsModel", "take", "(I)V"⟩, 55) := ⟨⟨by decide +kernel, by decide +kernel⟩, List.mem_of_getElem? (i := 766) (by decide +kernel), List.mem_of_getElem? (i := 1100) (by decide +kernel), List.mem_of_getElem? (i := 1101) (by decide +kernel)⟩
theorem lw_p58 : lw_okq (⟨"ImposeSheetsModel", "nextWay", "()Z"⟩, 55) := ⟨⟨by decide +kernel, by decide +kernel⟩, List.mem_of_getElem? (i := 766) (by decide +kernel), List.mem_of_getElem? (i := 1104) (by decide +kernel), List.mem_of_getElem? (i := 1105) (by decide +kernel)⟩
def lw_privs_4 : List (MethodName × Nat) := [(⟨"ImposeSheetsModel", "setPage", "(IIZZ)V"⟩, 55), (⟨"ImposeSheetsModel", "lay", "(IIII)V"⟩, 55), (⟨"ImposeSheetsModel", "bookPlace", "(II)I"⟩, 55), (⟨"ImposeSheetsModel", "creepOf", "(II)I"⟩, 55), (⟨"ImposeSheetsModel", "costOf", "(II)J"⟩, 55), (⟨"ImposeSheetsModel", "platesOf", "()I"⟩, 55), (⟨"ImposeSheetsModel", "sheetsOf", "(II)I"⟩, 55), (⟨"ImposeSheetsModel", "jobsOn", "(I)I"⟩, 55), (⟨"ImposeSheetsModel", "slotsFor", "(II)I"⟩, 55), (⟨"ImposeSheetsModel", "take", "(I)V"⟩, 55), (⟨"ImposeSheetsModel", "nextWay", "()Z"⟩, 55)]
theorem lw_r4 : ∀ q ∈ lw_privs_4, lw_okq q := List.forall_mem_cons.mpr ⟨lw_p48, List.forall_mem_cons.mpr ⟨lw_p49, List.forall_mem_cons.mpr ⟨lw_p50, List.forall_mem_cons.mpr ⟨lw_p51, List.forall_mem_cons.mpr ⟨lw_p52, List.forall_mem_cons.mpr ⟨lw_p53, List.forall_mem_cons.mpr ⟨lw_p54, List.forall_mem_cons.mpr ⟨lw_p55, List.forall_mem_cons.mpr ⟨lw_p56, List.forall_mem_cons.mpr ⟨lw_p57, List.forall_mem_cons.mpr ⟨lw_p58, fun _ h => absurd h List.not_mem_nil⟩⟩⟩⟩⟩⟩⟩⟩⟩⟩⟩
def lw_privs : List (MethodName × Nat) := lw_privs_1 ++ (lw_privs_2 ++ (lw_privs_3 ++ (lw_privs_4)))
def lw_tbl : List Cond := k2_sels lw_privs ++ tables_1
theorem lw_privs_ok : ∀ q ∈ lw_privs, lw_okq q := by
  show ∀ q ∈ lw_privs_1 ++ (lw_privs_2 ++ (lw_privs_3 ++ (lw_privs_4))), lw_okq q
  exact List.forall_mem_append.mpr ⟨lw_r1, List.forall_mem_append.mpr ⟨lw_r2, List.forall_mem_append.mpr ⟨lw_r3, lw_r4⟩⟩⟩
end
section
/-! the classes: their names, their fields in order, their types (written by gen/names.py) -/
def nR_Im : String := "ImposeSheets"
def nT_Im : u_T := fun k => match k with
  | 0 => ("ImposeSheets", "tape", "LImposeSheets$Tape;", true)
  | 1 => ("ImposeSheets", "reader", "LImposeSheets$SchemeReader;", true)
  | 2 => ("ImposeSheets", "settings", "[I", true)
  | 3 => ("ImposeSheets", "book", "LImposeSheets$Book;", true)
  | 4 => ("ImposeSheets", "sharing", "LImposeSheets$Sharing;", true)
  | 5 => ("ImposeSheets", "latest", "LImposeSheets$Scheme;", false)
  | _ => ("ImposeSheets", "spare", "LImposeSheets$Scheme;", false)
def nY_Im : Nat → FieldType := fun k => match k with
  | 0 => .object "ImposeSheets$Tape"
  | 1 => .object "ImposeSheets$SchemeReader"
  | 2 => .array .int
  | 3 => .object "ImposeSheets$Book"
  | 4 => .object "ImposeSheets$Sharing"
  | 5 => .object "ImposeSheets$Scheme"
  | _ => .object "ImposeSheets$Scheme"
theorem nN_Im : ∀ a, a < 7 → ∀ b, b < 7 → a ≠ b → (nT_Im a).2.1 ≠ (nT_Im b).2.1 := by decide +kernel
theorem nO_Im : ∀ k, k < 7 → parseFieldDescriptor (nT_Im k).2.2.1 = some (nY_Im k) := by decide +kernel
theorem nI_Im : ∀ w ∈ u_ws nR_Im nT_Im 7, w ∈ lw_tbl := by decide +kernel
def nR_Ta : String := "ImposeSheets$Tape"
def nT_Ta : u_T := fun k => match k with
  | 0 => ("ImposeSheets$Tape", "bytes", "[I", true)
  | _ => ("ImposeSheets$Tape", "size", "I", false)
def nY_Ta : Nat → FieldType := fun k => match k with
  | 0 => .array .int
  | _ => .int
theorem nN_Ta : ∀ a, a < 2 → ∀ b, b < 2 → a ≠ b → (nT_Ta a).2.1 ≠ (nT_Ta b).2.1 := by decide +kernel
theorem nO_Ta : ∀ k, k < 2 → parseFieldDescriptor (nT_Ta k).2.2.1 = some (nY_Ta k) := by decide +kernel
theorem nI_Ta : ∀ w ∈ u_ws nR_Ta nT_Ta 2, w ∈ lw_tbl := by decide +kernel
def nR_Re : String := "ImposeSheets$SchemeReader"
def nT_Re : u_T := fun k => match k with
  | 0 => ("ImposeSheets$SchemeReader", "tape", "LImposeSheets$Tape;", true)
  | 1 => ("ImposeSheets$SchemeReader", "folding", "LImposeSheets$Folding;", true)
  | 2 => ("ImposeSheets$SchemeReader", "place", "I", false)
  | 3 => ("ImposeSheets$SchemeReader", "wrongPlace", "I", false)
  | _ => ("ImposeSheets$SchemeReader", "number", "I", false)
def nY_Re : Nat → FieldType := fun k => match k with
  | 0 => .object "ImposeSheets$Tape"
  | 1 => .object "ImposeSheets$Folding"
  | 2 => .int
  | 3 => .int
  | _ => .int
theorem nN_Re : ∀ a, a < 5 → ∀ b, b < 5 → a ≠ b → (nT_Re a).2.1 ≠ (nT_Re b).2.1 := by decide +kernel
theorem nO_Re : ∀ k, k < 5 → parseFieldDescriptor (nT_Re k).2.2.1 = some (nY_Re k) := by decide +kernel
theorem nI_Re : ∀ w ∈ u_ws nR_Re nT_Re 5, w ∈ lw_tbl := by decide +kernel
def nR_Fo : String := "ImposeSheets$Folding"
def nT_Fo : u_T := fun k => match k with
  | 0 => ("ImposeSheets$Folding", "piles", "[I", true)
  | 1 => ("ImposeSheets$Folding", "stride", "I", false)
  | 2 => ("ImposeSheets$Folding", "left", "I", false)
  | 3 => ("ImposeSheets$Folding", "top", "I", false)
  | 4 => ("ImposeSheets$Folding", "columns", "I", false)
  | 5 => ("ImposeSheets$Folding", "rows", "I", false)
  | _ => ("ImposeSheets$Folding", "height", "I", false)
def nY_Fo : Nat → FieldType := fun k => match k with
  | 0 => .array .int
  | 1 => .int
  | 2 => .int
  | 3 => .int
  | 4 => .int
  | 5 => .int
  | _ => .int
theorem nN_Fo : ∀ a, a < 7 → ∀ b, b < 7 → a ≠ b → (nT_Fo a).2.1 ≠ (nT_Fo b).2.1 := by decide +kernel
theorem nO_Fo : ∀ k, k < 7 → parseFieldDescriptor (nT_Fo k).2.2.1 = some (nY_Fo k) := by decide +kernel
theorem nI_Fo : ∀ w ∈ u_ws nR_Fo nT_Fo 7, w ∈ lw_tbl := by decide +kernel
def nR_Bo : String := "ImposeSheets$Book"
def nT_Bo : u_T := fun k => match k with
  | 0 => ("ImposeSheets$Book", "settings", "[I", true)
  | 1 => ("ImposeSheets$Book", "spotPages", "[I", true)
  | 2 => ("ImposeSheets$Book", "spotTurned", "[I", true)
  | 3 => ("ImposeSheets$Book", "columns", "I", false)
  | 4 => ("ImposeSheets$Book", "cells", "I", false)
  | 5 => ("ImposeSheets$Book", "sheets", "I", false)
  | 6 => ("ImposeSheets$Book", "pages", "I", false)
  | _ => ("ImposeSheets$Book", "scale", "I", false)
def nY_Bo : Nat → FieldType := fun k => match k with
  | 0 => .array .int
  | 1 => .array .int
  | 2 => .array .int
  | 3 => .int
  | 4 => .int
  | 5 => .int
  | 6 => .int
  | _ => .int
theorem nN_Bo : ∀ a, a < 8 → ∀ b, b < 8 → a ≠ b → (nT_Bo a).2.1 ≠ (nT_Bo b).2.1 := by decide +kernel
theorem nO_Bo : ∀ k, k < 8 → parseFieldDescriptor (nT_Bo k).2.2.1 = some (nY_Bo k) := by decide +kernel
theorem nI_Bo : ∀ w ∈ u_ws nR_Bo nT_Bo 8, w ∈ lw_tbl := by decide +kernel
def nR_Sh : String := "ImposeSheets$Sharing"
def nT_Sh : u_T := fun k => match k with
  | 0 => ("ImposeSheets$Sharing", "copies", "[I", true)
  | 1 => ("ImposeSheets$Sharing", "needs", "[I", true)
  | 2 => ("ImposeSheets$Sharing", "way", "[I", true)
  | 3 => ("ImposeSheets$Sharing", "plateJobs", "[I", true)
  | 4 => ("ImposeSheets$Sharing", "takenPlate", "[I", true)
  | 5 => ("ImposeSheets$Sharing", "takenSheets", "[I", true)
  | 6 => ("ImposeSheets$Sharing", "jobs", "I", false)
  | 7 => ("ImposeSheets$Sharing", "slots", "I", false)
  | 8 => ("ImposeSheets$Sharing", "waysLookedAt", "I", false)
  | 9 => ("ImposeSheets$Sharing", "allLookedAt", "Z", false)
  | 10 => ("ImposeSheets$Sharing", "sharedJobs", "I", false)
  | _ => ("ImposeSheets$Sharing", "takenPlates", "I", false)
def nY_Sh : Nat → FieldType := fun k => match k with
  | 0 => .array .int
  | 1 => .array .int
  | 2 => .array .int
  | 3 => .array .int
  | 4 => .array .int
  | 5 => .array .int
  | 6 => .int
  | 7 => .int
  | 8 => .int
  | 9 => .boolean
  | 10 => .int
  | _ => .int
theorem nN_Sh : ∀ a, a < 12 → ∀ b, b < 12 → a ≠ b → (nT_Sh a).2.1 ≠ (nT_Sh b).2.1 := by decide +kernel
theorem nO_Sh : ∀ k, k < 12 → parseFieldDescriptor (nT_Sh k).2.2.1 = some (nY_Sh k) := by decide +kernel
theorem nI_Sh : ∀ w ∈ u_ws nR_Sh nT_Sh 12, w ∈ lw_tbl := by decide +kernel
def nR_Sc : String := "ImposeSheets$Scheme"
def nT_Sc : u_T := fun k => match k with
  | 0 => ("ImposeSheets$Scheme", "folds", "[I", true)
  | 1 => ("ImposeSheets$Scheme", "toldPages", "[I", true)
  | 2 => ("ImposeSheets$Scheme", "toldTurned", "[I", true)
  | 3 => ("ImposeSheets$Scheme", "leaves", "[I", true)
  | 4 => ("ImposeSheets$Scheme", "columns", "I", false)
  | 5 => ("ImposeSheets$Scheme", "rows", "I", false)
  | 6 => ("ImposeSheets$Scheme", "foldCount", "I", false)
  | _ => ("ImposeSheets$Scheme", "told", "Z", false)
def nY_Sc : Nat → FieldType := fun k => match k with
  | 0 => .array .int
  | 1 => .array .int
  | 2 => .array .int
  | 3 => .array .int
  | 4 => .int
  | 5 => .int
  | 6 => .int
  | _ => .boolean
theorem nN_Sc : ∀ a, a < 8 → ∀ b, b < 8 → a ≠ b → (nT_Sc a).2.1 ≠ (nT_Sc b).2.1 := by decide +kernel
theorem nO_Sc : ∀ k, k < 8 → parseFieldDescriptor (nT_Sc k).2.2.1 = some (nY_Sc k) := by decide +kernel
theorem nI_Sc : ∀ w ∈ u_ws nR_Sc nT_Sc 8, w ∈ lw_tbl := by decide +kernel
def nR_Mo : String := "ImposeSheetsModel"
def nT_Mo : u_T := fun k => match k with
  | 0 => ("ImposeSheetsModel", "thrown", "I", false)
  | 1 => ("ImposeSheetsModel", "taped", "I", false)
  | 2 => ("ImposeSheetsModel", "tape", "[I", true)
  | 3 => ("ImposeSheetsModel", "size", "I", false)
  | 4 => ("ImposeSheetsModel", "place", "I", false)
  | 5 => ("ImposeSheetsModel", "fault", "I", false)
  | 6 => ("ImposeSheetsModel", "isScheme", "Z", false)
  | 7 => ("ImposeSheetsModel", "columns", "I", false)
  | 8 => ("ImposeSheetsModel", "rows", "I", false)
  | 9 => ("ImposeSheetsModel", "folds", "I", false)
  | 10 => ("ImposeSheetsModel", "isTold", "Z", false)
  | 11 => ("ImposeSheetsModel", "toldPage", "[I", true)
  | 12 => ("ImposeSheetsModel", "toldDown", "[Z", true)
  | 13 => ("ImposeSheetsModel", "readColumns", "I", false)
  | 14 => ("ImposeSheetsModel", "readRows", "I", false)
  | 15 => ("ImposeSheetsModel", "readFolds", "I", false)
  | 16 => ("ImposeSheetsModel", "fold", "[I", true)
  | 17 => ("ImposeSheetsModel", "readFold", "[I", true)
  | 18 => ("ImposeSheetsModel", "readTold", "Z", false)
  | 19 => ("ImposeSheetsModel", "readPage", "[I", true)
  | 20 => ("ImposeSheetsModel", "readDown", "[Z", true)
  | 21 => ("ImposeSheetsModel", "height", "[I", true)
  | 22 => ("ImposeSheetsModel", "pileCell", "[I", true)
  | 23 => ("ImposeSheetsModel", "pileFront", "[Z", true)
  | 24 => ("ImposeSheetsModel", "pileHead", "[Z", true)
  | 25 => ("ImposeSheetsModel", "wide", "I", false)
  | 26 => ("ImposeSheetsModel", "high", "I", false)
  | 27 => ("ImposeSheetsModel", "pageSide", "[I", true)
  | 28 => ("ImposeSheetsModel", "pagePlace", "[I", true)
  | 29 => ("ImposeSheetsModel", "pageDown", "[Z", true)
  | 30 => ("ImposeSheetsModel", "settings", "[I", true)
  | 31 => ("ImposeSheetsModel", "sheets", "I", false)
  | 32 => ("ImposeSheetsModel", "laidPages", "I", false)
  | 33 => ("ImposeSheetsModel", "laidColumns", "I", false)
  | 34 => ("ImposeSheetsModel", "blanks", "I", false)
  | 35 => ("ImposeSheetsModel", "tooLarge", "I", false)
  | 36 => ("ImposeSheetsModel", "page", "[I", true)
  | 37 => ("ImposeSheetsModel", "down", "[I", true)
  | 38 => ("ImposeSheetsModel", "atX", "[I", true)
  | 39 => ("ImposeSheetsModel", "atY", "[I", true)
  | 40 => ("ImposeSheetsModel", "scales", "[I", true)
  | 41 => ("ImposeSheetsModel", "book", "[I", true)
  | 42 => ("ImposeSheetsModel", "creeps", "[I", true)
  | 43 => ("ImposeSheetsModel", "jobs", "I", false)
  | 44 => ("ImposeSheetsModel", "copies", "[I", true)
  | 45 => ("ImposeSheetsModel", "way", "[I", true)
  | 46 => ("ImposeSheetsModel", "isTaken", "Z", false)
  | 47 => ("ImposeSheetsModel", "wasShared", "Z", false)
  | 48 => ("ImposeSheetsModel", "taken", "[I", true)
  | 49 => ("ImposeSheetsModel", "takenJobs", "I", false)
  | 50 => ("ImposeSheetsModel", "takenPlates", "I", false)
  | 51 => ("ImposeSheetsModel", "plateSheets", "[I", true)
  | 52 => ("ImposeSheetsModel", "looked", "I", false)
  | 53 => ("ImposeSheetsModel", "isAll", "Z", false)
  | _ => ("ImposeSheetsModel", "takenCopies", "[I", true)
def nY_Mo : Nat → FieldType := fun k => match k with
  | 0 => .int
  | 1 => .int
  | 2 => .array .int
  | 3 => .int
  | 4 => .int
  | 5 => .int
  | 6 => .boolean
  | 7 => .int
  | 8 => .int
  | 9 => .int
  | 10 => .boolean
  | 11 => .array .int
  | 12 => .array .boolean
  | 13 => .int
  | 14 => .int
  | 15 => .int
  | 16 => .array .int
  | 17 => .array .int
  | 18 => .boolean
  | 19 => .array .int
  | 20 => .array .boolean
  | 21 => .array .int
  | 22 => .array .int
  | 23 => .array .boolean
  | 24 => .array .boolean
  | 25 => .int
  | 26 => .int
  | 27 => .array .int
  | 28 => .array .int
  | 29 => .array .boolean
  | 30 => .array .int
  | 31 => .int
  | 32 => .int
  | 33 => .int
  | 34 => .int
  | 35 => .int
  | 36 => .array .int
  | 37 => .array .int
  | 38 => .array .int
  | 39 => .array .int
  | 40 => .array .int
  | 41 => .array .int
  | 42 => .array .int
  | 43 => .int
  | 44 => .array .int
  | 45 => .array .int
  | 46 => .boolean
  | 47 => .boolean
  | 48 => .array .int
  | 49 => .int
  | 50 => .int
  | 51 => .array .int
  | 52 => .int
  | 53 => .boolean
  | _ => .array .int
theorem nN_Mo : ∀ a, a < 55 → ∀ b, b < 55 → a ≠ b → (nT_Mo a).2.1 ≠ (nT_Mo b).2.1 := by decide +kernel
theorem nO_Mo : ∀ k, k < 55 → parseFieldDescriptor (nT_Mo k).2.2.1 = some (nY_Mo k) := by decide +kernel
theorem nI_Mo : ∀ w ∈ u_ws nR_Mo nT_Mo 55, w ∈ lw_tbl := by decide +kernel
abbrev vwCl : List vw_C := [(nR_Im, nT_Im, 7), (nR_Ta, nT_Ta, 2), (nR_Re, nT_Re, 5), (nR_Fo, nT_Fo, 7), (nR_Bo, nT_Bo, 8), (nR_Sh, nT_Sh, 12), (nR_Sc, nT_Sc, 8), (nR_Mo, nT_Mo, 55)]
/-- the static arrays, at pretended places -/
def nS_0 (j : Nat) : Int32 := match j with
  | 0 => 0
  | 1 => 0
  | 2 => 0
  | 3 => 1000
  | 4 => 1000
  | 5 => 1000
  | 6 => 1000
  | 7 => 0
  | 8 => 0
  | _ => 0
def nS_1 (j : Nat) : Int32 := match j with
  | 0 => 0
  | 1 => 0
  | 2 => 0
  | 3 => 1
  | 4 => 1
  | 5 => 1
  | 6 => 1
  | 7 => 0
  | 8 => 0
  | _ => 0
def nS_2 (j : Nat) : Int32 := match j with
  | 0 => 2
  | 1 => 1
  | 2 => 1
  | 3 => 100000
  | 4 => 100000
  | 5 => 100000
  | 6 => 100000
  | 7 => 10000
  | 8 => 10000
  | _ => 1
def lw_stats : List (String × String × Nat × Nat × (Nat → Int32)) := [("ImposeSheets", "SETTING_FIRST", 100000, 10, nS_0), ("ImposeSheets", "SETTING_LEAST", 100001, 10, nS_1), ("ImposeSheets", "SETTING_MOST", 100002, 10, nS_2)]
end
section
/-! WHAT STANDS BESIDE THE TABLES' WORDS: links within the nest, arrays that are static -/
def lw_good : List Cond := lw_tbl.filter goodWord
theorem lw_g {w : Cond} (i : Nat) (h : lw_tbl[i]? = some w) (hg : goodWord w = true) : w ∈ lw_good := List.mem_filter.mpr ⟨List.mem_of_getElem? h, hg⟩
def am_isNest (w : Cond) : Bool := match w with
  | .fieldLinkNest .. => true
  | .methodLinkNest .. => true
  | _ => false
theorem am_isNest_warm {w : Cond} (h : am_isNest w = true) {s U : State} (hW : s.WarmedH U.vm) (hZ : va_Nw w s) : va_Nw w U := by
  cases w <;> first | exact va_Nw.warmF hW hZ | exact va_Nw.warmM hW hZ | (simp [am_isNest] at h; done)
theorem am_isNest_tab {w : Cond} (h : am_isNest w = true) : w.onTables = true := by
  cases w <;> first | rfl | (simp [am_isNest] at h; done)
def lw_nest : List Cond := lw_tbl.filter am_isNest
theorem lw_n {w : Cond} (i : Nat) (h : lw_tbl[i]? = some w) (hg : am_isNest w = true) : w ∈ lw_nest := List.mem_filter.mpr ⟨List.mem_of_getElem? h, hg⟩
/-- a static array of ints: (class, field, pretended place, length, contents) -/
abbrev am_St : Type := String × String × Nat × Nat × (Nat → Int32)
def am_StOk (q : am_St) (A : Nat → Nat) (A0 : Nat → Prop) (U : State) (H : Heap) : Prop := va_Z q.1 q.2.1 "[I" (.ref (A q.2.2.1)) A0 U H ∧ va_T .int (A q.2.2.1) q.2.2.2.1 (fun j => .int (q.2.2.2.2 j)) A0 U H
def am_En (A : Nat → Nat) (A0 : Nat → Prop) (U : State) : Prop := (∀ w ∈ lw_nest, va_Nw w U) ∧ ∀ (k : Nat) (q : am_St), lw_stats[k]? = some q → am_StOk q A A0 U U.heap
theorem am_En.same {A : Nat → Nat} {A0 : Nat → Prop} {u U : State} (hv : u.vm = U.vm) (hh : u.heap = U.heap) (h : am_En A A0 u) : am_En A A0 U := by
  refine ⟨fun w hw => va_Nw.same (am_isNest_tab (List.mem_filter.mp hw).2) hv (h.1 w hw), fun k q hq => ?_⟩
  have := h.2 k q hq
  rw [← hh]
  exact ⟨this.1.moved (hv ▸ Vm.Alike.refl u.vm), this.2.moved (hv ▸ Vm.Alike.refl u.vm)⟩
theorem am_En.call {A : Nat → Nat} {A0 A1 : Nat → Prop} {s U : State} {locs : List Loc} (h : am_En A A0 s) (hW : s.WarmedH U.vm) (hS : va_S A0 s.heap U.heap locs) (hA : ∀ q, A1 q → A0 q) : am_En A A1 U := by
  refine ⟨fun w hw => am_isNest_warm (List.mem_filter.mp hw).2 hW (h.1 w hw), fun k q hq => ?_⟩
  have := h.2 k q hq
  exact ⟨((this.1.moved hW.alike).kept hS.2.1).narrow hA, ((this.2.moved hW.alike).kept hS.2.1).narrow hA⟩
end
section
/-! THE ABSTRACT MACHINE. A method's bytecode as a table of predicate transformers over (locals, operand stack, abstract heap); a reference is a PLACE of the abstract heap. Its soundness over the kit's W, an instruction once; a method's contract out of its table. -/
abbrev am_E : Type := (Nat × vp_A) ⊕ (Nat × List Value)
abbrev am_H : Type := List am_E
abbrev am_L : Type := List (Option Value)
abbrev am_O : Type := Nat ⊕ Option Value
abbrev am_K : Type := Nat → am_L → List Value → am_H → Prop
abbrev am_P : Type := am_O → am_H → Prop
abbrev am_A : Type := am_L → List Value → am_H → am_K → am_P → Prop
def am_v (A : Nat → Nat) (v : Value) : Value := match v with
  | .ref k => .ref (A k)
  | w => w
def am_e (dA : Nat → ClassId) (A : Nat → Nat) (x : am_E) : va_E := match x with
  | .inl a => .inl (dA a.1, a.2)
  | .inr o => .inr (o.1, o.2.map (am_v A))
def am_c (dA : Nat → ClassId) (A : Nat → Nat) : Nat → am_H → va_W
  | _, [] => []
  | k, e :: t => (A k, am_e dA A e) :: am_c dA A (k + 1) t
theorem am_c_get (dA : Nat → ClassId) (A : Nat → Nat) : ∀ (h : am_H) (k0 k : Nat), (am_c dA A k0 h)[k]? = (h[k]?).map (fun e => (A (k0 + k), am_e dA A e))
  | [], k0, k => by simp [am_c]
  | e :: t, k0, 0 => by simp [am_c]
  | e :: t, k0, k + 1 => by
    simp only [am_c, List.getElem?_cons_succ]
    rw [am_c_get dA A t (k0 + 1) k, show k0 + 1 + k = k0 + (k + 1) by omega]
theorem am_c_at {dA : Nat → ClassId} {A : Nat → Nat} {h : am_H} {k : Nat} {x : am_E} (e : h[k]? = some x) : (am_c dA A 0 h)[k]? = some (A k, am_e dA A x) := by
  rw [am_c_get, e, Nat.zero_add]; rfl
theorem am_c_set (dA : Nat → ClassId) (A : Nat → Nat) (x : am_E) : ∀ (h : am_H) (k0 k : Nat), (am_c dA A k0 h).set k (A (k0 + k), am_e dA A x) = am_c dA A k0 (h.set k x)
  | [], k0, k => by simp [am_c]
  | e :: t, k0, 0 => by simp [am_c]
  | e :: t, k0, k + 1 => by
    simp only [am_c, List.set_cons_succ]
    rw [← am_c_set dA A x t (k0 + 1) k, show k0 + 1 + k = k0 + (k + 1) by omega]
theorem am_c_put {dA : Nat → ClassId} {A : Nat → Nat} {x : am_E} {h : am_H} {k : Nat} {y : Nat × va_E} (e : y = (A k, am_e dA A x)) : (am_c dA A 0 h).set k y = am_c dA A 0 (h.set k x) := by
  have := am_c_set dA A x h 0 k
  rw [Nat.zero_add] at this
  rw [e, this]
theorem am_v_cat (A : Nat → Nat) (v : Value) : (am_v A v).category = v.category := by cases v <;> rfl
theorem am_v_int (A : Nat → Nat) (x : Int32) : am_v A (.int x) = .int x := rfl
def am_lv (A : Nat → Nat) : Nat → am_L → List (Nat × Value)
  | _, [] => []
  | i, none :: t => am_lv A (i + 1) t
  | i, some v :: t => (i, am_v A v) :: am_lv A (i + 1) t
theorem am_lv_mem (A : Nat → Nat) (q : Nat × Value) : ∀ (l : am_L) (i : Nat), q ∈ am_lv A i l ↔ ∃ (j : Nat) (v : Value), l[j]? = some (some v) ∧ q = (i + j, am_v A v)
  | [], i => by simp [am_lv]
  | none :: t, i => by
    simp only [am_lv]
    rw [am_lv_mem A q t (i + 1)]
    constructor
    · rintro ⟨j, v, h, e⟩
      exact ⟨j + 1, v, by simpa using h, by rw [e, show i + 1 + j = i + (j + 1) by omega]⟩
    · rintro ⟨j, v, h, e⟩
      cases j with
      | zero => simp at h
      | succ j => exact ⟨j, v, by simpa using h, by rw [e, show i + 1 + j = i + (j + 1) by omega]⟩
  | some w :: t, i => by
    simp only [am_lv, List.mem_cons]
    rw [am_lv_mem A q t (i + 1)]
    constructor
    · rintro (e | ⟨j, v, h, e⟩)
      · exact ⟨0, w, rfl, e⟩
      · exact ⟨j + 1, v, by simpa using h, by rw [e, show i + 1 + j = i + (j + 1) by omega]⟩
    · rintro ⟨j, v, h, e⟩
      cases j with
      | zero => left; simp at h; rw [e, h]; rfl
      | succ j => right; exact ⟨j, v, by simpa using h, by rw [e, show i + 1 + j = i + (j + 1) by omega]⟩
theorem am_lv_at {A : Nat → Nat} {ls : Array Slot} {nL : Nat} {l : am_L} (h : lv_has ls nL (am_lv A 0 l)) {i : Nat} {v : Value} (e : l[i]? = some (some v)) : ls[i]? = some (.val (am_v A v)) := by
  have := h.2.2 (i, am_v A v) ((am_lv_mem A _ l 0).mpr ⟨i, v, e, by rw [Nat.zero_add]⟩)
  exact this
theorem am_lv_more {ls : Array Slot} {nL : Nat} {l l' : List (Nat × Value)} (h : lv_has ls nL l) (hs : ∀ q ∈ l', q ∈ l) : lv_has ls nL l' := ⟨h.1, h.2.1, fun q hq => h.2.2 q (hs q hq)⟩
/-- the place ahead of i holds no value of two words -/
def am_g2 (l : am_L) (i : Nat) : Bool := (i == 0) || (match l[i - 1]? with
  | some (some v) => v.category == 1
  | _ => true)
theorem am_lv_set {A : Nat → Nat} {l : am_L} {i : Nat} {v : Value} (hg : am_g2 l i = true) : ∀ q ∈ am_lv A 0 (l.set i (some v)), q ∈ (i, am_v A v) :: (am_lv A 0 l).filter (fun q => !(q.1 == i) && !(q.1 + 1 == i && q.2.category == 2)) := by
  intro q hq
  obtain ⟨j, w, h, e⟩ := (am_lv_mem A q _ 0).mp hq
  rw [Nat.zero_add] at e
  by_cases hj : i = j
  · subst hj
    rw [List.getElem?_set] at h
    split at h
    · split at h
      · cases h; rw [e]; exact List.mem_cons_self
      · cases h
    · rename_i hne; exact absurd rfl hne
  · rw [List.getElem?_set_ne hj] at h
    refine List.mem_cons_of_mem _ (List.mem_filter.mpr ⟨(am_lv_mem A q l 0).mpr ⟨j, w, h, by rw [Nat.zero_add]; exact e⟩, ?_⟩)
    rw [e]
    have h1 : (j == i) = false := by simpa using fun z => hj z.symm
    simp only [h1, Bool.not_false, Bool.true_and, am_v_cat]
    cases hc : (j + 1 == i) with
    | false => rfl
    | true =>
      have hi : i = j + 1 := by simp at hc; omega
      subst hi
      have hg2 : (match l[j]? with
        | some (some v) => v.category == 1
        | _ => true) = true := by simpa [am_g2] using hg
      rw [h] at hg2
      have h3 : w.category = 1 := by simpa using hg2
      simp [h3]
def am_le : am_L → am_L → Prop
  | [], [] => True
  | none :: t', _ :: t => am_le t' t
  | some v :: t', w :: t => w = some v ∧ am_le t' t
  | _, _ => False
theorem am_le_at : ∀ (l' l : am_L), am_le l' l → ∀ (j : Nat) (v : Value), l'[j]? = some (some v) → l[j]? = some (some v)
  | [], [], _, j, v, h => by simp at h
  | none :: t', _ :: t, hl, 0, v, h => by simp at h
  | none :: t', _ :: t, hl, j + 1, v, h => by
    have := am_le_at t' t hl j v (by simpa using h)
    simpa using this
  | some w :: t', x :: t, hl, 0, v, h => by
    have e : w = v := by simpa using h
    rw [hl.1, e]; rfl
  | some w :: t', x :: t, hl, j + 1, v, h => by
    have := am_le_at t' t hl.2 j v (by simpa using h)
    simpa using this
theorem am_le_lv {A : Nat → Nat} {l' l : am_L} (hl : am_le l' l) : ∀ q ∈ am_lv A 0 l', q ∈ am_lv A 0 l := by
  intro q hq
  obtain ⟨j, v, h, e⟩ := (am_lv_mem A q _ 0).mp hq
  exact (am_lv_mem A q _ 0).mpr ⟨j, v, am_le_at l' l hl j v h, e⟩
def am_l0 : List Value → Nat → am_L
  | [], n => List.replicate n none
  | v :: vs, n => if v.category = 2 then some v :: none :: am_l0 vs (n - 2) else some v :: am_l0 vs (n - 1)
/-! ## the logic: the least predicate that is closed under going back over a step, and under forgetting of locals -/
def am_Wp (acts : Nat → am_A) (R : am_P) (pc : Nat) (lo : am_L) (st : List Value) (h : am_H) : Prop :=
  ∀ P : am_K, (∀ pc lo st h K, acts pc lo st h K R → (∀ pc' lo' st' h', K pc' lo' st' h' → P pc' lo' st' h') → P pc lo st h) → (∀ pc lo lo' st h, am_le lo' lo → P pc lo' st h → P pc lo st h) → P pc lo st h
theorem am_step {acts : Nat → am_A} {R : am_P} {pc : Nat} {lo : am_L} {st : List Value} {h : am_H} (k : acts pc lo st h (am_Wp acts R) R) : am_Wp acts R pc lo st h :=
  fun P hc hf => hc _ _ _ _ _ k (fun _ _ _ _ k' => k' P hc hf)
theorem am_forget {acts : Nat → am_A} {R : am_P} {pc : Nat} {lo lo' : am_L} {st : List Value} {h : am_H} (hl : am_le lo' lo) (k : am_Wp acts R pc lo' st h) : am_Wp acts R pc lo st h :=
  fun P hc hf => hf _ _ _ _ _ hl (k P hc hf)
/-- n steps at once -/
def am_pre (acts : Nat → am_A) (R : am_P) : Nat → am_K
  | 0 => am_Wp acts R
  | n + 1 => fun pc lo st h => acts pc lo st h (am_pre acts R n) R
theorem am_pres {acts : Nat → am_A} {R : am_P} : ∀ (n : Nat) {pc : Nat} {lo : am_L} {st : List Value} {h : am_H}, am_pre acts R n pc lo st h → am_Wp acts R pc lo st h
  | 0, _, _, _, _, k => k
  | n + 1, _, _, _, _, k => fun P hc hf => hc _ _ _ _ _ k (fun _ _ _ _ k' => am_pres n k' P hc hf)
/-- up to n steps at once, up to the places 'stop' (loops' heads) -/
def am_run (acts : Nat → am_A) (R : am_P) (stop : Nat → Bool) : Nat → am_K
  | 0 => am_Wp acts R
  | n + 1 => fun pc lo st h => match stop pc with
    | true => am_Wp acts R pc lo st h
    | false => acts pc lo st h (am_run acts R stop n) R
theorem am_runs {acts : Nat → am_A} {R : am_P} {stop : Nat → Bool} : ∀ (n : Nat) {pc : Nat} {lo : am_L} {st : List Value} {h : am_H}, am_run acts R stop n pc lo st h → am_Wp acts R pc lo st h
  | 0, _, _, _, _, k => k
  | n + 1, pc, lo, st, h, k => by
    unfold am_run at k
    split at k
    · exact k
    · exact fun P hc hf => hc _ _ _ _ _ k (fun _ _ _ _ k' => am_runs n k' P hc hf)
/-- the first step is taken also at a place of 'stop' -/
theorem am_go {acts : Nat → am_A} {R : am_P} (stop : Nat → Bool) (n : Nat) {pc : Nat} {lo : am_L} {st : List Value} {h : am_H} (k : acts pc lo st h (am_run acts R stop n) R) : am_Wp acts R pc lo st h :=
  fun P hc hf => hc _ _ _ _ _ k (fun _ _ _ _ k' => am_runs n k' P hc hf)
/-! ## the instructions -/
def am_stuck : am_A := fun _ _ _ _ _ => False
def am_push (v : Value) (n : Nat) : am_A := fun lo st h K _ => K n lo (v :: st) h
def am_iload (i n : Nat) : am_A := fun lo st h K _ => match lo[i]? with
  | some (some (.int x)) => K n lo (.int x :: st) h
  | _ => False
def am_lload (i n : Nat) : am_A := fun lo st h K _ => match lo[i]? with
  | some (some (.long x)) => K n lo (.long x :: st) h
  | _ => False
def am_aload (i n : Nat) : am_A := fun lo st h K _ => match lo[i]? with
  | some (some (.ref x)) => K n lo (.ref x :: st) h
  | _ => False
def am_istore (i n : Nat) : am_A := fun lo st h K _ => match st with
  | .int x :: r => (am_g2 lo i = true ∧ i < lo.length) ∧ K n (lo.set i (some (.int x))) r h
  | _ => False
def am_astore (i n : Nat) : am_A := fun lo st h K _ => match st with
  | .ref x :: r => (am_g2 lo i = true ∧ i < lo.length) ∧ K n (lo.set i (some (.ref x))) r h
  | _ => False
def am_iinc (i : Nat) (d : Int) (n : Nat) : am_A := fun lo st h K _ => match lo[i]? with
  | some (some (.int x)) => (am_g2 lo i = true ∧ i < lo.length) ∧ K n (lo.set i (some (.int (x + Int32.ofInt d)))) st h
  | _ => False
def am_i1 (f : Int32 → Int32) (n : Nat) : am_A := fun lo st h K _ => match st with
  | .int x :: r => K n lo (.int (f x) :: r) h
  | _ => False
def am_i2 (f : Int32 → Int32 → Int32) (n : Nat) : am_A := fun lo st h K _ => match st with
  | .int y :: .int x :: r => K n lo (.int (f x y) :: r) h
  | _ => False
def am_idiv (f : Int32 → Int32 → Int32) (n : Nat) : am_A := fun lo st h K _ => match st with
  | .int y :: .int x :: r => ¬ y = 0 ∧ K n lo (.int (f x y) :: r) h
  | _ => False
def am_ldiv (n : Nat) : am_A := fun lo st h K _ => match st with
  | .long y :: .long x :: r => ¬ y = 0 ∧ K n lo (.long (x / y) :: r) h
  | _ => False
def am_lstore (i n : Nat) : am_A := fun lo st h K _ => match st with
  | .long x :: r => (am_g2 lo i = true ∧ i + 1 < lo.length) ∧ K n ((lo.set i (some (.long x))).set (i + 1) none) r h
  | _ => False
def am_l2 (f : Int64 → Int64 → Int64) (n : Nat) : am_A := fun lo st h K _ => match st with
  | .long y :: .long x :: r => K n lo (.long (f x y) :: r) h
  | _ => False
def am_lsh (f : Int64 → Int32 → Int64) (n : Nat) : am_A := fun lo st h K _ => match st with
  | .int y :: .long x :: r => K n lo (.long (f x y) :: r) h
  | _ => False
def am_lcmp (n : Nat) : am_A := fun lo st h K _ => match st with
  | .long y :: .long x :: r => K n lo (.int (lg_cmp x y) :: r) h
  | _ => False
def am_i2l (n : Nat) : am_A := fun lo st h K _ => match st with
  | .int x :: r => K n lo (.long x.toInt64 :: r) h
  | _ => False
def am_l2i (n : Nat) : am_A := fun lo st h K _ => match st with
  | .long x :: r => K n lo (.int x.toInt32 :: r) h
  | _ => False
def am_dup (n : Nat) : am_A := fun lo st h K _ => match st with
  | v :: r => v.category = 1 ∧ K n lo (v :: v :: r) h
  | _ => False
def am_pop (n : Nat) : am_A := fun lo st h K _ => match st with
  | v :: r => v.category = 1 ∧ K n lo r h
  | _ => False
def am_dup_x1 (n : Nat) : am_A := fun lo st h K _ => match st with
  | v :: w :: r => (v.category = 1 ∧ w.category = 1) ∧ K n lo (v :: w :: v :: r) h
  | _ => False
def am_dup_x2 (n : Nat) : am_A := fun lo st h K _ => match st with
  | v :: w :: u :: r => (v.category = 1 ∧ w.category = 1 ∧ u.category = 1) ∧ K n lo (v :: w :: u :: v :: r) h
  | _ => False
def am_dup2 (n : Nat) : am_A := fun lo st h K _ => match st with
  | v :: w :: r => (v.category = 1 ∧ w.category = 1) ∧ K n lo (v :: w :: v :: w :: r) h
  | _ => False
def am_if (q : Int32 → Prop) (t n : Nat) : am_A := fun lo st h K _ => match st with
  | .int x :: r => (q x → K t lo r h) ∧ (¬ q x → K n lo r h)
  | _ => False
def am_if2 (q : Int32 → Int32 → Prop) (t n : Nat) : am_A := fun lo st h K _ => match st with
  | .int y :: .int x :: r => (q x y → K t lo r h) ∧ (¬ q x y → K n lo r h)
  | _ => False
def am_goto (t : Nat) : am_A := fun lo st h K _ => K t lo st h
/-- a switch: the list has the numbers and where they go -/
def am_sw (ps : List (Int32 × Nat)) (t : Nat) : am_A := fun lo st h K _ => match st with
  | .int x :: r => (∀ q ∈ ps, x = q.1 → K q.2 lo r h) ∧ ((∀ q ∈ ps, ¬ x = q.1) → K t lo r h)
  | _ => False
def am_get (ci k n : Nat) : am_A := fun lo st h K _ => match st with
  | .ref a :: r => (match h[a]? with
    | some (.inr (cj, fs)) => cj = ci ∧ (match fs[k]? with
      | some v => K n lo (v :: r) h
      | _ => False)
    | _ => False)
  | _ => False
def am_putI (ci k : Nat) (ty : FieldType) (n : Nat) : am_A := fun lo st h K _ => match st with
  | .int x :: .ref a :: r => (match h[a]? with
    | some (.inr (cj, fs)) => (cj = ci ∧ k < fs.length ∧ narrow ty (.int x) = .int x ∧ fits ty (.int x) = true) ∧ K n lo r (h.set a (.inr (cj, fs.set k (.int x))))
    | _ => False)
  | _ => False
def am_putR (ci k n : Nat) : am_A := fun lo st h K _ => match st with
  | .ref x :: .ref a :: r => (match h[a]? with
    | some (.inr (cj, fs)) => (cj = ci ∧ k < fs.length) ∧ K n lo r (h.set a (.inr (cj, fs.set k (.ref x))))
    | _ => False)
  | _ => False
def am_iald (n : Nat) : am_A := fun lo st h K _ => match st with
  | .int i :: .ref a :: r => (match h[a]? with
    | some (.inl (0, N, .inl f)) => vp_in i N ∧ K n lo (.int (f i.toNatClampNeg) :: r) h
    | _ => False)
  | _ => False
def am_iast (n : Nat) : am_A := fun lo st h K _ => match st with
  | .int x :: .int i :: .ref a :: r => (match h[a]? with
    | some (.inl (0, N, .inl f)) => vp_in i N ∧ K n lo r (h.set a (.inl (0, N, .inl (upd f i.toNatClampNeg x))))
    | _ => False)
  | _ => False
def am_zald (n : Nat) : am_A := fun lo st h K _ => match st with
  | .int i :: .ref a :: r => (match h[a]? with
    | some (.inl (2, N, .inl f)) => vp_in i N ∧ K n lo (.int (f i.toNatClampNeg) :: r) h
    | _ => False)
  | _ => False
def am_zast (n : Nat) : am_A := fun lo st h K _ => match st with
  | .int x :: .int i :: .ref a :: r => (match h[a]? with
    | some (.inl (2, N, .inl f)) => vp_in i N ∧ K n lo r (h.set a (.inl (2, N, .inl (upd f i.toNatClampNeg (vp_nar .boolean x)))))
    | _ => False)
  | _ => False
def am_lald (n : Nat) : am_A := fun lo st h K _ => match st with
  | .int i :: .ref a :: r => (match h[a]? with
    | some (.inl (1, N, .inr (.inl f))) => vp_in i N ∧ K n lo (.long (f i.toNatClampNeg) :: r) h
    | _ => False)
  | _ => False
def am_last (n : Nat) : am_A := fun lo st h K _ => match st with
  | .long x :: .int i :: .ref a :: r => (match h[a]? with
    | some (.inl (1, N, .inr (.inl f))) => vp_in i N ∧ K n lo r (h.set a (.inl (1, N, .inr (.inl (vp_updL f i.toNatClampNeg x)))))
    | _ => False)
  | _ => False
def am_alen (n : Nat) : am_A := fun lo st h K _ => match st with
  | .ref a :: r => (match h[a]? with
    | some (.inl (t, N, _)) => t < 3 ∧ K n lo (.int (Int32.ofNat N) :: r) h
    | _ => False)
  | _ => False
/-- an array that is read alone, at the pretended place t: of length N, holding f -/
def am_sld (t N : Nat) (f : Nat → Int32) (n : Nat) : am_A := fun lo st h K _ => match st with
  | .int i :: .ref a :: r => (a = t ∧ vp_in i N) ∧ K n lo (.int (f i.toNatClampNeg) :: r) h
  | _ => False
def am_slen (t N n : Nat) : am_A := fun lo st h K _ => match st with
  | .ref a :: r => a = t ∧ K n lo (.int (Int32.ofNat N) :: r) h
  | _ => False
def am_iret : am_A := fun _ st h _ R => match st with
  | [.int x] => R (.inr (some (.int x))) h
  | _ => False
def am_lret : am_A := fun _ st h _ R => match st with
  | [.long x] => R (.inr (some (.long x))) h
  | _ => False
def am_vret : am_A := fun _ st h _ R => match st with
  | [] => R (.inr none) h
  | _ => False
/-- 'throw new E("..")', an exception of kind k: the five instructions at once -/
def am_throw (k : Nat) : am_A := fun _ st h _ R => match st with
  | [] => R (.inl k) h
  | _ => False
/-- a callee's meaning: from arguments and heap, what must hold behind it -/
abbrev am_M : Type := List Value → am_H → am_P → Prop
def am_cut : Nat → List Value → List Value → Option (List Value × List Value)
  | 0, acc, st => some (acc, st)
  | _ + 1, _, [] => none
  | n + 1, acc, v :: st => am_cut n (v :: acc) st
def am_on (n : Nat) (lo : am_L) (r : List Value) (K : am_K) : am_P := fun o h => match o with
  | .inr v => K n lo (v.toList ++ r) h
  | .inl _ => False
/-- a call of a method with np words of arguments besides none: static -/
def am_callS (M : am_M) (np n : Nat) : am_A := fun lo st h K _ => match am_cut np [] st with
  | some (as, r) => (r.map fun v => v.category).sum ≤ 8 ∧ M as h (am_on n lo r K)
  | none => False
/-- a call upon an object of class ci: the receiver is the first of np + 1 arguments -/
def am_callV (M : am_M) (ci np n : Nat) : am_A := fun lo st h K _ => match am_cut (np + 1) [] st with
  | some (.ref a :: as, r) => ((r.map fun v => v.category).sum ≤ 8 ∧ (match h[a]? with
    | some (.inr (cj, _)) => cj = ci
    | _ => False)) ∧ M (.ref a :: as) h (am_on n lo r K)
  | _ => False
/-! ## soundness -/
def am_tys (dA : Nat → ClassId) : List (ClassId × FieldType) := [(dA 0, .int), (dA 1, .long), (dA 2, .boolean)]
/-- what an abstract state says of the machine -/
def am_W (p : Program) (l : Launch) (e : Env) (R : Room) (s : State) (m : MethodId) (args : Array Value) (below : List Frame) (meth : Method) (c : Code) (Q : State → Prop) (nL : Nat) (dC : Nat → ClassId) (dI : Nat → Nat → Nat) (dA : Nat → ClassId) (A : Nat → Nat) (A0 : Nat → Prop) (cells slots : Nat) : am_K := fun pc lo st h =>
  ∀ (H : Heap) (ls : Array Slot) (locs : List Loc), lv_has ls nL (am_lv A 0 lo) → va_P (dC, dI) vwCl (am_c dA A 0 h) H → va_D A0 (am_c dA A 0 h) → va_S A0 s.heap H locs → W p l e R s m args below meth c H locs cells slots Q (F0 m pc ls (st.map (am_v A)))
/-- what stands throughout a method's walk -/
def am_C (En : (Nat → Nat) → (Nat → Prop) → State → Prop) (cc : ByteArray) (nL : Nat) (own : String) (d w : Nat) (p : Program) (R : Room) (s : State) (m : MethodId) (args : Array Value) (c : Code) (dC : Nat → ClassId) (dI : Nat → Nat → Nat) (dA : Nat → ClassId) (A : Nat → Nat) (A0 : Nat → Prop) (cells slots : Nat) : Prop :=
  p.tables.exec = Jvm.exec ∧ c.code = cc ∧ c.maxLocals = nL ∧ s.vm.findClass own = some m.cls ∧ (∀ w ∈ lw_good, w.before args s = true) ∧ va_K (dC, dI) vwCl (am_tys dA) s ∧ (∀ q, s.heap.size ≤ q → A0 q) ∧ En A A0 s ∧ (d ≤ R.frames ∧ w ≤ R.locals ∧ cells ≤ R.cells ∧ slots ≤ R.slots)
/-- how the method's own ends are met -/
def am_End (cc : ByteArray) (p : Program) (l : Launch) (e : Env) (R : Room) (s : State) (m : MethodId) (args : Array Value) (below : List Frame) (meth : Method) (c : Code) (Q : State → Prop) (nL : Nat) (dC : Nat → ClassId) (dI : Nat → Nat → Nat) (dA : Nat → ClassId) (A : Nat → Nat) (A0 : Nat → Prop) (cells slots : Nat) (Rp : am_P) : Prop :=
  (∀ (x : Int32) (h : am_H) (H : Heap) (locs : List Loc) (ls : Array Slot) (pc : Nat), Rp (.inr (some (.int x))) h → va_P (dC, dI) vwCl (am_c dA A 0 h) H → va_D A0 (am_c dA A 0 h) → va_S A0 s.heap H locs → decode cc pc = .ok (.ireturn, 1) → W p l e R s m args below meth c H locs cells slots Q (F0 m pc ls [.int x])) ∧
  (∀ (x : Int64) (h : am_H) (H : Heap) (locs : List Loc) (ls : Array Slot) (pc : Nat), Rp (.inr (some (.long x))) h → va_P (dC, dI) vwCl (am_c dA A 0 h) H → va_D A0 (am_c dA A 0 h) → va_S A0 s.heap H locs → decode cc pc = .ok (.lreturn, 1) → W p l e R s m args below meth c H locs cells slots Q (F0 m pc ls [.long x])) ∧
  (∀ (h : am_H) (H : Heap) (locs : List Loc) (ls : Array Slot) (pc : Nat), Rp (.inr none) h → va_P (dC, dI) vwCl (am_c dA A 0 h) H → va_D A0 (am_c dA A 0 h) → va_S A0 s.heap H locs → decode cc pc = .ok (.return_, 1) → W p l e R s m args below meth c H locs cells slots Q (F0 m pc ls []))
def am_Snd (En : (Nat → Nat) → (Nat → Prop) → State → Prop) (cc : ByteArray) (nL : Nat) (own : String) (d w pc : Nat) (a : am_A) : Prop :=
  ∀ (p : Program) (l : Launch) (e : Env) (R : Room) (s : State) (m : MethodId) (args : Array Value) (below : List Frame) (meth : Method) (c : Code) (Q : State → Prop) (dC : Nat → ClassId) (dI : Nat → Nat → Nat) (dA : Nat → ClassId) (A : Nat → Nat) (A0 : Nat → Prop) (cells slots : Nat) (Rp : am_P),
    am_C En cc nL own d w p R s m args c dC dI dA A A0 cells slots → am_End cc p l e R s m args below meth c Q nL dC dI dA A A0 cells slots Rp → ∀ (lo : am_L) (st : List Value) (h : am_H) (K : am_K), a lo st h K Rp → (∀ pc' lo' st' h', K pc' lo' st' h' → am_W p l e R s m args below meth c Q nL dC dI dA A A0 cells slots pc' lo' st' h') → am_W p l e R s m args below meth c Q nL dC dI dA A A0 cells slots pc lo st h
section SND
variable {En : (Nat → Nat) → (Nat → Prop) → State → Prop} {cc : ByteArray} {nL d w pc : Nat} {own : String}
theorem am_s_stuck  : am_Snd En cc nL own d w pc (am_stuck) := by
  intro p l e R s m args below meth c Q dC dI dA A A0 cells slots Rp hC hE lo st h K ha hk H ls locs hl hP hD hS
  exact ha.elim
theorem am_s_iconst {n : Int} {v : Int32} (hd : decode cc pc = .ok (.iconst n, 1)) (hv : Int32.ofInt n = v) : am_Snd En cc nL own d w pc (am_push (.int v) (pc + 1)) := by
  intro p l e R s m args below meth c Q dC dI dA A A0 cells slots Rp hC hE lo st h K ha hk H ls locs hl hP hD hS
  exact lv_iconst hC.1 hC.2.1 hd hv (hk _ _ _ _ ha H ls locs hl hP hD hS)
theorem am_s_bipush {n : Int} {v : Int32} (hd : decode cc pc = .ok (.bipush n, 2)) (hv : (Int8.ofInt n).toInt32 = v) : am_Snd En cc nL own d w pc (am_push (.int v) (pc + 2)) := by
  intro p l e R s m args below meth c Q dC dI dA A A0 cells slots Rp hC hE lo st h K ha hk H ls locs hl hP hD hS
  exact lv_bipush hC.1 hC.2.1 hd hv (hk _ _ _ _ ha H ls locs hl hP hD hS)
theorem am_s_sipush {n : Int} {v : Int32} (hd : decode cc pc = .ok (.sipush n, 3)) (hv : (Int16.ofInt n).toInt32 = v) : am_Snd En cc nL own d w pc (am_push (.int v) (pc + 3)) := by
  intro p l e R s m args below meth c Q dC dI dA A A0 cells slots Rp hC hE lo st h K ha hk H ls locs hl hP hD hS
  exact lv_sipush hC.1 hC.2.1 hd hv (hk _ _ _ _ ha H ls locs hl hP hD hS)
theorem am_s_ldc {i : Nat} {v : Int32} (hw : Cond.constant own i v ∈ lw_good) (hd : decode cc pc = .ok (.ldc i, 2)) : am_Snd En cc nL own d w pc (am_push (.int v) (pc + 2)) := by
  intro p l e R s m args below meth c Q dC dI dA A A0 cells slots Rp hC hE lo st h K ha hk H ls locs hl hP hD hS
  exact lv_ldc hC.1 hC.2.1 hC.2.2.2.1 (hC.2.2.2.2.1 _ hw) hd (hk _ _ _ _ ha H ls locs hl hP hD hS)
theorem am_s_ldc2 {i : Nat} {v : Int64} (hw : Cond.constantLong own i v ∈ lw_good) (hd : decode cc pc = .ok (.ldc2_w i, 3)) : am_Snd En cc nL own d w pc (am_push (.long v) (pc + 3)) := by
  intro p l e R s m args below meth c Q dC dI dA A A0 cells slots Rp hC hE lo st h K ha hk H ls locs hl hP hD hS
  exact lv_ldc2 hC.1 hC.2.1 hC.2.2.2.1 (hC.2.2.2.2.1 _ hw) hd (hk _ _ _ _ ha H ls locs hl hP hD hS)
theorem am_s_iload_n {k : Fin 4} (i : Nat) (hd : decode cc pc = .ok (.iload_n k, 1)) (hi : (k : Nat) = i) : am_Snd En cc nL own d w pc (am_iload i (pc + 1)) := by
  intro p l e R s m args below meth c Q dC dI dA A A0 cells slots Rp hC hE lo st h K ha hk H ls locs hl hP hD hS
  unfold am_iload at ha
  split at ha
  · rename_i x hx
    exact lv_iload_n hC.1 hC.2.1 hd hi (am_lv_at hl hx) (hk _ _ _ _ ha H ls locs hl hP hD hS)
  · exact ha.elim
theorem am_s_iload {i : Nat} (hd : decode cc pc = .ok (.iload i, 2)) : am_Snd En cc nL own d w pc (am_iload i (pc + 2)) := by
  intro p l e R s m args below meth c Q dC dI dA A A0 cells slots Rp hC hE lo st h K ha hk H ls locs hl hP hD hS
  unfold am_iload at ha
  split at ha
  · rename_i x hx
    exact lv_iload hC.1 hC.2.1 hd (am_lv_at hl hx) (hk _ _ _ _ ha H ls locs hl hP hD hS)
  · exact ha.elim
theorem am_s_lload_n {k : Fin 4} (i : Nat) (hd : decode cc pc = .ok (.lload_n k, 1)) (hi : (k : Nat) = i) : am_Snd En cc nL own d w pc (am_lload i (pc + 1)) := by
  intro p l e R s m args below meth c Q dC dI dA A A0 cells slots Rp hC hE lo st h K ha hk H ls locs hl hP hD hS
  unfold am_lload at ha
  split at ha
  · rename_i x hx
    exact lv_lload_n hC.1 hC.2.1 hd hi (am_lv_at hl hx) (hk _ _ _ _ ha H ls locs hl hP hD hS)
  · exact ha.elim
theorem am_s_lload {i : Nat} (hd : decode cc pc = .ok (.lload i, 2)) : am_Snd En cc nL own d w pc (am_lload i (pc + 2)) := by
  intro p l e R s m args below meth c Q dC dI dA A A0 cells slots Rp hC hE lo st h K ha hk H ls locs hl hP hD hS
  unfold am_lload at ha
  split at ha
  · rename_i x hx
    exact lv_lload hC.1 hC.2.1 hd (am_lv_at hl hx) (hk _ _ _ _ ha H ls locs hl hP hD hS)
  · exact ha.elim
theorem am_s_aload_n {k : Fin 4} (i : Nat) (hd : decode cc pc = .ok (.aload_n k, 1)) (hi : (k : Nat) = i) : am_Snd En cc nL own d w pc (am_aload i (pc + 1)) := by
  intro p l e R s m args below meth c Q dC dI dA A A0 cells slots Rp hC hE lo st h K ha hk H ls locs hl hP hD hS
  unfold am_aload at ha
  split at ha
  · rename_i x hx
    exact lv_aload_n hC.1 hC.2.1 hd hi (am_lv_at hl hx) (hk _ _ _ _ ha H ls locs hl hP hD hS)
  · exact ha.elim
theorem am_s_aload {i : Nat} (hd : decode cc pc = .ok (.aload i, 2)) : am_Snd En cc nL own d w pc (am_aload i (pc + 2)) := by
  intro p l e R s m args below meth c Q dC dI dA A A0 cells slots Rp hC hE lo st h K ha hk H ls locs hl hP hD hS
  unfold am_aload at ha
  split at ha
  · rename_i x hx
    exact lv_aload hC.1 hC.2.1 hd (am_lv_at hl hx) (hk _ _ _ _ ha H ls locs hl hP hD hS)
  · exact ha.elim
theorem am_s_istore_n {k : Fin 4} (i : Nat) (hd : decode cc pc = .ok (.istore_n k, 1)) (hi : (k : Nat) = i) (hn : i < nL) : am_Snd En cc nL own d w pc (am_istore i (pc + 1)) := by
  intro p l e R s m args below meth c Q dC dI dA A A0 cells slots Rp hC hE lo st h K ha hk H ls locs hl hP hD hS
  unfold am_istore at ha
  split at ha
  · exact lv_istore_n hC.1 hC.2.1 hd hi hl hn rfl (fun ls' hl' => hk _ _ _ _ ha.2 H ls' locs (am_lv_more hl' (am_lv_set ha.1.1)) hP hD hS)
  · exact ha.elim
theorem am_s_istore {i : Nat} (hd : decode cc pc = .ok (.istore i, 2)) (hn : i < nL) : am_Snd En cc nL own d w pc (am_istore i (pc + 2)) := by
  intro p l e R s m args below meth c Q dC dI dA A A0 cells slots Rp hC hE lo st h K ha hk H ls locs hl hP hD hS
  unfold am_istore at ha
  split at ha
  · exact lv_istore hC.1 hC.2.1 hd hl hn rfl (fun ls' hl' => hk _ _ _ _ ha.2 H ls' locs (am_lv_more hl' (am_lv_set ha.1.1)) hP hD hS)
  · exact ha.elim
theorem am_s_astore_n {k : Fin 4} (i : Nat) (hd : decode cc pc = .ok (.astore_n k, 1)) (hi : (k : Nat) = i) (hn : i < nL) : am_Snd En cc nL own d w pc (am_astore i (pc + 1)) := by
  intro p l e R s m args below meth c Q dC dI dA A A0 cells slots Rp hC hE lo st h K ha hk H ls locs hl hP hD hS
  unfold am_astore at ha
  split at ha
  · exact lv_astore_n hC.1 hC.2.1 hd hi hl hn rfl (fun ls' hl' => hk _ _ _ _ ha.2 H ls' locs (am_lv_more hl' (am_lv_set ha.1.1)) hP hD hS)
  · exact ha.elim
theorem am_s_astore {i : Nat} (hd : decode cc pc = .ok (.astore i, 2)) (hn : i < nL) : am_Snd En cc nL own d w pc (am_astore i (pc + 2)) := by
  intro p l e R s m args below meth c Q dC dI dA A A0 cells slots Rp hC hE lo st h K ha hk H ls locs hl hP hD hS
  unfold am_astore at ha
  split at ha
  · exact lv_astore hC.1 hC.2.1 hd hl hn rfl (fun ls' hl' => hk _ _ _ _ ha.2 H ls' locs (am_lv_more hl' (am_lv_set ha.1.1)) hP hD hS)
  · exact ha.elim
theorem am_lv_find {A : Nat → Nat} : ∀ (l : am_L) (i0 i : Nat) (v : Value), l[i]? = some (some v) → ∃ k : Nat, (am_lv A i0 l)[k]? = some (i0 + i, am_v A v)
  | [], i0, i, v, h => by simp at h
  | none :: t, i0, 0, v, h => by simp at h
  | none :: t, i0, i + 1, v, h => by
    obtain ⟨k, e⟩ := am_lv_find t (i0 + 1) i v (by simpa using h)
    exact ⟨k, by simp only [am_lv]; rw [e, show i0 + 1 + i = i0 + (i + 1) by omega]⟩
  | some w :: t, i0, 0, v, h => ⟨0, by have e : w = v := by simpa using h
                                       rw [e]; rfl⟩
  | some w :: t, i0, i + 1, v, h => by
    obtain ⟨k, e⟩ := am_lv_find t (i0 + 1) i v (by simpa using h)
    exact ⟨k + 1, by simp only [am_lv, List.getElem?_cons_succ]; rw [e, show i0 + 1 + i = i0 + (i + 1) by omega]⟩
theorem am_s_iinc {i : Nat} {n : Int} (hd : decode cc pc = .ok (.iinc i n, 3)) (hn : i < nL) : am_Snd En cc nL own d w pc (am_iinc i n (pc + 3)) := by
  intro p l e R s m args below meth c Q dC dI dA A A0 cells slots Rp hC hE lo st h K ha hk H ls locs hl hP hD hS
  unfold am_iinc at ha
  split at ha
  · rename_i x hx
    obtain ⟨k, ek⟩ := am_lv_find (A := A) lo 0 i (.int x) hx
    rw [Nat.zero_add] at ek
    exact lv_iinc (k := k) hC.1 hC.2.1 hd hl ek rfl hn rfl (fun ls' hl' => hk _ _ _ _ ha.2 H ls' locs (am_lv_more hl' (am_lv_set ha.1.1)) hP hD hS)
  · exact ha.elim
theorem am_s_iadd (hd : decode cc pc = .ok (.iadd, 1)) : am_Snd En cc nL own d w pc (am_i2 (fun x y => x + y) (pc + 1)) := by
  intro p l e R s m args below meth c Q dC dI dA A A0 cells slots Rp hC hE lo st h K ha hk H ls locs hl hP hD hS
  unfold am_i2 at ha
  split at ha
  · exact lv_iadd hC.1 hC.2.1 hd (hk _ _ _ _ ha H ls locs hl hP hD hS)
  · exact ha.elim
theorem am_s_isub (hd : decode cc pc = .ok (.isub, 1)) : am_Snd En cc nL own d w pc (am_i2 (fun x y => x - y) (pc + 1)) := by
  intro p l e R s m args below meth c Q dC dI dA A A0 cells slots Rp hC hE lo st h K ha hk H ls locs hl hP hD hS
  unfold am_i2 at ha
  split at ha
  · exact lv_isub hC.1 hC.2.1 hd (hk _ _ _ _ ha H ls locs hl hP hD hS)
  · exact ha.elim
theorem am_s_imul (hd : decode cc pc = .ok (.imul, 1)) : am_Snd En cc nL own d w pc (am_i2 (fun x y => x * y) (pc + 1)) := by
  intro p l e R s m args below meth c Q dC dI dA A A0 cells slots Rp hC hE lo st h K ha hk H ls locs hl hP hD hS
  unfold am_i2 at ha
  split at ha
  · exact lv_imul hC.1 hC.2.1 hd (hk _ _ _ _ ha H ls locs hl hP hD hS)
  · exact ha.elim
theorem am_s_iand (hd : decode cc pc = .ok (.iand, 1)) : am_Snd En cc nL own d w pc (am_i2 (fun x y => x &&& y) (pc + 1)) := by
  intro p l e R s m args below meth c Q dC dI dA A A0 cells slots Rp hC hE lo st h K ha hk H ls locs hl hP hD hS
  unfold am_i2 at ha
  split at ha
  · exact lv_iand hC.1 hC.2.1 hd (hk _ _ _ _ ha H ls locs hl hP hD hS)
  · exact ha.elim
theorem am_s_ior (hd : decode cc pc = .ok (.ior, 1)) : am_Snd En cc nL own d w pc (am_i2 (fun x y => x ||| y) (pc + 1)) := by
  intro p l e R s m args below meth c Q dC dI dA A A0 cells slots Rp hC hE lo st h K ha hk H ls locs hl hP hD hS
  unfold am_i2 at ha
  split at ha
  · exact lv_ior hC.1 hC.2.1 hd (hk _ _ _ _ ha H ls locs hl hP hD hS)
  · exact ha.elim
theorem am_s_ixor (hd : decode cc pc = .ok (.ixor, 1)) : am_Snd En cc nL own d w pc (am_i2 (fun x y => x ^^^ y) (pc + 1)) := by
  intro p l e R s m args below meth c Q dC dI dA A A0 cells slots Rp hC hE lo st h K ha hk H ls locs hl hP hD hS
  unfold am_i2 at ha
  split at ha
  · exact lv_ixor hC.1 hC.2.1 hd (hk _ _ _ _ ha H ls locs hl hP hD hS)
  · exact ha.elim
theorem am_s_ishl (hd : decode cc pc = .ok (.ishl, 1)) : am_Snd En cc nL own d w pc (am_i2 (fun x y => x <<< (y &&& 31)) (pc + 1)) := by
  intro p l e R s m args below meth c Q dC dI dA A A0 cells slots Rp hC hE lo st h K ha hk H ls locs hl hP hD hS
  unfold am_i2 at ha
  split at ha
  · exact lv_ishl hC.1 hC.2.1 hd (hk _ _ _ _ ha H ls locs hl hP hD hS)
  · exact ha.elim
theorem am_s_ishr (hd : decode cc pc = .ok (.ishr, 1)) : am_Snd En cc nL own d w pc (am_i2 (fun x y => x >>> (y &&& 31)) (pc + 1)) := by
  intro p l e R s m args below meth c Q dC dI dA A A0 cells slots Rp hC hE lo st h K ha hk H ls locs hl hP hD hS
  unfold am_i2 at ha
  split at ha
  · exact lv_ishr hC.1 hC.2.1 hd (hk _ _ _ _ ha H ls locs hl hP hD hS)
  · exact ha.elim
theorem am_s_iushr (hd : decode cc pc = .ok (.iushr, 1)) : am_Snd En cc nL own d w pc (am_i2 (fun x y => (x.toUInt32 >>> (y.toUInt32 &&& Int32.toUInt32 31)).toInt32) (pc + 1)) := by
  intro p l e R s m args below meth c Q dC dI dA A A0 cells slots Rp hC hE lo st h K ha hk H ls locs hl hP hD hS
  unfold am_i2 at ha
  split at ha
  · exact lv_iushr hC.1 hC.2.1 hd rfl (hk _ _ _ _ ha H ls locs hl hP hD hS)
  · exact ha.elim
theorem am_s_idiv (hd : decode cc pc = .ok (.idiv, 1)) : am_Snd En cc nL own d w pc (am_idiv (fun x y => x / y) (pc + 1)) := by
  intro p l e R s m args below meth c Q dC dI dA A A0 cells slots Rp hC hE lo st h K ha hk H ls locs hl hP hD hS
  unfold am_idiv at ha
  split at ha
  · exact lv_idiv hC.1 hC.2.1 hd ha.1 (hk _ _ _ _ ha.2 H ls locs hl hP hD hS)
  · exact ha.elim
theorem am_s_irem (hd : decode cc pc = .ok (.irem, 1)) : am_Snd En cc nL own d w pc (am_idiv (fun x y => x - x / y * y) (pc + 1)) := by
  intro p l e R s m args below meth c Q dC dI dA A A0 cells slots Rp hC hE lo st h K ha hk H ls locs hl hP hD hS
  unfold am_idiv at ha
  split at ha
  · exact lv_irem hC.1 hC.2.1 hd ha.1 (hk _ _ _ _ ha.2 H ls locs hl hP hD hS)
  · exact ha.elim
theorem am_s_ineg (hd : decode cc pc = .ok (.ineg, 1)) : am_Snd En cc nL own d w pc (am_i1 (fun x => -x) (pc + 1)) := by
  intro p l e R s m args below meth c Q dC dI dA A A0 cells slots Rp hC hE lo st h K ha hk H ls locs hl hP hD hS
  unfold am_i1 at ha
  split at ha
  · exact lv_ineg hC.1 hC.2.1 hd (hk _ _ _ _ ha H ls locs hl hP hD hS)
  · exact ha.elim
theorem am_s_ladd (hd : decode cc pc = .ok (.ladd, 1)) : am_Snd En cc nL own d w pc (am_l2 (fun x y => x + y) (pc + 1)) := by
  intro p l e R s m args below meth c Q dC dI dA A A0 cells slots Rp hC hE lo st h K ha hk H ls locs hl hP hD hS
  unfold am_l2 at ha
  split at ha
  · exact lv_ladd hC.1 hC.2.1 hd (hk _ _ _ _ ha H ls locs hl hP hD hS)
  · exact ha.elim
theorem am_s_lsub (hd : decode cc pc = .ok (.lsub, 1)) : am_Snd En cc nL own d w pc (am_l2 (fun x y => x - y) (pc + 1)) := by
  intro p l e R s m args below meth c Q dC dI dA A A0 cells slots Rp hC hE lo st h K ha hk H ls locs hl hP hD hS
  unfold am_l2 at ha
  split at ha
  · exact lv_lsub hC.1 hC.2.1 hd (hk _ _ _ _ ha H ls locs hl hP hD hS)
  · exact ha.elim
theorem am_s_lmul (hd : decode cc pc = .ok (.lmul, 1)) : am_Snd En cc nL own d w pc (am_l2 (fun x y => x * y) (pc + 1)) := by
  intro p l e R s m args below meth c Q dC dI dA A A0 cells slots Rp hC hE lo st h K ha hk H ls locs hl hP hD hS
  unfold am_l2 at ha
  split at ha
  · exact lv_lmul hC.1 hC.2.1 hd (hk _ _ _ _ ha H ls locs hl hP hD hS)
  · exact ha.elim
theorem am_s_land (hd : decode cc pc = .ok (.land, 1)) : am_Snd En cc nL own d w pc (am_l2 (fun x y => x &&& y) (pc + 1)) := by
  intro p l e R s m args below meth c Q dC dI dA A A0 cells slots Rp hC hE lo st h K ha hk H ls locs hl hP hD hS
  unfold am_l2 at ha
  split at ha
  · exact lv_land hC.1 hC.2.1 hd (hk _ _ _ _ ha H ls locs hl hP hD hS)
  · exact ha.elim
theorem am_s_lor (hd : decode cc pc = .ok (.lor, 1)) : am_Snd En cc nL own d w pc (am_l2 (fun x y => x ||| y) (pc + 1)) := by
  intro p l e R s m args below meth c Q dC dI dA A A0 cells slots Rp hC hE lo st h K ha hk H ls locs hl hP hD hS
  unfold am_l2 at ha
  split at ha
  · exact lv_lor hC.1 hC.2.1 hd (hk _ _ _ _ ha H ls locs hl hP hD hS)
  · exact ha.elim
theorem am_s_lxor (hd : decode cc pc = .ok (.lxor, 1)) : am_Snd En cc nL own d w pc (am_l2 (fun x y => x ^^^ y) (pc + 1)) := by
  intro p l e R s m args below meth c Q dC dI dA A A0 cells slots Rp hC hE lo st h K ha hk H ls locs hl hP hD hS
  unfold am_l2 at ha
  split at ha
  · exact lv_lxor hC.1 hC.2.1 hd (hk _ _ _ _ ha H ls locs hl hP hD hS)
  · exact ha.elim
theorem am_s_ldiv (hd : decode cc pc = .ok (.ldiv, 1)) : am_Snd En cc nL own d w pc (am_ldiv (pc + 1)) := by
  intro p l e R s m args below meth c Q dC dI dA A A0 cells slots Rp hC hE lo st h K ha hk H ls locs hl hP hD hS
  unfold am_ldiv at ha
  split at ha
  · exact lv_ldiv hC.1 hC.2.1 hd ha.1 (hk _ _ _ _ ha.2 H ls locs hl hP hD hS)
  · exact ha.elim
theorem am_s_lconst {n : Fin 2} {v : Int64} (hd : decode cc pc = .ok (.lconst n, 1)) (hv : Int64.ofNat (n : Nat) = v) : am_Snd En cc nL own d w pc (am_push (.long v) (pc + 1)) := by
  intro p l e R s m args below meth c Q dC dI dA A A0 cells slots Rp hC hE lo st h K ha hk H ls locs hl hP hD hS
  exact lv_lconst hC.1 hC.2.1 hd hv (hk _ _ _ _ ha H ls locs hl hP hD hS)
theorem am_s_ldcw {i : Nat} {v : Int32} (hw : Cond.constant own i v ∈ lw_good) (hd : decode cc pc = .ok (.ldc_w i, 3)) : am_Snd En cc nL own d w pc (am_push (.int v) (pc + 3)) := by
  intro p l e R s m args below meth c Q dC dI dA A A0 cells slots Rp hC hE lo st h K ha hk H ls locs hl hP hD hS
  exact lv_ldcw hC.1 hC.2.1 hC.2.2.2.1 (hC.2.2.2.2.1 _ hw) hd (hk _ _ _ _ ha H ls locs hl hP hD hS)
theorem am_lv_set2 {A : Nat → Nat} {l : am_L} {i : Nat} {x : Int64} (hg : am_g2 l i = true) : ∀ q ∈ am_lv A 0 ((l.set i (some (.long x))).set (i + 1) none), q ∈ (i, Value.long x) :: (am_lv A 0 l).filter (fun q => !(q.1 == i) && (!(q.1 == i + 1) && !(q.1 + 1 == i && q.2.category == 2))) := by
  intro q hq
  obtain ⟨j, v, h, e⟩ := (am_lv_mem A q _ 0).mp hq
  rw [Nat.zero_add] at e
  by_cases hj1 : i + 1 = j
  · subst hj1
    rw [List.getElem?_set] at h
    split at h
    · split at h
      · cases h
      · cases h
    · rename_i hne; exact absurd rfl hne
  · rw [List.getElem?_set_ne hj1] at h
    have h2 := am_lv_set (A := A) (v := .long x) hg q ((am_lv_mem A q _ 0).mpr ⟨j, v, h, by rw [Nat.zero_add]; exact e⟩)
    rcases List.mem_cons.mp h2 with h2 | h2
    · rw [h2]; exact List.mem_cons_self
    · obtain ⟨h3, h4⟩ := List.mem_filter.mp h2
      refine List.mem_cons_of_mem _ (List.mem_filter.mpr ⟨h3, ?_⟩)
      have h5 : (q.1 == i + 1) = false := by rw [e]; simpa using fun z => hj1 z.symm
      simp only [Bool.and_eq_true] at h4 ⊢
      exact ⟨h4.1, by rw [h5]; rfl, h4.2⟩
theorem am_s_lstore_n {k : Fin 4} (i : Nat) (hd : decode cc pc = .ok (.lstore_n k, 1)) (hi : (k : Nat) = i) (hn : i + 1 < nL) : am_Snd En cc nL own d w pc (am_lstore i (pc + 1)) := by
  intro p l e R s m args below meth c Q dC dI dA A A0 cells slots Rp hC hE lo st h K ha hk H ls locs hl hP hD hS
  unfold am_lstore at ha
  split at ha
  · exact lv_lstore_n hC.1 hC.2.1 hd hi hl hn rfl (fun ls' hl' => hk _ _ _ _ ha.2 H ls' locs (am_lv_more hl' (am_lv_set2 ha.1.1)) hP hD hS)
  · exact ha.elim
theorem am_s_lstore {i : Nat} (hd : decode cc pc = .ok (.lstore i, 2)) (hn : i + 1 < nL) : am_Snd En cc nL own d w pc (am_lstore i (pc + 2)) := by
  intro p l e R s m args below meth c Q dC dI dA A A0 cells slots Rp hC hE lo st h K ha hk H ls locs hl hP hD hS
  unfold am_lstore at ha
  split at ha
  · exact lv_lstore hC.1 hC.2.1 hd hl hn rfl (fun ls' hl' => hk _ _ _ _ ha.2 H ls' locs (am_lv_more hl' (am_lv_set2 ha.1.1)) hP hD hS)
  · exact ha.elim
theorem am_s_lushr (hd : decode cc pc = .ok (.lushr, 1)) : am_Snd En cc nL own d w pc (am_lsh (fun x y => (x.toUInt64 >>> (y.toInt64.toUInt64 &&& Int64.toUInt64 63)).toInt64) (pc + 1)) := by
  intro p l e R s m args below meth c Q dC dI dA A A0 cells slots Rp hC hE lo st h K ha hk H ls locs hl hP hD hS
  unfold am_lsh at ha
  split at ha
  · exact lv_lushr hC.1 hC.2.1 hd rfl (hk _ _ _ _ ha H ls locs hl hP hD hS)
  · exact ha.elim
theorem am_s_lshl (hd : decode cc pc = .ok (.lshl, 1)) : am_Snd En cc nL own d w pc (am_lsh (fun x y => x <<< (y.toInt64 &&& 63)) (pc + 1)) := by
  intro p l e R s m args below meth c Q dC dI dA A A0 cells slots Rp hC hE lo st h K ha hk H ls locs hl hP hD hS
  unfold am_lsh at ha
  split at ha
  · exact lv_lshl hC.1 hC.2.1 hd rfl (hk _ _ _ _ ha H ls locs hl hP hD hS)
  · exact ha.elim
theorem am_s_lshr (hd : decode cc pc = .ok (.lshr, 1)) : am_Snd En cc nL own d w pc (am_lsh (fun x y => x >>> (y.toInt64 &&& 63)) (pc + 1)) := by
  intro p l e R s m args below meth c Q dC dI dA A A0 cells slots Rp hC hE lo st h K ha hk H ls locs hl hP hD hS
  unfold am_lsh at ha
  split at ha
  · exact lv_lshr hC.1 hC.2.1 hd rfl (hk _ _ _ _ ha H ls locs hl hP hD hS)
  · exact ha.elim
theorem am_s_lcmp (hd : decode cc pc = .ok (.lcmp, 1)) : am_Snd En cc nL own d w pc (am_lcmp (pc + 1)) := by
  intro p l e R s m args below meth c Q dC dI dA A A0 cells slots Rp hC hE lo st h K ha hk H ls locs hl hP hD hS
  unfold am_lcmp at ha
  split at ha
  · exact W.lcmp hC.1 hC.2.1 hd (hk _ _ _ _ ha H ls locs hl hP hD hS)
  · exact ha.elim
theorem am_s_i2l (hd : decode cc pc = .ok (.i2l, 1)) : am_Snd En cc nL own d w pc (am_i2l (pc + 1)) := by
  intro p l e R s m args below meth c Q dC dI dA A A0 cells slots Rp hC hE lo st h K ha hk H ls locs hl hP hD hS
  unfold am_i2l at ha
  split at ha
  · exact lv_i2l hC.1 hC.2.1 hd rfl (hk _ _ _ _ ha H ls locs hl hP hD hS)
  · exact ha.elim
theorem am_s_l2i (hd : decode cc pc = .ok (.l2i, 1)) : am_Snd En cc nL own d w pc (am_l2i (pc + 1)) := by
  intro p l e R s m args below meth c Q dC dI dA A A0 cells slots Rp hC hE lo st h K ha hk H ls locs hl hP hD hS
  unfold am_l2i at ha
  split at ha
  · exact lv_l2i hC.1 hC.2.1 hd rfl (hk _ _ _ _ ha H ls locs hl hP hD hS)
  · exact ha.elim
theorem am_s_dup (hd : decode cc pc = .ok (.dup, 1)) : am_Snd En cc nL own d w pc (am_dup (pc + 1)) := by
  intro p l e R s m args below meth c Q dC dI dA A A0 cells slots Rp hC hE lo st h K ha hk H ls locs hl hP hD hS
  unfold am_dup at ha
  split at ha
  · exact lv_dup hC.1 hC.2.1 hd ((am_v_cat A _).trans ha.1) (hk _ _ _ _ ha.2 H ls locs hl hP hD hS)
  · exact ha.elim
theorem am_s_pop (hd : decode cc pc = .ok (.pop, 1)) : am_Snd En cc nL own d w pc (am_pop (pc + 1)) := by
  intro p l e R s m args below meth c Q dC dI dA A A0 cells slots Rp hC hE lo st h K ha hk H ls locs hl hP hD hS
  unfold am_pop at ha
  split at ha
  · exact lv_pop hC.1 hC.2.1 hd ((am_v_cat A _).trans ha.1) (hk _ _ _ _ ha.2 H ls locs hl hP hD hS)
  · exact ha.elim
theorem am_s_dup_x1 (hd : decode cc pc = .ok (.dup_x1, 1)) : am_Snd En cc nL own d w pc (am_dup_x1 (pc + 1)) := by
  intro p l e R s m args below meth c Q dC dI dA A A0 cells slots Rp hC hE lo st h K ha hk H ls locs hl hP hD hS
  unfold am_dup_x1 at ha
  split at ha
  · exact lv_dup_x1 hC.1 hC.2.1 hd ((am_v_cat A _).trans ha.1.1) ((am_v_cat A _).trans ha.1.2) (hk _ _ _ _ ha.2 H ls locs hl hP hD hS)
  · exact ha.elim
theorem am_s_dup_x2 (hd : decode cc pc = .ok (.dup_x2, 1)) : am_Snd En cc nL own d w pc (am_dup_x2 (pc + 1)) := by
  intro p l e R s m args below meth c Q dC dI dA A A0 cells slots Rp hC hE lo st h K ha hk H ls locs hl hP hD hS
  unfold am_dup_x2 at ha
  split at ha
  · exact lv_dup_x2 hC.1 hC.2.1 hd ((am_v_cat A _).trans ha.1.1) ((am_v_cat A _).trans ha.1.2.1) ((am_v_cat A _).trans ha.1.2.2) (hk _ _ _ _ ha.2 H ls locs hl hP hD hS)
  · exact ha.elim
theorem am_s_dup2 (hd : decode cc pc = .ok (.dup2, 1)) : am_Snd En cc nL own d w pc (am_dup2 (pc + 1)) := by
  intro p l e R s m args below meth c Q dC dI dA A A0 cells slots Rp hC hE lo st h K ha hk H ls locs hl hP hD hS
  unfold am_dup2 at ha
  split at ha
  · exact lv_dup2_11 hC.1 hC.2.1 hd ((am_v_cat A _).trans ha.1.1) ((am_v_cat A _).trans ha.1.2) (hk _ _ _ _ ha.2 H ls locs hl hP hD hS)
  · exact ha.elim
theorem am_s_if_eq {off : Int} (t : Nat) (hd : decode cc pc = .ok (.ifCond .eq off, 3)) (ht : (pc : Int) + off = (t : Int)) : am_Snd En cc nL own d w pc (am_if (fun x => x = 0) t (pc + 3)) := by
  intro p l e R s m args below meth c Q dC dI dA A A0 cells slots Rp hC hE lo st h K ha hk H ls locs hl hP hD hS
  unfold am_if at ha
  split at ha
  · exact lv_if_eq hC.1 hC.2.1 hd ht (fun q => hk _ _ _ _ (ha.1 q) H ls locs hl hP hD hS) (fun q => hk _ _ _ _ (ha.2 q) H ls locs hl hP hD hS)
  · exact ha.elim
theorem am_s_if_ne {off : Int} (t : Nat) (hd : decode cc pc = .ok (.ifCond .ne off, 3)) (ht : (pc : Int) + off = (t : Int)) : am_Snd En cc nL own d w pc (am_if (fun x => ¬ x = 0) t (pc + 3)) := by
  intro p l e R s m args below meth c Q dC dI dA A A0 cells slots Rp hC hE lo st h K ha hk H ls locs hl hP hD hS
  unfold am_if at ha
  split at ha
  · exact lv_if_ne hC.1 hC.2.1 hd ht (fun q => hk _ _ _ _ (ha.1 q) H ls locs hl hP hD hS) (fun q => hk _ _ _ _ (ha.2 (fun z => z q)) H ls locs hl hP hD hS)
  · exact ha.elim
theorem am_s_if_lt {off : Int} (t : Nat) (hd : decode cc pc = .ok (.ifCond .lt off, 3)) (ht : (pc : Int) + off = (t : Int)) : am_Snd En cc nL own d w pc (am_if (fun x => x < 0) t (pc + 3)) := by
  intro p l e R s m args below meth c Q dC dI dA A A0 cells slots Rp hC hE lo st h K ha hk H ls locs hl hP hD hS
  unfold am_if at ha
  split at ha
  · exact lv_if_lt hC.1 hC.2.1 hd ht (fun q => hk _ _ _ _ (ha.1 q) H ls locs hl hP hD hS) (fun q => hk _ _ _ _ (ha.2 q) H ls locs hl hP hD hS)
  · exact ha.elim
theorem am_s_if_ge {off : Int} (t : Nat) (hd : decode cc pc = .ok (.ifCond .ge off, 3)) (ht : (pc : Int) + off = (t : Int)) : am_Snd En cc nL own d w pc (am_if (fun x => 0 ≤ x) t (pc + 3)) := by
  intro p l e R s m args below meth c Q dC dI dA A A0 cells slots Rp hC hE lo st h K ha hk H ls locs hl hP hD hS
  unfold am_if at ha
  split at ha
  · exact lv_if_ge hC.1 hC.2.1 hd ht (fun q => hk _ _ _ _ (ha.1 q) H ls locs hl hP hD hS) (fun q => hk _ _ _ _ (ha.2 q) H ls locs hl hP hD hS)
  · exact ha.elim
theorem am_s_if_gt {off : Int} (t : Nat) (hd : decode cc pc = .ok (.ifCond .gt off, 3)) (ht : (pc : Int) + off = (t : Int)) : am_Snd En cc nL own d w pc (am_if (fun x => 0 < x) t (pc + 3)) := by
  intro p l e R s m args below meth c Q dC dI dA A A0 cells slots Rp hC hE lo st h K ha hk H ls locs hl hP hD hS
  unfold am_if at ha
  split at ha
  · exact lv_if_gt hC.1 hC.2.1 hd ht (fun q => hk _ _ _ _ (ha.1 q) H ls locs hl hP hD hS) (fun q => hk _ _ _ _ (ha.2 q) H ls locs hl hP hD hS)
  · exact ha.elim
theorem am_s_if_le {off : Int} (t : Nat) (hd : decode cc pc = .ok (.ifCond .le off, 3)) (ht : (pc : Int) + off = (t : Int)) : am_Snd En cc nL own d w pc (am_if (fun x => x ≤ 0) t (pc + 3)) := by
  intro p l e R s m args below meth c Q dC dI dA A A0 cells slots Rp hC hE lo st h K ha hk H ls locs hl hP hD hS
  unfold am_if at ha
  split at ha
  · exact lv_if_le hC.1 hC.2.1 hd ht (fun q => hk _ _ _ _ (ha.1 q) H ls locs hl hP hD hS) (fun q => hk _ _ _ _ (ha.2 q) H ls locs hl hP hD hS)
  · exact ha.elim
theorem am_s_icmp_eq {off : Int} (t : Nat) (hd : decode cc pc = .ok (.if_icmp .eq off, 3)) (ht : (pc : Int) + off = (t : Int)) : am_Snd En cc nL own d w pc (am_if2 (fun x y => x = y) t (pc + 3)) := by
  intro p l e R s m args below meth c Q dC dI dA A A0 cells slots Rp hC hE lo st h K ha hk H ls locs hl hP hD hS
  unfold am_if2 at ha
  split at ha
  · exact lv_icmp_eq hC.1 hC.2.1 hd ht (fun q => hk _ _ _ _ (ha.1 q) H ls locs hl hP hD hS) (fun q => hk _ _ _ _ (ha.2 q) H ls locs hl hP hD hS)
  · exact ha.elim
theorem am_s_icmp_ne {off : Int} (t : Nat) (hd : decode cc pc = .ok (.if_icmp .ne off, 3)) (ht : (pc : Int) + off = (t : Int)) : am_Snd En cc nL own d w pc (am_if2 (fun x y => ¬ x = y) t (pc + 3)) := by
  intro p l e R s m args below meth c Q dC dI dA A A0 cells slots Rp hC hE lo st h K ha hk H ls locs hl hP hD hS
  unfold am_if2 at ha
  split at ha
  · exact lv_icmp_ne hC.1 hC.2.1 hd ht (fun q => hk _ _ _ _ (ha.1 q) H ls locs hl hP hD hS) (fun q => hk _ _ _ _ (ha.2 (fun z => z q)) H ls locs hl hP hD hS)
  · exact ha.elim
theorem am_s_icmp_lt {off : Int} (t : Nat) (hd : decode cc pc = .ok (.if_icmp .lt off, 3)) (ht : (pc : Int) + off = (t : Int)) : am_Snd En cc nL own d w pc (am_if2 (fun x y => x < y) t (pc + 3)) := by
  intro p l e R s m args below meth c Q dC dI dA A A0 cells slots Rp hC hE lo st h K ha hk H ls locs hl hP hD hS
  unfold am_if2 at ha
  split at ha
  · exact lv_icmp_lt hC.1 hC.2.1 hd ht (fun q => hk _ _ _ _ (ha.1 q) H ls locs hl hP hD hS) (fun q => hk _ _ _ _ (ha.2 q) H ls locs hl hP hD hS)
  · exact ha.elim
theorem am_s_icmp_ge {off : Int} (t : Nat) (hd : decode cc pc = .ok (.if_icmp .ge off, 3)) (ht : (pc : Int) + off = (t : Int)) : am_Snd En cc nL own d w pc (am_if2 (fun x y => y ≤ x) t (pc + 3)) := by
  intro p l e R s m args below meth c Q dC dI dA A A0 cells slots Rp hC hE lo st h K ha hk H ls locs hl hP hD hS
  unfold am_if2 at ha
  split at ha
  · exact lv_icmp_ge hC.1 hC.2.1 hd ht (fun q => hk _ _ _ _ (ha.1 q) H ls locs hl hP hD hS) (fun q => hk _ _ _ _ (ha.2 q) H ls locs hl hP hD hS)
  · exact ha.elim
theorem am_s_icmp_gt {off : Int} (t : Nat) (hd : decode cc pc = .ok (.if_icmp .gt off, 3)) (ht : (pc : Int) + off = (t : Int)) : am_Snd En cc nL own d w pc (am_if2 (fun x y => y < x) t (pc + 3)) := by
  intro p l e R s m args below meth c Q dC dI dA A A0 cells slots Rp hC hE lo st h K ha hk H ls locs hl hP hD hS
  unfold am_if2 at ha
  split at ha
  · exact lv_icmp_gt hC.1 hC.2.1 hd ht (fun q => hk _ _ _ _ (ha.1 q) H ls locs hl hP hD hS) (fun q => hk _ _ _ _ (ha.2 q) H ls locs hl hP hD hS)
  · exact ha.elim
theorem am_s_icmp_le {off : Int} (t : Nat) (hd : decode cc pc = .ok (.if_icmp .le off, 3)) (ht : (pc : Int) + off = (t : Int)) : am_Snd En cc nL own d w pc (am_if2 (fun x y => x ≤ y) t (pc + 3)) := by
  intro p l e R s m args below meth c Q dC dI dA A A0 cells slots Rp hC hE lo st h K ha hk H ls locs hl hP hD hS
  unfold am_if2 at ha
  split at ha
  · exact lv_icmp_le hC.1 hC.2.1 hd ht (fun q => hk _ _ _ _ (ha.1 q) H ls locs hl hP hD hS) (fun q => hk _ _ _ _ (ha.2 q) H ls locs hl hP hD hS)
  · exact ha.elim
theorem am_s_goto {off : Int} (t : Nat) (hd : decode cc pc = .ok (.goto off, 3)) (ht : (pc : Int) + off = (t : Int)) : am_Snd En cc nL own d w pc (am_goto t) := by
  intro p l e R s m args below meth c Q dC dI dA A A0 cells slots Rp hC hE lo st h K ha hk H ls locs hl hP hD hS
  exact lv_goto hC.1 hC.2.1 hd ht (hk _ _ _ _ ha H ls locs hl hP hD hS)
def am_tab (pc : Nat) : Int → List Int → List (Int32 × Nat)
  | _, [] => []
  | lo, o :: t => (Int32.ofInt lo, ((pc : Int) + o).toNat) :: am_tab pc (lo + 1) t
theorem am_tab_get (pc : Nat) : ∀ (os : List Int) (lo : Int) (j : Nat) (o : Int), os[j]? = some o → (am_tab pc lo os)[j]? = some (Int32.ofInt (lo + j), ((pc : Int) + o).toNat)
  | [], lo, j, o, h => by simp at h
  | a :: t, lo, 0, o, h => by
    have e : a = o := by simpa using h
    simp [am_tab, e]
  | a :: t, lo, j + 1, o, h => by
    have := am_tab_get pc t (lo + 1) j o (by simpa using h)
    simp only [am_tab, List.getElem?_cons_succ]
    rw [this, show lo + 1 + (j : Int) = lo + ((j + 1 : Nat) : Int) by omega]
theorem am_tab_mem (pc : Nat) : ∀ (os : List Int) (lo : Int) (q : Int32 × Nat), q ∈ am_tab pc lo os → ∃ j : Nat, j < os.length ∧ q.1 = Int32.ofInt (lo + j)
  | [], lo, q, h => by simp [am_tab] at h
  | a :: t, lo, q, h => by
    simp only [am_tab, List.mem_cons] at h
    rcases h with h | h
    · exact ⟨0, by simp, by rw [h]; simp⟩
    · obtain ⟨j, h1, h2⟩ := am_tab_mem pc t (lo + 1) q h
      exact ⟨j + 1, by simp; omega, by rw [h2, show lo + 1 + (j : Int) = lo + ((j + 1 : Nat) : Int) by omega]⟩
theorem am_s_table {dflt a b : Int} {offs : Array Int} {len : Nat} (t : Nat) (hd : decode cc pc = .ok (.tableswitch dflt a b offs, len)) (hb : b = a + (offs.size : Int) - 1) (hr : (-2147483648 : Int) ≤ a ∧ b ≤ 2147483647) (hn : offs.toList.all (fun o => decide (0 ≤ (pc : Int) + o)) = true) (ht : (pc : Int) + dflt = (t : Int)) : am_Snd En cc nL own d w pc (am_sw (am_tab pc a offs.toList) t) := by
  intro p l e R s m args below meth c Q dC dI dA A A0 cells slots Rp hC hE lo st h K ha hk H ls locs hl hP hD hS
  unfold am_sw at ha
  split at ha
  · rename_i x r
    by_cases hx : x.toInt < a ∨ b < x.toInt
    · refine lv_tableOut hC.1 hC.2.1 hd hx ht (hk _ _ _ _ (ha.2 ?_) H ls locs hl hP hD hS)
      intro q hq he
      obtain ⟨j, h1, h2⟩ := am_tab_mem pc _ _ q hq
      rw [h2] at he
      have h3 : x.toInt = a + j := by
        rw [he, Int32.toInt_ofInt_of_le]
        · simp at h1 ⊢; omega
        · simp at h1 ⊢; omega
      simp at h1
      omega
    · have h1 : ¬ x.toInt < a := fun z => hx (Or.inl z)
      have h2 : ¬ b < x.toInt := fun z => hx (Or.inr z)
      have hj : (x.toInt - a).toNat < offs.size := by omega
      have ho : offs[(x.toInt - a).toNat]? = some (offs[(x.toInt - a).toNat]'hj) := by simp [hj]
      have hp : 0 ≤ (pc : Int) + offs[(x.toInt - a).toNat]'hj := by
        have := List.all_eq_true.mp hn (offs[(x.toInt - a).toNat]'hj) (by simp)
        simpa using this
      refine lv_tableIn (tgt := ((pc : Int) + offs[(x.toInt - a).toNat]'hj).toNat) hC.1 hC.2.1 hd h1 h2 ho (by omega) (hk _ _ _ _ (ha.1 _ (List.mem_of_getElem? (am_tab_get pc offs.toList a (x.toInt - a).toNat _ (by rw [Array.getElem?_toList]; exact ho))) ?_) H ls locs hl hP hD hS)
      show x = Int32.ofInt (a + ((x.toInt - a).toNat : Int))
      rw [show a + ((x.toInt - a).toNat : Int) = x.toInt by omega, Int32.ofInt_toInt]
  · exact ha.elim
theorem am_s_get {ci k N index : Nat} {C : String} {T : u_T} (hc : vwCl[ci]? = some (C, T, N)) (hin : ∀ w ∈ u_ws C T N, w ∈ lw_good) (hkN : k < N) (hlink : Cond.fieldLink own index (T k).1 (T k).2.1 (T k).2.2.1 ∈ lw_good) (hd : decode cc pc = .ok (.getfield index, 3)) : am_Snd En cc nL own d w pc (am_get ci k (pc + 3)) := by
  intro p l e R s m args below meth c Q dC dI dA A A0 cells slots Rp hC hE lo st h K ha hk H ls locs hl hP hD hS
  unfold am_get at ha
  split at ha
  · rename_i a r
    split at ha
    · rename_i cj fs ea
      obtain ⟨hcj, ha⟩ := ha
      subst hcj
      split at ha
      · rename_i v ev
        exact va_get hC.1 hC.2.1 hC.2.2.2.2.1 hin hC.2.2.2.1 hC.2.2.2.2.2.1 hP a (am_c_at ea) hc k hkN (hC.2.2.2.2.1 _ hlink) (fun _ z => z) (by show (fs.map (am_v A))[k]? = _; rw [List.getElem?_map, ev]; rfl) hd (hk _ _ _ _ ha H ls locs hl hP hD hS)
      · exact ha.elim
    · exact ha.elim
  · exact ha.elim
theorem am_s_getN {ci k N index : Nat} {C host : String} {T : u_T} (hEn : ∀ A A0 s, En A A0 s → am_En A A0 s) (hc : vwCl[ci]? = some (C, T, N)) (hin : ∀ w ∈ u_ws C T N, w ∈ lw_good) (hkN : k < N) (hlink : Cond.fieldLinkNest own index (T k).1 (T k).2.1 (T k).2.2.1 host ∈ lw_nest) (hd : decode cc pc = .ok (.getfield index, 3)) : am_Snd En cc nL own d w pc (am_get ci k (pc + 3)) := by
  intro p l e R s m args below meth c Q dC dI dA A A0 cells slots Rp hC hE lo st h K ha hk H ls locs hl hP hD hS
  unfold am_get at ha
  split at ha
  · rename_i a r
    split at ha
    · rename_i cj fs ea
      obtain ⟨hcj, ha⟩ := ha
      subst hcj
      split at ha
      · rename_i v ev
        exact va_getN hC.1 hC.2.1 hC.2.2.2.2.1 hin hC.2.2.2.1 hC.2.2.2.2.2.1 hP a (am_c_at ea) hc k hkN (va_Nw.use rfl ((hEn _ _ _ hC.2.2.2.2.2.2.2.1).1 _ hlink)) (fun _ z => z) (by show (fs.map (am_v A))[k]? = _; rw [List.getElem?_map, ev]; rfl) hd (hk _ _ _ _ ha H ls locs hl hP hD hS)
      · exact ha.elim
    · exact ha.elim
  · exact ha.elim
theorem am_putE {dA : Nat → ClassId} {A : Nat → Nat} {a ci k : Nat} {fs : List Value} {v : Value} : ((A a, Sum.inr (ci, (fs.map (am_v A)).set k (am_v A v))) : Nat × va_E) = (A a, am_e dA A (.inr (ci, fs.set k v))) := by
  show _ = (A a, Sum.inr (ci, (fs.set k v).map (am_v A)))
  rw [List.map_set]
theorem am_s_putI {ci k N index : Nat} {C : String} {T : u_T} {tf : Nat → FieldType} (hc : vwCl[ci]? = some (C, T, N)) (hin : ∀ w ∈ u_ws C T N, w ∈ lw_good) (hty : ∀ k, k < N → parseFieldDescriptor (T k).2.2.1 = some (tf k)) (hnm : ∀ a, a < N → ∀ b, b < N → a ≠ b → (T a).2.1 ≠ (T b).2.1) (hkN : k < N) (hlink : Cond.fieldLink own index (T k).1 (T k).2.1 (T k).2.2.1 ∈ lw_good) (hfin : (T k).2.2.2 = false) (hd : decode cc pc = .ok (.putfield index, 3)) : am_Snd En cc nL own d w pc (am_putI ci k (tf k) (pc + 3)) := by
  intro p l e R s m args below meth c Q dC dI dA A A0 cells slots Rp hC hE lo st h K ha hk H ls locs hl hP hD hS
  unfold am_putI at ha
  split at ha
  · rename_i x a r
    split at ha
    · rename_i cj fs ea
      obtain ⟨⟨hcj, hkl, hn, hf⟩, ha⟩ := ha
      subst hcj
      refine va_put hC.1 hC.2.1 hC.2.2.2.2.1 hin tf hty hnm hC.2.2.2.1 hC.2.2.2.2.2.1 hP hD hS a (am_c_at ea) hc k hkN (hC.2.2.2.2.1 _ hlink) (fun _ z => z) hfin (hty k hkN) hn hf (by rw [List.length_map]; exact hkl) hd (fun H1 locs1 hP1 hD1 hS1 => ?_)
      rw [show (Value.int x) = am_v A (.int x) from rfl, am_c_put am_putE] at hP1 hD1
      exact hk _ _ _ _ ha H1 ls locs1 hl hP1 hD1 hS1
    · exact ha.elim
  · exact ha.elim
theorem am_s_putIN {ci k N index : Nat} {C host : String} {T : u_T} {tf : Nat → FieldType} (hEn : ∀ A A0 s, En A A0 s → am_En A A0 s) (hc : vwCl[ci]? = some (C, T, N)) (hin : ∀ w ∈ u_ws C T N, w ∈ lw_good) (hty : ∀ k, k < N → parseFieldDescriptor (T k).2.2.1 = some (tf k)) (hnm : ∀ a, a < N → ∀ b, b < N → a ≠ b → (T a).2.1 ≠ (T b).2.1) (hkN : k < N) (hlink : Cond.fieldLinkNest own index (T k).1 (T k).2.1 (T k).2.2.1 host ∈ lw_nest) (hfin : (T k).2.2.2 = false) (hd : decode cc pc = .ok (.putfield index, 3)) : am_Snd En cc nL own d w pc (am_putI ci k (tf k) (pc + 3)) := by
  intro p l e R s m args below meth c Q dC dI dA A A0 cells slots Rp hC hE lo st h K ha hk H ls locs hl hP hD hS
  unfold am_putI at ha
  split at ha
  · rename_i x a r
    split at ha
    · rename_i cj fs ea
      obtain ⟨⟨hcj, hkl, hn, hf⟩, ha⟩ := ha
      subst hcj
      refine va_putN hC.1 hC.2.1 hC.2.2.2.2.1 hin tf hty hnm hC.2.2.2.1 hC.2.2.2.2.2.1 hP hD hS a (am_c_at ea) hc k hkN (va_Nw.use rfl ((hEn _ _ _ hC.2.2.2.2.2.2.2.1).1 _ hlink)) (fun _ z => z) hfin (hty k hkN) hn hf (by rw [List.length_map]; exact hkl) hd (fun H1 locs1 hP1 hD1 hS1 => ?_)
      rw [show (Value.int x) = am_v A (.int x) from rfl, am_c_put am_putE] at hP1 hD1
      exact hk _ _ _ _ ha H1 ls locs1 hl hP1 hD1 hS1
    · exact ha.elim
  · exact ha.elim
theorem am_s_putR {ci k N index : Nat} {C D : String} {T : u_T} {tf : Nat → FieldType} (hc : vwCl[ci]? = some (C, T, N)) (hin : ∀ w ∈ u_ws C T N, w ∈ lw_good) (hty : ∀ k, k < N → parseFieldDescriptor (T k).2.2.1 = some (tf k)) (hnm : ∀ a, a < N → ∀ b, b < N → a ≠ b → (T a).2.1 ≠ (T b).2.1) (hkN : k < N) (hlink : Cond.fieldLink own index (T k).1 (T k).2.1 (T k).2.2.1 ∈ lw_good) (hfin : (T k).2.2.2 = false) (ho : tf k = .object D) (hd : decode cc pc = .ok (.putfield index, 3)) : am_Snd En cc nL own d w pc (am_putR ci k (pc + 3)) := by
  intro p l e R s m args below meth c Q dC dI dA A A0 cells slots Rp hC hE lo st h K ha hk H ls locs hl hP hD hS
  unfold am_putR at ha
  split at ha
  · rename_i x a r
    split at ha
    · rename_i cj fs ea
      obtain ⟨⟨hcj, hkl⟩, ha⟩ := ha
      subst hcj
      refine va_put hC.1 hC.2.1 hC.2.2.2.2.1 hin tf hty hnm hC.2.2.2.1 hC.2.2.2.2.2.1 hP hD hS a (am_c_at ea) hc k hkN (hC.2.2.2.2.1 _ hlink) (fun _ z => z) hfin (hty k hkN) (by rw [ho]; rfl) (by rw [ho]; rfl) (by rw [List.length_map]; exact hkl) hd (fun H1 locs1 hP1 hD1 hS1 => ?_)
      rw [am_c_put am_putE] at hP1 hD1
      exact hk _ _ _ _ ha H1 ls locs1 hl hP1 hD1 hS1
    · exact ha.elim
  · exact ha.elim
theorem am_s_iald (hd : decode cc pc = .ok (.iaload, 1)) : am_Snd En cc nL own d w pc (am_iald (pc + 1)) := by
  intro p l e R s m args below meth c Q dC dI dA A A0 cells slots Rp hC hE lo st h K ha hk H ls locs hl hP hD hS
  unfold am_iald at ha
  split at ha
  · rename_i i a r
    split at ha
    · rename_i N f ea
      exact va_iald hC.1 hC.2.1 hC.2.2.2.2.2.1 hP a 0 (am_c_at ea) rfl ha.1 hd (hk _ _ _ _ ha.2 H ls locs hl hP hD hS)
    · exact ha.elim
  · exact ha.elim
theorem am_s_iast (hd : decode cc pc = .ok (.iastore, 1)) : am_Snd En cc nL own d w pc (am_iast (pc + 1)) := by
  intro p l e R s m args below meth c Q dC dI dA A A0 cells slots Rp hC hE lo st h K ha hk H ls locs hl hP hD hS
  unfold am_iast at ha
  split at ha
  · rename_i x i a r
    split at ha
    · rename_i N f ea
      refine va_iast hC.1 hC.2.1 hC.2.2.2.2.2.1 hP hD hS a 0 (am_c_at ea) rfl ha.1 hd (fun H1 locs1 hP1 hD1 hS1 => ?_)
      have hP1 : va_P (dC, dI) vwCl (am_c dA A 0 (h.set a (.inl (0, N, .inl (upd f i.toNatClampNeg x))))) H1 := by rw [← am_c_put (x := .inl (0, N, .inl (upd f i.toNatClampNeg x))) rfl]; exact hP1
      have hD1 : va_D A0 (am_c dA A 0 (h.set a (.inl (0, N, .inl (upd f i.toNatClampNeg x))))) := by rw [← am_c_put (x := .inl (0, N, .inl (upd f i.toNatClampNeg x))) rfl]; exact hD1
      exact hk _ _ _ _ ha.2 H1 ls locs1 hl hP1 hD1 hS1
    · exact ha.elim
  · exact ha.elim
theorem am_s_zald (hd : decode cc pc = .ok (.baload, 1)) : am_Snd En cc nL own d w pc (am_zald (pc + 1)) := by
  intro p l e R s m args below meth c Q dC dI dA A A0 cells slots Rp hC hE lo st h K ha hk H ls locs hl hP hD hS
  unfold am_zald at ha
  split at ha
  · rename_i i a r
    split at ha
    · rename_i N f ea
      exact va_zald hC.1 hC.2.1 hC.2.2.2.2.2.1 hP a 2 (am_c_at ea) rfl ha.1 hd (hk _ _ _ _ ha.2 H ls locs hl hP hD hS)
    · exact ha.elim
  · exact ha.elim
theorem am_s_zast (hd : decode cc pc = .ok (.bastore, 1)) : am_Snd En cc nL own d w pc (am_zast (pc + 1)) := by
  intro p l e R s m args below meth c Q dC dI dA A A0 cells slots Rp hC hE lo st h K ha hk H ls locs hl hP hD hS
  unfold am_zast at ha
  split at ha
  · rename_i x i a r
    split at ha
    · rename_i N f ea
      refine va_zast hC.1 hC.2.1 hC.2.2.2.2.2.1 hP hD hS a 2 (am_c_at ea) rfl ha.1 hd (fun H1 locs1 hP1 hD1 hS1 => ?_)
      have hP1 : va_P (dC, dI) vwCl (am_c dA A 0 (h.set a (.inl (2, N, .inl (upd f i.toNatClampNeg (vp_nar .boolean x)))))) H1 := by rw [← am_c_put (x := .inl (2, N, .inl (upd f i.toNatClampNeg (vp_nar .boolean x)))) rfl]; exact hP1
      have hD1 : va_D A0 (am_c dA A 0 (h.set a (.inl (2, N, .inl (upd f i.toNatClampNeg (vp_nar .boolean x)))))) := by rw [← am_c_put (x := .inl (2, N, .inl (upd f i.toNatClampNeg (vp_nar .boolean x)))) rfl]; exact hD1
      exact hk _ _ _ _ ha.2 H1 ls locs1 hl hP1 hD1 hS1
    · exact ha.elim
  · exact ha.elim
theorem am_s_lald (hd : decode cc pc = .ok (.laload, 1)) : am_Snd En cc nL own d w pc (am_lald (pc + 1)) := by
  intro p l e R s m args below meth c Q dC dI dA A A0 cells slots Rp hC hE lo st h K ha hk H ls locs hl hP hD hS
  unfold am_lald at ha
  split at ha
  · rename_i i a r
    split at ha
    · rename_i N f ea
      exact va_lald hC.1 hC.2.1 hC.2.2.2.2.2.1 hP a 1 (am_c_at ea) rfl ha.1 hd (hk _ _ _ _ ha.2 H ls locs hl hP hD hS)
    · exact ha.elim
  · exact ha.elim
theorem am_s_last (hd : decode cc pc = .ok (.lastore, 1)) : am_Snd En cc nL own d w pc (am_last (pc + 1)) := by
  intro p l e R s m args below meth c Q dC dI dA A A0 cells slots Rp hC hE lo st h K ha hk H ls locs hl hP hD hS
  unfold am_last at ha
  split at ha
  · rename_i x i a r
    split at ha
    · rename_i N f ea
      refine va_last hC.1 hC.2.1 hC.2.2.2.2.2.1 hP hD hS a 1 (am_c_at ea) rfl ha.1 hd (fun H1 locs1 hP1 hD1 hS1 => ?_)
      have hP1 : va_P (dC, dI) vwCl (am_c dA A 0 (h.set a (.inl (1, N, .inr (.inl (vp_updL f i.toNatClampNeg x)))))) H1 := by rw [← am_c_put (x := .inl (1, N, .inr (.inl (vp_updL f i.toNatClampNeg x)))) rfl]; exact hP1
      have hD1 : va_D A0 (am_c dA A 0 (h.set a (.inl (1, N, .inr (.inl (vp_updL f i.toNatClampNeg x)))))) := by rw [← am_c_put (x := .inl (1, N, .inr (.inl (vp_updL f i.toNatClampNeg x)))) rfl]; exact hD1
      exact hk _ _ _ _ ha.2 H1 ls locs1 hl hP1 hD1 hS1
    · exact ha.elim
  · exact ha.elim
theorem am_s_alen (hd : decode cc pc = .ok (.arraylength, 1)) : am_Snd En cc nL own d w pc (am_alen (pc + 1)) := by
  intro p l e R s m args below meth c Q dC dI dA A A0 cells slots Rp hC hE lo st h K ha hk H ls locs hl hP hD hS
  unfold am_alen at ha
  split at ha
  · rename_i a r
    split at ha
    · rename_i t N y ea
      obtain ⟨ht, ha⟩ := ha
      rcases (show t = 0 ∨ t = 1 ∨ t = 2 by omega) with rfl | rfl | rfl
      · exact va_alen hC.1 hC.2.1 hC.2.2.2.2.2.1 hP a 0 (am_c_at ea) rfl rfl hd (hk _ _ _ _ ha H ls locs hl hP hD hS)
      · exact va_alen hC.1 hC.2.1 hC.2.2.2.2.2.1 hP a 1 (am_c_at ea) rfl rfl hd (hk _ _ _ _ ha H ls locs hl hP hD hS)
      · exact va_alen hC.1 hC.2.1 hC.2.2.2.2.2.1 hP a 2 (am_c_at ea) rfl rfl hd (hk _ _ _ _ ha H ls locs hl hP hD hS)
    · exact ha.elim
  · exact ha.elim
theorem am_s_sld {t N : Nat} {f : Nat → Int32} (hT : ∀ A A0 s, En A A0 s → va_T .int (A t) N (fun j => .int (f j)) A0 s s.heap) (hd : decode cc pc = .ok (.iaload, 1)) : am_Snd En cc nL own d w pc (am_sld t N f (pc + 1)) := by
  intro p l e R s m args below meth c Q dC dI dA A A0 cells slots Rp hC hE lo st h K ha hk H ls locs hl hP hD hS
  unfold am_sld at ha
  split at ha
  · rename_i i a r
    obtain ⟨⟨rfl, hi⟩, ha⟩ := ha
    exact va_ti hC.1 hC.2.1 (hT _ _ _ hC.2.2.2.2.2.2.2.1) hS hi rfl hd (hk _ _ _ _ ha H ls locs hl hP hD hS)
  · exact ha.elim
theorem am_s_slen {t N : Nat} {f : Nat → Int32} (hT : ∀ A A0 s, En A A0 s → va_T .int (A t) N (fun j => .int (f j)) A0 s s.heap) (hd : decode cc pc = .ok (.arraylength, 1)) : am_Snd En cc nL own d w pc (am_slen t N (pc + 1)) := by
  intro p l e R s m args below meth c Q dC dI dA A A0 cells slots Rp hC hE lo st h K ha hk H ls locs hl hP hD hS
  unfold am_slen at ha
  split at ha
  · rename_i a r
    obtain ⟨rfl, ha⟩ := ha
    exact va_tlen hC.1 hC.2.1 (hT _ _ _ hC.2.2.2.2.2.2.2.1) hS rfl hd (hk _ _ _ _ ha H ls locs hl hP hD hS)
  · exact ha.elim
theorem am_s_gets {t index : Nat} {C n ds : String} (hZ : ∀ A A0 s, En A A0 s → va_Z C n ds (.ref (A t)) A0 s s.heap) (hlink : Cond.fieldLink own index C n ds ∈ lw_good) (hd : decode cc pc = .ok (.getstatic index, 3)) : am_Snd En cc nL own d w pc (am_push (.ref t) (pc + 3)) := by
  intro p l e R s m args below meth c Q dC dI dA A A0 cells slots Rp hC hE lo st h K ha hk H ls locs hl hP hD hS
  exact va_gets hC.1 hC.2.1 (hZ _ _ _ hC.2.2.2.2.2.2.2.1) hS hC.2.2.2.1 (hC.2.2.2.2.1 _ hlink) (fun _ z => z) hd (hk _ _ _ _ ha H ls locs hl hP hD hS)
theorem am_s_iret (hd : decode cc pc = .ok (.ireturn, 1)) : am_Snd En cc nL own d w pc am_iret := by
  intro p l e R s m args below meth c Q dC dI dA A A0 cells slots Rp hC hE lo st h K ha hk H ls locs hl hP hD hS
  unfold am_iret at ha
  split at ha
  · exact hE.1 _ h H locs ls pc ha hP hD hS hd
  · exact ha.elim
theorem am_s_lret (hd : decode cc pc = .ok (.lreturn, 1)) : am_Snd En cc nL own d w pc am_lret := by
  intro p l e R s m args below meth c Q dC dI dA A A0 cells slots Rp hC hE lo st h K ha hk H ls locs hl hP hD hS
  unfold am_lret at ha
  split at ha
  · exact hE.2.1 _ h H locs ls pc ha hP hD hS hd
  · exact ha.elim
theorem am_s_vret (hd : decode cc pc = .ok (.return_, 1)) : am_Snd En cc nL own d w pc am_vret := by
  intro p l e R s m args below meth c Q dC dI dA A A0 cells slots Rp hC hE lo st h K ha hk H ls locs hl hP hD hS
  unfold am_vret at ha
  split at ha
  · exact hE.2.2 h H locs ls pc ha hP hD hS hd
  · exact ha.elim
end SND
/-! ## calls and contracts -/
def am_rm (d w : Nat) : Room := { frames := d, cells := 0, slots := 0, locals := w }
def am_ws (y : MethodName) (b : ByteArray) (maxL : Nat) (ret : Option FieldType) : List Cond := .code y b maxL ret :: lw_good
def am_Q (dC : Nat → ClassId) (dI : Nat → Nat → Nat) (dA : Nat → ClassId) (A : Nat → Nat) (Rp : am_P) (ws0 : va_W) (sz : Nat) : Array Value → State → Outcome → State → Prop := fun _ st oc t =>
  (∃ (v : Option Value) (h' : am_H), oc = .returned (v.map (am_v A)) ∧ Rp (.inr v) h' ∧ va_P (dC, dI) vwCl (am_c dA A 0 h') t.heap ∧ va_K (dC, dI) vwCl (am_tys dA) t ∧ va_D (va_A ws0 sz) (am_c dA A 0 h')) ∧ va_F (va_A ws0 sz) st t
def am_B (dC : Nat → ClassId) (dI : Nat → Nat → Nat) (dA : Nat → ClassId) (A : Nat → Nat) (h : am_H) (sz : Nat) (U : State) : Prop :=
  U.heap.size = sz ∧ va_P (dC, dI) vwCl (am_c dA A 0 h) U.heap ∧ va_K (dC, dI) vwCl (am_tys dA) U ∧ va_D (fun _ => True) (am_c dA A 0 h) ∧ am_En A (va_A (am_c dA A 0 h) sz) U
def am_Met (y : MethodName) (b : ByteArray) (maxL : Nat) (ret : Option FieldType) (d w : Nat) (M : am_M) : Prop :=
  ∀ (l : Launch) (dC : Nat → ClassId) (dI : Nat → Nat → Nat) (dA : Nat → ClassId) (A : Nat → Nat) (h : am_H) (as : List Value) (Rp : am_P) (sz : Nat), M as h Rp →
    Met l y (am_ws y b maxL ret) (am_rm d w) (va_Pc (as.map (am_v A)) (am_B dC dI dA A h sz)) (am_Q dC dI dA A Rp (am_c dA A 0 h) sz) 0 0 (va_A (am_c dA A 0 h) sz)
theorem am_cut_spec : ∀ (n : Nat) (acc st as r : List Value), am_cut n acc st = some (as, r) → ∃ pre : List Value, st = pre ++ r ∧ as = pre.reverse ++ acc ∧ pre.length = n
  | 0, acc, st, as, r, h => by
    simp only [am_cut, Option.some.injEq, Prod.mk.injEq] at h
    exact ⟨[], by simp [h.2], by simp [h.1], rfl⟩
  | n + 1, acc, [], as, r, h => by simp [am_cut] at h
  | n + 1, acc, v :: st, as, r, h => by
    obtain ⟨pre, h1, h2, h3⟩ := am_cut_spec n (v :: acc) st as r (by simpa [am_cut] using h)
    exact ⟨v :: pre, by simp [h1], by simp [h2], by simp [h3]⟩
theorem am_cat_sum (A : Nat → Nat) (r : List Value) : ((r.map (am_v A)).map fun v => v.category).sum = (r.map fun v => v.category).sum := by
  induction r with
  | nil => rfl
  | cons v t ih => simp only [List.map_cons, List.sum_cons, am_v_cat, ih]
theorem am_good {w : Cond} (h : w ∈ lw_good) : (w.onTables && w.keeps) = true ∨ ∃ ty, w = .arrayClass ty := good_of_word (List.mem_filter.mp h).2
theorem am_goodIn {y : MethodName} {b : ByteArray} {maxL : Nat} {ret : Option FieldType} (h : Cond.code y b maxL ret ∈ lw_good) : GoodIn lw_good (am_ws y b maxL ret) := by
  intro w hw
  have hm : w ∈ lw_good := by
    rcases List.mem_cons.mp hw with rfl | hw
    · exact h
    · exact hw
  exact ⟨hm, am_good hm⟩
theorem am_B_blind (dC : Nat → ClassId) (dI : Nat → Nat → Nat) (dA : Nat → ClassId) (A : Nat → Nat) (h : am_H) (sz : Nat) (as : List Value) : FrameBlind (va_Pc as (am_B dC dI dA A h sz)) := by
  intro a U g mk q
  obtain ⟨q0, q1, qP, qK, qD, qE⟩ := q
  exact ⟨q0, q1, qP, va_K.moved (u := U) (U := U.calling g mk a) (Vm.Alike.refl U.vm) qK, qD, am_En.same (u := U) (U := U.calling g mk a) rfl rfl qE⟩
section CALL
variable {En : (Nat → Nat) → (Nat → Prop) → State → Prop} {cc : ByteArray} {nL d w pc : Nat} {own : String}
variable {p : Program} {l : Launch} {e : Env} {R : Room} {s : State} {m : MethodId} {args : Array Value} {below : List Frame} {meth : Method} {c : Code} {Q : State → Prop} {dC : Nat → ClassId} {dI : Nat → Nat → Nat} {dA : Nat → ClassId} {A : Nat → Nat} {A0 : Nat → Prop} {cells slots : Nat}
theorem am_free {h : am_H} {H : Heap} {locs : List Loc} (hD : va_D A0 (am_c dA A 0 h)) (hS : va_S A0 s.heap H locs) (hA : ∀ q, s.heap.size ≤ q → A0 q) : ∀ q, va_A (am_c dA A 0 h) H.size q → A0 q := by
  intro q hq
  rcases hq with ⟨k, x, hk⟩ | hq
  · exact hD.2 k _ hk
  · exact hA q (Nat.le_trans hS.1 hq)
theorem am_pre_call {h : am_H} {H : Heap} {locs : List Loc} {as : List Value} (hEn : ∀ A A0 s, En A A0 s → am_En A A0 s) (hC : am_C En cc nL own d w p R s m args c dC dI dA A A0 cells slots) (hP : va_P (dC, dI) vwCl (am_c dA A 0 h) H) (hD : va_D A0 (am_c dA A 0 h)) (hS : va_S A0 s.heap H locs) :
    ∀ U : State, U.heap = H → s.WarmedH U.vm → va_Pc as (am_B dC dI dA A h H.size) as.toArray U := by
  intro U hU hW
  refine ⟨rfl, by rw [hU], by rw [hU]; exact hP, va_K.moved hW.alike hC.2.2.2.2.2.1, hD.weaken (fun _ _ _ _ => trivial), ?_⟩
  exact am_En.call (hEn _ _ _ hC.2.2.2.2.2.2.2.1) hW (by rw [hU]; exact hS) (am_free hD hS hC.2.2.2.2.2.2.1)
/-- behind a call -/
theorem am_behind {h : am_H} {H : Heap} {locs : List Loc} {ls : Array Slot} {lo : am_L} {r st0 : List Value} {M' : am_K} {a : Array Value} (hC : am_C En cc nL own d w p R s m args c dC dI dA A A0 cells slots)
    (hr : va_Run p l e R s m args below meth c H locs cells slots 0 0 (F0 m pc ls st0) (r.map (am_v A)) (am_Q dC dI dA A (am_on (pc + 3) lo r M') (am_c dA A 0 h) H.size a) (va_A (am_c dA A 0 h) H.size)) (hl : lv_has ls nL (am_lv A 0 lo)) (hD : va_D A0 (am_c dA A 0 h)) (hS : va_S A0 s.heap H locs)
    (hk : ∀ pc' lo' st' h', M' pc' lo' st' h' → am_W p l e R s m args below meth c Q nL dC dI dA A A0 cells slots pc' lo' st' h') : W p l e R s m args below meth c H locs cells slots Q (F0 m pc ls st0) := by
  have hA := am_free hD hS hC.2.2.2.2.2.2.1
  intro T hT X
  obtain ⟨v0, st₀, t, T', L, h0, X', hL, e1, e2, ⟨⟨v, h', hv, hp, hP1, hK1, hD1⟩, hz, hk1⟩, st⟩ := hr T hT X
  cases hv
  rw [h0] at hz hk1
  have hS' : va_S A0 s.heap T'.heap (locs ++ L) := ⟨Nat.le_trans hS.1 (by rw [e1]; exact hz), fun q h1 h2 => by rw [e1, hk1 q (Nat.lt_of_lt_of_le h1 hS.1) (fun z => h2 (hA q z))]; exact hS.2.1 q h1 h2, fun q hq => by
      rcases List.mem_append.mp hq with h | h
      · exact hS.2.2 q h
      · exact hA _ (hL q h)⟩
  obtain ⟨t2, a1, b1⟩ := hk _ _ _ _ hp T'.heap ls (locs ++ L) hl (by rw [e1]; exact hP1) (hD1.weaken (fun _ q _ z => hA q.1 z)) hS' T' rfl X'
  refine ⟨t2, st t2 ?_, b1⟩
  have es : (v.toList ++ r).map (am_v A) = (v.map (am_v A)).toList ++ r.map (am_v A) := by cases v <;> simp
  rw [es] at a1
  exact a1
theorem am_s_callS {M : am_M} {d' w' index np maxL : Nat} {y : MethodName} {b : ByteArray} {ret : Option FieldType} (hEn : ∀ A A0 s, En A A0 s → am_En A A0 s) (hM : am_Met y b maxL ret d' w' M) (hd' : d' < d) (hmx : 19 + maxL + w' ≤ w) (hcode : Cond.code y b maxL ret ∈ lw_good) (hini : Cond.initialized y.cls ∈ lw_good) (hlink : Cond.methodLink own index y ∈ lw_good) (hst : Cond.static y ∈ lw_good)
    (hdesc : y.cls ≠ "java/lang/invoke/MethodHandle" ∧ y.cls ≠ "java/lang/invoke/VarHandle" ∧ (parseMethodDescriptor y.desc).map (fun d => d.parameters.length) = some np) (hdg : decode cc pc = .ok (.invokestatic index, 3)) : am_Snd En cc nL own d w pc (am_callS M np (pc + 3)) := by
  intro p l e R s m args below meth c Q dC dI dA A A0 cells slots Rp hC hE lo st h K ha hk H ls locs hl hP hD hS
  unfold am_callS at ha
  split at ha
  · rename_i as r hcut
    obtain ⟨pre, h1, h2, h3⟩ := am_cut_spec _ _ _ _ _ hcut
    rw [List.append_nil] at h2
    obtain ⟨hx, hb, hml, hown, hts, hK, hA, hEnv, hf, hlo, hcl, hsl⟩ := id hC
    have cb : CallB R s args own index y b maxL ret (am_ws y b maxL ret) (am_rm d' w') 0 0 np := callB_of np hts (am_goodIn hcode) rfl rfl rfl (hts _ hini) (hts _ hlink) hdesc ⟨by show d' + 1 ≤ R.frames; omega, by show 8 + (maxL + 11) + w' ≤ R.locals; omega⟩
    exact am_behind hC (va_runS (As := as.map (am_v A)) (rest := r.map (am_v A)) ⟨hx, hb, hml, hown, hts⟩ (hM l dC dI dA A h as _ H.size ha.2) ⟨cb, hts _ hst⟩ ⟨am_B_blind dC dI dA A h H.size _, am_pre_call hEn hC hP hD hS⟩ rfl (by rw [List.length_map, h2, List.length_reverse, h3]) hl.1 (by show st.map (am_v A) = _; rw [h1, h2, List.map_append, List.map_reverse, List.reverse_reverse]) (lv_room (by rw [am_cat_sum]; exact ha.1)) hdg ⟨hcl, hsl⟩) hl hD hS hk
  · exact ha.elim
theorem am_s_callSN {M : am_M} {d' w' index np maxL : Nat} {y : MethodName} {b : ByteArray} {ret : Option FieldType} {host : String} (hEn : ∀ A A0 s, En A A0 s → am_En A A0 s) (hM : am_Met y b maxL ret d' w' M) (hd' : d' < d) (hmx : 19 + maxL + w' ≤ w) (hcode : Cond.code y b maxL ret ∈ lw_good) (hini : Cond.initialized y.cls ∈ lw_good) (hlink : Cond.methodLinkNest own index y host ∈ lw_nest) (hst : Cond.static y ∈ lw_good)
    (hdesc : y.cls ≠ "java/lang/invoke/MethodHandle" ∧ y.cls ≠ "java/lang/invoke/VarHandle" ∧ (parseMethodDescriptor y.desc).map (fun d => d.parameters.length) = some np) (hdg : decode cc pc = .ok (.invokestatic index, 3)) : am_Snd En cc nL own d w pc (am_callS M np (pc + 3)) := by
  intro p l e R s m args below meth c Q dC dI dA A A0 cells slots Rp hC hE lo st h K ha hk H ls locs hl hP hD hS
  unfold am_callS at ha
  split at ha
  · rename_i as r hcut
    obtain ⟨pre, h1, h2, h3⟩ := am_cut_spec _ _ _ _ _ hcut
    rw [List.append_nil] at h2
    obtain ⟨hx, hb, hml, hown, hts, hK, hA, hEnv, hf, hlo, hcl, hsl⟩ := id hC
    have cb : va_CN R s args own index y host b maxL ret (am_ws y b maxL ret) (am_rm d' w') 0 0 np := va_cnB np hts (am_goodIn hcode) rfl rfl rfl ((hEn _ _ _ hEnv).1 _ hlink) (hts _ hini) hdesc ⟨by show d' + 1 ≤ R.frames; omega, by show 8 + (maxL + 11) + w' ≤ R.locals; omega⟩
    exact am_behind hC (va_runSN (As := as.map (am_v A)) (rest := r.map (am_v A)) ⟨hx, hb, hml, hown, hts⟩ (hM l dC dI dA A h as _ H.size ha.2) ⟨cb, hts _ hst, trivial⟩ ⟨am_B_blind dC dI dA A h H.size _, am_pre_call hEn hC hP hD hS⟩ rfl (by rw [List.length_map, h2, List.length_reverse, h3]) hl.1 (by show st.map (am_v A) = _; rw [h1, h2, List.map_append, List.map_reverse, List.reverse_reverse]) (lv_room (by rw [am_cat_sum]; exact ha.1)) hdg ⟨hcl, hsl⟩) hl hD hS hk
  · exact ha.elim
theorem am_s_callV {M : am_M} {ci d' w' index np maxL N : Nat} {T : u_T} {y : MethodName} {b : ByteArray} {ret : Option FieldType} (hEn : ∀ A A0 s, En A A0 s → am_En A A0 s) (hc : vwCl[ci]? = some (y.cls, T, N)) (hM : am_Met y b maxL ret d' w' M) (hd' : d' < d) (hmx : 19 + maxL + w' ≤ w) (hcode : Cond.code y b maxL ret ∈ lw_good) (hini : Cond.initialized y.cls ∈ lw_good) (hlink : Cond.methodLink own index y ∈ lw_good) (hin : Cond.instanceMethod y ∈ lw_good) (hse : Cond.selects y.cls y y ∈ lw_good)
    (hdesc : y.cls ≠ "java/lang/invoke/MethodHandle" ∧ y.cls ≠ "java/lang/invoke/VarHandle" ∧ (parseMethodDescriptor y.desc).map (fun d => d.parameters.length) = some np) (hdg : decode cc pc = .ok (.invokevirtual index, 3)) : am_Snd En cc nL own d w pc (am_callV M ci np (pc + 3)) := by
  intro p l e R s m args below meth c Q dC dI dA A A0 cells slots Rp hC hE lo st h K ha hk H ls locs hl hP hD hS
  unfold am_callV at ha
  split at ha
  · rename_i a as r hcut
    obtain ⟨pre, h1, h2, h3⟩ := am_cut_spec _ _ _ _ _ hcut
    rw [List.append_nil] at h2
    obtain ⟨hx, hb, hml, hown, hts, hK, hA, hEnv, hf, hlo, hcl, hsl⟩ := id hC
    obtain ⟨⟨hroom, hrecv⟩, ha⟩ := ha
    split at hrecv
    · rename_i cj fs ea
      subst hrecv
      have cb : CallB R s args own index y b maxL ret (am_ws y b maxL ret) (am_rm d' w') 0 0 np := callB_of np hts (am_goodIn hcode) rfl rfl rfl (hts _ hini) (hts _ hlink) hdesc ⟨by show d' + 1 ≤ R.frames; omega, by show 8 + (maxL + 11) + w' ≤ R.locals; omega⟩
      have hst : st = as.reverse ++ .ref a :: r := by
        have : pre = (Value.ref a :: as).reverse := by rw [h2, List.reverse_reverse]
        rw [h1, this]; simp
      exact am_behind hC (va_runV (C := y.cls) (b := A a) (As := as.map (am_v A)) (rest := r.map (am_v A)) ⟨hx, hb, hml, hown, hts⟩ (hM l dC dI dA A h (.ref a :: as) _ H.size ha) ⟨cb, hts _ hin, hts _ hse⟩ ⟨am_B_blind dC dI dA A h H.size _, va_recv hK hP hc (am_c_at ea), am_pre_call hEn hC hP hD hS⟩ rfl (by rw [List.length_map]; have := congrArg List.length h2; simp at this; omega) hl.1 (by show st.map (am_v A) = _; rw [hst, List.map_append, List.map_reverse]; rfl) (lv_room (by rw [am_cat_sum]; exact hroom)) hdg ⟨hcl, hsl⟩) hl hD hS hk
    · exact hrecv.elim
  · exact ha.elim
theorem am_s_callVN {M : am_M} {ci d' w' index np maxL N : Nat} {T : u_T} {y : MethodName} {b : ByteArray} {ret : Option FieldType} {host : String} (hEn : ∀ A A0 s, En A A0 s → am_En A A0 s) (hc : vwCl[ci]? = some (y.cls, T, N)) (hM : am_Met y b maxL ret d' w' M) (hd' : d' < d) (hmx : 19 + maxL + w' ≤ w) (hcode : Cond.code y b maxL ret ∈ lw_good) (hini : Cond.initialized y.cls ∈ lw_good) (hlink : Cond.methodLinkNest own index y host ∈ lw_nest) (hin : Cond.instanceMethod y ∈ lw_good) (hse : Cond.selects y.cls y y ∈ lw_good)
    (hdesc : y.cls ≠ "java/lang/invoke/MethodHandle" ∧ y.cls ≠ "java/lang/invoke/VarHandle" ∧ (parseMethodDescriptor y.desc).map (fun d => d.parameters.length) = some np) (hdg : decode cc pc = .ok (.invokevirtual index, 3)) : am_Snd En cc nL own d w pc (am_callV M ci np (pc + 3)) := by
  intro p l e R s m args below meth c Q dC dI dA A A0 cells slots Rp hC hE lo st h K ha hk H ls locs hl hP hD hS
  unfold am_callV at ha
  split at ha
  · rename_i a as r hcut
    obtain ⟨pre, h1, h2, h3⟩ := am_cut_spec _ _ _ _ _ hcut
    rw [List.append_nil] at h2
    obtain ⟨hx, hb, hml, hown, hts, hK, hA, hEnv, hf, hlo, hcl, hsl⟩ := id hC
    obtain ⟨⟨hroom, hrecv⟩, ha⟩ := ha
    split at hrecv
    · rename_i cj fs ea
      subst hrecv
      have cb : va_CN R s args own index y host b maxL ret (am_ws y b maxL ret) (am_rm d' w') 0 0 np := va_cnB np hts (am_goodIn hcode) rfl rfl rfl ((hEn _ _ _ hEnv).1 _ hlink) (hts _ hini) hdesc ⟨by show d' + 1 ≤ R.frames; omega, by show 8 + (maxL + 11) + w' ≤ R.locals; omega⟩
      have hst : st = as.reverse ++ .ref a :: r := by
        have : pre = (Value.ref a :: as).reverse := by rw [h2, List.reverse_reverse]
        rw [h1, this]; simp
      exact am_behind hC (va_runVN (C := y.cls) (b := A a) (As := as.map (am_v A)) (rest := r.map (am_v A)) ⟨hx, hb, hml, hown, hts⟩ (hM l dC dI dA A h (.ref a :: as) _ H.size ha) ⟨cb, hts _ hin, hts _ hse⟩ ⟨am_B_blind dC dI dA A h H.size _, va_recv hK hP hc (am_c_at ea), am_pre_call hEn hC hP hD hS⟩ rfl (by rw [List.length_map]; have := congrArg List.length h2; simp at this; omega) hl.1 (by show st.map (am_v A) = _; rw [hst, List.map_append, List.map_reverse]; rfl) (lv_room (by rw [am_cat_sum]; exact hroom)) hdg ⟨hcl, hsl⟩) hl hD hS hk
    · exact hrecv.elim
  · exact ha.elim
end CALL
/-! ## a method's contract out of its table -/
def am_fitL (as : List Value) (n : Nat) : Prop := (lg_sl as).length ≤ n
theorem am_l0_args (A : Nat → Nat) : ∀ (as : List Value) (n : Nat) (i : Nat) (q : Nat × Value), q ∈ am_lv A i (am_l0 as n) → q ∈ lv_args i (as.map (am_v A))
  | [], n, i, q, h => by
    obtain ⟨j, v, h1, h2⟩ := (am_lv_mem A q _ i).mp h
    have := List.eq_of_mem_replicate (List.mem_of_getElem? h1)
    cases this
  | v :: vs, n, i, q, h => by
    by_cases hc : v.category = 2
    · simp only [am_l0, hc, if_true, am_lv, List.mem_cons] at h
      simp only [List.map_cons, lv_args, am_v_cat, hc, if_true, List.mem_cons]
      rcases h with h | h
      · exact Or.inl h
      · exact Or.inr (am_l0_args A vs (n - 2) (i + 2) q h)
    · simp only [am_l0, hc, if_false, am_lv, List.mem_cons] at h
      simp only [List.map_cons, lv_args, am_v_cat, hc, if_false, List.mem_cons]
      rcases h with h | h
      · exact Or.inl h
      · exact Or.inr (am_l0_args A vs (n - 1) (i + 1) q h)
theorem am_sl_len (A : Nat → Nat) (as : List Value) : (lg_sl (as.map (am_v A))).length = (lg_sl as).length := by
  induction as with
  | nil => rfl
  | cons v t ih =>
    simp only [lg_sl, List.map_cons, List.flatMap_cons, List.length_append, am_v_cat] at ih ⊢
    rw [ih]
    congr 1
    by_cases hc : v.category = 2 <;> simp [hc]
def am_ok (ret : Option FieldType) (o : am_O) : Prop := match ret, o with
  | none, .inr none => True
  | some .int, .inr (some (.int _)) => True
  | some .long, .inr (some (.long _)) => True
  | some .boolean, .inr (some (.int x)) => narrow .boolean (.int x) = .int x
  | _, _ => False
/-- the meaning of a method that its table has -/
def am_Mof (acts : Nat → am_A) (maxL : Nat) (ret : Option FieldType) : am_M := fun as h Rp => (lg_sl as).length ≤ maxL ∧ am_Wp acts (fun o h' => am_ok ret o ∧ Rp o h') 0 (am_l0 as maxL) [] h
set_option maxHeartbeats 1000000 in
theorem am_met {y : MethodName} {b : ByteArray} {maxL d w : Nat} {ret : Option FieldType} {acts : Nat → am_A} (hy : plainFor y = true) (hs : ∀ pc, am_Snd am_En b maxL y.cls d w pc (acts pc)) : am_Met y b maxL ret d w (am_Mof acts maxL ret) := by
  intro l dC dI dA A h as Rp sz hM
  obtain ⟨hfit, hM⟩ := hM
  refine va_MetF (cc := b) (maxL := maxL) (ret := ret) hy rfl ?_
  intro p e s m args below meth c s₁ B hml hpc
  obtain ⟨rfl, hsz, hP, hK, hD, hE⟩ := hpc
  subst hsz
  have hts : ∀ w ∈ am_ws y b maxL ret, w.before (as.map (am_v A)).toArray s = true := atoms_spec (ws := am_ws y b maxL ret) B.pre
  have hown : s.vm.findClass y.cls = some m.cls := findClass_of_methodNamed B.named
  have hr : meth.sig.returnType = ret := B.returns
  have hlk : meth.locks = false := B.notSynchronized
  have hx := B.exec
  have hb := B.bytes
  have hC : am_C am_En b maxL y.cls d w p (headSpec (am_ws y b maxL ret) (am_rm d w)).room s m (as.map (am_v A)).toArray c dC dI dA A (va_A (am_c dA A 0 h) s.heap.size) 0 0 :=
    ⟨hx, hb, hml, hown, fun w hw => hts w (List.mem_cons_of_mem _ hw), hK, fun q hq => Or.inr hq, hE, Nat.le_refl _, Nat.le_refl _, Nat.le_refl _, Nat.le_refl _⟩
  have hEnd : am_End b p l e (headSpec (am_ws y b maxL ret) (am_rm d w)).room s m (as.map (am_v A)).toArray below meth c (MQ below (am_Q dC dI dA A Rp (am_c dA A 0 h) s.heap.size) (as.map (am_v A)).toArray s 0 0 (va_A (am_c dA A 0 h) s.heap.size)) maxL dC dI dA A (va_A (am_c dA A 0 h) s.heap.size) 0 0 (fun o h' => am_ok ret o ∧ Rp o h') := by
    refine ⟨fun x h' H locs ls pc hR hP' hD' hS' hd => ?_, fun x h' H locs ls pc hR hP' hD' hS' hd => ?_, fun h' H locs ls pc hR hP' hD' hS' hd => ?_⟩
    · obtain ⟨hok, hR⟩ := hR
      have hq : ∀ t : State, t.heap = H → s.WarmedH t.vm → am_Q dC dI dA A Rp (am_c dA A 0 h) s.heap.size (as.map (am_v A)).toArray s (.returned (some (.int x))) t := fun t ht hW => ⟨⟨some (.int x), h', rfl, hR, by rw [ht]; exact hP', va_K.moved hW.alike hK, hD'⟩, hS'.F ht⟩
      cases ret with
      | none => exact hok.elim
      | some ty => cases ty <;> first | exact hok.elim | exact W.iret hx hb hr hq hS'.2.2 hd hlk | exact W.zret hx hb hr hok hq hS'.2.2 hd hlk
    · obtain ⟨hok, hR⟩ := hR
      have hq : ∀ t : State, t.heap = H → s.WarmedH t.vm → am_Q dC dI dA A Rp (am_c dA A 0 h) s.heap.size (as.map (am_v A)).toArray s (.returned (some (.long x))) t := fun t ht hW => ⟨⟨some (.long x), h', rfl, hR, by rw [ht]; exact hP', va_K.moved hW.alike hK, hD'⟩, hS'.F ht⟩
      cases ret with
      | none => exact hok.elim
      | some ty => cases ty <;> first | exact hok.elim | exact W.lret hx hb hr hq hS'.2.2 hd hlk
    · obtain ⟨hok, hR⟩ := hR
      have hq : ∀ t : State, t.heap = H → s.WarmedH t.vm → am_Q dC dI dA A Rp (am_c dA A 0 h) s.heap.size (as.map (am_v A)).toArray s (.returned none) t := fun t ht hW => ⟨⟨none, h', rfl, hR, by rw [ht]; exact hP', va_K.moved hW.alike hK, hD'⟩, hS'.F ht⟩
      cases ret with
      | none => exact W.vret hx hb hr hq hS'.2.2 hd hlk
      | some ty => cases ty <;> exact hok.elim
  have key := hM (am_W p l e (headSpec (am_ws y b maxL ret) (am_rm d w)).room s m (as.map (am_v A)).toArray below meth c (MQ below (am_Q dC dI dA A Rp (am_c dA A 0 h) s.heap.size) (as.map (am_v A)).toArray s 0 0 (va_A (am_c dA A 0 h) s.heap.size)) maxL dC dI dA A (va_A (am_c dA A 0 h) s.heap.size) 0 0)
    (fun pc lo st h K ha hk => hs pc p l e _ s m _ below meth c _ dC dI dA A _ 0 0 _ hC hEnd lo st h K ha hk)
    (fun pc lo lo' st h hle hk H ls locs hl hP hD hS => hk H ls locs (am_lv_more hl (am_le_lv hle)) hP hD hS)
  rw [lg_entry_eq]
  exact key s.heap _ [] (am_lv_more (lv_entry _ (by rw [am_sl_len]; exact hfit)) (fun q hq => am_l0_args A as maxL 0 q hq)) hP hD.self va_S.rf
end
section
/-! more instructions; trees of instructions -/
section MORE
variable {En : (Nat → Nat) → (Nat → Prop) → State → Prop} {cc : ByteArray} {nL d w pc : Nat} {own : String}
theorem am_node {P : am_A → Prop} {b : Bool} {x y : am_A} (hx : P x) (hy : P y) : P (cond b x y) := by cases b <;> assumption
theorem am_leaf {k : Nat} {a : am_A} (h : am_Snd En cc nL own d w k a) : am_Snd En cc nL own d w pc (cond (Nat.beq pc k) a am_stuck) := by
  cases hb : Nat.beq pc k with
  | false => exact am_s_stuck
  | true =>
    have e := Nat.eq_of_beq_eq_true hb
    subst e
    exact h
/-- System.arraycopy between two arrays of ints -/
def am_copy (n : Nat) : am_A := fun lo st h K _ => match st with
  | .int k :: .int dp :: .ref b :: .int sp :: .ref a :: r => (match h[a]?, h[b]? with
    | some (.inl (0, n0, .inl f)), some (.inl (0, n1, .inl g)) => ((r.map fun v => v.category).sum ≤ 8 ∧ ¬ sp < 0 ∧ ¬ dp < 0 ∧ ¬ k < 0 ∧ sp.toNatClampNeg + k.toNatClampNeg ≤ n0 ∧ dp.toNatClampNeg + k.toNatClampNeg ≤ n1) ∧ K n lo r (h.set b (.inl (0, n1, .inl (va_cpy f g sp.toNatClampNeg dp.toNatClampNeg k.toNatClampNeg))))
    | _, _ => False)
  | _ => False
theorem am_s_copy {index : Nat} (hlink : Cond.methodLink own index arraycopyName ∈ lw_good) (hnat : Cond.native arraycopyName ∈ lw_good) (hst : Cond.static arraycopyName ∈ lw_good) (hini : Cond.initialized "java/lang/System" ∈ lw_good) (hd1 : 1 ≤ d) (hw1 : 8 + (nativeFrameWords "java/lang/System" "arraycopy" 5 + 11) ≤ w) (hd : decode cc pc = .ok (.invokestatic index, 3)) : am_Snd En cc nL own d w pc (am_copy (pc + 3)) := by
  intro p l e R s m args below meth c Q dC dI dA A A0 cells slots Rp hC hE lo st h K ha hk H ls locs hl hP hD hS
  obtain ⟨hx, hb, hml, hown, hts, hK, hA, hEnv, hf, hlo, hcl, hsl⟩ := id hC
  unfold am_copy at ha
  split at ha
  · rename_i k dp b sp a r
    split at ha
    · rename_i n0 f n1 g ea eb
      obtain ⟨⟨h0, h1, h2, h3, h4, h5⟩, ha⟩ := ha
      refine va_copyi hx hb (by rw [hml, hl.1]) hown (hts _ hlink) (hts _ hnat) (hts _ hst) (hts _ hini) hK hP hD hS a b 0 0 (am_c_at ea) (am_c_at eb) rfl rfl rfl h1 h2 h3 h4 h5 (fun _ _ => rfl) (by omega) (by rw [am_cat_sum]; omega) hd (fun H1 locs1 hP1 hD1 hS1 => ?_)
      have hP1 : va_P (dC, dI) vwCl (am_c dA A 0 (h.set b (.inl (0, n1, .inl (va_cpy f g sp.toNatClampNeg dp.toNatClampNeg k.toNatClampNeg))))) H1 := by rw [← am_c_put (x := .inl (0, n1, .inl (va_cpy f g sp.toNatClampNeg dp.toNatClampNeg k.toNatClampNeg))) rfl]; exact hP1
      have hD1 : va_D A0 (am_c dA A 0 (h.set b (.inl (0, n1, .inl (va_cpy f g sp.toNatClampNeg dp.toNatClampNeg k.toNatClampNeg))))) := by rw [← am_c_put (x := .inl (0, n1, .inl (va_cpy f g sp.toNatClampNeg dp.toNatClampNeg k.toNatClampNeg))) rfl]; exact hD1
      exact hk _ _ _ _ ha H1 ls locs1 hl hP1 hD1 hS1
    · exact ha.elim
  · exact ha.elim
def am_prs (pc : Nat) (ps : List (Int × Int)) : List (Int32 × Nat) := ps.map (fun q => (Int32.ofInt q.1, ((pc : Int) + q.2).toNat))
theorem am_off (pc : Nat) (x : Int32) (dflt : Int) : ∀ ps : List (Int × Int), (∀ q ∈ ps, (-2147483648 : Int) ≤ q.1 ∧ q.1 ≤ 2147483647) →
    (∃ q ∈ ps, Op.lookupswitch.offset ps dflt x.toInt = q.2 ∧ x = Int32.ofInt q.1) ∨ (Op.lookupswitch.offset ps dflt x.toInt = dflt ∧ ∀ q ∈ ps, ¬ x = Int32.ofInt q.1)
  | [], _ => Or.inr ⟨rfl, fun q h => by cases h⟩
  | (a, o) :: t, hb => by
    have hk : (Int32.ofInt a).toInt = a := by
      have := hb (a, o) List.mem_cons_self
      rw [Int32.toInt_ofInt_of_le (by simpa using this.1) (by have := this.2; omega)]
    by_cases hx : x = Int32.ofInt a
    · refine Or.inl ⟨(a, o), List.mem_cons_self, ?_, hx⟩
      rw [hx]
      simp [Op.lookupswitch.offset, hk]
    · rw [lv_osw hx hk]
      rcases am_off pc x dflt t (fun q hq => hb q (List.mem_cons_of_mem _ hq)) with ⟨q, hq, h1, h2⟩ | ⟨h1, h2⟩
      · exact Or.inl ⟨q, List.mem_cons_of_mem _ hq, h1, h2⟩
      · refine Or.inr ⟨h1, fun q hq => ?_⟩
        rcases List.mem_cons.mp hq with rfl | hq
        · exact hx
        · exact h2 q hq
theorem am_s_lookup {dflt : Int} {ps : Array (Int × Int)} {len : Nat} (t : Nat) (hd : decode cc pc = .ok (.lookupswitch dflt ps, len)) (hp : (ps.toList.zip (ps.toList.drop 1)).all (fun (a, next) => a.1 < next.1) = true) (hb : ps.toList.all (fun q => decide ((-2147483648 : Int) ≤ q.1 ∧ q.1 ≤ 2147483647 ∧ 0 ≤ (pc : Int) + q.2)) = true) (ht : (pc : Int) + dflt = (t : Int)) : am_Snd En cc nL own d w pc (am_sw (am_prs pc ps.toList) t) := by
  intro p l e R s m args below meth c Q dC dI dA A A0 cells slots Rp hC hE lo st h K ha hk H ls locs hl hP hD hS
  have hb' : ∀ q ∈ ps.toList, (-2147483648 : Int) ≤ q.1 ∧ q.1 ≤ 2147483647 ∧ 0 ≤ (pc : Int) + q.2 := fun q hq => by simpa using List.all_eq_true.mp hb q hq
  unfold am_sw at ha
  split at ha
  · rename_i x r
    rcases am_off pc x dflt ps.toList (fun q hq => ⟨(hb' q hq).1, (hb' q hq).2.1⟩) with ⟨q, hq, h1, h2⟩ | ⟨h1, h2⟩
    · refine lv_lookup (tgt := ((pc : Int) + q.2).toNat) hC.1 hC.2.1 hd hp h1 (by have := (hb' q hq).2.2; omega) (hk _ _ _ _ (ha.1 _ (List.mem_map.mpr ⟨q, hq, rfl⟩) h2) H ls locs hl hP hD hS)
    · refine lv_lookup hC.1 hC.2.1 hd hp h1 ht (hk _ _ _ _ (ha.2 ?_) H ls locs hl hP hD hS)
      intro q hq
      obtain ⟨q', hq', rfl⟩ := List.mem_map.mp hq
      exact h2 q' hq'
  · exact ha.elim
end MORE
end
section
/-! the words that are used, each by its place (gen/tables.py) -/
theorem nG_Im : ∀ w ∈ u_ws nR_Im nT_Im 7, w ∈ lw_good := fun w h => List.mem_filter.mpr ⟨nI_Im w h, List.all_eq_true.mp (by decide +kernel : (u_ws nR_Im nT_Im 7).all goodWord = true) w h⟩
theorem nG_Ta : ∀ w ∈ u_ws nR_Ta nT_Ta 2, w ∈ lw_good := fun w h => List.mem_filter.mpr ⟨nI_Ta w h, List.all_eq_true.mp (by decide +kernel : (u_ws nR_Ta nT_Ta 2).all goodWord = true) w h⟩
theorem nG_Re : ∀ w ∈ u_ws nR_Re nT_Re 5, w ∈ lw_good := fun w h => List.mem_filter.mpr ⟨nI_Re w h, List.all_eq_true.mp (by decide +kernel : (u_ws nR_Re nT_Re 5).all goodWord = true) w h⟩
theorem nG_Fo : ∀ w ∈ u_ws nR_Fo nT_Fo 7, w ∈ lw_good := fun w h => List.mem_filter.mpr ⟨nI_Fo w h, List.all_eq_true.mp (by decide +kernel : (u_ws nR_Fo nT_Fo 7).all goodWord = true) w h⟩
theorem nG_Bo : ∀ w ∈ u_ws nR_Bo nT_Bo 8, w ∈ lw_good := fun w h => List.mem_filter.mpr ⟨nI_Bo w h, List.all_eq_true.mp (by decide +kernel : (u_ws nR_Bo nT_Bo 8).all goodWord = true) w h⟩
theorem nG_Sh : ∀ w ∈ u_ws nR_Sh nT_Sh 12, w ∈ lw_good := fun w h => List.mem_filter.mpr ⟨nI_Sh w h, List.all_eq_true.mp (by decide +kernel : (u_ws nR_Sh nT_Sh 12).all goodWord = true) w h⟩
theorem nG_Sc : ∀ w ∈ u_ws nR_Sc nT_Sc 8, w ∈ lw_good := fun w h => List.mem_filter.mpr ⟨nI_Sc w h, List.all_eq_true.mp (by decide +kernel : (u_ws nR_Sc nT_Sc 8).all goodWord = true) w h⟩
theorem nG_Mo : ∀ w ∈ u_ws nR_Mo nT_Mo 55, w ∈ lw_good := fun w h => List.mem_filter.mpr ⟨nI_Mo w h, List.all_eq_true.mp (by decide +kernel : (u_ws nR_Mo nT_Mo 55).all goodWord = true) w h⟩
abbrev c_Ta_append : ByteArray := prog_7_method_2_code
abbrev y_Ta_append : MethodName := ⟨"ImposeSheets$Tape", "append", "(JI)Z"⟩
abbrev c_Im_type : ByteArray := prog_1_method_2_code
abbrev y_Im_type : MethodName := ⟨"ImposeSheets", "type", "(JI)Z"⟩
abbrev c_Ta_byteAt : ByteArray := prog_7_method_4_code
abbrev y_Ta_byteAt : MethodName := ⟨"ImposeSheets$Tape", "byteAt", "(I)I"⟩
abbrev c_Re_next : ByteArray := prog_5_method_10_code
abbrev y_Re_next : MethodName := ⟨"ImposeSheets$SchemeReader", "next", "()I"⟩
abbrev c_Re_isDigit : ByteArray := prog_5_method_11_code
abbrev y_Re_isDigit : MethodName := ⟨"ImposeSheets$SchemeReader", "isDigit", "(I)Z"⟩
abbrev c_Re_failAt : ByteArray := prog_5_method_9_code
abbrev y_Re_failAt : MethodName := ⟨"ImposeSheets$SchemeReader", "failAt", "(I)Z"⟩
abbrev c_Re_readNumber : ByteArray := prog_5_method_7_code
abbrev y_Re_readNumber : MethodName := ⟨"ImposeSheets$SchemeReader", "readNumber", "(I)Z"⟩
abbrev c_Ma_floorDiv : ByteArray := prog_15_method_47_code
abbrev y_Ma_floorDiv : MethodName := ⟨"java/lang/Math", "floorDiv", "(II)I"⟩
abbrev c_Im_downward : ByteArray := prog_1_method_16_code
abbrev y_Im_downward : MethodName := ⟨"ImposeSheets", "downward", "(II)I"⟩
abbrev c_Ma_min : ByteArray := prog_15_method_69_code
abbrev y_Ma_min : MethodName := ⟨"java/lang/Math", "min", "(II)I"⟩
abbrev c_Re_expect : ByteArray := prog_5_method_8_code
abbrev y_Re_expect : MethodName := ⟨"ImposeSheets$SchemeReader", "expect", "(I)Z"⟩
abbrev c_Sc_begin : ByteArray := prog_4_method_2_code
abbrev y_Sc_begin : MethodName := ⟨"ImposeSheets$Scheme", "begin", "(II)V"⟩
abbrev c_Re_readSize : ByteArray := prog_5_method_3_code
abbrev y_Re_readSize : MethodName := ⟨"ImposeSheets$SchemeReader", "readSize", "(LImposeSheets$Scheme;)Z"⟩
abbrev c_Re_isFold : ByteArray := prog_5_method_12_code
abbrev y_Re_isFold : MethodName := ⟨"ImposeSheets$SchemeReader", "isFold", "(I)Z"⟩
abbrev c_Sc_addFold : ByteArray := prog_4_method_3_code
abbrev y_Sc_addFold : MethodName := ⟨"ImposeSheets$Scheme", "addFold", "(I)V"⟩
abbrev c_Sc_isCut : ByteArray := prog_4_method_8_code
abbrev y_Sc_isCut : MethodName := ⟨"ImposeSheets$Scheme", "isCut", "()Z"⟩
abbrev c_Sc_cells : ByteArray := prog_4_method_6_code
abbrev y_Sc_cells : MethodName := ⟨"ImposeSheets$Scheme", "cells", "()I"⟩
abbrev c_Sc_setLeaf : ByteArray := prog_4_method_5_code
abbrev y_Sc_setLeaf : MethodName := ⟨"ImposeSheets$Scheme", "setLeaf", "(II)V"⟩
abbrev c_Fo_cutLeaves : ByteArray := prog_3_method_3_code
abbrev y_Fo_cutLeaves : MethodName := ⟨"ImposeSheets$Folding", "cutLeaves", "(LImposeSheets$Scheme;)V"⟩
abbrev c_Fo_layOut : ByteArray := prog_3_method_4_code
abbrev y_Fo_layOut : MethodName := ⟨"ImposeSheets$Folding", "layOut", "(LImposeSheets$Scheme;)V"⟩
abbrev c_Fo_putOver : ByteArray := prog_3_method_8_code
abbrev y_Fo_putOver : MethodName := ⟨"ImposeSheets$Folding", "putOver", "(III)V"⟩
abbrev c_Fo_foldAcross : ByteArray := prog_3_method_6_code
abbrev y_Fo_foldAcross : MethodName := ⟨"ImposeSheets$Folding", "foldAcross", "(I)V"⟩
abbrev c_Fo_foldDown : ByteArray := prog_3_method_7_code
abbrev y_Fo_foldDown : MethodName := ⟨"ImposeSheets$Folding", "foldDown", "(I)V"⟩
abbrev c_Fo_foldOnce : ByteArray := prog_3_method_5_code
abbrev y_Fo_foldOnce : MethodName := ⟨"ImposeSheets$Folding", "foldOnce", "(I)Z"⟩
abbrev c_Fo_takePile : ByteArray := prog_3_method_9_code
abbrev y_Fo_takePile : MethodName := ⟨"ImposeSheets$Folding", "takePile", "(LImposeSheets$Scheme;)V"⟩
abbrev c_Fo_makeBooklet : ByteArray := prog_3_method_2_code
abbrev y_Fo_makeBooklet : MethodName := ⟨"ImposeSheets$Folding", "makeBooklet", "(LImposeSheets$Scheme;)Z"⟩
abbrev c_Re_readFolds : ByteArray := prog_5_method_4_code
abbrev y_Re_readFolds : MethodName := ⟨"ImposeSheets$SchemeReader", "readFolds", "(LImposeSheets$Scheme;)Z"⟩
abbrev c_Sc_pageCount : ByteArray := prog_4_method_7_code
abbrev y_Sc_pageCount : MethodName := ⟨"ImposeSheets$Scheme", "pageCount", "()I"⟩
abbrev c_Sc_tellPage : ByteArray := prog_4_method_4_code
abbrev y_Sc_tellPage : MethodName := ⟨"ImposeSheets$Scheme", "tellPage", "(IIZ)V"⟩
abbrev c_Re_readSide : ByteArray := prog_5_method_6_code
abbrev y_Re_readSide : MethodName := ⟨"ImposeSheets$SchemeReader", "readSide", "(LImposeSheets$Scheme;I)Z"⟩
abbrev c_Re_readPages : ByteArray := prog_5_method_5_code
abbrev y_Re_readPages : MethodName := ⟨"ImposeSheets$SchemeReader", "readPages", "(LImposeSheets$Scheme;)Z"⟩
abbrev c_Re_readInto : ByteArray := prog_5_method_2_code
abbrev y_Re_readInto : MethodName := ⟨"ImposeSheets$SchemeReader", "readInto", "(LImposeSheets$Scheme;)I"⟩
abbrev c_Ta_empty : ByteArray := prog_7_method_3_code
abbrev y_Ta_empty : MethodName := ⟨"ImposeSheets$Tape", "empty", "()V"⟩
abbrev c_Im_scheme : ByteArray := prog_1_method_3_code
abbrev y_Im_scheme : MethodName := ⟨"ImposeSheets", "scheme", "()I"⟩
abbrev c_Sc_leafOf : ByteArray := prog_4_method_9_code
abbrev y_Sc_leafOf : MethodName := ⟨"ImposeSheets$Scheme", "leafOf", "(I)I"⟩
abbrev c_Sc_sideOf : ByteArray := prog_4_method_10_code
abbrev y_Sc_sideOf : MethodName := ⟨"ImposeSheets$Scheme", "sideOf", "(I)I"⟩
abbrev c_Sc_spotOf : ByteArray := prog_4_method_11_code
abbrev y_Sc_spotOf : MethodName := ⟨"ImposeSheets$Scheme", "spotOf", "(II)I"⟩
abbrev c_Sc_turnedOf : ByteArray := prog_4_method_12_code
abbrev y_Sc_turnedOf : MethodName := ⟨"ImposeSheets$Scheme", "turnedOf", "(II)I"⟩
abbrev c_Sc_isToldRight : ByteArray := prog_4_method_14_code
abbrev y_Sc_isToldRight : MethodName := ⟨"ImposeSheets$Scheme", "isToldRight", "(II)Z"⟩
abbrev c_Sc_firstBroken : ByteArray := prog_4_method_13_code
abbrev y_Sc_firstBroken : MethodName := ⟨"ImposeSheets$Scheme", "firstBroken", "(I)I"⟩
abbrev c_Im_broken : ByteArray := prog_1_method_6_code
abbrev y_Im_broken : MethodName := ⟨"ImposeSheets", "broken", "()I"⟩
abbrev c_Sh_forget : ByteArray := prog_6_method_4_code
abbrev y_Sh_forget : MethodName := ⟨"ImposeSheets$Sharing", "forget", "()V"⟩
abbrev c_Im_clear : ByteArray := prog_1_method_12_code
abbrev y_Im_clear : MethodName := ⟨"ImposeSheets", "clear", "()V"⟩
abbrev c_Im_upward : ByteArray := prog_1_method_15_code
abbrev y_Im_upward : MethodName := ⟨"ImposeSheets", "upward", "(II)I"⟩
abbrev c_Mo_thrown : ByteArray := prog_9_method_2_code
abbrev y_Mo_thrown : MethodName := ⟨"ImposeSheetsModel", "thrown", "()I"⟩
abbrev c_Mo_type : ByteArray := prog_9_method_3_code
abbrev y_Mo_type : MethodName := ⟨"ImposeSheetsModel", "type", "(JI)Z"⟩
abbrev c_Mo_byteAt : ByteArray := prog_9_method_4_code
abbrev y_Mo_byteAt : MethodName := ⟨"ImposeSheetsModel", "byteAt", "()I"⟩
abbrev c_Mo_isDigit : ByteArray := prog_9_method_5_code
abbrev y_Mo_isDigit : MethodName := ⟨"ImposeSheetsModel", "isDigit", "()Z"⟩
abbrev c_Mo_fail : ByteArray := prog_9_method_6_code
abbrev y_Mo_fail : MethodName := ⟨"ImposeSheetsModel", "fail", "(I)V"⟩
abbrev c_Mo_number : ByteArray := prog_9_method_7_code
abbrev y_Mo_number : MethodName := ⟨"ImposeSheetsModel", "number", "(I)I"⟩
abbrev c_Mo_sign : ByteArray := prog_9_method_8_code
abbrev y_Mo_sign : MethodName := ⟨"ImposeSheetsModel", "sign", "(I)V"⟩
abbrev c_Mo_isFold : ByteArray := prog_9_method_9_code
abbrev y_Mo_isFold : MethodName := ⟨"ImposeSheetsModel", "isFold", "(I)Z"⟩
abbrev c_Mo_areRight : ByteArray := prog_9_method_10_code
abbrev y_Mo_areRight : MethodName := ⟨"ImposeSheetsModel", "areRight", "(II[II)Z"⟩
abbrev c_Mo_readFolds : ByteArray := prog_9_method_11_code
abbrev y_Mo_readFolds : MethodName := ⟨"ImposeSheetsModel", "readFolds", "()V"⟩
abbrev c_Mo_readPages : ByteArray := prog_9_method_12_code
abbrev y_Mo_readPages : MethodName := ⟨"ImposeSheetsModel", "readPages", "()V"⟩
abbrev c_Mo_scheme : ByteArray := prog_9_method_13_code
abbrev y_Mo_scheme : MethodName := ⟨"ImposeSheetsModel", "scheme", "()I"⟩
abbrev c_Mo_spot : ByteArray := prog_9_method_14_code
abbrev y_Mo_spot : MethodName := ⟨"ImposeSheetsModel", "spot", "(II)I"⟩
abbrev c_Mo_turnOnto : ByteArray := prog_9_method_15_code
abbrev y_Mo_turnOnto : MethodName := ⟨"ImposeSheetsModel", "turnOnto", "(IIZ)V"⟩
abbrev c_Mo_movePile : ByteArray := prog_9_method_16_code
abbrev y_Mo_movePile : MethodName := ⟨"ImposeSheetsModel", "movePile", "(II)V"⟩
abbrev c_Mo_foldOnce : ByteArray := prog_9_method_17_code
abbrev y_Mo_foldOnce : MethodName := ⟨"ImposeSheetsModel", "foldOnce", "(I)V"⟩
abbrev c_Mo_setPage : ByteArray := prog_9_method_18_code
abbrev y_Mo_setPage : MethodName := ⟨"ImposeSheetsModel", "setPage", "(IIZZ)V"⟩
abbrev c_Mo_foldAll : ByteArray := prog_9_method_19_code
abbrev y_Mo_foldAll : MethodName := ⟨"ImposeSheetsModel", "foldAll", "()V"⟩
abbrev c_Mo_brokenPage : ByteArray := prog_9_method_20_code
abbrev y_Mo_brokenPage : MethodName := ⟨"ImposeSheetsModel", "brokenPage", "()I"⟩
abbrev c_Mo_broken : ByteArray := prog_9_method_21_code
abbrev y_Mo_broken : MethodName := ⟨"ImposeSheetsModel", "broken", "()I"⟩
abbrev c_Mo_setting : ByteArray := prog_9_method_22_code
abbrev y_Mo_setting : MethodName := ⟨"ImposeSheetsModel", "setting", "(II)I"⟩
abbrev c_Mo_down : ByteArray := prog_9_method_23_code
abbrev y_Mo_down : MethodName := ⟨"ImposeSheetsModel", "down", "(II)I"⟩
abbrev c_Mo_bookPlace : ByteArray := prog_9_method_24_code
abbrev y_Mo_bookPlace : MethodName := ⟨"ImposeSheetsModel", "bookPlace", "(II)I"⟩
abbrev c_Mo_less : ByteArray := prog_9_method_25_code
abbrev y_Mo_less : MethodName := ⟨"ImposeSheetsModel", "less", "(II)I"⟩
abbrev c_Mo_creepOf : ByteArray := prog_9_method_26_code
abbrev y_Mo_creepOf : MethodName := ⟨"ImposeSheetsModel", "creepOf", "(II)I"⟩
abbrev c_Mo_lessLong : ByteArray := prog_9_method_28_code
abbrev y_Mo_lessLong : MethodName := ⟨"ImposeSheetsModel", "lessLong", "(JJ)J"⟩
abbrev c_Mo_lay : ByteArray := prog_9_method_27_code
abbrev y_Mo_lay : MethodName := ⟨"ImposeSheetsModel", "lay", "(IIII)V"⟩
abbrev c_Mo_run : ByteArray := prog_9_method_29_code
abbrev y_Mo_run : MethodName := ⟨"ImposeSheetsModel", "run", "(I)I"⟩
abbrev c_Mo_at : ByteArray := prog_9_method_30_code
abbrev y_Mo_at : MethodName := ⟨"ImposeSheetsModel", "at", "(IIII)I"⟩
abbrev c_Mo_fold : ByteArray := prog_9_method_31_code
abbrev y_Mo_fold : MethodName := ⟨"ImposeSheetsModel", "fold", "(I)I"⟩
abbrev c_Mo_creep : ByteArray := prog_9_method_32_code
abbrev y_Mo_creep : MethodName := ⟨"ImposeSheetsModel", "creep", "(I)I"⟩
abbrev c_Mo_laid : ByteArray := prog_9_method_33_code
abbrev y_Mo_laid : MethodName := ⟨"ImposeSheetsModel", "laid", "(I)I"⟩
abbrev c_Mo_job : ByteArray := prog_9_method_34_code
abbrev y_Mo_job : MethodName := ⟨"ImposeSheetsModel", "job", "(I)I"⟩
abbrev c_Mo_clear : ByteArray := prog_9_method_35_code
abbrev y_Mo_clear : MethodName := ⟨"ImposeSheetsModel", "clear", "()V"⟩
abbrev c_Mo_upward : ByteArray := prog_9_method_36_code
abbrev y_Mo_upward : MethodName := ⟨"ImposeSheetsModel", "upward", "(II)I"⟩
abbrev c_Mo_slotsFor : ByteArray := prog_9_method_37_code
abbrev y_Mo_slotsFor : MethodName := ⟨"ImposeSheetsModel", "slotsFor", "(II)I"⟩
abbrev c_Mo_jobsOn : ByteArray := prog_9_method_38_code
abbrev y_Mo_jobsOn : MethodName := ⟨"ImposeSheetsModel", "jobsOn", "(I)I"⟩
abbrev c_Mo_sheetsOf : ByteArray := prog_9_method_39_code
abbrev y_Mo_sheetsOf : MethodName := ⟨"ImposeSheetsModel", "sheetsOf", "(II)I"⟩
abbrev c_Mo_platesOf : ByteArray := prog_9_method_40_code
abbrev y_Mo_platesOf : MethodName := ⟨"ImposeSheetsModel", "platesOf", "()I"⟩
abbrev c_Mo_costOf : ByteArray := prog_9_method_41_code
abbrev y_Mo_costOf : MethodName := ⟨"ImposeSheetsModel", "costOf", "(II)J"⟩
abbrev c_Mo_nextWay : ByteArray := prog_9_method_42_code
abbrev y_Mo_nextWay : MethodName := ⟨"ImposeSheetsModel", "nextWay", "()Z"⟩
abbrev c_Mo_take : ByteArray := prog_9_method_43_code
abbrev y_Mo_take : MethodName := ⟨"ImposeSheetsModel", "take", "(I)V"⟩
abbrev c_Mo_share : ByteArray := prog_9_method_44_code
abbrev y_Mo_share : MethodName := ⟨"ImposeSheetsModel", "share", "(III)I"⟩
abbrev c_Mo_shared : ByteArray := prog_9_method_45_code
abbrev y_Mo_shared : MethodName := ⟨"ImposeSheetsModel", "shared", "(II)I"⟩
abbrev c_Bo_bookletPages : ByteArray := prog_2_method_4_code
abbrev y_Bo_bookletPages : MethodName := ⟨"ImposeSheets$Book", "bookletPages", "()I"⟩
abbrev c_Bo_isPageGreater : ByteArray := prog_2_method_7_code
abbrev y_Bo_isPageGreater : MethodName := ⟨"ImposeSheets$Book", "isPageGreater", "()Z"⟩
abbrev c_Ma_max : ByteArray := prog_15_method_65_code
abbrev y_Ma_max : MethodName := ⟨"java/lang/Math", "max", "(II)I"⟩
abbrev c_Bo_findScale : ByteArray := prog_2_method_9_code
abbrev y_Bo_findScale : MethodName := ⟨"ImposeSheets$Book", "findScale", "()I"⟩
abbrev c_Bo_lay : ByteArray := prog_2_method_2_code
abbrev y_Bo_lay : MethodName := ⟨"ImposeSheets$Book", "lay", "(LImposeSheets$Scheme;[II)V"⟩
abbrev c_Bo_sheetCount : ByteArray := prog_2_method_3_code
abbrev y_Bo_sheetCount : MethodName := ⟨"ImposeSheets$Book", "sheetCount", "()I"⟩
abbrev c_Bo_placeCount : ByteArray := prog_2_method_5_code
abbrev y_Bo_placeCount : MethodName := ⟨"ImposeSheets$Book", "placeCount", "()I"⟩
abbrev c_Bo_blankCount : ByteArray := prog_2_method_6_code
abbrev y_Bo_blankCount : MethodName := ⟨"ImposeSheets$Book", "blankCount", "()I"⟩
abbrev c_Bo_isTooSmallForPages : ByteArray := prog_2_method_8_code
abbrev y_Bo_isTooSmallForPages : MethodName := ⟨"ImposeSheets$Book", "isTooSmallForPages", "()Z"⟩
abbrev c_Bo_hasSpot : ByteArray := prog_2_method_10_code
abbrev y_Bo_hasSpot : MethodName := ⟨"ImposeSheets$Book", "hasSpot", "(III)Z"⟩
abbrev c_Bo_hasPage : ByteArray := prog_2_method_11_code
abbrev y_Bo_hasPage : MethodName := ⟨"ImposeSheets$Book", "hasPage", "(I)Z"⟩
abbrev c_Bo_blanksBefore : ByteArray := prog_2_method_12_code
abbrev y_Bo_blanksBefore : MethodName := ⟨"ImposeSheets$Book", "blanksBefore", "()I"⟩
abbrev c_Bo_pageAtPlace : ByteArray := prog_2_method_13_code
abbrev y_Bo_pageAtPlace : MethodName := ⟨"ImposeSheets$Book", "pageAtPlace", "(I)I"⟩
abbrev c_Bo_depthOf : ByteArray := prog_2_method_16_code
abbrev y_Bo_depthOf : MethodName := ⟨"ImposeSheets$Book", "depthOf", "(I)I"⟩
abbrev c_Bo_creepOfPlace : ByteArray := prog_2_method_17_code
abbrev y_Bo_creepOfPlace : MethodName := ⟨"ImposeSheets$Book", "creepOfPlace", "(I)I"⟩
abbrev c_Bo_creepOfPage : ByteArray := prog_2_method_14_code
abbrev y_Bo_creepOfPage : MethodName := ⟨"ImposeSheets$Book", "creepOfPage", "(I)I"⟩
abbrev c_Bo_placeOf : ByteArray := prog_2_method_15_code
abbrev y_Bo_placeOf : MethodName := ⟨"ImposeSheets$Book", "placeOf", "(II)I"⟩
abbrev c_Bo_margin : ByteArray := prog_2_method_21_code
abbrev y_Bo_margin : MethodName := ⟨"ImposeSheets$Book", "margin", "(II)I"⟩
abbrev c_Bo_leftEdge : ByteArray := prog_2_method_19_code
abbrev y_Bo_leftEdge : MethodName := ⟨"ImposeSheets$Book", "leftEdge", "(III)I"⟩
abbrev c_Bo_topEdge : ByteArray := prog_2_method_20_code
abbrev y_Bo_topEdge : MethodName := ⟨"ImposeSheets$Book", "topEdge", "(I)I"⟩
abbrev c_Bo_tellSpot : ByteArray := prog_2_method_18_code
abbrev y_Bo_tellSpot : MethodName := ⟨"ImposeSheets$Book", "tellSpot", "(IIII)I"⟩
abbrev c_Sh_jobCount : ByteArray := prog_6_method_2_code
abbrev y_Sh_jobCount : MethodName := ⟨"ImposeSheets$Sharing", "jobCount", "()I"⟩
abbrev c_Sh_addJob : ByteArray := prog_6_method_3_code
abbrev y_Sh_addJob : MethodName := ⟨"ImposeSheets$Sharing", "addJob", "(I)I"⟩
abbrev c_Ar_fill : ByteArray := prog_21_method_103_code
abbrev y_Ar_fill : MethodName := ⟨"java/util/Arrays", "fill", "([II)V"⟩
abbrev c_Sh_fillPlates : ByteArray := prog_6_method_8_code
abbrev y_Sh_fillPlates : MethodName := ⟨"ImposeSheets$Sharing", "fillPlates", "()V"⟩
abbrev c_Sh_greatestBefore : ByteArray := prog_6_method_14_code
abbrev y_Sh_greatestBefore : MethodName := ⟨"ImposeSheets$Sharing", "greatestBefore", "(I)I"⟩
abbrev c_Sh_plateCount : ByteArray := prog_6_method_6_code
abbrev y_Sh_plateCount : MethodName := ⟨"ImposeSheets$Sharing", "plateCount", "()I"⟩
abbrev c_In_bitCount : ByteArray := prog_14_method_49_code
abbrev y_In_bitCount : MethodName := ⟨"java/lang/Integer", "bitCount", "(I)I"⟩
abbrev c_Sh_slotsFor : ByteArray := prog_6_method_11_code
abbrev y_Sh_slotsFor : MethodName := ⟨"ImposeSheets$Sharing", "slotsFor", "(II)I"⟩
abbrev c_Sh_leastSheets : ByteArray := prog_6_method_10_code
abbrev y_Sh_leastSheets : MethodName := ⟨"ImposeSheets$Sharing", "leastSheets", "(I)I"⟩
abbrev c_Sh_sheetsFor : ByteArray := prog_6_method_9_code
abbrev y_Sh_sheetsFor : MethodName := ⟨"ImposeSheets$Sharing", "sheetsFor", "(I)I"⟩
abbrev c_Sh_costOfWay : ByteArray := prog_6_method_7_code
abbrev y_Sh_costOfWay : MethodName := ⟨"ImposeSheets$Sharing", "costOfWay", "(I)I"⟩
abbrev c_Sh_takeWay : ByteArray := prog_6_method_12_code
abbrev y_Sh_takeWay : MethodName := ⟨"ImposeSheets$Sharing", "takeWay", "()V"⟩
abbrev c_Sh_goToNextWay : ByteArray := prog_6_method_13_code
abbrev y_Sh_goToNextWay : MethodName := ⟨"ImposeSheets$Sharing", "goToNextWay", "()Z"⟩
abbrev c_Sh_seekLeastCost : ByteArray := prog_6_method_5_code
abbrev y_Sh_seekLeastCost : MethodName := ⟨"ImposeSheets$Sharing", "seekLeastCost", "(III)I"⟩
abbrev c_Sh_canTell : ByteArray := prog_6_method_15_code
abbrev y_Sh_canTell : MethodName := ⟨"ImposeSheets$Sharing", "canTell", "(II)Z"⟩
abbrev c_Sh_tell : ByteArray := prog_6_method_16_code
abbrev y_Sh_tell : MethodName := ⟨"ImposeSheets$Sharing", "tell", "(II)I"⟩
theorem w_94 : Cond.fieldLink "ImposeSheets$Tape" 13 "ImposeSheets$Tape" "size" "I" ∈ lw_good := lw_g 94 (by decide +kernel) rfl
theorem w_93 : Cond.fieldLink "ImposeSheets$Tape" 9 "ImposeSheets$Tape" "bytes" "[I" ∈ lw_good := lw_g 93 (by decide +kernel) rfl
theorem w_266 : Cond.fieldLink "ImposeSheets" 10 "ImposeSheets" "tape" "LImposeSheets$Tape;" ∈ lw_good := lw_g 266 (by decide +kernel) rfl
theorem w_292 : Cond.methodLink "ImposeSheets" 62 ⟨"ImposeSheets$Tape", "append", "(JI)Z"⟩ ∈ lw_good := lw_g 292 (by decide +kernel) rfl
set_option maxRecDepth 100000 in
theorem w_295 : Cond.code y_Ta_append c_Ta_append 5 (some .boolean) ∈ lw_good := lw_g 295 rfl rfl
theorem w_61 : Cond.initialized "ImposeSheets$Tape" ∈ lw_good := lw_g 61 (by decide +kernel) rfl
theorem w_293 : Cond.instanceMethod ⟨"ImposeSheets$Tape", "append", "(JI)Z"⟩ ∈ lw_good := lw_g 293 (by decide +kernel) rfl
theorem w_294 : Cond.selects "ImposeSheets$Tape" ⟨"ImposeSheets$Tape", "append", "(JI)Z"⟩ ⟨"ImposeSheets$Tape", "append", "(JI)Z"⟩ ∈ lw_good := lw_g 294 (by decide +kernel) rfl
theorem w_135 : Cond.fieldLink "ImposeSheets$SchemeReader" 28 "ImposeSheets$SchemeReader" "tape" "LImposeSheets$Tape;" ∈ lw_good := lw_g 135 (by decide +kernel) rfl
theorem w_137 : Cond.fieldLink "ImposeSheets$SchemeReader" 18 "ImposeSheets$SchemeReader" "place" "I" ∈ lw_good := lw_g 137 (by decide +kernel) rfl
theorem w_316 : Cond.methodLink "ImposeSheets$SchemeReader" 100 ⟨"ImposeSheets$Tape", "byteAt", "(I)I"⟩ ∈ lw_good := lw_g 316 (by decide +kernel) rfl
set_option maxRecDepth 100000 in
theorem w_319 : Cond.code y_Ta_byteAt c_Ta_byteAt 2 (some .int) ∈ lw_good := lw_g 319 rfl rfl
theorem w_317 : Cond.instanceMethod ⟨"ImposeSheets$Tape", "byteAt", "(I)I"⟩ ∈ lw_good := lw_g 317 (by decide +kernel) rfl
theorem w_318 : Cond.selects "ImposeSheets$Tape" ⟨"ImposeSheets$Tape", "byteAt", "(I)I"⟩ ⟨"ImposeSheets$Tape", "byteAt", "(I)I"⟩ ∈ lw_good := lw_g 318 (by decide +kernel) rfl
theorem w_138 : Cond.fieldLink "ImposeSheets$SchemeReader" 22 "ImposeSheets$SchemeReader" "wrongPlace" "I" ∈ lw_good := lw_g 138 (by decide +kernel) rfl
theorem w_139 : Cond.fieldLink "ImposeSheets$SchemeReader" 25 "ImposeSheets$SchemeReader" "number" "I" ∈ lw_good := lw_g 139 (by decide +kernel) rfl
theorem w_312 : Cond.methodLink "ImposeSheets$SchemeReader" 70 ⟨"ImposeSheets$SchemeReader", "next", "()I"⟩ ∈ lw_good := lw_g 312 (by decide +kernel) rfl
set_option maxRecDepth 100000 in
theorem w_315 : Cond.code y_Re_next c_Re_next 1 (some .int) ∈ lw_good := lw_g 315 rfl rfl
theorem w_62 : Cond.initialized "ImposeSheets$SchemeReader" ∈ lw_good := lw_g 62 (by decide +kernel) rfl
theorem w_314 : Cond.instanceMethod ⟨"ImposeSheets$SchemeReader", "next", "()I"⟩ ∈ lw_good := lw_g 314 (by decide +kernel) rfl
theorem w_2 : Cond.selects "ImposeSheets$SchemeReader" ⟨"ImposeSheets$SchemeReader", "next", "()I"⟩ ⟨"ImposeSheets$SchemeReader", "next", "()I"⟩ ∈ lw_good := lw_g 2 (by decide +kernel) rfl
theorem w_320 : Cond.methodLink "ImposeSheets$SchemeReader" 97 ⟨"ImposeSheets$SchemeReader", "isDigit", "(I)Z"⟩ ∈ lw_good := lw_g 320 (by decide +kernel) rfl
set_option maxRecDepth 100000 in
theorem w_322 : Cond.code y_Re_isDigit c_Re_isDigit 1 (some .boolean) ∈ lw_good := lw_g 322 rfl rfl
theorem w_321 : Cond.static ⟨"ImposeSheets$SchemeReader", "isDigit", "(I)Z"⟩ ∈ lw_good := lw_g 321 (by decide +kernel) rfl
theorem w_323 : Cond.methodLink "ImposeSheets$SchemeReader" 80 ⟨"ImposeSheets$SchemeReader", "failAt", "(I)Z"⟩ ∈ lw_good := lw_g 323 (by decide +kernel) rfl
set_option maxRecDepth 100000 in
theorem w_326 : Cond.code y_Re_failAt c_Re_failAt 2 (some .boolean) ∈ lw_good := lw_g 326 rfl rfl
theorem w_325 : Cond.instanceMethod ⟨"ImposeSheets$SchemeReader", "failAt", "(I)Z"⟩ ∈ lw_good := lw_g 325 (by decide +kernel) rfl
theorem w_3 : Cond.selects "ImposeSheets$SchemeReader" ⟨"ImposeSheets$SchemeReader", "failAt", "(I)Z"⟩ ⟨"ImposeSheets$SchemeReader", "failAt", "(I)Z"⟩ ∈ lw_good := lw_g 3 (by decide +kernel) rfl
theorem w_330 : Cond.methodLink "ImposeSheets" 195 ⟨"java/lang/Math", "floorDiv", "(II)I"⟩ ∈ lw_good := lw_g 330 (by decide +kernel) rfl
set_option maxRecDepth 100000 in
theorem w_332 : Cond.code y_Ma_floorDiv c_Ma_floorDiv 3 (some .int) ∈ lw_good := lw_g 332 rfl rfl
theorem w_69 : Cond.initialized "java/lang/Math" ∈ lw_good := lw_g 69 (by decide +kernel) rfl
theorem w_331 : Cond.static ⟨"java/lang/Math", "floorDiv", "(II)I"⟩ ∈ lw_good := lw_g 331 (by decide +kernel) rfl
theorem w_241 : Cond.fieldLink "ImposeSheets$Scheme" 24 "ImposeSheets$Scheme" "columns" "I" ∈ lw_good := lw_g 241 (by decide +kernel) rfl
theorem w_244 : Cond.fieldLink "ImposeSheets$Scheme" 28 "ImposeSheets$Scheme" "rows" "I" ∈ lw_good := lw_g 244 (by decide +kernel) rfl
theorem w_246 : Cond.fieldLink "ImposeSheets$Scheme" 31 "ImposeSheets$Scheme" "foldCount" "I" ∈ lw_good := lw_g 246 (by decide +kernel) rfl
theorem w_248 : Cond.fieldLink "ImposeSheets$Scheme" 34 "ImposeSheets$Scheme" "told" "Z" ∈ lw_good := lw_g 248 (by decide +kernel) rfl
theorem w_308 : Cond.methodLink "ImposeSheets$SchemeReader" 54 ⟨"ImposeSheets$SchemeReader", "readNumber", "(I)Z"⟩ ∈ lw_good := lw_g 308 (by decide +kernel) rfl
set_option maxRecDepth 100000 in
theorem w_311 : Cond.code y_Re_readNumber c_Re_readNumber 4 (some .boolean) ∈ lw_good := lw_g 311 rfl rfl
theorem w_310 : Cond.instanceMethod ⟨"ImposeSheets$SchemeReader", "readNumber", "(I)Z"⟩ ∈ lw_good := lw_g 310 (by decide +kernel) rfl
theorem w_1 : Cond.selects "ImposeSheets$SchemeReader" ⟨"ImposeSheets$SchemeReader", "readNumber", "(I)Z"⟩ ⟨"ImposeSheets$SchemeReader", "readNumber", "(I)Z"⟩ ∈ lw_good := lw_g 1 (by decide +kernel) rfl
theorem w_327 : Cond.methodLinkNest "ImposeSheets$SchemeReader" 57 ⟨"ImposeSheets", "downward", "(II)I"⟩ "ImposeSheets" ∈ lw_nest := lw_n 327 (by decide +kernel) rfl
set_option maxRecDepth 100000 in
theorem w_329 : Cond.code y_Im_downward c_Im_downward 2 (some .int) ∈ lw_good := lw_g 329 rfl rfl
theorem w_60 : Cond.initialized "ImposeSheets" ∈ lw_good := lw_g 60 (by decide +kernel) rfl
theorem w_328 : Cond.static ⟨"ImposeSheets", "downward", "(II)I"⟩ ∈ lw_good := lw_g 328 (by decide +kernel) rfl
theorem w_333 : Cond.methodLink "ImposeSheets$SchemeReader" 61 ⟨"java/lang/Math", "min", "(II)I"⟩ ∈ lw_good := lw_g 333 (by decide +kernel) rfl
set_option maxRecDepth 100000 in
theorem w_335 : Cond.code y_Ma_min c_Ma_min 2 (some .int) ∈ lw_good := lw_g 335 rfl rfl
theorem w_334 : Cond.static ⟨"java/lang/Math", "min", "(II)I"⟩ ∈ lw_good := lw_g 334 (by decide +kernel) rfl
theorem w_336 : Cond.methodLink "ImposeSheets$SchemeReader" 44 ⟨"ImposeSheets$SchemeReader", "expect", "(I)Z"⟩ ∈ lw_good := lw_g 336 (by decide +kernel) rfl
set_option maxRecDepth 100000 in
theorem w_339 : Cond.code y_Re_expect c_Re_expect 2 (some .boolean) ∈ lw_good := lw_g 339 rfl rfl
theorem w_338 : Cond.instanceMethod ⟨"ImposeSheets$SchemeReader", "expect", "(I)Z"⟩ ∈ lw_good := lw_g 338 (by decide +kernel) rfl
theorem w_4 : Cond.selects "ImposeSheets$SchemeReader" ⟨"ImposeSheets$SchemeReader", "expect", "(I)Z"⟩ ⟨"ImposeSheets$SchemeReader", "expect", "(I)Z"⟩ ∈ lw_good := lw_g 4 (by decide +kernel) rfl
theorem w_340 : Cond.methodLink "ImposeSheets$SchemeReader" 66 ⟨"ImposeSheets$Scheme", "begin", "(II)V"⟩ ∈ lw_good := lw_g 340 (by decide +kernel) rfl
set_option maxRecDepth 100000 in
theorem w_343 : Cond.code y_Sc_begin c_Sc_begin 3 none ∈ lw_good := lw_g 343 rfl rfl
theorem w_67 : Cond.initialized "ImposeSheets$Scheme" ∈ lw_good := lw_g 67 (by decide +kernel) rfl
theorem w_341 : Cond.instanceMethod ⟨"ImposeSheets$Scheme", "begin", "(II)V"⟩ ∈ lw_good := lw_g 341 (by decide +kernel) rfl
theorem w_342 : Cond.selects "ImposeSheets$Scheme" ⟨"ImposeSheets$Scheme", "begin", "(II)V"⟩ ⟨"ImposeSheets$Scheme", "begin", "(II)V"⟩ ∈ lw_good := lw_g 342 (by decide +kernel) rfl
theorem w_236 : Cond.fieldLink "ImposeSheets$Scheme" 9 "ImposeSheets$Scheme" "folds" "[I" ∈ lw_good := lw_g 236 (by decide +kernel) rfl
theorem w_240 : Cond.fieldLink "ImposeSheets$Scheme" 21 "ImposeSheets$Scheme" "leaves" "[I" ∈ lw_good := lw_g 240 (by decide +kernel) rfl
theorem w_366 : Cond.methodLink "ImposeSheets$Folding" 60 ⟨"ImposeSheets$Scheme", "cells", "()I"⟩ ∈ lw_good := lw_g 366 (by decide +kernel) rfl
set_option maxRecDepth 100000 in
theorem w_369 : Cond.code y_Sc_cells c_Sc_cells 1 (some .int) ∈ lw_good := lw_g 369 rfl rfl
theorem w_367 : Cond.instanceMethod ⟨"ImposeSheets$Scheme", "cells", "()I"⟩ ∈ lw_good := lw_g 367 (by decide +kernel) rfl
theorem w_368 : Cond.selects "ImposeSheets$Scheme" ⟨"ImposeSheets$Scheme", "cells", "()I"⟩ ⟨"ImposeSheets$Scheme", "cells", "()I"⟩ ∈ lw_good := lw_g 368 (by decide +kernel) rfl
theorem w_370 : Cond.methodLink "ImposeSheets$Folding" 64 ⟨"ImposeSheets$Scheme", "setLeaf", "(II)V"⟩ ∈ lw_good := lw_g 370 (by decide +kernel) rfl
set_option maxRecDepth 100000 in
theorem w_373 : Cond.code y_Sc_setLeaf c_Sc_setLeaf 3 none ∈ lw_good := lw_g 373 rfl rfl
theorem w_371 : Cond.instanceMethod ⟨"ImposeSheets$Scheme", "setLeaf", "(II)V"⟩ ∈ lw_good := lw_g 371 (by decide +kernel) rfl
theorem w_372 : Cond.selects "ImposeSheets$Scheme" ⟨"ImposeSheets$Scheme", "setLeaf", "(II)V"⟩ ⟨"ImposeSheets$Scheme", "setLeaf", "(II)V"⟩ ∈ lw_good := lw_g 372 (by decide +kernel) rfl
theorem w_243 : Cond.fieldLinkNest "ImposeSheets$Folding" 68 "ImposeSheets$Scheme" "columns" "I" "ImposeSheets" ∈ lw_nest := lw_n 243 (by decide +kernel) rfl
theorem w_114 : Cond.fieldLink "ImposeSheets$Folding" 15 "ImposeSheets$Folding" "stride" "I" ∈ lw_good := lw_g 114 (by decide +kernel) rfl
theorem w_115 : Cond.fieldLink "ImposeSheets$Folding" 19 "ImposeSheets$Folding" "left" "I" ∈ lw_good := lw_g 115 (by decide +kernel) rfl
theorem w_116 : Cond.fieldLink "ImposeSheets$Folding" 22 "ImposeSheets$Folding" "top" "I" ∈ lw_good := lw_g 116 (by decide +kernel) rfl
theorem w_117 : Cond.fieldLink "ImposeSheets$Folding" 25 "ImposeSheets$Folding" "columns" "I" ∈ lw_good := lw_g 117 (by decide +kernel) rfl
theorem w_245 : Cond.fieldLinkNest "ImposeSheets$Folding" 69 "ImposeSheets$Scheme" "rows" "I" "ImposeSheets" ∈ lw_nest := lw_n 245 (by decide +kernel) rfl
theorem w_118 : Cond.fieldLink "ImposeSheets$Folding" 28 "ImposeSheets$Folding" "rows" "I" ∈ lw_good := lw_g 118 (by decide +kernel) rfl
theorem w_119 : Cond.fieldLink "ImposeSheets$Folding" 31 "ImposeSheets$Folding" "height" "I" ∈ lw_good := lw_g 119 (by decide +kernel) rfl
theorem w_113 : Cond.fieldLink "ImposeSheets$Folding" 9 "ImposeSheets$Folding" "piles" "[I" ∈ lw_good := lw_g 113 (by decide +kernel) rfl
theorem w_386 : Cond.methodLink "ImposeSheets$Folding" 77 ⟨"ImposeSheets$Folding", "putOver", "(III)V"⟩ ∈ lw_good := lw_g 386 (by decide +kernel) rfl
set_option maxRecDepth 100000 in
theorem w_389 : Cond.code y_Fo_putOver c_Fo_putOver 5 none ∈ lw_good := lw_g 389 rfl rfl
theorem w_63 : Cond.initialized "ImposeSheets$Folding" ∈ lw_good := lw_g 63 (by decide +kernel) rfl
theorem w_388 : Cond.instanceMethod ⟨"ImposeSheets$Folding", "putOver", "(III)V"⟩ ∈ lw_good := lw_g 388 (by decide +kernel) rfl
theorem w_9 : Cond.selects "ImposeSheets$Folding" ⟨"ImposeSheets$Folding", "putOver", "(III)V"⟩ ⟨"ImposeSheets$Folding", "putOver", "(III)V"⟩ ∈ lw_good := lw_g 9 (by decide +kernel) rfl
theorem w_382 : Cond.methodLink "ImposeSheets$Folding" 70 ⟨"ImposeSheets$Folding", "foldAcross", "(I)V"⟩ ∈ lw_good := lw_g 382 (by decide +kernel) rfl
set_option maxRecDepth 100000 in
theorem w_385 : Cond.code y_Fo_foldAcross c_Fo_foldAcross 6 none ∈ lw_good := lw_g 385 rfl rfl
theorem w_384 : Cond.instanceMethod ⟨"ImposeSheets$Folding", "foldAcross", "(I)V"⟩ ∈ lw_good := lw_g 384 (by decide +kernel) rfl
theorem w_8 : Cond.selects "ImposeSheets$Folding" ⟨"ImposeSheets$Folding", "foldAcross", "(I)V"⟩ ⟨"ImposeSheets$Folding", "foldAcross", "(I)V"⟩ ∈ lw_good := lw_g 8 (by decide +kernel) rfl
theorem w_390 : Cond.methodLink "ImposeSheets$Folding" 74 ⟨"ImposeSheets$Folding", "foldDown", "(I)V"⟩ ∈ lw_good := lw_g 390 (by decide +kernel) rfl
set_option maxRecDepth 100000 in
theorem w_393 : Cond.code y_Fo_foldDown c_Fo_foldDown 6 none ∈ lw_good := lw_g 393 rfl rfl
theorem w_392 : Cond.instanceMethod ⟨"ImposeSheets$Folding", "foldDown", "(I)V"⟩ ∈ lw_good := lw_g 392 (by decide +kernel) rfl
theorem w_10 : Cond.selects "ImposeSheets$Folding" ⟨"ImposeSheets$Folding", "foldDown", "(I)V"⟩ ⟨"ImposeSheets$Folding", "foldDown", "(I)V"⟩ ∈ lw_good := lw_g 10 (by decide +kernel) rfl
theorem w_359 : Cond.methodLink "ImposeSheets$Folding" 34 ⟨"ImposeSheets$Scheme", "isCut", "()Z"⟩ ∈ lw_good := lw_g 359 (by decide +kernel) rfl
set_option maxRecDepth 100000 in
theorem w_362 : Cond.code y_Sc_isCut c_Sc_isCut 1 (some .boolean) ∈ lw_good := lw_g 362 rfl rfl
theorem w_360 : Cond.instanceMethod ⟨"ImposeSheets$Scheme", "isCut", "()Z"⟩ ∈ lw_good := lw_g 360 (by decide +kernel) rfl
theorem w_361 : Cond.selects "ImposeSheets$Scheme" ⟨"ImposeSheets$Scheme", "isCut", "()Z"⟩ ⟨"ImposeSheets$Scheme", "isCut", "()Z"⟩ ∈ lw_good := lw_g 361 (by decide +kernel) rfl
theorem w_363 : Cond.methodLink "ImposeSheets$Folding" 40 ⟨"ImposeSheets$Folding", "cutLeaves", "(LImposeSheets$Scheme;)V"⟩ ∈ lw_good := lw_g 363 (by decide +kernel) rfl
set_option maxRecDepth 100000 in
theorem w_365 : Cond.code y_Fo_cutLeaves c_Fo_cutLeaves 3 none ∈ lw_good := lw_g 365 rfl rfl
theorem w_364 : Cond.static ⟨"ImposeSheets$Folding", "cutLeaves", "(LImposeSheets$Scheme;)V"⟩ ∈ lw_good := lw_g 364 (by decide +kernel) rfl
theorem w_374 : Cond.methodLink "ImposeSheets$Folding" 44 ⟨"ImposeSheets$Folding", "layOut", "(LImposeSheets$Scheme;)V"⟩ ∈ lw_good := lw_g 374 (by decide +kernel) rfl
set_option maxRecDepth 100000 in
theorem w_377 : Cond.code y_Fo_layOut c_Fo_layOut 3 none ∈ lw_good := lw_g 377 rfl rfl
theorem w_376 : Cond.instanceMethod ⟨"ImposeSheets$Folding", "layOut", "(LImposeSheets$Scheme;)V"⟩ ∈ lw_good := lw_g 376 (by decide +kernel) rfl
theorem w_6 : Cond.selects "ImposeSheets$Folding" ⟨"ImposeSheets$Folding", "layOut", "(LImposeSheets$Scheme;)V"⟩ ⟨"ImposeSheets$Folding", "layOut", "(LImposeSheets$Scheme;)V"⟩ ∈ lw_good := lw_g 6 (by decide +kernel) rfl
theorem w_247 : Cond.fieldLinkNest "ImposeSheets$Folding" 47 "ImposeSheets$Scheme" "foldCount" "I" "ImposeSheets" ∈ lw_nest := lw_n 247 (by decide +kernel) rfl
theorem w_237 : Cond.fieldLinkNest "ImposeSheets$Folding" 50 "ImposeSheets$Scheme" "folds" "[I" "ImposeSheets" ∈ lw_nest := lw_n 237 (by decide +kernel) rfl
theorem w_378 : Cond.methodLink "ImposeSheets$Folding" 53 ⟨"ImposeSheets$Folding", "foldOnce", "(I)Z"⟩ ∈ lw_good := lw_g 378 (by decide +kernel) rfl
set_option maxRecDepth 100000 in
theorem w_381 : Cond.code y_Fo_foldOnce c_Fo_foldOnce 3 (some .boolean) ∈ lw_good := lw_g 381 rfl rfl
theorem w_380 : Cond.instanceMethod ⟨"ImposeSheets$Folding", "foldOnce", "(I)Z"⟩ ∈ lw_good := lw_g 380 (by decide +kernel) rfl
theorem w_7 : Cond.selects "ImposeSheets$Folding" ⟨"ImposeSheets$Folding", "foldOnce", "(I)Z"⟩ ⟨"ImposeSheets$Folding", "foldOnce", "(I)Z"⟩ ∈ lw_good := lw_g 7 (by decide +kernel) rfl
theorem w_394 : Cond.methodLink "ImposeSheets$Folding" 57 ⟨"ImposeSheets$Folding", "takePile", "(LImposeSheets$Scheme;)V"⟩ ∈ lw_good := lw_g 394 (by decide +kernel) rfl
set_option maxRecDepth 100000 in
theorem w_397 : Cond.code y_Fo_takePile c_Fo_takePile 4 none ∈ lw_good := lw_g 397 rfl rfl
theorem w_396 : Cond.instanceMethod ⟨"ImposeSheets$Folding", "takePile", "(LImposeSheets$Scheme;)V"⟩ ∈ lw_good := lw_g 396 (by decide +kernel) rfl
theorem w_11 : Cond.selects "ImposeSheets$Folding" ⟨"ImposeSheets$Folding", "takePile", "(LImposeSheets$Scheme;)V"⟩ ⟨"ImposeSheets$Folding", "takePile", "(LImposeSheets$Scheme;)V"⟩ ∈ lw_good := lw_g 11 (by decide +kernel) rfl
theorem w_348 : Cond.methodLink "ImposeSheets$SchemeReader" 73 ⟨"ImposeSheets$SchemeReader", "isFold", "(I)Z"⟩ ∈ lw_good := lw_g 348 (by decide +kernel) rfl
set_option maxRecDepth 100000 in
theorem w_350 : Cond.code y_Re_isFold c_Re_isFold 1 (some .boolean) ∈ lw_good := lw_g 350 rfl rfl
theorem w_349 : Cond.static ⟨"ImposeSheets$SchemeReader", "isFold", "(I)Z"⟩ ∈ lw_good := lw_g 349 (by decide +kernel) rfl
theorem w_351 : Cond.methodLink "ImposeSheets$SchemeReader" 76 ⟨"ImposeSheets$Scheme", "addFold", "(I)V"⟩ ∈ lw_good := lw_g 351 (by decide +kernel) rfl
set_option maxRecDepth 100000 in
theorem w_354 : Cond.code y_Sc_addFold c_Sc_addFold 2 none ∈ lw_good := lw_g 354 rfl rfl
theorem w_352 : Cond.instanceMethod ⟨"ImposeSheets$Scheme", "addFold", "(I)V"⟩ ∈ lw_good := lw_g 352 (by decide +kernel) rfl
theorem w_353 : Cond.selects "ImposeSheets$Scheme" ⟨"ImposeSheets$Scheme", "addFold", "(I)V"⟩ ⟨"ImposeSheets$Scheme", "addFold", "(I)V"⟩ ∈ lw_good := lw_g 353 (by decide +kernel) rfl
theorem w_136 : Cond.fieldLink "ImposeSheets$SchemeReader" 12 "ImposeSheets$SchemeReader" "folding" "LImposeSheets$Folding;" ∈ lw_good := lw_g 136 (by decide +kernel) rfl
theorem w_355 : Cond.methodLink "ImposeSheets$SchemeReader" 83 ⟨"ImposeSheets$Folding", "makeBooklet", "(LImposeSheets$Scheme;)Z"⟩ ∈ lw_good := lw_g 355 (by decide +kernel) rfl
set_option maxRecDepth 100000 in
theorem w_358 : Cond.code y_Fo_makeBooklet c_Fo_makeBooklet 3 (some .boolean) ∈ lw_good := lw_g 358 rfl rfl
theorem w_356 : Cond.instanceMethod ⟨"ImposeSheets$Folding", "makeBooklet", "(LImposeSheets$Scheme;)Z"⟩ ∈ lw_good := lw_g 356 (by decide +kernel) rfl
theorem w_357 : Cond.selects "ImposeSheets$Folding" ⟨"ImposeSheets$Folding", "makeBooklet", "(LImposeSheets$Scheme;)Z"⟩ ⟨"ImposeSheets$Folding", "makeBooklet", "(LImposeSheets$Scheme;)Z"⟩ ∈ lw_good := lw_g 357 (by decide +kernel) rfl
theorem w_411 : Cond.methodLink "ImposeSheets$Scheme" 38 ⟨"ImposeSheets$Scheme", "cells", "()I"⟩ ∈ lw_good := lw_g 411 (by decide +kernel) rfl
theorem w_238 : Cond.fieldLink "ImposeSheets$Scheme" 15 "ImposeSheets$Scheme" "toldPages" "[I" ∈ lw_good := lw_g 238 (by decide +kernel) rfl
theorem w_239 : Cond.fieldLink "ImposeSheets$Scheme" 18 "ImposeSheets$Scheme" "toldTurned" "[I" ∈ lw_good := lw_g 239 (by decide +kernel) rfl
theorem w_406 : Cond.methodLink "ImposeSheets$SchemeReader" 48 ⟨"ImposeSheets$Scheme", "cells", "()I"⟩ ∈ lw_good := lw_g 406 (by decide +kernel) rfl
theorem w_407 : Cond.methodLink "ImposeSheets$SchemeReader" 90 ⟨"ImposeSheets$Scheme", "pageCount", "()I"⟩ ∈ lw_good := lw_g 407 (by decide +kernel) rfl
set_option maxRecDepth 100000 in
theorem w_410 : Cond.code y_Sc_pageCount c_Sc_pageCount 1 (some .int) ∈ lw_good := lw_g 410 rfl rfl
theorem w_408 : Cond.instanceMethod ⟨"ImposeSheets$Scheme", "pageCount", "()I"⟩ ∈ lw_good := lw_g 408 (by decide +kernel) rfl
theorem w_409 : Cond.selects "ImposeSheets$Scheme" ⟨"ImposeSheets$Scheme", "pageCount", "()I"⟩ ⟨"ImposeSheets$Scheme", "pageCount", "()I"⟩ ∈ lw_good := lw_g 409 (by decide +kernel) rfl
theorem w_412 : Cond.methodLink "ImposeSheets$SchemeReader" 93 ⟨"ImposeSheets$Scheme", "tellPage", "(IIZ)V"⟩ ∈ lw_good := lw_g 412 (by decide +kernel) rfl
set_option maxRecDepth 100000 in
theorem w_415 : Cond.code y_Sc_tellPage c_Sc_tellPage 4 none ∈ lw_good := lw_g 415 rfl rfl
theorem w_413 : Cond.instanceMethod ⟨"ImposeSheets$Scheme", "tellPage", "(IIZ)V"⟩ ∈ lw_good := lw_g 413 (by decide +kernel) rfl
theorem w_414 : Cond.selects "ImposeSheets$Scheme" ⟨"ImposeSheets$Scheme", "tellPage", "(IIZ)V"⟩ ⟨"ImposeSheets$Scheme", "tellPage", "(IIZ)V"⟩ ∈ lw_good := lw_g 414 (by decide +kernel) rfl
theorem w_402 : Cond.methodLink "ImposeSheets$SchemeReader" 86 ⟨"ImposeSheets$SchemeReader", "readSide", "(LImposeSheets$Scheme;I)Z"⟩ ∈ lw_good := lw_g 402 (by decide +kernel) rfl
set_option maxRecDepth 100000 in
theorem w_405 : Cond.code y_Re_readSide c_Re_readSide 6 (some .boolean) ∈ lw_good := lw_g 405 rfl rfl
theorem w_404 : Cond.instanceMethod ⟨"ImposeSheets$SchemeReader", "readSide", "(LImposeSheets$Scheme;I)Z"⟩ ∈ lw_good := lw_g 404 (by decide +kernel) rfl
theorem w_13 : Cond.selects "ImposeSheets$SchemeReader" ⟨"ImposeSheets$SchemeReader", "readSide", "(LImposeSheets$Scheme;I)Z"⟩ ⟨"ImposeSheets$SchemeReader", "readSide", "(LImposeSheets$Scheme;I)Z"⟩ ∈ lw_good := lw_g 13 (by decide +kernel) rfl
theorem w_304 : Cond.methodLink "ImposeSheets$SchemeReader" 32 ⟨"ImposeSheets$SchemeReader", "readSize", "(LImposeSheets$Scheme;)Z"⟩ ∈ lw_good := lw_g 304 (by decide +kernel) rfl
set_option maxRecDepth 100000 in
theorem w_307 : Cond.code y_Re_readSize c_Re_readSize 4 (some .boolean) ∈ lw_good := lw_g 307 rfl rfl
theorem w_306 : Cond.instanceMethod ⟨"ImposeSheets$SchemeReader", "readSize", "(LImposeSheets$Scheme;)Z"⟩ ∈ lw_good := lw_g 306 (by decide +kernel) rfl
theorem w_0 : Cond.selects "ImposeSheets$SchemeReader" ⟨"ImposeSheets$SchemeReader", "readSize", "(LImposeSheets$Scheme;)Z"⟩ ⟨"ImposeSheets$SchemeReader", "readSize", "(LImposeSheets$Scheme;)Z"⟩ ∈ lw_good := lw_g 0 (by decide +kernel) rfl
theorem w_344 : Cond.methodLink "ImposeSheets$SchemeReader" 36 ⟨"ImposeSheets$SchemeReader", "readFolds", "(LImposeSheets$Scheme;)Z"⟩ ∈ lw_good := lw_g 344 (by decide +kernel) rfl
set_option maxRecDepth 100000 in
theorem w_347 : Cond.code y_Re_readFolds c_Re_readFolds 4 (some .boolean) ∈ lw_good := lw_g 347 rfl rfl
theorem w_346 : Cond.instanceMethod ⟨"ImposeSheets$SchemeReader", "readFolds", "(LImposeSheets$Scheme;)Z"⟩ ∈ lw_good := lw_g 346 (by decide +kernel) rfl
theorem w_5 : Cond.selects "ImposeSheets$SchemeReader" ⟨"ImposeSheets$SchemeReader", "readFolds", "(LImposeSheets$Scheme;)Z"⟩ ⟨"ImposeSheets$SchemeReader", "readFolds", "(LImposeSheets$Scheme;)Z"⟩ ∈ lw_good := lw_g 5 (by decide +kernel) rfl
theorem w_398 : Cond.methodLink "ImposeSheets$SchemeReader" 39 ⟨"ImposeSheets$SchemeReader", "readPages", "(LImposeSheets$Scheme;)Z"⟩ ∈ lw_good := lw_g 398 (by decide +kernel) rfl
set_option maxRecDepth 100000 in
theorem w_401 : Cond.code y_Re_readPages c_Re_readPages 2 (some .boolean) ∈ lw_good := lw_g 401 rfl rfl
theorem w_400 : Cond.instanceMethod ⟨"ImposeSheets$SchemeReader", "readPages", "(LImposeSheets$Scheme;)Z"⟩ ∈ lw_good := lw_g 400 (by decide +kernel) rfl
theorem w_12 : Cond.selects "ImposeSheets$SchemeReader" ⟨"ImposeSheets$SchemeReader", "readPages", "(LImposeSheets$Scheme;)Z"⟩ ⟨"ImposeSheets$SchemeReader", "readPages", "(LImposeSheets$Scheme;)Z"⟩ ∈ lw_good := lw_g 12 (by decide +kernel) rfl
theorem w_267 : Cond.fieldLink "ImposeSheets" 21 "ImposeSheets" "reader" "LImposeSheets$SchemeReader;" ∈ lw_good := lw_g 267 (by decide +kernel) rfl
theorem w_272 : Cond.fieldLink "ImposeSheets" 59 "ImposeSheets" "spare" "LImposeSheets$Scheme;" ∈ lw_good := lw_g 272 (by decide +kernel) rfl
theorem w_300 : Cond.methodLink "ImposeSheets" 66 ⟨"ImposeSheets$SchemeReader", "readInto", "(LImposeSheets$Scheme;)I"⟩ ∈ lw_good := lw_g 300 (by decide +kernel) rfl
set_option maxRecDepth 100000 in
theorem w_303 : Cond.code y_Re_readInto c_Re_readInto 2 (some .int) ∈ lw_good := lw_g 303 rfl rfl
theorem w_301 : Cond.instanceMethod ⟨"ImposeSheets$SchemeReader", "readInto", "(LImposeSheets$Scheme;)I"⟩ ∈ lw_good := lw_g 301 (by decide +kernel) rfl
theorem w_302 : Cond.selects "ImposeSheets$SchemeReader" ⟨"ImposeSheets$SchemeReader", "readInto", "(LImposeSheets$Scheme;)I"⟩ ⟨"ImposeSheets$SchemeReader", "readInto", "(LImposeSheets$Scheme;)I"⟩ ∈ lw_good := lw_g 302 (by decide +kernel) rfl
theorem w_416 : Cond.methodLink "ImposeSheets" 70 ⟨"ImposeSheets$Tape", "empty", "()V"⟩ ∈ lw_good := lw_g 416 (by decide +kernel) rfl
set_option maxRecDepth 100000 in
theorem w_419 : Cond.code y_Ta_empty c_Ta_empty 1 none ∈ lw_good := lw_g 419 rfl rfl
theorem w_417 : Cond.instanceMethod ⟨"ImposeSheets$Tape", "empty", "()V"⟩ ∈ lw_good := lw_g 417 (by decide +kernel) rfl
theorem w_418 : Cond.selects "ImposeSheets$Tape" ⟨"ImposeSheets$Tape", "empty", "()V"⟩ ⟨"ImposeSheets$Tape", "empty", "()V"⟩ ∈ lw_good := lw_g 418 (by decide +kernel) rfl
theorem w_271 : Cond.fieldLink "ImposeSheets" 55 "ImposeSheets" "latest" "LImposeSheets$Scheme;" ∈ lw_good := lw_g 271 (by decide +kernel) rfl
theorem w_437 : Cond.methodLink "ImposeSheets$Scheme" 42 ⟨"ImposeSheets$Scheme", "leafOf", "(I)I"⟩ ∈ lw_good := lw_g 437 (by decide +kernel) rfl
set_option maxRecDepth 100000 in
theorem w_440 : Cond.code y_Sc_leafOf c_Sc_leafOf 3 (some .int) ∈ lw_good := lw_g 440 rfl rfl
theorem w_439 : Cond.instanceMethod ⟨"ImposeSheets$Scheme", "leafOf", "(I)I"⟩ ∈ lw_good := lw_g 439 (by decide +kernel) rfl
theorem w_15 : Cond.selects "ImposeSheets$Scheme" ⟨"ImposeSheets$Scheme", "leafOf", "(I)I"⟩ ⟨"ImposeSheets$Scheme", "leafOf", "(I)I"⟩ ∈ lw_good := lw_g 15 (by decide +kernel) rfl
theorem w_441 : Cond.methodLink "ImposeSheets$Scheme" 46 ⟨"ImposeSheets$Scheme", "sideOf", "(I)I"⟩ ∈ lw_good := lw_g 441 (by decide +kernel) rfl
set_option maxRecDepth 100000 in
theorem w_444 : Cond.code y_Sc_sideOf c_Sc_sideOf 3 (some .int) ∈ lw_good := lw_g 444 rfl rfl
theorem w_443 : Cond.instanceMethod ⟨"ImposeSheets$Scheme", "sideOf", "(I)I"⟩ ∈ lw_good := lw_g 443 (by decide +kernel) rfl
theorem w_16 : Cond.selects "ImposeSheets$Scheme" ⟨"ImposeSheets$Scheme", "sideOf", "(I)I"⟩ ⟨"ImposeSheets$Scheme", "sideOf", "(I)I"⟩ ∈ lw_good := lw_g 16 (by decide +kernel) rfl
theorem w_433 : Cond.methodLink "ImposeSheets$Scheme" 56 ⟨"ImposeSheets$Scheme", "spotOf", "(II)I"⟩ ∈ lw_good := lw_g 433 (by decide +kernel) rfl
set_option maxRecDepth 100000 in
theorem w_436 : Cond.code y_Sc_spotOf c_Sc_spotOf 7 (some .int) ∈ lw_good := lw_g 436 rfl rfl
theorem w_434 : Cond.instanceMethod ⟨"ImposeSheets$Scheme", "spotOf", "(II)I"⟩ ∈ lw_good := lw_g 434 (by decide +kernel) rfl
theorem w_435 : Cond.selects "ImposeSheets$Scheme" ⟨"ImposeSheets$Scheme", "spotOf", "(II)I"⟩ ⟨"ImposeSheets$Scheme", "spotOf", "(II)I"⟩ ∈ lw_good := lw_g 435 (by decide +kernel) rfl
theorem w_445 : Cond.methodLink "ImposeSheets$Scheme" 60 ⟨"ImposeSheets$Scheme", "turnedOf", "(II)I"⟩ ∈ lw_good := lw_g 445 (by decide +kernel) rfl
set_option maxRecDepth 100000 in
theorem w_448 : Cond.code y_Sc_turnedOf c_Sc_turnedOf 4 (some .int) ∈ lw_good := lw_g 448 rfl rfl
theorem w_446 : Cond.instanceMethod ⟨"ImposeSheets$Scheme", "turnedOf", "(II)I"⟩ ∈ lw_good := lw_g 446 (by decide +kernel) rfl
theorem w_447 : Cond.selects "ImposeSheets$Scheme" ⟨"ImposeSheets$Scheme", "turnedOf", "(II)I"⟩ ⟨"ImposeSheets$Scheme", "turnedOf", "(II)I"⟩ ∈ lw_good := lw_g 447 (by decide +kernel) rfl
theorem w_428 : Cond.methodLink "ImposeSheets$Scheme" 49 ⟨"ImposeSheets$Scheme", "pageCount", "()I"⟩ ∈ lw_good := lw_g 428 (by decide +kernel) rfl
theorem w_429 : Cond.methodLink "ImposeSheets$Scheme" 52 ⟨"ImposeSheets$Scheme", "isToldRight", "(II)Z"⟩ ∈ lw_good := lw_g 429 (by decide +kernel) rfl
set_option maxRecDepth 100000 in
theorem w_432 : Cond.code y_Sc_isToldRight c_Sc_isToldRight 4 (some .boolean) ∈ lw_good := lw_g 432 rfl rfl
theorem w_431 : Cond.instanceMethod ⟨"ImposeSheets$Scheme", "isToldRight", "(II)Z"⟩ ∈ lw_good := lw_g 431 (by decide +kernel) rfl
theorem w_14 : Cond.selects "ImposeSheets$Scheme" ⟨"ImposeSheets$Scheme", "isToldRight", "(II)Z"⟩ ⟨"ImposeSheets$Scheme", "isToldRight", "(II)Z"⟩ ∈ lw_good := lw_g 14 (by decide +kernel) rfl
theorem w_268 : Cond.fieldLink "ImposeSheets" 25 "ImposeSheets" "settings" "[I" ∈ lw_good := lw_g 268 (by decide +kernel) rfl
theorem w_424 : Cond.methodLink "ImposeSheets" 111 ⟨"ImposeSheets$Scheme", "firstBroken", "(I)I"⟩ ∈ lw_good := lw_g 424 (by decide +kernel) rfl
set_option maxRecDepth 100000 in
theorem w_427 : Cond.code y_Sc_firstBroken c_Sc_firstBroken 4 (some .int) ∈ lw_good := lw_g 427 rfl rfl
theorem w_425 : Cond.instanceMethod ⟨"ImposeSheets$Scheme", "firstBroken", "(I)I"⟩ ∈ lw_good := lw_g 425 (by decide +kernel) rfl
theorem w_426 : Cond.selects "ImposeSheets$Scheme" ⟨"ImposeSheets$Scheme", "firstBroken", "(I)I"⟩ ⟨"ImposeSheets$Scheme", "firstBroken", "(I)I"⟩ ∈ lw_good := lw_g 426 (by decide +kernel) rfl
theorem w_199 : Cond.fieldLink "ImposeSheets$Sharing" 30 "ImposeSheets$Sharing" "jobs" "I" ∈ lw_good := lw_g 199 (by decide +kernel) rfl
theorem w_201 : Cond.fieldLink "ImposeSheets$Sharing" 37 "ImposeSheets$Sharing" "waysLookedAt" "I" ∈ lw_good := lw_g 201 (by decide +kernel) rfl
theorem w_270 : Cond.fieldLink "ImposeSheets" 48 "ImposeSheets" "sharing" "LImposeSheets$Sharing;" ∈ lw_good := lw_g 270 (by decide +kernel) rfl
theorem w_453 : Cond.methodLink "ImposeSheets" 174 ⟨"ImposeSheets$Sharing", "forget", "()V"⟩ ∈ lw_good := lw_g 453 (by decide +kernel) rfl
set_option maxRecDepth 100000 in
theorem w_456 : Cond.code y_Sh_forget c_Sh_forget 1 none ∈ lw_good := lw_g 456 rfl rfl
theorem w_66 : Cond.initialized "ImposeSheets$Sharing" ∈ lw_good := lw_g 66 (by decide +kernel) rfl
theorem w_454 : Cond.instanceMethod ⟨"ImposeSheets$Sharing", "forget", "()V"⟩ ∈ lw_good := lw_g 454 (by decide +kernel) rfl
theorem w_455 : Cond.selects "ImposeSheets$Sharing" ⟨"ImposeSheets$Sharing", "forget", "()V"⟩ ⟨"ImposeSheets$Sharing", "forget", "()V"⟩ ∈ lw_good := lw_g 455 (by decide +kernel) rfl
theorem w_830 : Cond.fieldLink "ImposeSheetsModel" 92 "ImposeSheetsModel" "thrown" "I" ∈ lw_good := lw_g 830 (by decide +kernel) rfl
theorem w_831 : Cond.fieldLink "ImposeSheetsModel" 96 "ImposeSheetsModel" "taped" "I" ∈ lw_good := lw_g 831 (by decide +kernel) rfl
theorem w_832 : Cond.fieldLink "ImposeSheetsModel" 7 "ImposeSheetsModel" "tape" "[I" ∈ lw_good := lw_g 832 (by decide +kernel) rfl
theorem w_1005 : Cond.constantLong "ImposeSheetsModel" 99 (255) ∈ lw_good := lw_g 1005 (by decide +kernel) rfl
theorem w_834 : Cond.fieldLink "ImposeSheetsModel" 101 "ImposeSheetsModel" "place" "I" ∈ lw_good := lw_g 834 (by decide +kernel) rfl
theorem w_833 : Cond.fieldLink "ImposeSheetsModel" 104 "ImposeSheetsModel" "size" "I" ∈ lw_good := lw_g 833 (by decide +kernel) rfl
theorem w_1018 : Cond.methodLink "ImposeSheetsModel" 107 ⟨"ImposeSheetsModel", "byteAt", "()I"⟩ ∈ lw_good := lw_g 1018 (by decide +kernel) rfl
set_option maxRecDepth 100000 in
theorem w_1021 : Cond.code y_Mo_byteAt c_Mo_byteAt 1 (some .int) ∈ lw_good := lw_g 1021 rfl rfl
theorem w_68 : Cond.initialized "ImposeSheetsModel" ∈ lw_good := lw_g 68 (by decide +kernel) rfl
theorem w_1020 : Cond.instanceMethod ⟨"ImposeSheetsModel", "byteAt", "()I"⟩ ∈ lw_good := lw_g 1020 (by decide +kernel) rfl
theorem w_38 : Cond.selects "ImposeSheetsModel" ⟨"ImposeSheetsModel", "byteAt", "()I"⟩ ⟨"ImposeSheetsModel", "byteAt", "()I"⟩ ∈ lw_good := lw_g 38 (by decide +kernel) rfl
theorem w_835 : Cond.fieldLink "ImposeSheetsModel" 111 "ImposeSheetsModel" "fault" "I" ∈ lw_good := lw_g 835 (by decide +kernel) rfl
theorem w_1014 : Cond.methodLink "ImposeSheetsModel" 114 ⟨"ImposeSheetsModel", "isDigit", "()Z"⟩ ∈ lw_good := lw_g 1014 (by decide +kernel) rfl
set_option maxRecDepth 100000 in
theorem w_1017 : Cond.code y_Mo_isDigit c_Mo_isDigit 1 (some .boolean) ∈ lw_good := lw_g 1017 rfl rfl
theorem w_1016 : Cond.instanceMethod ⟨"ImposeSheetsModel", "isDigit", "()Z"⟩ ∈ lw_good := lw_g 1016 (by decide +kernel) rfl
theorem w_37 : Cond.selects "ImposeSheetsModel" ⟨"ImposeSheetsModel", "isDigit", "()Z"⟩ ⟨"ImposeSheetsModel", "isDigit", "()Z"⟩ ∈ lw_good := lw_g 37 (by decide +kernel) rfl
theorem w_1022 : Cond.methodLink "ImposeSheetsModel" 118 ⟨"ImposeSheetsModel", "fail", "(I)V"⟩ ∈ lw_good := lw_g 1022 (by decide +kernel) rfl
set_option maxRecDepth 100000 in
theorem w_1025 : Cond.code y_Mo_fail c_Mo_fail 2 none ∈ lw_good := lw_g 1025 rfl rfl
theorem w_1024 : Cond.instanceMethod ⟨"ImposeSheetsModel", "fail", "(I)V"⟩ ∈ lw_good := lw_g 1024 (by decide +kernel) rfl
theorem w_39 : Cond.selects "ImposeSheetsModel" ⟨"ImposeSheetsModel", "fail", "(I)V"⟩ ⟨"ImposeSheetsModel", "fail", "(I)V"⟩ ∈ lw_good := lw_g 39 (by decide +kernel) rfl
theorem w_845 : Cond.fieldLink "ImposeSheetsModel" 122 "ImposeSheetsModel" "readFolds" "I" ∈ lw_good := lw_g 845 (by decide +kernel) rfl
theorem w_1034 : Cond.methodLink "ImposeSheetsModel" 125 ⟨"ImposeSheetsModel", "isFold", "(I)Z"⟩ ∈ lw_good := lw_g 1034 (by decide +kernel) rfl
set_option maxRecDepth 100000 in
theorem w_1036 : Cond.code y_Mo_isFold c_Mo_isFold 1 (some .boolean) ∈ lw_good := lw_g 1036 rfl rfl
theorem w_1035 : Cond.static ⟨"ImposeSheetsModel", "isFold", "(I)Z"⟩ ∈ lw_good := lw_g 1035 (by decide +kernel) rfl
theorem w_847 : Cond.fieldLink "ImposeSheetsModel" 23 "ImposeSheetsModel" "readFold" "[I" ∈ lw_good := lw_g 847 (by decide +kernel) rfl
theorem w_843 : Cond.fieldLink "ImposeSheetsModel" 129 "ImposeSheetsModel" "readColumns" "I" ∈ lw_good := lw_g 843 (by decide +kernel) rfl
theorem w_844 : Cond.fieldLink "ImposeSheetsModel" 132 "ImposeSheetsModel" "readRows" "I" ∈ lw_good := lw_g 844 (by decide +kernel) rfl
theorem w_1037 : Cond.methodLink "ImposeSheetsModel" 135 ⟨"ImposeSheetsModel", "areRight", "(II[II)Z"⟩ ∈ lw_good := lw_g 1037 (by decide +kernel) rfl
set_option maxRecDepth 100000 in
theorem w_1039 : Cond.code y_Mo_areRight c_Mo_areRight 9 (some .boolean) ∈ lw_good := lw_g 1039 rfl rfl
theorem w_1038 : Cond.static ⟨"ImposeSheetsModel", "areRight", "(II[II)Z"⟩ ∈ lw_good := lw_g 1038 (by decide +kernel) rfl
theorem w_1026 : Cond.methodLink "ImposeSheetsModel" 139 ⟨"ImposeSheetsModel", "sign", "(I)V"⟩ ∈ lw_good := lw_g 1026 (by decide +kernel) rfl
set_option maxRecDepth 100000 in
theorem w_1029 : Cond.code y_Mo_sign c_Mo_sign 2 none ∈ lw_good := lw_g 1029 rfl rfl
theorem w_1028 : Cond.instanceMethod ⟨"ImposeSheetsModel", "sign", "(I)V"⟩ ∈ lw_good := lw_g 1028 (by decide +kernel) rfl
theorem w_40 : Cond.selects "ImposeSheetsModel" ⟨"ImposeSheetsModel", "sign", "(I)V"⟩ ⟨"ImposeSheetsModel", "sign", "(I)V"⟩ ∈ lw_good := lw_g 40 (by decide +kernel) rfl
theorem w_849 : Cond.fieldLink "ImposeSheetsModel" 26 "ImposeSheetsModel" "readPage" "[I" ∈ lw_good := lw_g 849 (by decide +kernel) rfl
theorem w_1010 : Cond.methodLink "ImposeSheetsModel" 142 ⟨"ImposeSheetsModel", "number", "(I)I"⟩ ∈ lw_good := lw_g 1010 (by decide +kernel) rfl
set_option maxRecDepth 100000 in
theorem w_1013 : Cond.code y_Mo_number c_Mo_number 4 (some .int) ∈ lw_good := lw_g 1013 rfl rfl
theorem w_1012 : Cond.instanceMethod ⟨"ImposeSheetsModel", "number", "(I)I"⟩ ∈ lw_good := lw_g 1012 (by decide +kernel) rfl
theorem w_36 : Cond.selects "ImposeSheetsModel" ⟨"ImposeSheetsModel", "number", "(I)I"⟩ ⟨"ImposeSheetsModel", "number", "(I)I"⟩ ∈ lw_good := lw_g 36 (by decide +kernel) rfl
theorem w_850 : Cond.fieldLink "ImposeSheetsModel" 29 "ImposeSheetsModel" "readDown" "[Z" ∈ lw_good := lw_g 850 (by decide +kernel) rfl
theorem w_1030 : Cond.methodLink "ImposeSheetsModel" 146 ⟨"ImposeSheetsModel", "readFolds", "()V"⟩ ∈ lw_good := lw_g 1030 (by decide +kernel) rfl
set_option maxRecDepth 100000 in
theorem w_1033 : Cond.code y_Mo_readFolds c_Mo_readFolds 2 none ∈ lw_good := lw_g 1033 rfl rfl
theorem w_1032 : Cond.instanceMethod ⟨"ImposeSheetsModel", "readFolds", "()V"⟩ ∈ lw_good := lw_g 1032 (by decide +kernel) rfl
theorem w_41 : Cond.selects "ImposeSheetsModel" ⟨"ImposeSheetsModel", "readFolds", "()V"⟩ ⟨"ImposeSheetsModel", "readFolds", "()V"⟩ ∈ lw_good := lw_g 41 (by decide +kernel) rfl
theorem w_848 : Cond.fieldLink "ImposeSheetsModel" 148 "ImposeSheetsModel" "readTold" "Z" ∈ lw_good := lw_g 848 (by decide +kernel) rfl
theorem w_1040 : Cond.methodLink "ImposeSheetsModel" 152 ⟨"ImposeSheetsModel", "readPages", "()V"⟩ ∈ lw_good := lw_g 1040 (by decide +kernel) rfl
set_option maxRecDepth 100000 in
theorem w_1043 : Cond.code y_Mo_readPages c_Mo_readPages 3 none ∈ lw_good := lw_g 1043 rfl rfl
theorem w_1042 : Cond.instanceMethod ⟨"ImposeSheetsModel", "readPages", "()V"⟩ ∈ lw_good := lw_g 1042 (by decide +kernel) rfl
theorem w_42 : Cond.selects "ImposeSheetsModel" ⟨"ImposeSheetsModel", "readPages", "()V"⟩ ⟨"ImposeSheetsModel", "readPages", "()V"⟩ ∈ lw_good := lw_g 42 (by decide +kernel) rfl
theorem w_836 : Cond.fieldLink "ImposeSheetsModel" 155 "ImposeSheetsModel" "isScheme" "Z" ∈ lw_good := lw_g 836 (by decide +kernel) rfl
theorem w_837 : Cond.fieldLink "ImposeSheetsModel" 158 "ImposeSheetsModel" "columns" "I" ∈ lw_good := lw_g 837 (by decide +kernel) rfl
theorem w_838 : Cond.fieldLink "ImposeSheetsModel" 161 "ImposeSheetsModel" "rows" "I" ∈ lw_good := lw_g 838 (by decide +kernel) rfl
theorem w_839 : Cond.fieldLink "ImposeSheetsModel" 164 "ImposeSheetsModel" "folds" "I" ∈ lw_good := lw_g 839 (by decide +kernel) rfl
theorem w_840 : Cond.fieldLink "ImposeSheetsModel" 167 "ImposeSheetsModel" "isTold" "Z" ∈ lw_good := lw_g 840 (by decide +kernel) rfl
theorem w_846 : Cond.fieldLink "ImposeSheetsModel" 20 "ImposeSheetsModel" "fold" "[I" ∈ lw_good := lw_g 846 (by decide +kernel) rfl
theorem w_841 : Cond.fieldLink "ImposeSheetsModel" 13 "ImposeSheetsModel" "toldPage" "[I" ∈ lw_good := lw_g 841 (by decide +kernel) rfl
theorem w_842 : Cond.fieldLink "ImposeSheetsModel" 16 "ImposeSheetsModel" "toldDown" "[Z" ∈ lw_good := lw_g 842 (by decide +kernel) rfl
theorem w_851 : Cond.fieldLink "ImposeSheetsModel" 32 "ImposeSheetsModel" "height" "[I" ∈ lw_good := lw_g 851 (by decide +kernel) rfl
theorem w_852 : Cond.fieldLink "ImposeSheetsModel" 35 "ImposeSheetsModel" "pileCell" "[I" ∈ lw_good := lw_g 852 (by decide +kernel) rfl
theorem w_853 : Cond.fieldLink "ImposeSheetsModel" 38 "ImposeSheetsModel" "pileFront" "[Z" ∈ lw_good := lw_g 853 (by decide +kernel) rfl
theorem w_854 : Cond.fieldLink "ImposeSheetsModel" 41 "ImposeSheetsModel" "pileHead" "[Z" ∈ lw_good := lw_g 854 (by decide +kernel) rfl
theorem w_855 : Cond.fieldLink "ImposeSheetsModel" 170 "ImposeSheetsModel" "wide" "I" ∈ lw_good := lw_g 855 (by decide +kernel) rfl
theorem w_856 : Cond.fieldLink "ImposeSheetsModel" 173 "ImposeSheetsModel" "high" "I" ∈ lw_good := lw_g 856 (by decide +kernel) rfl
theorem w_1056 : Cond.methodLink "ImposeSheetsModel" 176 ⟨"ImposeSheetsModel", "spot", "(II)I"⟩ ∈ lw_good := lw_g 1056 (by decide +kernel) rfl
set_option maxRecDepth 100000 in
theorem w_1058 : Cond.code y_Mo_spot c_Mo_spot 2 (some .int) ∈ lw_good := lw_g 1058 rfl rfl
theorem w_1057 : Cond.static ⟨"ImposeSheetsModel", "spot", "(II)I"⟩ ∈ lw_good := lw_g 1057 (by decide +kernel) rfl
theorem w_1063 : Cond.methodLink "ImposeSheetsModel" 180 ⟨"ImposeSheetsModel", "turnOnto", "(IIZ)V"⟩ ∈ lw_good := lw_g 1063 (by decide +kernel) rfl
set_option maxRecDepth 100000 in
theorem w_1066 : Cond.code y_Mo_turnOnto c_Mo_turnOnto 8 none ∈ lw_good := lw_g 1066 rfl rfl
theorem w_1065 : Cond.instanceMethod ⟨"ImposeSheetsModel", "turnOnto", "(IIZ)V"⟩ ∈ lw_good := lw_g 1065 (by decide +kernel) rfl
theorem w_46 : Cond.selects "ImposeSheetsModel" ⟨"ImposeSheetsModel", "turnOnto", "(IIZ)V"⟩ ⟨"ImposeSheetsModel", "turnOnto", "(IIZ)V"⟩ ∈ lw_good := lw_g 46 (by decide +kernel) rfl
theorem w_1067 : Cond.methodLink "ImposeSheetsModel" 184 ⟨"ImposeSheetsModel", "movePile", "(II)V"⟩ ∈ lw_good := lw_g 1067 (by decide +kernel) rfl
set_option maxRecDepth 100000 in
theorem w_1070 : Cond.code y_Mo_movePile c_Mo_movePile 4 none ∈ lw_good := lw_g 1070 rfl rfl
theorem w_1069 : Cond.instanceMethod ⟨"ImposeSheetsModel", "movePile", "(II)V"⟩ ∈ lw_good := lw_g 1069 (by decide +kernel) rfl
theorem w_47 : Cond.selects "ImposeSheetsModel" ⟨"ImposeSheetsModel", "movePile", "(II)V"⟩ ⟨"ImposeSheetsModel", "movePile", "(II)V"⟩ ∈ lw_good := lw_g 47 (by decide +kernel) rfl
theorem w_860 : Cond.fieldLink "ImposeSheetsModel" 53 "ImposeSheetsModel" "settings" "[I" ∈ lw_good := lw_g 860 (by decide +kernel) rfl
theorem w_857 : Cond.fieldLink "ImposeSheetsModel" 44 "ImposeSheetsModel" "pageSide" "[I" ∈ lw_good := lw_g 857 (by decide +kernel) rfl
theorem w_858 : Cond.fieldLink "ImposeSheetsModel" 47 "ImposeSheetsModel" "pagePlace" "[I" ∈ lw_good := lw_g 858 (by decide +kernel) rfl
theorem w_859 : Cond.fieldLink "ImposeSheetsModel" 50 "ImposeSheetsModel" "pageDown" "[Z" ∈ lw_good := lw_g 859 (by decide +kernel) rfl
theorem w_1059 : Cond.methodLink "ImposeSheetsModel" 188 ⟨"ImposeSheetsModel", "foldOnce", "(I)V"⟩ ∈ lw_good := lw_g 1059 (by decide +kernel) rfl
set_option maxRecDepth 100000 in
theorem w_1062 : Cond.code y_Mo_foldOnce c_Mo_foldOnce 12 none ∈ lw_good := lw_g 1062 rfl rfl
theorem w_1061 : Cond.instanceMethod ⟨"ImposeSheetsModel", "foldOnce", "(I)V"⟩ ∈ lw_good := lw_g 1061 (by decide +kernel) rfl
theorem w_45 : Cond.selects "ImposeSheetsModel" ⟨"ImposeSheetsModel", "foldOnce", "(I)V"⟩ ⟨"ImposeSheetsModel", "foldOnce", "(I)V"⟩ ∈ lw_good := lw_g 45 (by decide +kernel) rfl
theorem w_1071 : Cond.methodLink "ImposeSheetsModel" 191 ⟨"ImposeSheetsModel", "setPage", "(IIZZ)V"⟩ ∈ lw_good := lw_g 1071 (by decide +kernel) rfl
set_option maxRecDepth 100000 in
theorem w_1074 : Cond.code y_Mo_setPage c_Mo_setPage 8 none ∈ lw_good := lw_g 1074 rfl rfl
theorem w_1073 : Cond.instanceMethod ⟨"ImposeSheetsModel", "setPage", "(IIZZ)V"⟩ ∈ lw_good := lw_g 1073 (by decide +kernel) rfl
theorem w_48 : Cond.selects "ImposeSheetsModel" ⟨"ImposeSheetsModel", "setPage", "(IIZZ)V"⟩ ⟨"ImposeSheetsModel", "setPage", "(IIZZ)V"⟩ ∈ lw_good := lw_g 48 (by decide +kernel) rfl
theorem w_1052 : Cond.methodLink "ImposeSheetsModel" 195 ⟨"ImposeSheetsModel", "foldAll", "()V"⟩ ∈ lw_good := lw_g 1052 (by decide +kernel) rfl
set_option maxRecDepth 100000 in
theorem w_1055 : Cond.code y_Mo_foldAll c_Mo_foldAll 4 none ∈ lw_good := lw_g 1055 rfl rfl
theorem w_1054 : Cond.instanceMethod ⟨"ImposeSheetsModel", "foldAll", "()V"⟩ ∈ lw_good := lw_g 1054 (by decide +kernel) rfl
theorem w_44 : Cond.selects "ImposeSheetsModel" ⟨"ImposeSheetsModel", "foldAll", "()V"⟩ ⟨"ImposeSheetsModel", "foldAll", "()V"⟩ ∈ lw_good := lw_g 44 (by decide +kernel) rfl
theorem w_1048 : Cond.methodLink "ImposeSheetsModel" 198 ⟨"ImposeSheetsModel", "brokenPage", "()I"⟩ ∈ lw_good := lw_g 1048 (by decide +kernel) rfl
set_option maxRecDepth 100000 in
theorem w_1051 : Cond.code y_Mo_brokenPage c_Mo_brokenPage 4 (some .int) ∈ lw_good := lw_g 1051 rfl rfl
theorem w_1050 : Cond.instanceMethod ⟨"ImposeSheetsModel", "brokenPage", "()I"⟩ ∈ lw_good := lw_g 1050 (by decide +kernel) rfl
theorem w_43 : Cond.selects "ImposeSheetsModel" ⟨"ImposeSheetsModel", "brokenPage", "()I"⟩ ⟨"ImposeSheetsModel", "brokenPage", "()I"⟩ ∈ lw_good := lw_g 43 (by decide +kernel) rfl
theorem w_1079 : Cond.constant "ImposeSheetsModel" 201 (100000) ∈ lw_good := lw_g 1079 (by decide +kernel) rfl
theorem w_861 : Cond.fieldLink "ImposeSheetsModel" 202 "ImposeSheetsModel" "sheets" "I" ∈ lw_good := lw_g 861 (by decide +kernel) rfl
theorem w_1096 : Cond.methodLink "ImposeSheetsModel" 205 ⟨"ImposeSheetsModel", "less", "(II)I"⟩ ∈ lw_good := lw_g 1096 (by decide +kernel) rfl
set_option maxRecDepth 100000 in
theorem w_1098 : Cond.code y_Mo_less c_Mo_less 2 (some .int) ∈ lw_good := lw_g 1098 rfl rfl
theorem w_1097 : Cond.static ⟨"ImposeSheetsModel", "less", "(II)I"⟩ ∈ lw_good := lw_g 1097 (by decide +kernel) rfl
theorem w_1088 : Cond.methodLink "ImposeSheetsModel" 208 ⟨"ImposeSheetsModel", "bookPlace", "(II)I"⟩ ∈ lw_good := lw_g 1088 (by decide +kernel) rfl
set_option maxRecDepth 100000 in
theorem w_1091 : Cond.code y_Mo_bookPlace c_Mo_bookPlace 5 (some .int) ∈ lw_good := lw_g 1091 rfl rfl
theorem w_1090 : Cond.instanceMethod ⟨"ImposeSheetsModel", "bookPlace", "(II)I"⟩ ∈ lw_good := lw_g 1090 (by decide +kernel) rfl
theorem w_50 : Cond.selects "ImposeSheetsModel" ⟨"ImposeSheetsModel", "bookPlace", "(II)I"⟩ ⟨"ImposeSheetsModel", "bookPlace", "(II)I"⟩ ∈ lw_good := lw_g 50 (by decide +kernel) rfl
theorem w_871 : Cond.fieldLink "ImposeSheetsModel" 71 "ImposeSheetsModel" "book" "[I" ∈ lw_good := lw_g 871 (by decide +kernel) rfl
theorem w_866 : Cond.fieldLink "ImposeSheetsModel" 56 "ImposeSheetsModel" "page" "[I" ∈ lw_good := lw_g 866 (by decide +kernel) rfl
theorem w_867 : Cond.fieldLink "ImposeSheetsModel" 59 "ImposeSheetsModel" "down" "[I" ∈ lw_good := lw_g 867 (by decide +kernel) rfl
theorem w_868 : Cond.fieldLink "ImposeSheetsModel" 62 "ImposeSheetsModel" "atX" "[I" ∈ lw_good := lw_g 868 (by decide +kernel) rfl
theorem w_869 : Cond.fieldLink "ImposeSheetsModel" 65 "ImposeSheetsModel" "atY" "[I" ∈ lw_good := lw_g 869 (by decide +kernel) rfl
theorem w_870 : Cond.fieldLink "ImposeSheetsModel" 68 "ImposeSheetsModel" "scales" "[I" ∈ lw_good := lw_g 870 (by decide +kernel) rfl
theorem w_1092 : Cond.methodLink "ImposeSheetsModel" 211 ⟨"ImposeSheetsModel", "creepOf", "(II)I"⟩ ∈ lw_good := lw_g 1092 (by decide +kernel) rfl
set_option maxRecDepth 100000 in
theorem w_1095 : Cond.code y_Mo_creepOf c_Mo_creepOf 7 (some .int) ∈ lw_good := lw_g 1095 rfl rfl
theorem w_1094 : Cond.instanceMethod ⟨"ImposeSheetsModel", "creepOf", "(II)I"⟩ ∈ lw_good := lw_g 1094 (by decide +kernel) rfl
theorem w_51 : Cond.selects "ImposeSheetsModel" ⟨"ImposeSheetsModel", "creepOf", "(II)I"⟩ ⟨"ImposeSheetsModel", "creepOf", "(II)I"⟩ ∈ lw_good := lw_g 51 (by decide +kernel) rfl
theorem w_872 : Cond.fieldLink "ImposeSheetsModel" 74 "ImposeSheetsModel" "creeps" "[I" ∈ lw_good := lw_g 872 (by decide +kernel) rfl
theorem w_1099 : Cond.constantLong "ImposeSheetsModel" 214 (1000) ∈ lw_good := lw_g 1099 (by decide +kernel) rfl
theorem w_1100 : Cond.methodLink "ImposeSheetsModel" 216 ⟨"ImposeSheetsModel", "lessLong", "(JJ)J"⟩ ∈ lw_good := lw_g 1100 (by decide +kernel) rfl
set_option maxRecDepth 100000 in
theorem w_1102 : Cond.code y_Mo_lessLong c_Mo_lessLong 4 (some .long) ∈ lw_good := lw_g 1102 rfl rfl
theorem w_1101 : Cond.static ⟨"ImposeSheetsModel", "lessLong", "(JJ)J"⟩ ∈ lw_good := lw_g 1101 (by decide +kernel) rfl
theorem w_1103 : Cond.methodLink "ImposeSheetsModel" 220 ⟨"ImposeSheetsModel", "down", "(II)I"⟩ ∈ lw_good := lw_g 1103 (by decide +kernel) rfl
set_option maxRecDepth 100000 in
theorem w_1105 : Cond.code y_Mo_down c_Mo_down 3 (some .int) ∈ lw_good := lw_g 1105 rfl rfl
theorem w_1104 : Cond.static ⟨"ImposeSheetsModel", "down", "(II)I"⟩ ∈ lw_good := lw_g 1104 (by decide +kernel) rfl
theorem w_862 : Cond.fieldLink "ImposeSheetsModel" 222 "ImposeSheetsModel" "laidPages" "I" ∈ lw_good := lw_g 862 (by decide +kernel) rfl
theorem w_863 : Cond.fieldLink "ImposeSheetsModel" 225 "ImposeSheetsModel" "laidColumns" "I" ∈ lw_good := lw_g 863 (by decide +kernel) rfl
theorem w_864 : Cond.fieldLink "ImposeSheetsModel" 228 "ImposeSheetsModel" "blanks" "I" ∈ lw_good := lw_g 864 (by decide +kernel) rfl
theorem w_865 : Cond.fieldLink "ImposeSheetsModel" 231 "ImposeSheetsModel" "tooLarge" "I" ∈ lw_good := lw_g 865 (by decide +kernel) rfl
theorem w_1084 : Cond.methodLink "ImposeSheetsModel" 234 ⟨"ImposeSheetsModel", "lay", "(IIII)V"⟩ ∈ lw_good := lw_g 1084 (by decide +kernel) rfl
set_option maxRecDepth 100000 in
theorem w_1087 : Cond.code y_Mo_lay c_Mo_lay 18 none ∈ lw_good := lw_g 1087 rfl rfl
theorem w_1086 : Cond.instanceMethod ⟨"ImposeSheetsModel", "lay", "(IIII)V"⟩ ∈ lw_good := lw_g 1086 (by decide +kernel) rfl
theorem w_49 : Cond.selects "ImposeSheetsModel" ⟨"ImposeSheetsModel", "lay", "(IIII)V"⟩ ⟨"ImposeSheetsModel", "lay", "(IIII)V"⟩ ∈ lw_good := lw_g 49 (by decide +kernel) rfl
theorem w_873 : Cond.fieldLink "ImposeSheetsModel" 238 "ImposeSheetsModel" "jobs" "I" ∈ lw_good := lw_g 873 (by decide +kernel) rfl
theorem w_874 : Cond.fieldLink "ImposeSheetsModel" 77 "ImposeSheetsModel" "copies" "[I" ∈ lw_good := lw_g 874 (by decide +kernel) rfl
theorem w_876 : Cond.fieldLink "ImposeSheetsModel" 241 "ImposeSheetsModel" "isTaken" "Z" ∈ lw_good := lw_g 876 (by decide +kernel) rfl
theorem w_877 : Cond.fieldLink "ImposeSheetsModel" 244 "ImposeSheetsModel" "wasShared" "Z" ∈ lw_good := lw_g 877 (by decide +kernel) rfl
theorem w_882 : Cond.fieldLink "ImposeSheetsModel" 247 "ImposeSheetsModel" "looked" "I" ∈ lw_good := lw_g 882 (by decide +kernel) rfl
theorem w_875 : Cond.fieldLink "ImposeSheetsModel" 80 "ImposeSheetsModel" "way" "[I" ∈ lw_good := lw_g 875 (by decide +kernel) rfl
theorem w_1155 : Cond.methodLink "ImposeSheetsModel" 250 ⟨"ImposeSheetsModel", "upward", "(II)I"⟩ ∈ lw_good := lw_g 1155 (by decide +kernel) rfl
set_option maxRecDepth 100000 in
theorem w_1157 : Cond.code y_Mo_upward c_Mo_upward 2 (some .int) ∈ lw_good := lw_g 1157 rfl rfl
theorem w_1156 : Cond.static ⟨"ImposeSheetsModel", "upward", "(II)I"⟩ ∈ lw_good := lw_g 1156 (by decide +kernel) rfl
theorem w_1147 : Cond.methodLink "ImposeSheetsModel" 253 ⟨"ImposeSheetsModel", "jobsOn", "(I)I"⟩ ∈ lw_good := lw_g 1147 (by decide +kernel) rfl
set_option maxRecDepth 100000 in
theorem w_1150 : Cond.code y_Mo_jobsOn c_Mo_jobsOn 4 (some .int) ∈ lw_good := lw_g 1150 rfl rfl
theorem w_1149 : Cond.instanceMethod ⟨"ImposeSheetsModel", "jobsOn", "(I)I"⟩ ∈ lw_good := lw_g 1149 (by decide +kernel) rfl
theorem w_55 : Cond.selects "ImposeSheetsModel" ⟨"ImposeSheetsModel", "jobsOn", "(I)I"⟩ ⟨"ImposeSheetsModel", "jobsOn", "(I)I"⟩ ∈ lw_good := lw_g 55 (by decide +kernel) rfl
theorem w_1151 : Cond.methodLink "ImposeSheetsModel" 256 ⟨"ImposeSheetsModel", "slotsFor", "(II)I"⟩ ∈ lw_good := lw_g 1151 (by decide +kernel) rfl
set_option maxRecDepth 100000 in
theorem w_1154 : Cond.code y_Mo_slotsFor c_Mo_slotsFor 5 (some .int) ∈ lw_good := lw_g 1154 rfl rfl
theorem w_1153 : Cond.instanceMethod ⟨"ImposeSheetsModel", "slotsFor", "(II)I"⟩ ∈ lw_good := lw_g 1153 (by decide +kernel) rfl
theorem w_56 : Cond.selects "ImposeSheetsModel" ⟨"ImposeSheetsModel", "slotsFor", "(II)I"⟩ ⟨"ImposeSheetsModel", "slotsFor", "(II)I"⟩ ∈ lw_good := lw_g 56 (by decide +kernel) rfl
theorem w_1139 : Cond.methodLink "ImposeSheetsModel" 259 ⟨"ImposeSheetsModel", "platesOf", "()I"⟩ ∈ lw_good := lw_g 1139 (by decide +kernel) rfl
set_option maxRecDepth 100000 in
theorem w_1142 : Cond.code y_Mo_platesOf c_Mo_platesOf 3 (some .int) ∈ lw_good := lw_g 1142 rfl rfl
theorem w_1141 : Cond.instanceMethod ⟨"ImposeSheetsModel", "platesOf", "()I"⟩ ∈ lw_good := lw_g 1141 (by decide +kernel) rfl
theorem w_53 : Cond.selects "ImposeSheetsModel" ⟨"ImposeSheetsModel", "platesOf", "()I"⟩ ⟨"ImposeSheetsModel", "platesOf", "()I"⟩ ∈ lw_good := lw_g 53 (by decide +kernel) rfl
theorem w_1143 : Cond.methodLink "ImposeSheetsModel" 262 ⟨"ImposeSheetsModel", "sheetsOf", "(II)I"⟩ ∈ lw_good := lw_g 1143 (by decide +kernel) rfl
set_option maxRecDepth 100000 in
theorem w_1146 : Cond.code y_Mo_sheetsOf c_Mo_sheetsOf 6 (some .int) ∈ lw_good := lw_g 1146 rfl rfl
theorem w_1145 : Cond.instanceMethod ⟨"ImposeSheetsModel", "sheetsOf", "(II)I"⟩ ∈ lw_good := lw_g 1145 (by decide +kernel) rfl
theorem w_54 : Cond.selects "ImposeSheetsModel" ⟨"ImposeSheetsModel", "sheetsOf", "(II)I"⟩ ⟨"ImposeSheetsModel", "sheetsOf", "(II)I"⟩ ∈ lw_good := lw_g 54 (by decide +kernel) rfl
theorem w_1134 : Cond.constantLong "ImposeSheetsModel" 265 (-1) ∈ lw_good := lw_g 1134 (by decide +kernel) rfl
theorem w_879 : Cond.fieldLink "ImposeSheetsModel" 267 "ImposeSheetsModel" "takenJobs" "I" ∈ lw_good := lw_g 879 (by decide +kernel) rfl
theorem w_880 : Cond.fieldLink "ImposeSheetsModel" 270 "ImposeSheetsModel" "takenPlates" "I" ∈ lw_good := lw_g 880 (by decide +kernel) rfl
theorem w_878 : Cond.fieldLink "ImposeSheetsModel" 83 "ImposeSheetsModel" "taken" "[I" ∈ lw_good := lw_g 878 (by decide +kernel) rfl
theorem w_884 : Cond.fieldLink "ImposeSheetsModel" 89 "ImposeSheetsModel" "takenCopies" "[I" ∈ lw_good := lw_g 884 (by decide +kernel) rfl
theorem w_881 : Cond.fieldLink "ImposeSheetsModel" 86 "ImposeSheetsModel" "plateSheets" "[I" ∈ lw_good := lw_g 881 (by decide +kernel) rfl
theorem w_1135 : Cond.methodLink "ImposeSheetsModel" 273 ⟨"ImposeSheetsModel", "costOf", "(II)J"⟩ ∈ lw_good := lw_g 1135 (by decide +kernel) rfl
set_option maxRecDepth 100000 in
theorem w_1138 : Cond.code y_Mo_costOf c_Mo_costOf 8 (some .long) ∈ lw_good := lw_g 1138 rfl rfl
theorem w_1137 : Cond.instanceMethod ⟨"ImposeSheetsModel", "costOf", "(II)J"⟩ ∈ lw_good := lw_g 1137 (by decide +kernel) rfl
theorem w_52 : Cond.selects "ImposeSheetsModel" ⟨"ImposeSheetsModel", "costOf", "(II)J"⟩ ⟨"ImposeSheetsModel", "costOf", "(II)J"⟩ ∈ lw_good := lw_g 52 (by decide +kernel) rfl
theorem w_1158 : Cond.methodLink "ImposeSheetsModel" 277 ⟨"ImposeSheetsModel", "take", "(I)V"⟩ ∈ lw_good := lw_g 1158 (by decide +kernel) rfl
set_option maxRecDepth 100000 in
theorem w_1161 : Cond.code y_Mo_take c_Mo_take 3 none ∈ lw_good := lw_g 1161 rfl rfl
theorem w_1160 : Cond.instanceMethod ⟨"ImposeSheetsModel", "take", "(I)V"⟩ ∈ lw_good := lw_g 1160 (by decide +kernel) rfl
theorem w_57 : Cond.selects "ImposeSheetsModel" ⟨"ImposeSheetsModel", "take", "(I)V"⟩ ⟨"ImposeSheetsModel", "take", "(I)V"⟩ ∈ lw_good := lw_g 57 (by decide +kernel) rfl
theorem w_1162 : Cond.methodLink "ImposeSheetsModel" 280 ⟨"ImposeSheetsModel", "nextWay", "()Z"⟩ ∈ lw_good := lw_g 1162 (by decide +kernel) rfl
set_option maxRecDepth 100000 in
theorem w_1165 : Cond.code y_Mo_nextWay c_Mo_nextWay 4 (some .boolean) ∈ lw_good := lw_g 1165 rfl rfl
theorem w_1164 : Cond.instanceMethod ⟨"ImposeSheetsModel", "nextWay", "()Z"⟩ ∈ lw_good := lw_g 1164 (by decide +kernel) rfl
theorem w_58 : Cond.selects "ImposeSheetsModel" ⟨"ImposeSheetsModel", "nextWay", "()Z"⟩ ⟨"ImposeSheetsModel", "nextWay", "()Z"⟩ ∈ lw_good := lw_g 58 (by decide +kernel) rfl
theorem w_883 : Cond.fieldLink "ImposeSheetsModel" 283 "ImposeSheetsModel" "isAll" "Z" ∈ lw_good := lw_g 883 (by decide +kernel) rfl
theorem w_166 : Cond.fieldLink "ImposeSheets$Book" 25 "ImposeSheets$Book" "cells" "I" ∈ lw_good := lw_g 166 (by decide +kernel) rfl
theorem w_162 : Cond.fieldLink "ImposeSheets$Book" 9 "ImposeSheets$Book" "settings" "[I" ∈ lw_good := lw_g 162 (by decide +kernel) rfl
theorem w_601 : Cond.methodLink "ImposeSheets$Book" 68 ⟨"ImposeSheets$Book", "isPageGreater", "()Z"⟩ ∈ lw_good := lw_g 601 (by decide +kernel) rfl
set_option maxRecDepth 100000 in
theorem w_604 : Cond.code y_Bo_isPageGreater c_Bo_isPageGreater 1 (some .boolean) ∈ lw_good := lw_g 604 rfl rfl
theorem w_65 : Cond.initialized "ImposeSheets$Book" ∈ lw_good := lw_g 65 (by decide +kernel) rfl
theorem w_603 : Cond.instanceMethod ⟨"ImposeSheets$Book", "isPageGreater", "()Z"⟩ ∈ lw_good := lw_g 603 (by decide +kernel) rfl
theorem w_19 : Cond.selects "ImposeSheets$Book" ⟨"ImposeSheets$Book", "isPageGreater", "()Z"⟩ ⟨"ImposeSheets$Book", "isPageGreater", "()Z"⟩ ∈ lw_good := lw_g 19 (by decide +kernel) rfl
theorem w_605 : Cond.methodLinkNest "ImposeSheets$Book" 72 ⟨"ImposeSheets", "downward", "(II)I"⟩ "ImposeSheets" ∈ lw_nest := lw_n 605 (by decide +kernel) rfl
theorem w_606 : Cond.methodLink "ImposeSheets$Book" 75 ⟨"java/lang/Math", "min", "(II)I"⟩ ∈ lw_good := lw_g 606 (by decide +kernel) rfl
theorem w_607 : Cond.methodLink "ImposeSheets$Book" 80 ⟨"java/lang/Math", "max", "(II)I"⟩ ∈ lw_good := lw_g 607 (by decide +kernel) rfl
set_option maxRecDepth 100000 in
theorem w_609 : Cond.code y_Ma_max c_Ma_max 2 (some .int) ∈ lw_good := lw_g 609 rfl rfl
theorem w_608 : Cond.static ⟨"java/lang/Math", "max", "(II)I"⟩ ∈ lw_good := lw_g 608 (by decide +kernel) rfl
theorem w_588 : Cond.methodLink "ImposeSheets$Book" 37 ⟨"java/lang/System", "arraycopy", "(Ljava/lang/Object;ILjava/lang/Object;II)V"⟩ ∈ lw_good := lw_g 588 (by decide +kernel) rfl
theorem w_155 : Cond.native ⟨"java/lang/System", "arraycopy", "(Ljava/lang/Object;ILjava/lang/Object;II)V"⟩ ∈ lw_good := lw_g 155 (by decide +kernel) rfl
theorem w_154 : Cond.static ⟨"java/lang/System", "arraycopy", "(Ljava/lang/Object;ILjava/lang/Object;II)V"⟩ ∈ lw_good := lw_g 154 (by decide +kernel) rfl
theorem w_64 : Cond.initialized "java/lang/System" ∈ lw_good := lw_g 64 (by decide +kernel) rfl
theorem w_242 : Cond.fieldLinkNest "ImposeSheets$Book" 43 "ImposeSheets$Scheme" "columns" "I" "ImposeSheets" ∈ lw_nest := lw_n 242 (by decide +kernel) rfl
theorem w_165 : Cond.fieldLink "ImposeSheets$Book" 21 "ImposeSheets$Book" "columns" "I" ∈ lw_good := lw_g 165 (by decide +kernel) rfl
theorem w_589 : Cond.methodLink "ImposeSheets$Book" 46 ⟨"ImposeSheets$Scheme", "cells", "()I"⟩ ∈ lw_good := lw_g 589 (by decide +kernel) rfl
theorem w_168 : Cond.fieldLink "ImposeSheets$Book" 31 "ImposeSheets$Book" "pages" "I" ∈ lw_good := lw_g 168 (by decide +kernel) rfl
theorem w_590 : Cond.methodLink "ImposeSheets$Book" 49 ⟨"ImposeSheets$Book", "bookletPages", "()I"⟩ ∈ lw_good := lw_g 590 (by decide +kernel) rfl
set_option maxRecDepth 100000 in
theorem w_593 : Cond.code y_Bo_bookletPages c_Bo_bookletPages 1 (some .int) ∈ lw_good := lw_g 593 rfl rfl
theorem w_591 : Cond.instanceMethod ⟨"ImposeSheets$Book", "bookletPages", "()I"⟩ ∈ lw_good := lw_g 591 (by decide +kernel) rfl
theorem w_592 : Cond.selects "ImposeSheets$Book" ⟨"ImposeSheets$Book", "bookletPages", "()I"⟩ ⟨"ImposeSheets$Book", "bookletPages", "()I"⟩ ∈ lw_good := lw_g 592 (by decide +kernel) rfl
theorem w_594 : Cond.methodLinkNest "ImposeSheets$Book" 52 ⟨"ImposeSheets", "upward", "(II)I"⟩ "ImposeSheets" ∈ lw_nest := lw_n 594 (by decide +kernel) rfl
set_option maxRecDepth 100000 in
theorem w_596 : Cond.code y_Im_upward c_Im_upward 2 (some .int) ∈ lw_good := lw_g 596 rfl rfl
theorem w_595 : Cond.static ⟨"ImposeSheets", "upward", "(II)I"⟩ ∈ lw_good := lw_g 595 (by decide +kernel) rfl
theorem w_167 : Cond.fieldLink "ImposeSheets$Book" 28 "ImposeSheets$Book" "sheets" "I" ∈ lw_good := lw_g 167 (by decide +kernel) rfl
theorem w_597 : Cond.methodLink "ImposeSheets$Book" 56 ⟨"ImposeSheets$Book", "findScale", "()I"⟩ ∈ lw_good := lw_g 597 (by decide +kernel) rfl
set_option maxRecDepth 100000 in
theorem w_600 : Cond.code y_Bo_findScale c_Bo_findScale 3 (some .int) ∈ lw_good := lw_g 600 rfl rfl
theorem w_599 : Cond.instanceMethod ⟨"ImposeSheets$Book", "findScale", "()I"⟩ ∈ lw_good := lw_g 599 (by decide +kernel) rfl
theorem w_18 : Cond.selects "ImposeSheets$Book" ⟨"ImposeSheets$Book", "findScale", "()I"⟩ ⟨"ImposeSheets$Book", "findScale", "()I"⟩ ∈ lw_good := lw_g 18 (by decide +kernel) rfl
theorem w_169 : Cond.fieldLink "ImposeSheets$Book" 34 "ImposeSheets$Book" "scale" "I" ∈ lw_good := lw_g 169 (by decide +kernel) rfl
theorem w_610 : Cond.methodLink "ImposeSheets$Book" 59 ⟨"ImposeSheets$Scheme", "spotOf", "(II)I"⟩ ∈ lw_good := lw_g 610 (by decide +kernel) rfl
theorem w_163 : Cond.fieldLink "ImposeSheets$Book" 15 "ImposeSheets$Book" "spotPages" "[I" ∈ lw_good := lw_g 163 (by decide +kernel) rfl
theorem w_164 : Cond.fieldLink "ImposeSheets$Book" 18 "ImposeSheets$Book" "spotTurned" "[I" ∈ lw_good := lw_g 164 (by decide +kernel) rfl
theorem w_611 : Cond.methodLink "ImposeSheets$Book" 62 ⟨"ImposeSheets$Scheme", "turnedOf", "(II)I"⟩ ∈ lw_good := lw_g 611 (by decide +kernel) rfl
theorem w_636 : Cond.methodLink "ImposeSheets$Book" 65 ⟨"ImposeSheets$Book", "placeCount", "()I"⟩ ∈ lw_good := lw_g 636 (by decide +kernel) rfl
set_option maxRecDepth 100000 in
theorem w_639 : Cond.code y_Bo_placeCount c_Bo_placeCount 1 (some .int) ∈ lw_good := lw_g 639 rfl rfl
theorem w_637 : Cond.instanceMethod ⟨"ImposeSheets$Book", "placeCount", "()I"⟩ ∈ lw_good := lw_g 637 (by decide +kernel) rfl
theorem w_638 : Cond.selects "ImposeSheets$Book" ⟨"ImposeSheets$Book", "placeCount", "()I"⟩ ⟨"ImposeSheets$Book", "placeCount", "()I"⟩ ∈ lw_good := lw_g 638 (by decide +kernel) rfl
theorem w_648 : Cond.methodLink "ImposeSheets$Book" 83 ⟨"ImposeSheets$Book", "blankCount", "()I"⟩ ∈ lw_good := lw_g 648 (by decide +kernel) rfl
set_option maxRecDepth 100000 in
theorem w_651 : Cond.code y_Bo_blankCount c_Bo_blankCount 1 (some .int) ∈ lw_good := lw_g 651 rfl rfl
theorem w_649 : Cond.instanceMethod ⟨"ImposeSheets$Book", "blankCount", "()I"⟩ ∈ lw_good := lw_g 649 (by decide +kernel) rfl
theorem w_650 : Cond.selects "ImposeSheets$Book" ⟨"ImposeSheets$Book", "blankCount", "()I"⟩ ⟨"ImposeSheets$Book", "blankCount", "()I"⟩ ∈ lw_good := lw_g 650 (by decide +kernel) rfl
theorem w_644 : Cond.methodLink "ImposeSheets$Book" 86 ⟨"ImposeSheets$Book", "blanksBefore", "()I"⟩ ∈ lw_good := lw_g 644 (by decide +kernel) rfl
set_option maxRecDepth 100000 in
theorem w_647 : Cond.code y_Bo_blanksBefore c_Bo_blanksBefore 1 (some .int) ∈ lw_good := lw_g 647 rfl rfl
theorem w_646 : Cond.instanceMethod ⟨"ImposeSheets$Book", "blanksBefore", "()I"⟩ ∈ lw_good := lw_g 646 (by decide +kernel) rfl
theorem w_21 : Cond.selects "ImposeSheets$Book" ⟨"ImposeSheets$Book", "blanksBefore", "()I"⟩ ⟨"ImposeSheets$Book", "blanksBefore", "()I"⟩ ∈ lw_good := lw_g 21 (by decide +kernel) rfl
theorem w_652 : Cond.methodLink "ImposeSheets$Book" 89 ⟨"ImposeSheets$Book", "hasPage", "(I)Z"⟩ ∈ lw_good := lw_g 652 (by decide +kernel) rfl
set_option maxRecDepth 100000 in
theorem w_655 : Cond.code y_Bo_hasPage c_Bo_hasPage 2 (some .boolean) ∈ lw_good := lw_g 655 rfl rfl
theorem w_653 : Cond.instanceMethod ⟨"ImposeSheets$Book", "hasPage", "(I)Z"⟩ ∈ lw_good := lw_g 653 (by decide +kernel) rfl
theorem w_654 : Cond.selects "ImposeSheets$Book" ⟨"ImposeSheets$Book", "hasPage", "(I)Z"⟩ ⟨"ImposeSheets$Book", "hasPage", "(I)Z"⟩ ∈ lw_good := lw_g 654 (by decide +kernel) rfl
theorem w_664 : Cond.methodLink "ImposeSheets$Book" 97 ⟨"ImposeSheets$Book", "depthOf", "(I)I"⟩ ∈ lw_good := lw_g 664 (by decide +kernel) rfl
set_option maxRecDepth 100000 in
theorem w_667 : Cond.code y_Bo_depthOf c_Bo_depthOf 4 (some .int) ∈ lw_good := lw_g 667 rfl rfl
theorem w_666 : Cond.instanceMethod ⟨"ImposeSheets$Book", "depthOf", "(I)I"⟩ ∈ lw_good := lw_g 666 (by decide +kernel) rfl
theorem w_24 : Cond.selects "ImposeSheets$Book" ⟨"ImposeSheets$Book", "depthOf", "(I)I"⟩ ⟨"ImposeSheets$Book", "depthOf", "(I)I"⟩ ∈ lw_good := lw_g 24 (by decide +kernel) rfl
theorem w_660 : Cond.methodLink "ImposeSheets$Book" 93 ⟨"ImposeSheets$Book", "creepOfPlace", "(I)I"⟩ ∈ lw_good := lw_g 660 (by decide +kernel) rfl
set_option maxRecDepth 100000 in
theorem w_663 : Cond.code y_Bo_creepOfPlace c_Bo_creepOfPlace 2 (some .int) ∈ lw_good := lw_g 663 rfl rfl
theorem w_662 : Cond.instanceMethod ⟨"ImposeSheets$Book", "creepOfPlace", "(I)I"⟩ ∈ lw_good := lw_g 662 (by decide +kernel) rfl
theorem w_23 : Cond.selects "ImposeSheets$Book" ⟨"ImposeSheets$Book", "creepOfPlace", "(I)I"⟩ ⟨"ImposeSheets$Book", "creepOfPlace", "(I)I"⟩ ∈ lw_good := lw_g 23 (by decide +kernel) rfl
theorem w_668 : Cond.methodLink "ImposeSheets$Book" 113 ⟨"ImposeSheets$Book", "margin", "(II)I"⟩ ∈ lw_good := lw_g 668 (by decide +kernel) rfl
set_option maxRecDepth 100000 in
theorem w_671 : Cond.code y_Bo_margin c_Bo_margin 3 (some .int) ∈ lw_good := lw_g 671 rfl rfl
theorem w_670 : Cond.instanceMethod ⟨"ImposeSheets$Book", "margin", "(II)I"⟩ ∈ lw_good := lw_g 670 (by decide +kernel) rfl
theorem w_25 : Cond.selects "ImposeSheets$Book" ⟨"ImposeSheets$Book", "margin", "(II)I"⟩ ⟨"ImposeSheets$Book", "margin", "(II)I"⟩ ∈ lw_good := lw_g 25 (by decide +kernel) rfl
theorem w_632 : Cond.methodLink "ImposeSheets$Book" 100 ⟨"ImposeSheets$Book", "placeOf", "(II)I"⟩ ∈ lw_good := lw_g 632 (by decide +kernel) rfl
set_option maxRecDepth 100000 in
theorem w_635 : Cond.code y_Bo_placeOf c_Bo_placeOf 3 (some .int) ∈ lw_good := lw_g 635 rfl rfl
theorem w_634 : Cond.instanceMethod ⟨"ImposeSheets$Book", "placeOf", "(II)I"⟩ ∈ lw_good := lw_g 634 (by decide +kernel) rfl
theorem w_20 : Cond.selects "ImposeSheets$Book" ⟨"ImposeSheets$Book", "placeOf", "(II)I"⟩ ⟨"ImposeSheets$Book", "placeOf", "(II)I"⟩ ∈ lw_good := lw_g 20 (by decide +kernel) rfl
theorem w_640 : Cond.methodLink "ImposeSheets$Book" 103 ⟨"ImposeSheets$Book", "pageAtPlace", "(I)I"⟩ ∈ lw_good := lw_g 640 (by decide +kernel) rfl
set_option maxRecDepth 100000 in
theorem w_643 : Cond.code y_Bo_pageAtPlace c_Bo_pageAtPlace 3 (some .int) ∈ lw_good := lw_g 643 rfl rfl
theorem w_641 : Cond.instanceMethod ⟨"ImposeSheets$Book", "pageAtPlace", "(I)I"⟩ ∈ lw_good := lw_g 641 (by decide +kernel) rfl
theorem w_642 : Cond.selects "ImposeSheets$Book" ⟨"ImposeSheets$Book", "pageAtPlace", "(I)I"⟩ ⟨"ImposeSheets$Book", "pageAtPlace", "(I)I"⟩ ∈ lw_good := lw_g 642 (by decide +kernel) rfl
theorem w_656 : Cond.methodLink "ImposeSheets$Book" 106 ⟨"ImposeSheets$Book", "leftEdge", "(III)I"⟩ ∈ lw_good := lw_g 656 (by decide +kernel) rfl
set_option maxRecDepth 100000 in
theorem w_659 : Cond.code y_Bo_leftEdge c_Bo_leftEdge 7 (some .int) ∈ lw_good := lw_g 659 rfl rfl
theorem w_658 : Cond.instanceMethod ⟨"ImposeSheets$Book", "leftEdge", "(III)I"⟩ ∈ lw_good := lw_g 658 (by decide +kernel) rfl
theorem w_22 : Cond.selects "ImposeSheets$Book" ⟨"ImposeSheets$Book", "leftEdge", "(III)I"⟩ ⟨"ImposeSheets$Book", "leftEdge", "(III)I"⟩ ∈ lw_good := lw_g 22 (by decide +kernel) rfl
theorem w_672 : Cond.methodLink "ImposeSheets$Book" 110 ⟨"ImposeSheets$Book", "topEdge", "(I)I"⟩ ∈ lw_good := lw_g 672 (by decide +kernel) rfl
set_option maxRecDepth 100000 in
theorem w_675 : Cond.code y_Bo_topEdge c_Bo_topEdge 3 (some .int) ∈ lw_good := lw_g 675 rfl rfl
theorem w_674 : Cond.instanceMethod ⟨"ImposeSheets$Book", "topEdge", "(I)I"⟩ ∈ lw_good := lw_g 674 (by decide +kernel) rfl
theorem w_26 : Cond.selects "ImposeSheets$Book" ⟨"ImposeSheets$Book", "topEdge", "(I)I"⟩ ⟨"ImposeSheets$Book", "topEdge", "(I)I"⟩ ∈ lw_good := lw_g 26 (by decide +kernel) rfl
theorem w_193 : Cond.fieldLink "ImposeSheets$Sharing" 9 "ImposeSheets$Sharing" "copies" "[I" ∈ lw_good := lw_g 193 (by decide +kernel) rfl
theorem w_196 : Cond.fieldLink "ImposeSheets$Sharing" 21 "ImposeSheets$Sharing" "plateJobs" "[I" ∈ lw_good := lw_g 196 (by decide +kernel) rfl
theorem w_760 : Cond.methodLink "ImposeSheets$Sharing" 50 ⟨"java/util/Arrays", "fill", "([II)V"⟩ ∈ lw_good := lw_g 760 (by decide +kernel) rfl
set_option maxRecDepth 100000 in
theorem w_762 : Cond.code y_Ar_fill c_Ar_fill 4 none ∈ lw_good := lw_g 762 rfl rfl
theorem w_77 : Cond.initialized "java/util/Arrays" ∈ lw_good := lw_g 77 (by decide +kernel) rfl
theorem w_761 : Cond.static ⟨"java/util/Arrays", "fill", "([II)V"⟩ ∈ lw_good := lw_g 761 (by decide +kernel) rfl
theorem w_195 : Cond.fieldLink "ImposeSheets$Sharing" 18 "ImposeSheets$Sharing" "way" "[I" ∈ lw_good := lw_g 195 (by decide +kernel) rfl
theorem w_779 : Cond.methodLink "ImposeSheets$Sharing" 96 ⟨"java/lang/Math", "max", "(II)I"⟩ ∈ lw_good := lw_g 779 (by decide +kernel) rfl
theorem w_775 : Cond.methodLink "ImposeSheets$Sharing" 67 ⟨"ImposeSheets$Sharing", "greatestBefore", "(I)I"⟩ ∈ lw_good := lw_g 775 (by decide +kernel) rfl
set_option maxRecDepth 100000 in
theorem w_778 : Cond.code y_Sh_greatestBefore c_Sh_greatestBefore 4 (some .int) ∈ lw_good := lw_g 778 rfl rfl
theorem w_777 : Cond.instanceMethod ⟨"ImposeSheets$Sharing", "greatestBefore", "(I)I"⟩ ∈ lw_good := lw_g 777 (by decide +kernel) rfl
theorem w_30 : Cond.selects "ImposeSheets$Sharing" ⟨"ImposeSheets$Sharing", "greatestBefore", "(I)I"⟩ ⟨"ImposeSheets$Sharing", "greatestBefore", "(I)I"⟩ ∈ lw_good := lw_g 30 (by decide +kernel) rfl
theorem w_787 : Cond.constant "java/lang/Integer" 265 (1431655765) ∈ lw_good := lw_g 787 (by decide +kernel) rfl
theorem w_788 : Cond.constant "java/lang/Integer" 266 (858993459) ∈ lw_good := lw_g 788 (by decide +kernel) rfl
theorem w_789 : Cond.constant "java/lang/Integer" 267 (252645135) ∈ lw_good := lw_g 789 (by decide +kernel) rfl
theorem w_799 : Cond.methodLinkNest "ImposeSheets$Sharing" 93 ⟨"ImposeSheets", "upward", "(II)I"⟩ "ImposeSheets" ∈ lw_nest := lw_n 799 (by decide +kernel) rfl
theorem w_794 : Cond.constant "ImposeSheets$Sharing" 88 (100000) ∈ lw_good := lw_g 794 (by decide +kernel) rfl
theorem w_795 : Cond.methodLink "ImposeSheets$Sharing" 89 ⟨"ImposeSheets$Sharing", "slotsFor", "(II)I"⟩ ∈ lw_good := lw_g 795 (by decide +kernel) rfl
set_option maxRecDepth 100000 in
theorem w_798 : Cond.code y_Sh_slotsFor c_Sh_slotsFor 5 (some .int) ∈ lw_good := lw_g 798 rfl rfl
theorem w_797 : Cond.instanceMethod ⟨"ImposeSheets$Sharing", "slotsFor", "(II)I"⟩ ∈ lw_good := lw_g 797 (by decide +kernel) rfl
theorem w_33 : Cond.selects "ImposeSheets$Sharing" ⟨"ImposeSheets$Sharing", "slotsFor", "(II)I"⟩ ⟨"ImposeSheets$Sharing", "slotsFor", "(II)I"⟩ ∈ lw_good := lw_g 33 (by decide +kernel) rfl
theorem w_200 : Cond.fieldLink "ImposeSheets$Sharing" 34 "ImposeSheets$Sharing" "slots" "I" ∈ lw_good := lw_g 200 (by decide +kernel) rfl
theorem w_194 : Cond.fieldLink "ImposeSheets$Sharing" 15 "ImposeSheets$Sharing" "needs" "[I" ∈ lw_good := lw_g 194 (by decide +kernel) rfl
theorem w_784 : Cond.methodLink "ImposeSheets$Sharing" 80 ⟨"java/lang/Integer", "bitCount", "(I)I"⟩ ∈ lw_good := lw_g 784 (by decide +kernel) rfl
set_option maxRecDepth 100000 in
theorem w_786 : Cond.code y_In_bitCount c_In_bitCount 1 (some .int) ∈ lw_good := lw_g 786 rfl rfl
theorem w_78 : Cond.initialized "java/lang/Integer" ∈ lw_good := lw_g 78 (by decide +kernel) rfl
theorem w_785 : Cond.static ⟨"java/lang/Integer", "bitCount", "(I)I"⟩ ∈ lw_good := lw_g 785 (by decide +kernel) rfl
theorem w_790 : Cond.methodLink "ImposeSheets$Sharing" 85 ⟨"ImposeSheets$Sharing", "leastSheets", "(I)I"⟩ ∈ lw_good := lw_g 790 (by decide +kernel) rfl
set_option maxRecDepth 100000 in
theorem w_793 : Cond.code y_Sh_leastSheets c_Sh_leastSheets 6 (some .int) ∈ lw_good := lw_g 793 rfl rfl
theorem w_792 : Cond.instanceMethod ⟨"ImposeSheets$Sharing", "leastSheets", "(I)I"⟩ ∈ lw_good := lw_g 792 (by decide +kernel) rfl
theorem w_32 : Cond.selects "ImposeSheets$Sharing" ⟨"ImposeSheets$Sharing", "leastSheets", "(I)I"⟩ ⟨"ImposeSheets$Sharing", "leastSheets", "(I)I"⟩ ∈ lw_good := lw_g 32 (by decide +kernel) rfl
theorem w_767 : Cond.methodLink "ImposeSheets$Sharing" 70 ⟨"ImposeSheets$Sharing", "fillPlates", "()V"⟩ ∈ lw_good := lw_g 767 (by decide +kernel) rfl
set_option maxRecDepth 100000 in
theorem w_770 : Cond.code y_Sh_fillPlates c_Sh_fillPlates 3 none ∈ lw_good := lw_g 770 rfl rfl
theorem w_769 : Cond.instanceMethod ⟨"ImposeSheets$Sharing", "fillPlates", "()V"⟩ ∈ lw_good := lw_g 769 (by decide +kernel) rfl
theorem w_28 : Cond.selects "ImposeSheets$Sharing" ⟨"ImposeSheets$Sharing", "fillPlates", "()V"⟩ ⟨"ImposeSheets$Sharing", "fillPlates", "()V"⟩ ∈ lw_good := lw_g 28 (by decide +kernel) rfl
theorem w_771 : Cond.methodLink "ImposeSheets$Sharing" 73 ⟨"ImposeSheets$Sharing", "plateCount", "()I"⟩ ∈ lw_good := lw_g 771 (by decide +kernel) rfl
set_option maxRecDepth 100000 in
theorem w_774 : Cond.code y_Sh_plateCount c_Sh_plateCount 1 (some .int) ∈ lw_good := lw_g 774 rfl rfl
theorem w_773 : Cond.instanceMethod ⟨"ImposeSheets$Sharing", "plateCount", "()I"⟩ ∈ lw_good := lw_g 773 (by decide +kernel) rfl
theorem w_29 : Cond.selects "ImposeSheets$Sharing" ⟨"ImposeSheets$Sharing", "plateCount", "()I"⟩ ⟨"ImposeSheets$Sharing", "plateCount", "()I"⟩ ∈ lw_good := lw_g 29 (by decide +kernel) rfl
theorem w_780 : Cond.methodLink "ImposeSheets$Sharing" 77 ⟨"ImposeSheets$Sharing", "sheetsFor", "(I)I"⟩ ∈ lw_good := lw_g 780 (by decide +kernel) rfl
set_option maxRecDepth 100000 in
theorem w_783 : Cond.code y_Sh_sheetsFor c_Sh_sheetsFor 2 (some .int) ∈ lw_good := lw_g 783 rfl rfl
theorem w_782 : Cond.instanceMethod ⟨"ImposeSheets$Sharing", "sheetsFor", "(I)I"⟩ ∈ lw_good := lw_g 782 (by decide +kernel) rfl
theorem w_31 : Cond.selects "ImposeSheets$Sharing" ⟨"ImposeSheets$Sharing", "sheetsFor", "(I)I"⟩ ⟨"ImposeSheets$Sharing", "sheetsFor", "(I)I"⟩ ∈ lw_good := lw_g 31 (by decide +kernel) rfl
theorem w_204 : Cond.fieldLink "ImposeSheets$Sharing" 47 "ImposeSheets$Sharing" "takenPlates" "I" ∈ lw_good := lw_g 204 (by decide +kernel) rfl
theorem w_197 : Cond.fieldLink "ImposeSheets$Sharing" 24 "ImposeSheets$Sharing" "takenPlate" "[I" ∈ lw_good := lw_g 197 (by decide +kernel) rfl
theorem w_198 : Cond.fieldLink "ImposeSheets$Sharing" 27 "ImposeSheets$Sharing" "takenSheets" "[I" ∈ lw_good := lw_g 198 (by decide +kernel) rfl
theorem w_203 : Cond.fieldLink "ImposeSheets$Sharing" 44 "ImposeSheets$Sharing" "sharedJobs" "I" ∈ lw_good := lw_g 203 (by decide +kernel) rfl
theorem w_202 : Cond.fieldLink "ImposeSheets$Sharing" 40 "ImposeSheets$Sharing" "allLookedAt" "Z" ∈ lw_good := lw_g 202 (by decide +kernel) rfl
theorem w_763 : Cond.methodLink "ImposeSheets$Sharing" 56 ⟨"ImposeSheets$Sharing", "costOfWay", "(I)I"⟩ ∈ lw_good := lw_g 763 (by decide +kernel) rfl
set_option maxRecDepth 100000 in
theorem w_766 : Cond.code y_Sh_costOfWay c_Sh_costOfWay 6 (some .int) ∈ lw_good := lw_g 766 rfl rfl
theorem w_765 : Cond.instanceMethod ⟨"ImposeSheets$Sharing", "costOfWay", "(I)I"⟩ ∈ lw_good := lw_g 765 (by decide +kernel) rfl
theorem w_27 : Cond.selects "ImposeSheets$Sharing" ⟨"ImposeSheets$Sharing", "costOfWay", "(I)I"⟩ ⟨"ImposeSheets$Sharing", "costOfWay", "(I)I"⟩ ∈ lw_good := lw_g 27 (by decide +kernel) rfl
theorem w_800 : Cond.methodLink "ImposeSheets$Sharing" 60 ⟨"ImposeSheets$Sharing", "takeWay", "()V"⟩ ∈ lw_good := lw_g 800 (by decide +kernel) rfl
set_option maxRecDepth 100000 in
theorem w_803 : Cond.code y_Sh_takeWay c_Sh_takeWay 3 none ∈ lw_good := lw_g 803 rfl rfl
theorem w_802 : Cond.instanceMethod ⟨"ImposeSheets$Sharing", "takeWay", "()V"⟩ ∈ lw_good := lw_g 802 (by decide +kernel) rfl
theorem w_34 : Cond.selects "ImposeSheets$Sharing" ⟨"ImposeSheets$Sharing", "takeWay", "()V"⟩ ⟨"ImposeSheets$Sharing", "takeWay", "()V"⟩ ∈ lw_good := lw_g 34 (by decide +kernel) rfl
theorem w_804 : Cond.methodLink "ImposeSheets$Sharing" 63 ⟨"ImposeSheets$Sharing", "goToNextWay", "()Z"⟩ ∈ lw_good := lw_g 804 (by decide +kernel) rfl
set_option maxRecDepth 100000 in
theorem w_807 : Cond.code y_Sh_goToNextWay c_Sh_goToNextWay 2 (some .boolean) ∈ lw_good := lw_g 807 rfl rfl
theorem w_806 : Cond.instanceMethod ⟨"ImposeSheets$Sharing", "goToNextWay", "()Z"⟩ ∈ lw_good := lw_g 806 (by decide +kernel) rfl
theorem w_35 : Cond.selects "ImposeSheets$Sharing" ⟨"ImposeSheets$Sharing", "goToNextWay", "()Z"⟩ ⟨"ImposeSheets$Sharing", "goToNextWay", "()Z"⟩ ∈ lw_good := lw_g 35 (by decide +kernel) rfl
end
section
/-! ## java/lang/Math.floorDiv(II)I -/
theorem d_Ma_floorDiv_0 : decode c_Ma_floorDiv 0 = .ok (.iload_n 0, 1) := by decide +kernel
theorem d_Ma_floorDiv_1 : decode c_Ma_floorDiv 1 = .ok (.iload_n 1, 1) := by decide +kernel
theorem d_Ma_floorDiv_2 : decode c_Ma_floorDiv 2 = .ok (.idiv, 1) := by decide +kernel
theorem d_Ma_floorDiv_3 : decode c_Ma_floorDiv 3 = .ok (.istore_n 2, 1) := by decide +kernel
theorem d_Ma_floorDiv_4 : decode c_Ma_floorDiv 4 = .ok (.iload_n 0, 1) := by decide +kernel
theorem d_Ma_floorDiv_5 : decode c_Ma_floorDiv 5 = .ok (.iload_n 1, 1) := by decide +kernel
theorem d_Ma_floorDiv_6 : decode c_Ma_floorDiv 6 = .ok (.ixor, 1) := by decide +kernel
theorem d_Ma_floorDiv_7 : decode c_Ma_floorDiv 7 = .ok (.ifCond .ge 14, 3) := by decide +kernel
theorem d_Ma_floorDiv_10 : decode c_Ma_floorDiv 10 = .ok (.iload_n 2, 1) := by decide +kernel
theorem d_Ma_floorDiv_11 : decode c_Ma_floorDiv 11 = .ok (.iload_n 1, 1) := by decide +kernel
theorem d_Ma_floorDiv_12 : decode c_Ma_floorDiv 12 = .ok (.imul, 1) := by decide +kernel
theorem d_Ma_floorDiv_13 : decode c_Ma_floorDiv 13 = .ok (.iload_n 0, 1) := by decide +kernel
theorem d_Ma_floorDiv_14 : decode c_Ma_floorDiv 14 = .ok (.if_icmp .eq 7, 3) := by decide +kernel
theorem d_Ma_floorDiv_17 : decode c_Ma_floorDiv 17 = .ok (.iload_n 2, 1) := by decide +kernel
theorem d_Ma_floorDiv_18 : decode c_Ma_floorDiv 18 = .ok (.iconst 1, 1) := by decide +kernel
theorem d_Ma_floorDiv_19 : decode c_Ma_floorDiv 19 = .ok (.isub, 1) := by decide +kernel
theorem d_Ma_floorDiv_20 : decode c_Ma_floorDiv 20 = .ok (.ireturn, 1) := by decide +kernel
theorem d_Ma_floorDiv_21 : decode c_Ma_floorDiv 21 = .ok (.iload_n 2, 1) := by decide +kernel
theorem d_Ma_floorDiv_22 : decode c_Ma_floorDiv 22 = .ok (.ireturn, 1) := by decide +kernel
def t_Ma_floorDiv : Nat → am_A := fun pc => cond (Nat.ble 11 pc) (cond (Nat.ble 18 pc) (cond (Nat.ble 20 pc) (cond (Nat.ble 21 pc) (cond (Nat.ble 22 pc) (cond (Nat.beq pc 22) (am_iret) am_stuck) (cond (Nat.beq pc 21) (am_iload 2 22) am_stuck)) (cond (Nat.beq pc 20) (am_iret) am_stuck)) (cond (Nat.ble 19 pc) (cond (Nat.beq pc 19) (am_i2 (fun x y => x - y) 20) am_stuck) (cond (Nat.beq pc 18) (am_push (.int 1) 19) am_stuck))) (cond (Nat.ble 13 pc) (cond (Nat.ble 14 pc) (cond (Nat.ble 17 pc) (cond (Nat.beq pc 17) (am_iload 2 18) am_stuck) (cond (Nat.beq pc 14) (am_if2 (fun x y => x = y) 21 17) am_stuck)) (cond (Nat.beq pc 13) (am_iload 0 14) am_stuck)) (cond (Nat.ble 12 pc) (cond (Nat.beq pc 12) (am_i2 (fun x y => x * y) 13) am_stuck) (cond (Nat.beq pc 11) (am_iload 1 12) am_stuck)))) (cond (Nat.ble 4 pc) (cond (Nat.ble 6 pc) (cond (Nat.ble 7 pc) (cond (Nat.ble 10 pc) (cond (Nat.beq pc 10) (am_iload 2 11) am_stuck) (cond (Nat.beq pc 7) (am_if (fun x => 0 ≤ x) 21 10) am_stuck)) (cond (Nat.beq pc 6) (am_i2 (fun x y => x ^^^ y) 7) am_stuck)) (cond (Nat.ble 5 pc) (cond (Nat.beq pc 5) (am_iload 1 6) am_stuck) (cond (Nat.beq pc 4) (am_iload 0 5) am_stuck))) (cond (Nat.ble 2 pc) (cond (Nat.ble 3 pc) (cond (Nat.beq pc 3) (am_istore 2 4) am_stuck) (cond (Nat.beq pc 2) (am_idiv (fun x y => x / y) 3) am_stuck)) (cond (Nat.ble 1 pc) (cond (Nat.beq pc 1) (am_iload 1 2) am_stuck) (cond (Nat.beq pc 0) (am_iload 0 1) am_stuck))))
theorem s_Ma_floorDiv : ∀ pc, am_Snd am_En c_Ma_floorDiv 3 y_Ma_floorDiv.cls 0 0 pc (t_Ma_floorDiv pc) := fun pc => am_node (am_node (am_node (am_node (am_node (am_leaf (am_s_iret d_Ma_floorDiv_22)) (am_leaf (am_s_iload_n 2 d_Ma_floorDiv_21 rfl))) (am_leaf (am_s_iret d_Ma_floorDiv_20))) (am_node (am_leaf (am_s_isub d_Ma_floorDiv_19)) (am_leaf (am_s_iconst d_Ma_floorDiv_18 (by decide))))) (am_node (am_node (am_node (am_leaf (am_s_iload_n 2 d_Ma_floorDiv_17 rfl)) (am_leaf (am_s_icmp_eq 21 d_Ma_floorDiv_14 (by decide)))) (am_leaf (am_s_iload_n 0 d_Ma_floorDiv_13 rfl))) (am_node (am_leaf (am_s_imul d_Ma_floorDiv_12)) (am_leaf (am_s_iload_n 1 d_Ma_floorDiv_11 rfl))))) (am_node (am_node (am_node (am_node (am_leaf (am_s_iload_n 2 d_Ma_floorDiv_10 rfl)) (am_leaf (am_s_if_ge 21 d_Ma_floorDiv_7 (by decide)))) (am_leaf (am_s_ixor d_Ma_floorDiv_6))) (am_node (am_leaf (am_s_iload_n 1 d_Ma_floorDiv_5 rfl)) (am_leaf (am_s_iload_n 0 d_Ma_floorDiv_4 rfl)))) (am_node (am_node (am_leaf (am_s_istore_n 2 d_Ma_floorDiv_3 rfl (by decide))) (am_leaf (am_s_idiv d_Ma_floorDiv_2))) (am_node (am_leaf (am_s_iload_n 1 d_Ma_floorDiv_1 rfl)) (am_leaf (am_s_iload_n 0 d_Ma_floorDiv_0 rfl)))))
def M_Ma_floorDiv : am_M := am_Mof t_Ma_floorDiv 3 (some .int)
theorem m_Ma_floorDiv : am_Met y_Ma_floorDiv c_Ma_floorDiv 3 (some .int) 0 0 M_Ma_floorDiv := am_met (by decide +kernel) s_Ma_floorDiv
/-! ## ImposeSheets.downward(II)I -/
theorem d_Im_downward_0 : decode c_Im_downward 0 = .ok (.iload_n 1, 1) := by decide +kernel
theorem d_Im_downward_1 : decode c_Im_downward 1 = .ok (.ifCond .le 11, 3) := by decide +kernel
theorem d_Im_downward_4 : decode c_Im_downward 4 = .ok (.iload_n 0, 1) := by decide +kernel
theorem d_Im_downward_5 : decode c_Im_downward 5 = .ok (.iload_n 1, 1) := by decide +kernel
theorem d_Im_downward_6 : decode c_Im_downward 6 = .ok (.invokestatic 195, 3) := by decide +kernel
theorem d_Im_downward_9 : decode c_Im_downward 9 = .ok (.goto 4, 3) := by decide +kernel
theorem d_Im_downward_12 : decode c_Im_downward 12 = .ok (.iconst 0, 1) := by decide +kernel
theorem d_Im_downward_13 : decode c_Im_downward 13 = .ok (.ireturn, 1) := by decide +kernel
def t_Im_downward : Nat → am_A := fun pc => cond (Nat.ble 6 pc) (cond (Nat.ble 12 pc) (cond (Nat.ble 13 pc) (cond (Nat.beq pc 13) (am_iret) am_stuck) (cond (Nat.beq pc 12) (am_push (.int 0) 13) am_stuck)) (cond (Nat.ble 9 pc) (cond (Nat.beq pc 9) (am_goto 13) am_stuck) (cond (Nat.beq pc 6) (am_callS M_Ma_floorDiv 2 9) am_stuck))) (cond (Nat.ble 4 pc) (cond (Nat.ble 5 pc) (cond (Nat.beq pc 5) (am_iload 1 6) am_stuck) (cond (Nat.beq pc 4) (am_iload 0 5) am_stuck)) (cond (Nat.ble 1 pc) (cond (Nat.beq pc 1) (am_if (fun x => x ≤ 0) 12 4) am_stuck) (cond (Nat.beq pc 0) (am_iload 1 1) am_stuck)))
theorem s_Im_downward : ∀ pc, am_Snd am_En c_Im_downward 2 y_Im_downward.cls 1 22 pc (t_Im_downward pc) := fun pc => am_node (am_node (am_node (am_leaf (am_s_iret d_Im_downward_13)) (am_leaf (am_s_iconst d_Im_downward_12 (by decide)))) (am_node (am_leaf (am_s_goto 13 d_Im_downward_9 (by decide))) (am_leaf (am_s_callS (fun _ _ _ h => h) m_Ma_floorDiv (by decide) (by decide) w_332 w_69 w_330 w_331 (by decide +kernel) d_Im_downward_6)))) (am_node (am_node (am_leaf (am_s_iload_n 1 d_Im_downward_5 rfl)) (am_leaf (am_s_iload_n 0 d_Im_downward_4 rfl))) (am_node (am_leaf (am_s_if_le 12 d_Im_downward_1 (by decide))) (am_leaf (am_s_iload_n 1 d_Im_downward_0 rfl))))
def M_Im_downward : am_M := am_Mof t_Im_downward 2 (some .int)
theorem m_Im_downward : am_Met y_Im_downward c_Im_downward 2 (some .int) 1 22 M_Im_downward := am_met (by decide +kernel) s_Im_downward
/-! ## java/lang/Math.min(II)I -/
theorem d_Ma_min_0 : decode c_Ma_min 0 = .ok (.iload_n 0, 1) := by decide +kernel
theorem d_Ma_min_1 : decode c_Ma_min 1 = .ok (.iload_n 1, 1) := by decide +kernel
theorem d_Ma_min_2 : decode c_Ma_min 2 = .ok (.if_icmp .gt 7, 3) := by decide +kernel
theorem d_Ma_min_5 : decode c_Ma_min 5 = .ok (.iload_n 0, 1) := by decide +kernel
theorem d_Ma_min_6 : decode c_Ma_min 6 = .ok (.goto 4, 3) := by decide +kernel
theorem d_Ma_min_9 : decode c_Ma_min 9 = .ok (.iload_n 1, 1) := by decide +kernel
theorem d_Ma_min_10 : decode c_Ma_min 10 = .ok (.ireturn, 1) := by decide +kernel
def t_Ma_min : Nat → am_A := fun pc => cond (Nat.ble 5 pc) (cond (Nat.ble 9 pc) (cond (Nat.ble 10 pc) (cond (Nat.beq pc 10) (am_iret) am_stuck) (cond (Nat.beq pc 9) (am_iload 1 10) am_stuck)) (cond (Nat.ble 6 pc) (cond (Nat.beq pc 6) (am_goto 10) am_stuck) (cond (Nat.beq pc 5) (am_iload 0 6) am_stuck))) (cond (Nat.ble 1 pc) (cond (Nat.ble 2 pc) (cond (Nat.beq pc 2) (am_if2 (fun x y => y < x) 9 5) am_stuck) (cond (Nat.beq pc 1) (am_iload 1 2) am_stuck)) (cond (Nat.beq pc 0) (am_iload 0 1) am_stuck))
theorem s_Ma_min : ∀ pc, am_Snd am_En c_Ma_min 2 y_Ma_min.cls 0 0 pc (t_Ma_min pc) := fun pc => am_node (am_node (am_node (am_leaf (am_s_iret d_Ma_min_10)) (am_leaf (am_s_iload_n 1 d_Ma_min_9 rfl))) (am_node (am_leaf (am_s_goto 10 d_Ma_min_6 (by decide))) (am_leaf (am_s_iload_n 0 d_Ma_min_5 rfl)))) (am_node (am_node (am_leaf (am_s_icmp_gt 9 d_Ma_min_2 (by decide))) (am_leaf (am_s_iload_n 1 d_Ma_min_1 rfl))) (am_leaf (am_s_iload_n 0 d_Ma_min_0 rfl)))
def M_Ma_min : am_M := am_Mof t_Ma_min 2 (some .int)
theorem m_Ma_min : am_Met y_Ma_min c_Ma_min 2 (some .int) 0 0 M_Ma_min := am_met (by decide +kernel) s_Ma_min
/-! ## ImposeSheets.upward(II)I -/
theorem d_Im_upward_0 : decode c_Im_upward 0 = .ok (.iload_n 1, 1) := by decide +kernel
theorem d_Im_upward_1 : decode c_Im_upward 1 = .ok (.ifCond .le 13, 3) := by decide +kernel
theorem d_Im_upward_4 : decode c_Im_upward 4 = .ok (.iload_n 0, 1) := by decide +kernel
theorem d_Im_upward_5 : decode c_Im_upward 5 = .ok (.iload_n 1, 1) := by decide +kernel
theorem d_Im_upward_6 : decode c_Im_upward 6 = .ok (.iadd, 1) := by decide +kernel
theorem d_Im_upward_7 : decode c_Im_upward 7 = .ok (.iconst 1, 1) := by decide +kernel
theorem d_Im_upward_8 : decode c_Im_upward 8 = .ok (.isub, 1) := by decide +kernel
theorem d_Im_upward_9 : decode c_Im_upward 9 = .ok (.iload_n 1, 1) := by decide +kernel
theorem d_Im_upward_10 : decode c_Im_upward 10 = .ok (.idiv, 1) := by decide +kernel
theorem d_Im_upward_11 : decode c_Im_upward 11 = .ok (.goto 4, 3) := by decide +kernel
theorem d_Im_upward_14 : decode c_Im_upward 14 = .ok (.iconst 0, 1) := by decide +kernel
theorem d_Im_upward_15 : decode c_Im_upward 15 = .ok (.ireturn, 1) := by decide +kernel
def t_Im_upward : Nat → am_A := fun pc => cond (Nat.ble 8 pc) (cond (Nat.ble 11 pc) (cond (Nat.ble 14 pc) (cond (Nat.ble 15 pc) (cond (Nat.beq pc 15) (am_iret) am_stuck) (cond (Nat.beq pc 14) (am_push (.int 0) 15) am_stuck)) (cond (Nat.beq pc 11) (am_goto 15) am_stuck)) (cond (Nat.ble 9 pc) (cond (Nat.ble 10 pc) (cond (Nat.beq pc 10) (am_idiv (fun x y => x / y) 11) am_stuck) (cond (Nat.beq pc 9) (am_iload 1 10) am_stuck)) (cond (Nat.beq pc 8) (am_i2 (fun x y => x - y) 9) am_stuck))) (cond (Nat.ble 5 pc) (cond (Nat.ble 6 pc) (cond (Nat.ble 7 pc) (cond (Nat.beq pc 7) (am_push (.int 1) 8) am_stuck) (cond (Nat.beq pc 6) (am_i2 (fun x y => x + y) 7) am_stuck)) (cond (Nat.beq pc 5) (am_iload 1 6) am_stuck)) (cond (Nat.ble 1 pc) (cond (Nat.ble 4 pc) (cond (Nat.beq pc 4) (am_iload 0 5) am_stuck) (cond (Nat.beq pc 1) (am_if (fun x => x ≤ 0) 14 4) am_stuck)) (cond (Nat.beq pc 0) (am_iload 1 1) am_stuck)))
theorem s_Im_upward : ∀ pc, am_Snd am_En c_Im_upward 2 y_Im_upward.cls 0 0 pc (t_Im_upward pc) := fun pc => am_node (am_node (am_node (am_node (am_leaf (am_s_iret d_Im_upward_15)) (am_leaf (am_s_iconst d_Im_upward_14 (by decide)))) (am_leaf (am_s_goto 15 d_Im_upward_11 (by decide)))) (am_node (am_node (am_leaf (am_s_idiv d_Im_upward_10)) (am_leaf (am_s_iload_n 1 d_Im_upward_9 rfl))) (am_leaf (am_s_isub d_Im_upward_8)))) (am_node (am_node (am_node (am_leaf (am_s_iconst d_Im_upward_7 (by decide))) (am_leaf (am_s_iadd d_Im_upward_6))) (am_leaf (am_s_iload_n 1 d_Im_upward_5 rfl))) (am_node (am_node (am_leaf (am_s_iload_n 0 d_Im_upward_4 rfl)) (am_leaf (am_s_if_le 14 d_Im_upward_1 (by decide)))) (am_leaf (am_s_iload_n 1 d_Im_upward_0 rfl))))
def M_Im_upward : am_M := am_Mof t_Im_upward 2 (some .int)
theorem m_Im_upward : am_Met y_Im_upward c_Im_upward 2 (some .int) 0 0 M_Im_upward := am_met (by decide +kernel) s_Im_upward
/-! ## java/lang/Math.max(II)I -/
theorem d_Ma_max_0 : decode c_Ma_max 0 = .ok (.iload_n 0, 1) := by decide +kernel
theorem d_Ma_max_1 : decode c_Ma_max 1 = .ok (.iload_n 1, 1) := by decide +kernel
theorem d_Ma_max_2 : decode c_Ma_max 2 = .ok (.if_icmp .lt 7, 3) := by decide +kernel
theorem d_Ma_max_5 : decode c_Ma_max 5 = .ok (.iload_n 0, 1) := by decide +kernel
theorem d_Ma_max_6 : decode c_Ma_max 6 = .ok (.goto 4, 3) := by decide +kernel
theorem d_Ma_max_9 : decode c_Ma_max 9 = .ok (.iload_n 1, 1) := by decide +kernel
theorem d_Ma_max_10 : decode c_Ma_max 10 = .ok (.ireturn, 1) := by decide +kernel
def t_Ma_max : Nat → am_A := fun pc => cond (Nat.ble 5 pc) (cond (Nat.ble 9 pc) (cond (Nat.ble 10 pc) (cond (Nat.beq pc 10) (am_iret) am_stuck) (cond (Nat.beq pc 9) (am_iload 1 10) am_stuck)) (cond (Nat.ble 6 pc) (cond (Nat.beq pc 6) (am_goto 10) am_stuck) (cond (Nat.beq pc 5) (am_iload 0 6) am_stuck))) (cond (Nat.ble 1 pc) (cond (Nat.ble 2 pc) (cond (Nat.beq pc 2) (am_if2 (fun x y => x < y) 9 5) am_stuck) (cond (Nat.beq pc 1) (am_iload 1 2) am_stuck)) (cond (Nat.beq pc 0) (am_iload 0 1) am_stuck))
theorem s_Ma_max : ∀ pc, am_Snd am_En c_Ma_max 2 y_Ma_max.cls 0 0 pc (t_Ma_max pc) := fun pc => am_node (am_node (am_node (am_leaf (am_s_iret d_Ma_max_10)) (am_leaf (am_s_iload_n 1 d_Ma_max_9 rfl))) (am_node (am_leaf (am_s_goto 10 d_Ma_max_6 (by decide))) (am_leaf (am_s_iload_n 0 d_Ma_max_5 rfl)))) (am_node (am_node (am_leaf (am_s_icmp_lt 9 d_Ma_max_2 (by decide))) (am_leaf (am_s_iload_n 1 d_Ma_max_1 rfl))) (am_leaf (am_s_iload_n 0 d_Ma_max_0 rfl)))
def M_Ma_max : am_M := am_Mof t_Ma_max 2 (some .int)
theorem m_Ma_max : am_Met y_Ma_max c_Ma_max 2 (some .int) 0 0 M_Ma_max := am_met (by decide +kernel) s_Ma_max
/-! ## java/util/Arrays.fill([II)V -/
theorem d_Ar_fill_0 : decode c_Ar_fill 0 = .ok (.iconst 0, 1) := by decide +kernel
theorem d_Ar_fill_1 : decode c_Ar_fill 1 = .ok (.istore_n 2, 1) := by decide +kernel
theorem d_Ar_fill_2 : decode c_Ar_fill 2 = .ok (.aload_n 0, 1) := by decide +kernel
theorem d_Ar_fill_3 : decode c_Ar_fill 3 = .ok (.arraylength, 1) := by decide +kernel
theorem d_Ar_fill_4 : decode c_Ar_fill 4 = .ok (.istore_n 3, 1) := by decide +kernel
theorem d_Ar_fill_5 : decode c_Ar_fill 5 = .ok (.iload_n 2, 1) := by decide +kernel
theorem d_Ar_fill_6 : decode c_Ar_fill 6 = .ok (.iload_n 3, 1) := by decide +kernel
theorem d_Ar_fill_7 : decode c_Ar_fill 7 = .ok (.if_icmp .ge 13, 3) := by decide +kernel
theorem d_Ar_fill_10 : decode c_Ar_fill 10 = .ok (.aload_n 0, 1) := by decide +kernel
theorem d_Ar_fill_11 : decode c_Ar_fill 11 = .ok (.iload_n 2, 1) := by decide +kernel
theorem d_Ar_fill_12 : decode c_Ar_fill 12 = .ok (.iload_n 1, 1) := by decide +kernel
theorem d_Ar_fill_13 : decode c_Ar_fill 13 = .ok (.iastore, 1) := by decide +kernel
theorem d_Ar_fill_14 : decode c_Ar_fill 14 = .ok (.iinc 2 1, 3) := by decide +kernel
theorem d_Ar_fill_17 : decode c_Ar_fill 17 = .ok (.goto (-12), 3) := by decide +kernel
theorem d_Ar_fill_20 : decode c_Ar_fill 20 = .ok (.return_, 1) := by decide +kernel
def t_Ar_fill : Nat → am_A := fun pc => cond (Nat.ble 7 pc) (cond (Nat.ble 13 pc) (cond (Nat.ble 17 pc) (cond (Nat.ble 20 pc) (cond (Nat.beq pc 20) (am_vret) am_stuck) (cond (Nat.beq pc 17) (am_goto 5) am_stuck)) (cond (Nat.ble 14 pc) (cond (Nat.beq pc 14) (am_iinc 2 (1) 17) am_stuck) (cond (Nat.beq pc 13) (am_iast 14) am_stuck))) (cond (Nat.ble 11 pc) (cond (Nat.ble 12 pc) (cond (Nat.beq pc 12) (am_iload 1 13) am_stuck) (cond (Nat.beq pc 11) (am_iload 2 12) am_stuck)) (cond (Nat.ble 10 pc) (cond (Nat.beq pc 10) (am_aload 0 11) am_stuck) (cond (Nat.beq pc 7) (am_if2 (fun x y => y ≤ x) 20 10) am_stuck)))) (cond (Nat.ble 3 pc) (cond (Nat.ble 5 pc) (cond (Nat.ble 6 pc) (cond (Nat.beq pc 6) (am_iload 3 7) am_stuck) (cond (Nat.beq pc 5) (am_iload 2 6) am_stuck)) (cond (Nat.ble 4 pc) (cond (Nat.beq pc 4) (am_istore 3 5) am_stuck) (cond (Nat.beq pc 3) (am_alen 4) am_stuck))) (cond (Nat.ble 1 pc) (cond (Nat.ble 2 pc) (cond (Nat.beq pc 2) (am_aload 0 3) am_stuck) (cond (Nat.beq pc 1) (am_istore 2 2) am_stuck)) (cond (Nat.beq pc 0) (am_push (.int 0) 1) am_stuck)))
theorem s_Ar_fill : ∀ pc, am_Snd am_En c_Ar_fill 4 y_Ar_fill.cls 0 0 pc (t_Ar_fill pc) := fun pc => am_node (am_node (am_node (am_node (am_leaf (am_s_vret d_Ar_fill_20)) (am_leaf (am_s_goto 5 d_Ar_fill_17 (by decide)))) (am_node (am_leaf (am_s_iinc d_Ar_fill_14 (by decide))) (am_leaf (am_s_iast d_Ar_fill_13)))) (am_node (am_node (am_leaf (am_s_iload_n 1 d_Ar_fill_12 rfl)) (am_leaf (am_s_iload_n 2 d_Ar_fill_11 rfl))) (am_node (am_leaf (am_s_aload_n 0 d_Ar_fill_10 rfl)) (am_leaf (am_s_icmp_ge 20 d_Ar_fill_7 (by decide)))))) (am_node (am_node (am_node (am_leaf (am_s_iload_n 3 d_Ar_fill_6 rfl)) (am_leaf (am_s_iload_n 2 d_Ar_fill_5 rfl))) (am_node (am_leaf (am_s_istore_n 3 d_Ar_fill_4 rfl (by decide))) (am_leaf (am_s_alen d_Ar_fill_3)))) (am_node (am_node (am_leaf (am_s_aload_n 0 d_Ar_fill_2 rfl)) (am_leaf (am_s_istore_n 2 d_Ar_fill_1 rfl (by decide)))) (am_leaf (am_s_iconst d_Ar_fill_0 (by decide)))))
def M_Ar_fill : am_M := am_Mof t_Ar_fill 4 none
theorem m_Ar_fill : am_Met y_Ar_fill c_Ar_fill 4 none 0 0 M_Ar_fill := am_met (by decide +kernel) s_Ar_fill
/-! ## java/lang/Integer.bitCount(I)I -/
theorem d_In_bitCount_0 : decode c_In_bitCount 0 = .ok (.iload_n 0, 1) := by decide +kernel
theorem d_In_bitCount_1 : decode c_In_bitCount 1 = .ok (.iload_n 0, 1) := by decide +kernel
theorem d_In_bitCount_2 : decode c_In_bitCount 2 = .ok (.iconst 1, 1) := by decide +kernel
theorem d_In_bitCount_3 : decode c_In_bitCount 3 = .ok (.iushr, 1) := by decide +kernel
theorem d_In_bitCount_4 : decode c_In_bitCount 4 = .ok (.ldc_w 265, 3) := by decide +kernel
theorem d_In_bitCount_7 : decode c_In_bitCount 7 = .ok (.iand, 1) := by decide +kernel
theorem d_In_bitCount_8 : decode c_In_bitCount 8 = .ok (.isub, 1) := by decide +kernel
theorem d_In_bitCount_9 : decode c_In_bitCount 9 = .ok (.istore_n 0, 1) := by decide +kernel
theorem d_In_bitCount_10 : decode c_In_bitCount 10 = .ok (.iload_n 0, 1) := by decide +kernel
theorem d_In_bitCount_11 : decode c_In_bitCount 11 = .ok (.ldc_w 266, 3) := by decide +kernel
theorem d_In_bitCount_14 : decode c_In_bitCount 14 = .ok (.iand, 1) := by decide +kernel
theorem d_In_bitCount_15 : decode c_In_bitCount 15 = .ok (.iload_n 0, 1) := by decide +kernel
theorem d_In_bitCount_16 : decode c_In_bitCount 16 = .ok (.iconst 2, 1) := by decide +kernel
theorem d_In_bitCount_17 : decode c_In_bitCount 17 = .ok (.iushr, 1) := by decide +kernel
theorem d_In_bitCount_18 : decode c_In_bitCount 18 = .ok (.ldc_w 266, 3) := by decide +kernel
theorem d_In_bitCount_21 : decode c_In_bitCount 21 = .ok (.iand, 1) := by decide +kernel
theorem d_In_bitCount_22 : decode c_In_bitCount 22 = .ok (.iadd, 1) := by decide +kernel
theorem d_In_bitCount_23 : decode c_In_bitCount 23 = .ok (.istore_n 0, 1) := by decide +kernel
theorem d_In_bitCount_24 : decode c_In_bitCount 24 = .ok (.iload_n 0, 1) := by decide +kernel
theorem d_In_bitCount_25 : decode c_In_bitCount 25 = .ok (.iload_n 0, 1) := by decide +kernel
theorem d_In_bitCount_26 : decode c_In_bitCount 26 = .ok (.iconst 4, 1) := by decide +kernel
theorem d_In_bitCount_27 : decode c_In_bitCount 27 = .ok (.iushr, 1) := by decide +kernel
theorem d_In_bitCount_28 : decode c_In_bitCount 28 = .ok (.iadd, 1) := by decide +kernel
theorem d_In_bitCount_29 : decode c_In_bitCount 29 = .ok (.ldc_w 267, 3) := by decide +kernel
theorem d_In_bitCount_32 : decode c_In_bitCount 32 = .ok (.iand, 1) := by decide +kernel
theorem d_In_bitCount_33 : decode c_In_bitCount 33 = .ok (.istore_n 0, 1) := by decide +kernel
theorem d_In_bitCount_34 : decode c_In_bitCount 34 = .ok (.iload_n 0, 1) := by decide +kernel
theorem d_In_bitCount_35 : decode c_In_bitCount 35 = .ok (.iload_n 0, 1) := by decide +kernel
theorem d_In_bitCount_36 : decode c_In_bitCount 36 = .ok (.bipush 8, 2) := by decide +kernel
theorem d_In_bitCount_38 : decode c_In_bitCount 38 = .ok (.iushr, 1) := by decide +kernel
theorem d_In_bitCount_39 : decode c_In_bitCount 39 = .ok (.iadd, 1) := by decide +kernel
theorem d_In_bitCount_40 : decode c_In_bitCount 40 = .ok (.istore_n 0, 1) := by decide +kernel
theorem d_In_bitCount_41 : decode c_In_bitCount 41 = .ok (.iload_n 0, 1) := by decide +kernel
theorem d_In_bitCount_42 : decode c_In_bitCount 42 = .ok (.iload_n 0, 1) := by decide +kernel
theorem d_In_bitCount_43 : decode c_In_bitCount 43 = .ok (.bipush 16, 2) := by decide +kernel
theorem d_In_bitCount_45 : decode c_In_bitCount 45 = .ok (.iushr, 1) := by decide +kernel
theorem d_In_bitCount_46 : decode c_In_bitCount 46 = .ok (.iadd, 1) := by decide +kernel
theorem d_In_bitCount_47 : decode c_In_bitCount 47 = .ok (.istore_n 0, 1) := by decide +kernel
theorem d_In_bitCount_48 : decode c_In_bitCount 48 = .ok (.iload_n 0, 1) := by decide +kernel
theorem d_In_bitCount_49 : decode c_In_bitCount 49 = .ok (.bipush 63, 2) := by decide +kernel
theorem d_In_bitCount_51 : decode c_In_bitCount 51 = .ok (.iand, 1) := by decide +kernel
theorem d_In_bitCount_52 : decode c_In_bitCount 52 = .ok (.ireturn, 1) := by decide +kernel
def t_In_bitCount : Nat → am_A := fun pc => cond (Nat.ble 27 pc) (cond (Nat.ble 40 pc) (cond (Nat.ble 46 pc) (cond (Nat.ble 49 pc) (cond (Nat.ble 51 pc) (cond (Nat.ble 52 pc) (cond (Nat.beq pc 52) (am_iret) am_stuck) (cond (Nat.beq pc 51) (am_i2 (fun x y => x &&& y) 52) am_stuck)) (cond (Nat.beq pc 49) (am_push (.int (63)) 51) am_stuck)) (cond (Nat.ble 47 pc) (cond (Nat.ble 48 pc) (cond (Nat.beq pc 48) (am_iload 0 49) am_stuck) (cond (Nat.beq pc 47) (am_istore 0 48) am_stuck)) (cond (Nat.beq pc 46) (am_i2 (fun x y => x + y) 47) am_stuck))) (cond (Nat.ble 42 pc) (cond (Nat.ble 43 pc) (cond (Nat.ble 45 pc) (cond (Nat.beq pc 45) (am_i2 (fun x y => (x.toUInt32 >>> (y.toUInt32 &&& Int32.toUInt32 31)).toInt32) 46) am_stuck) (cond (Nat.beq pc 43) (am_push (.int (16)) 45) am_stuck)) (cond (Nat.beq pc 42) (am_iload 0 43) am_stuck)) (cond (Nat.ble 41 pc) (cond (Nat.beq pc 41) (am_iload 0 42) am_stuck) (cond (Nat.beq pc 40) (am_istore 0 41) am_stuck)))) (cond (Nat.ble 34 pc) (cond (Nat.ble 36 pc) (cond (Nat.ble 38 pc) (cond (Nat.ble 39 pc) (cond (Nat.beq pc 39) (am_i2 (fun x y => x + y) 40) am_stuck) (cond (Nat.beq pc 38) (am_i2 (fun x y => (x.toUInt32 >>> (y.toUInt32 &&& Int32.toUInt32 31)).toInt32) 39) am_stuck)) (cond (Nat.beq pc 36) (am_push (.int (8)) 38) am_stuck)) (cond (Nat.ble 35 pc) (cond (Nat.beq pc 35) (am_iload 0 36) am_stuck) (cond (Nat.beq pc 34) (am_iload 0 35) am_stuck))) (cond (Nat.ble 29 pc) (cond (Nat.ble 32 pc) (cond (Nat.ble 33 pc) (cond (Nat.beq pc 33) (am_istore 0 34) am_stuck) (cond (Nat.beq pc 32) (am_i2 (fun x y => x &&& y) 33) am_stuck)) (cond (Nat.beq pc 29) (am_push (.int (252645135)) 32) am_stuck)) (cond (Nat.ble 28 pc) (cond (Nat.beq pc 28) (am_i2 (fun x y => x + y) 29) am_stuck) (cond (Nat.beq pc 27) (am_i2 (fun x y => (x.toUInt32 >>> (y.toUInt32 &&& Int32.toUInt32 31)).toInt32) 28) am_stuck))))) (cond (Nat.ble 14 pc) (cond (Nat.ble 21 pc) (cond (Nat.ble 24 pc) (cond (Nat.ble 25 pc) (cond (Nat.ble 26 pc) (cond (Nat.beq pc 26) (am_push (.int 4) 27) am_stuck) (cond (Nat.beq pc 25) (am_iload 0 26) am_stuck)) (cond (Nat.beq pc 24) (am_iload 0 25) am_stuck)) (cond (Nat.ble 22 pc) (cond (Nat.ble 23 pc) (cond (Nat.beq pc 23) (am_istore 0 24) am_stuck) (cond (Nat.beq pc 22) (am_i2 (fun x y => x + y) 23) am_stuck)) (cond (Nat.beq pc 21) (am_i2 (fun x y => x &&& y) 22) am_stuck))) (cond (Nat.ble 16 pc) (cond (Nat.ble 17 pc) (cond (Nat.ble 18 pc) (cond (Nat.beq pc 18) (am_push (.int (858993459)) 21) am_stuck) (cond (Nat.beq pc 17) (am_i2 (fun x y => (x.toUInt32 >>> (y.toUInt32 &&& Int32.toUInt32 31)).toInt32) 18) am_stuck)) (cond (Nat.beq pc 16) (am_push (.int 2) 17) am_stuck)) (cond (Nat.ble 15 pc) (cond (Nat.beq pc 15) (am_iload 0 16) am_stuck) (cond (Nat.beq pc 14) (am_i2 (fun x y => x &&& y) 15) am_stuck)))) (cond (Nat.ble 7 pc) (cond (Nat.ble 9 pc) (cond (Nat.ble 10 pc) (cond (Nat.ble 11 pc) (cond (Nat.beq pc 11) (am_push (.int (858993459)) 14) am_stuck) (cond (Nat.beq pc 10) (am_iload 0 11) am_stuck)) (cond (Nat.beq pc 9) (am_istore 0 10) am_stuck)) (cond (Nat.ble 8 pc) (cond (Nat.beq pc 8) (am_i2 (fun x y => x - y) 9) am_stuck) (cond (Nat.beq pc 7) (am_i2 (fun x y => x &&& y) 8) am_stuck))) (cond (Nat.ble 2 pc) (cond (Nat.ble 3 pc) (cond (Nat.ble 4 pc) (cond (Nat.beq pc 4) (am_push (.int (1431655765)) 7) am_stuck) (cond (Nat.beq pc 3) (am_i2 (fun x y => (x.toUInt32 >>> (y.toUInt32 &&& Int32.toUInt32 31)).toInt32) 4) am_stuck)) (cond (Nat.beq pc 2) (am_push (.int 1) 3) am_stuck)) (cond (Nat.ble 1 pc) (cond (Nat.beq pc 1) (am_iload 0 2) am_stuck) (cond (Nat.beq pc 0) (am_iload 0 1) am_stuck)))))
theorem s_In_bitCount : ∀ pc, am_Snd am_En c_In_bitCount 1 y_In_bitCount.cls 0 0 pc (t_In_bitCount pc) := fun pc => am_node (am_node (am_node (am_node (am_node (am_node (am_leaf (am_s_iret d_In_bitCount_52)) (am_leaf (am_s_iand d_In_bitCount_51))) (am_leaf (am_s_bipush d_In_bitCount_49 (by decide)))) (am_node (am_node (am_leaf (am_s_iload_n 0 d_In_bitCount_48 rfl)) (am_leaf (am_s_istore_n 0 d_In_bitCount_47 rfl (by decide)))) (am_leaf (am_s_iadd d_In_bitCount_46)))) (am_node (am_node (am_node (am_leaf (am_s_iushr d_In_bitCount_45)) (am_leaf (am_s_bipush d_In_bitCount_43 (by decide)))) (am_leaf (am_s_iload_n 0 d_In_bitCount_42 rfl))) (am_node (am_leaf (am_s_iload_n 0 d_In_bitCount_41 rfl)) (am_leaf (am_s_istore_n 0 d_In_bitCount_40 rfl (by decide)))))) (am_node (am_node (am_node (am_node (am_leaf (am_s_iadd d_In_bitCount_39)) (am_leaf (am_s_iushr d_In_bitCount_38))) (am_leaf (am_s_bipush d_In_bitCount_36 (by decide)))) (am_node (am_leaf (am_s_iload_n 0 d_In_bitCount_35 rfl)) (am_leaf (am_s_iload_n 0 d_In_bitCount_34 rfl)))) (am_node (am_node (am_node (am_leaf (am_s_istore_n 0 d_In_bitCount_33 rfl (by decide))) (am_leaf (am_s_iand d_In_bitCount_32))) (am_leaf (am_s_ldcw w_789 d_In_bitCount_29))) (am_node (am_leaf (am_s_iadd d_In_bitCount_28)) (am_leaf (am_s_iushr d_In_bitCount_27)))))) (am_node (am_node (am_node (am_node (am_node (am_leaf (am_s_iconst d_In_bitCount_26 (by decide))) (am_leaf (am_s_iload_n 0 d_In_bitCount_25 rfl))) (am_leaf (am_s_iload_n 0 d_In_bitCount_24 rfl))) (am_node (am_node (am_leaf (am_s_istore_n 0 d_In_bitCount_23 rfl (by decide))) (am_leaf (am_s_iadd d_In_bitCount_22))) (am_leaf (am_s_iand d_In_bitCount_21)))) (am_node (am_node (am_node (am_leaf (am_s_ldcw w_788 d_In_bitCount_18)) (am_leaf (am_s_iushr d_In_bitCount_17))) (am_leaf (am_s_iconst d_In_bitCount_16 (by decide)))) (am_node (am_leaf (am_s_iload_n 0 d_In_bitCount_15 rfl)) (am_leaf (am_s_iand d_In_bitCount_14))))) (am_node (am_node (am_node (am_node (am_leaf (am_s_ldcw w_788 d_In_bitCount_11)) (am_leaf (am_s_iload_n 0 d_In_bitCount_10 rfl))) (am_leaf (am_s_istore_n 0 d_In_bitCount_9 rfl (by decide)))) (am_node (am_leaf (am_s_isub d_In_bitCount_8)) (am_leaf (am_s_iand d_In_bitCount_7)))) (am_node (am_node (am_node (am_leaf (am_s_ldcw w_787 d_In_bitCount_4)) (am_leaf (am_s_iushr d_In_bitCount_3))) (am_leaf (am_s_iconst d_In_bitCount_2 (by decide)))) (am_node (am_leaf (am_s_iload_n 0 d_In_bitCount_1 rfl)) (am_leaf (am_s_iload_n 0 d_In_bitCount_0 rfl))))))
def M_In_bitCount : am_M := am_Mof t_In_bitCount 1 (some .int)
theorem m_In_bitCount : am_Met y_In_bitCount c_In_bitCount 1 (some .int) 0 0 M_In_bitCount := am_met (by decide +kernel) s_In_bitCount
end
