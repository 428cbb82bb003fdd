section
-- ===== PART A: goes FIRST, ahead of the names: the tables' words, and 'selects' of the private methods out of them =====
/-- a private method of a class that the tables say can be made, by its rows of tables_1 -/
def lw_okq (q : MethodName × Nat) : Prop := (q.1.cls ≠ "java/lang/invoke/MethodHandle" ∧ q.1.cls ≠ "java/lang/invoke/VarHandle") ∧ Cond.instantiable q.1.cls q.2 ∈ tables_1 ∧ Cond.privateMethod q.1 ∈ tables_1 ∧ Cond.instanceMethod q.1 ∈ tables_1
theorem lw_p0 : lw_okq (⟨"PinnedToFit", "rowRefusal", "(II)I"⟩, 12) := ⟨⟨by decide +kernel, by decide +kernel⟩, List.mem_of_getElem? (i := 27) (by decide +kernel), List.mem_of_getElem? (i := 218) (by decide +kernel), List.mem_of_getElem? (i := 219) (by decide +kernel)⟩
theorem lw_p1 : lw_okq (⟨"PinnedToFit", "shelfAt", "(I)LPinnedToFit$Shelf;"⟩, 12) := ⟨⟨by decide +kernel, by decide +kernel⟩, List.mem_of_getElem? (i := 27) (by decide +kernel), List.mem_of_getElem? (i := 228) (by decide +kernel), List.mem_of_getElem? (i := 229) (by decide +kernel)⟩
theorem lw_p2 : lw_okq (⟨"PinnedToFit", "statementsOf", "(LPinnedToFit$Shelf;)I"⟩, 12) := ⟨⟨by decide +kernel, by decide +kernel⟩, List.mem_of_getElem? (i := 27) (by decide +kernel), List.mem_of_getElem? (i := 236) (by decide +kernel), List.mem_of_getElem? (i := 237) (by decide +kernel)⟩
theorem lw_p3 : lw_okq (⟨"PinnedToFit$Text", "readPart", "(LPinnedToFit$Shelf;C)Z"⟩, 4) := ⟨⟨by decide +kernel, by decide +kernel⟩, List.mem_of_getElem? (i := 107) (by decide +kernel), List.mem_of_getElem? (i := 308) (by decide +kernel), List.mem_of_getElem? (i := 309) (by decide +kernel)⟩
theorem lw_p4 : lw_okq (⟨"PinnedToFit$Text", "readNumber", "(LPinnedToFit$Shelf;Z)Z"⟩, 4) := ⟨⟨by decide +kernel, by decide +kernel⟩, List.mem_of_getElem? (i := 107) (by decide +kernel), List.mem_of_getElem? (i := 312) (by decide +kernel), List.mem_of_getElem? (i := 313) (by decide +kernel)⟩
theorem lw_p5 : lw_okq (⟨"PinnedToFit$Text", "digitHere", "(LPinnedToFit$Shelf;)I"⟩, 4) := ⟨⟨by decide +kernel, by decide +kernel⟩, List.mem_of_getElem? (i := 107) (by decide +kernel), List.mem_of_getElem? (i := 316) (by decide +kernel), List.mem_of_getElem? (i := 317) (by decide +kernel)⟩
theorem lw_p6 : lw_okq (⟨"PinnedToFit", "carryOut", "(LPinnedToFit$Dress;)Z"⟩, 12) := ⟨⟨by decide +kernel, by decide +kernel⟩, List.mem_of_getElem? (i := 27) (by decide +kernel), List.mem_of_getElem? (i := 331) (by decide +kernel), List.mem_of_getElem? (i := 332) (by decide +kernel)⟩
theorem lw_p7 : lw_okq (⟨"PinnedToFit$Dress", "set", "(III)V"⟩, 6) := ⟨⟨by decide +kernel, by decide +kernel⟩, List.mem_of_getElem? (i := 35) (by decide +kernel), List.mem_of_getElem? (i := 344) (by decide +kernel), List.mem_of_getElem? (i := 345) (by decide +kernel)⟩
theorem lw_p8 : lw_okq (⟨"PinnedToFit", "kindAt", "(I)LPinnedToFit$Pin;"⟩, 12) := ⟨⟨by decide +kernel, by decide +kernel⟩, List.mem_of_getElem? (i := 27) (by decide +kernel), List.mem_of_getElem? (i := 348) (by decide +kernel), List.mem_of_getElem? (i := 349) (by decide +kernel)⟩
theorem lw_p9 : lw_okq (⟨"PinnedToFit", "pinRefusal", "(I)I"⟩, 12) := ⟨⟨by decide +kernel, by decide +kernel⟩, List.mem_of_getElem? (i := 27) (by decide +kernel), List.mem_of_getElem? (i := 496) (by decide +kernel), List.mem_of_getElem? (i := 497) (by decide +kernel)⟩
theorem lw_p10 : lw_okq (⟨"PinnedToFit$Dress", "needOf", "(II)I"⟩, 6) := ⟨⟨by decide +kernel, by decide +kernel⟩, List.mem_of_getElem? (i := 35) (by decide +kernel), List.mem_of_getElem? (i := 517) (by decide +kernel), List.mem_of_getElem? (i := 518) (by decide +kernel)⟩
theorem lw_p11 : lw_okq (⟨"PinnedToFit", "fitting", "(I)I"⟩, 12) := ⟨⟨by decide +kernel, by decide +kernel⟩, List.mem_of_getElem? (i := 27) (by decide +kernel), List.mem_of_getElem? (i := 531) (by decide +kernel), List.mem_of_getElem? (i := 532) (by decide +kernel)⟩
theorem lw_p12 : lw_okq (⟨"PinnedToFit", "pinsRefusal", "(I)I"⟩, 12) := ⟨⟨by decide +kernel, by decide +kernel⟩, List.mem_of_getElem? (i := 27) (by decide +kernel), List.mem_of_getElem? (i := 552) (by decide +kernel), List.mem_of_getElem? (i := 553) (by decide +kernel)⟩
theorem lw_p13 : lw_okq (⟨"PinnedToFit", "tellsPins", "(LPinnedToFit$Shelf;)Z"⟩, 12) := ⟨⟨by decide +kernel, by decide +kernel⟩, List.mem_of_getElem? (i := 27) (by decide +kernel), List.mem_of_getElem? (i := 556) (by decide +kernel), List.mem_of_getElem? (i := 557) (by decide +kernel)⟩
theorem lw_p14 : lw_okq (⟨"PinnedToFit", "sewSetInMind", "(LPinnedToFit$Shelf;I)Z"⟩, 12) := ⟨⟨by decide +kernel, by decide +kernel⟩, List.mem_of_getElem? (i := 27) (by decide +kernel), List.mem_of_getElem? (i := 564) (by decide +kernel), List.mem_of_getElem? (i := 565) (by decide +kernel)⟩
theorem lw_p15 : lw_okq (⟨"PinnedToFit", "sewPinOfRow", "(LPinnedToFit$Dress;LPinnedToFit$Shelf;I)Z"⟩, 12) := ⟨⟨by decide +kernel, by decide +kernel⟩, List.mem_of_getElem? (i := 27) (by decide +kernel), List.mem_of_getElem? (i := 568) (by decide +kernel), List.mem_of_getElem? (i := 569) (by decide +kernel)⟩
def lw_privs_1 : List (MethodName × Nat) := [(⟨"PinnedToFit", "rowRefusal", "(II)I"⟩, 12), (⟨"PinnedToFit", "shelfAt", "(I)LPinnedToFit$Shelf;"⟩, 12), (⟨"PinnedToFit", "statementsOf", "(LPinnedToFit$Shelf;)I"⟩, 12), (⟨"PinnedToFit$Text", "readPart", "(LPinnedToFit$Shelf;C)Z"⟩, 4), (⟨"PinnedToFit$Text", "readNumber", "(LPinnedToFit$Shelf;Z)Z"⟩, 4), (⟨"PinnedToFit$Text", "digitHere", "(LPinnedToFit$Shelf;)I"⟩, 4), (⟨"PinnedToFit", "carryOut", "(LPinnedToFit$Dress;)Z"⟩, 12), (⟨"PinnedToFit$Dress", "set", "(III)V"⟩, 6), (⟨"PinnedToFit", "kindAt", "(I)LPinnedToFit$Pin;"⟩, 12), (⟨"PinnedToFit", "pinRefusal", "(I)I"⟩, 12), (⟨"PinnedToFit$Dress", "needOf", "(II)I"⟩, 6), (⟨"PinnedToFit", "fitting", "(I)I"⟩, 12), (⟨"PinnedToFit", "pinsRefusal", "(I)I"⟩, 12), (⟨"PinnedToFit", "tellsPins", "(LPinnedToFit$Shelf;)Z"⟩, 12), (⟨"PinnedToFit", "sewSetInMind", "(LPinnedToFit$Shelf;I)Z"⟩, 12), (⟨"PinnedToFit", "sewPinOfRow", "(LPinnedToFit$Dress;LPinnedToFit$Shelf;I)Z"⟩, 12)]
theorem lw_r1 : ∀ q ∈ lw_privs_1, lw_okq q := List.forall_mem_cons.mpr ⟨lw_p0, List.forall_mem_cons.mpr ⟨lw_p1, List.forall_mem_cons.mpr ⟨lw_p2, List.forall_mem_cons.mpr ⟨lw_p3, List.forall_mem_cons.mpr ⟨lw_p4, List.forall_mem_cons.mpr ⟨lw_p5, List.forall_mem_cons.mpr ⟨lw_p6, List.forall_mem_cons.mpr ⟨lw_p7, List.forall_mem_cons.mpr ⟨lw_p8, List.forall_mem_cons.mpr ⟨lw_p9, List.forall_mem_cons.mpr ⟨lw_p10, List.forall_mem_cons.mpr ⟨lw_p11, List.forall_mem_cons.mpr ⟨lw_p12, List.forall_mem_cons.mpr ⟨lw_p13, List.forall_mem_cons.mpr ⟨lw_p14, List.forall_mem_cons.mpr ⟨lw_p15, fun _ h => absurd h List.not_mem_nil⟩⟩⟩⟩⟩⟩⟩⟩⟩⟩⟩⟩⟩⟩⟩⟩
theorem lw_p16 : lw_okq (⟨"PinnedToFit", "costOfSet", "(LPinnedToFit$Shelf;I)I"⟩, 12) := ⟨⟨by decide +kernel, by decide +kernel⟩, List.mem_of_getElem? (i := 27) (by decide +kernel), List.mem_of_getElem? (i := 572) (by decide +kernel), List.mem_of_getElem? (i := 573) (by decide +kernel)⟩
theorem lw_p17 : lw_okq (⟨"PinnedToFit", "stepAt", "(I)LPinnedToFit$Dress;"⟩, 12) := ⟨⟨by decide +kernel, by decide +kernel⟩, List.mem_of_getElem? (i := 27) (by decide +kernel), List.mem_of_getElem? (i := 584) (by decide +kernel), List.mem_of_getElem? (i := 585) (by decide +kernel)⟩
theorem lw_p18 : lw_okq (⟨"PinnedToFit", "walkOrders", "(LPinnedToFit$Shelf;II)V"⟩, 12) := ⟨⟨by decide +kernel, by decide +kernel⟩, List.mem_of_getElem? (i := 27) (by decide +kernel), List.mem_of_getElem? (i := 588) (by decide +kernel), List.mem_of_getElem? (i := 589) (by decide +kernel)⟩
theorem lw_p19 : lw_okq (⟨"PinnedToFit", "tellsMeasures", "(LPinnedToFit$Shelf;)Z"⟩, 12) := ⟨⟨by decide +kernel, by decide +kernel⟩, List.mem_of_getElem? (i := 27) (by decide +kernel), List.mem_of_getElem? (i := 609) (by decide +kernel), List.mem_of_getElem? (i := 610) (by decide +kernel)⟩
theorem lw_p20 : lw_okq (⟨"PinnedToFit", "firstWrongMeasure", "(LPinnedToFit$Shelf;)I"⟩, 12) := ⟨⟨by decide +kernel, by decide +kernel⟩, List.mem_of_getElem? (i := 27) (by decide +kernel), List.mem_of_getElem? (i := 613) (by decide +kernel), List.mem_of_getElem? (i := 614) (by decide +kernel)⟩
theorem lw_p21 : lw_okq (⟨"PinnedToFit", "isWrongMeasure", "(LPinnedToFit$Shelf;I)Z"⟩, 12) := ⟨⟨by decide +kernel, by decide +kernel⟩, List.mem_of_getElem? (i := 27) (by decide +kernel), List.mem_of_getElem? (i := 617) (by decide +kernel), List.mem_of_getElem? (i := 618) (by decide +kernel)⟩
theorem lw_p22 : lw_okq (⟨"PinnedToFit", "ringMostWrong", "(LPinnedToFit$Shelf;)I"⟩, 12) := ⟨⟨by decide +kernel, by decide +kernel⟩, List.mem_of_getElem? (i := 27) (by decide +kernel), List.mem_of_getElem? (i := 621) (by decide +kernel), List.mem_of_getElem? (i := 622) (by decide +kernel)⟩
theorem lw_p23 : lw_okq (⟨"PinnedToFit", "timesWrong", "(LPinnedToFit$Shelf;I)I"⟩, 12) := ⟨⟨by decide +kernel, by decide +kernel⟩, List.mem_of_getElem? (i := 27) (by decide +kernel), List.mem_of_getElem? (i := 625) (by decide +kernel), List.mem_of_getElem? (i := 626) (by decide +kernel)⟩
theorem lw_p24 : lw_okq (⟨"PinnedToFit", "lengthsRefusal", "(II)I"⟩, 12) := ⟨⟨by decide +kernel, by decide +kernel⟩, List.mem_of_getElem? (i := 27) (by decide +kernel), List.mem_of_getElem? (i := 633) (by decide +kernel), List.mem_of_getElem? (i := 634) (by decide +kernel)⟩
theorem lw_p25 : lw_okq (⟨"PinnedToFit", "girlsWithoutSize", "(LPinnedToFit$Shelf;ILPinnedToFit$Shelf;)I"⟩, 12) := ⟨⟨by decide +kernel, by decide +kernel⟩, List.mem_of_getElem? (i := 27) (by decide +kernel), List.mem_of_getElem? (i := 640) (by decide +kernel), List.mem_of_getElem? (i := 641) (by decide +kernel)⟩
theorem lw_p26 : lw_okq (⟨"PinnedToFit", "spareOfSizes", "(LPinnedToFit$Shelf;ILPinnedToFit$Shelf;)I"⟩, 12) := ⟨⟨by decide +kernel, by decide +kernel⟩, List.mem_of_getElem? (i := 27) (by decide +kernel), List.mem_of_getElem? (i := 647) (by decide +kernel), List.mem_of_getElem? (i := 648) (by decide +kernel)⟩
theorem lw_p27 : lw_okq (⟨"PinnedToFit", "oneMoreSize", "(LPinnedToFit$Shelf;LPinnedToFit$Shelf;)I"⟩, 12) := ⟨⟨by decide +kernel, by decide +kernel⟩, List.mem_of_getElem? (i := 27) (by decide +kernel), List.mem_of_getElem? (i := 651) (by decide +kernel), List.mem_of_getElem? (i := 652) (by decide +kernel)⟩
theorem lw_p28 : lw_okq (⟨"PinnedToFit", "tightestSource", "(II)I"⟩, 12) := ⟨⟨by decide +kernel, by decide +kernel⟩, List.mem_of_getElem? (i := 27) (by decide +kernel), List.mem_of_getElem? (i := 659) (by decide +kernel), List.mem_of_getElem? (i := 660) (by decide +kernel)⟩
theorem lw_p29 : lw_okq (⟨"java/lang/Throwable", "fillInStackTrace", "(I)Ljava/lang/Throwable;"⟩, 6) := ⟨⟨by decide +kernel, by decide +kernel⟩, List.mem_of_getElem? (i := 806) (by decide +kernel), List.mem_of_getElem? (i := 804) (by decide +kernel), List.mem_of_getElem? (i := 805) (by decide +kernel)⟩
theorem lw_p30 : lw_okq (⟨"PinnedToFitModel", "carryAll", "([IZ)V"⟩, 38) := ⟨⟨by decide +kernel, by decide +kernel⟩, List.mem_of_getElem? (i := 890) (by decide +kernel), List.mem_of_getElem? (i := 1020) (by decide +kernel), List.mem_of_getElem? (i := 1021) (by decide +kernel)⟩
theorem lw_p31 : lw_okq (⟨"PinnedToFitModel", "carry", "(I)I"⟩, 38) := ⟨⟨by decide +kernel, by decide +kernel⟩, List.mem_of_getElem? (i := 890) (by decide +kernel), List.mem_of_getElem? (i := 1024) (by decide +kernel), List.mem_of_getElem? (i := 1025) (by decide +kernel)⟩
def lw_privs_2 : List (MethodName × Nat) := [(⟨"PinnedToFit", "costOfSet", "(LPinnedToFit$Shelf;I)I"⟩, 12), (⟨"PinnedToFit", "stepAt", "(I)LPinnedToFit$Dress;"⟩, 12), (⟨"PinnedToFit", "walkOrders", "(LPinnedToFit$Shelf;II)V"⟩, 12), (⟨"PinnedToFit", "tellsMeasures", "(LPinnedToFit$Shelf;)Z"⟩, 12), (⟨"PinnedToFit", "firstWrongMeasure", "(LPinnedToFit$Shelf;)I"⟩, 12), (⟨"PinnedToFit", "isWrongMeasure", "(LPinnedToFit$Shelf;I)Z"⟩, 12), (⟨"PinnedToFit", "ringMostWrong", "(LPinnedToFit$Shelf;)I"⟩, 12), (⟨"PinnedToFit", "timesWrong", "(LPinnedToFit$Shelf;I)I"⟩, 12), (⟨"PinnedToFit", "lengthsRefusal", "(II)I"⟩, 12), (⟨"PinnedToFit", "girlsWithoutSize", "(LPinnedToFit$Shelf;ILPinnedToFit$Shelf;)I"⟩, 12), (⟨"PinnedToFit", "spareOfSizes", "(LPinnedToFit$Shelf;ILPinnedToFit$Shelf;)I"⟩, 12), (⟨"PinnedToFit", "oneMoreSize", "(LPinnedToFit$Shelf;LPinnedToFit$Shelf;)I"⟩, 12), (⟨"PinnedToFit", "tightestSource", "(II)I"⟩, 12), (⟨"java/lang/Throwable", "fillInStackTrace", "(I)Ljava/lang/Throwable;"⟩, 6), (⟨"PinnedToFitModel", "carryAll", "([IZ)V"⟩, 38), (⟨"PinnedToFitModel", "carry", "(I)I"⟩, 38)]
theorem lw_r2 : ∀ q ∈ lw_privs_2, lw_okq q := List.forall_mem_cons.mpr ⟨lw_p16, List.forall_mem_cons.mpr ⟨lw_p17, List.forall_mem_cons.mpr ⟨lw_p18, List.forall_mem_cons.mpr ⟨lw_p19, List.forall_mem_cons.mpr ⟨lw_p20, List.forall_mem_cons.mpr ⟨lw_p21, List.forall_mem_cons.mpr ⟨lw_p22, List.forall_mem_cons.mpr ⟨lw_p23, List.forall_mem_cons.mpr ⟨lw_p24, List.forall_mem_cons.mpr ⟨lw_p25, List.forall_mem_cons.mpr ⟨lw_p26, List.forall_mem_cons.mpr ⟨lw_p27, List.forall_mem_cons.mpr ⟨lw_p28, List.forall_mem_cons.mpr ⟨lw_p29, List.forall_mem_cons.mpr ⟨lw_p30, List.forall_mem_cons.mpr ⟨lw_p31, fun _ h => absurd h List.not_mem_nil⟩⟩⟩⟩⟩⟩⟩⟩⟩⟩⟩⟩⟩⟩⟩⟩
theorem lw_p32 : lw_okq (⟨"PinnedToFitModel", "wrongSort", "(II)I"⟩, 38) := ⟨⟨by decide +kernel, by decide +kernel⟩, List.mem_of_getElem? (i := 890) (by decide +kernel), List.mem_of_getElem? (i := 1036) (by decide +kernel), List.mem_of_getElem? (i := 1037) (by decide +kernel)⟩
theorem lw_p33 : lw_okq (⟨"PinnedToFitModel", "wrongRow", "(I)I"⟩, 38) := ⟨⟨by decide +kernel, by decide +kernel⟩, List.mem_of_getElem? (i := 890) (by decide +kernel), List.mem_of_getElem? (i := 1040) (by decide +kernel), List.mem_of_getElem? (i := 1041) (by decide +kernel)⟩
theorem lw_p34 : lw_okq (⟨"PinnedToFitModel", "readStatement", "()V"⟩, 38) := ⟨⟨by decide +kernel, by decide +kernel⟩, List.mem_of_getElem? (i := 890) (by decide +kernel), List.mem_of_getElem? (i := 1048) (by decide +kernel), List.mem_of_getElem? (i := 1049) (by decide +kernel)⟩
theorem lw_p35 : lw_okq (⟨"PinnedToFitModel", "here", "()I"⟩, 38) := ⟨⟨by decide +kernel, by decide +kernel⟩, List.mem_of_getElem? (i := 890) (by decide +kernel), List.mem_of_getElem? (i := 1052) (by decide +kernel), List.mem_of_getElem? (i := 1053) (by decide +kernel)⟩
theorem lw_p36 : lw_okq (⟨"PinnedToFitModel", "readNumber", "()I"⟩, 38) := ⟨⟨by decide +kernel, by decide +kernel⟩, List.mem_of_getElem? (i := 890) (by decide +kernel), List.mem_of_getElem? (i := 1056) (by decide +kernel), List.mem_of_getElem? (i := 1057) (by decide +kernel)⟩
theorem lw_p37 : lw_okq (⟨"PinnedToFitModel", "readDigit", "()I"⟩, 38) := ⟨⟨by decide +kernel, by decide +kernel⟩, List.mem_of_getElem? (i := 890) (by decide +kernel), List.mem_of_getElem? (i := 1060) (by decide +kernel), List.mem_of_getElem? (i := 1061) (by decide +kernel)⟩
theorem lw_p38 : lw_okq (⟨"PinnedToFitModel", "take", "(I)V"⟩, 38) := ⟨⟨by decide +kernel, by decide +kernel⟩, List.mem_of_getElem? (i := 890) (by decide +kernel), List.mem_of_getElem? (i := 1066) (by decide +kernel), List.mem_of_getElem? (i := 1067) (by decide +kernel)⟩
theorem lw_p39 : lw_okq (⟨"PinnedToFitModel", "open", "()V"⟩, 38) := ⟨⟨by decide +kernel, by decide +kernel⟩, List.mem_of_getElem? (i := 890) (by decide +kernel), List.mem_of_getElem? (i := 1070) (by decide +kernel), List.mem_of_getElem? (i := 1071) (by decide +kernel)⟩
theorem lw_p40 : lw_okq (⟨"PinnedToFitModel", "comes", "(I)Z"⟩, 38) := ⟨⟨by decide +kernel, by decide +kernel⟩, List.mem_of_getElem? (i := 890) (by decide +kernel), List.mem_of_getElem? (i := 1074) (by decide +kernel), List.mem_of_getElem? (i := 1075) (by decide +kernel)⟩
theorem lw_p41 : lw_okq (⟨"PinnedToFitModel", "ringComes", "(I)Z"⟩, 38) := ⟨⟨by decide +kernel, by decide +kernel⟩, List.mem_of_getElem? (i := 890) (by decide +kernel), List.mem_of_getElem? (i := 1078) (by decide +kernel), List.mem_of_getElem? (i := 1079) (by decide +kernel)⟩
theorem lw_p42 : lw_okq (⟨"PinnedToFitModel", "isRing", "(I)Z"⟩, 38) := ⟨⟨by decide +kernel, by decide +kernel⟩, List.mem_of_getElem? (i := 890) (by decide +kernel), List.mem_of_getElem? (i := 1082) (by decide +kernel), List.mem_of_getElem? (i := 1083) (by decide +kernel)⟩
theorem lw_p43 : lw_okq (⟨"PinnedToFitModel", "mayBe", "(III)Z"⟩, 38) := ⟨⟨by decide +kernel, by decide +kernel⟩, List.mem_of_getElem? (i := 890) (by decide +kernel), List.mem_of_getElem? (i := 1086) (by decide +kernel), List.mem_of_getElem? (i := 1087) (by decide +kernel)⟩
theorem lw_p44 : lw_okq (⟨"PinnedToFitModel", "does", "(III)V"⟩, 38) := ⟨⟨by decide +kernel, by decide +kernel⟩, List.mem_of_getElem? (i := 890) (by decide +kernel), List.mem_of_getElem? (i := 1090) (by decide +kernel), List.mem_of_getElem? (i := 1091) (by decide +kernel)⟩
theorem lw_p45 : lw_okq (⟨"PinnedToFitModel", "widen", "(II)V"⟩, 38) := ⟨⟨by decide +kernel, by decide +kernel⟩, List.mem_of_getElem? (i := 890) (by decide +kernel), List.mem_of_getElem? (i := 1097) (by decide +kernel), List.mem_of_getElem? (i := 1098) (by decide +kernel)⟩
theorem lw_p46 : lw_okq (⟨"PinnedToFitModel", "close", "()V"⟩, 38) := ⟨⟨by decide +kernel, by decide +kernel⟩, List.mem_of_getElem? (i := 890) (by decide +kernel), List.mem_of_getElem? (i := 1104) (by decide +kernel), List.mem_of_getElem? (i := 1105) (by decide +kernel)⟩
theorem lw_p47 : lw_okq (⟨"PinnedToFitModel", "wrongPin", "(I)I"⟩, 38) := ⟨⟨by decide +kernel, by decide +kernel⟩, List.mem_of_getElem? (i := 890) (by decide +kernel), List.mem_of_getElem? (i := 1123) (by decide +kernel), List.mem_of_getElem? (i := 1124) (by decide +kernel)⟩
def lw_privs_3 : List (MethodName × Nat) := [(⟨"PinnedToFitModel", "wrongSort", "(II)I"⟩, 38), (⟨"PinnedToFitModel", "wrongRow", "(I)I"⟩, 38), (⟨"PinnedToFitModel", "readStatement", "()V"⟩, 38), (⟨"PinnedToFitModel", "here", "()I"⟩, 38), (⟨"PinnedToFitModel", "readNumber", "()I"⟩, 38), (⟨"PinnedToFitModel", "readDigit", "()I"⟩, 38), (⟨"PinnedToFitModel", "take", "(I)V"⟩, 38), (⟨"PinnedToFitModel", "open", "()V"⟩, 38), (⟨"PinnedToFitModel", "comes", "(I)Z"⟩, 38), (⟨"PinnedToFitModel", "ringComes", "(I)Z"⟩, 38), (⟨"PinnedToFitModel", "isRing", "(I)Z"⟩, 38), (⟨"PinnedToFitModel", "mayBe", "(III)Z"⟩, 38), (⟨"PinnedToFitModel", "does", "(III)V"⟩, 38), (⟨"PinnedToFitModel", "widen", "(II)V"⟩, 38), (⟨"PinnedToFitModel", "close", "()V"⟩, 38), (⟨"PinnedToFitModel", "wrongPin", "(I)I"⟩, 38)]
theorem lw_r3 : ∀ q ∈ lw_privs_3, lw_okq q := List.forall_mem_cons.mpr ⟨lw_p32, List.forall_mem_cons.mpr ⟨lw_p33, List.forall_mem_cons.mpr ⟨lw_p34, List.forall_mem_cons.mpr ⟨lw_p35, List.forall_mem_cons.mpr ⟨lw_p36, List.forall_mem_cons.mpr ⟨lw_p37, List.forall_mem_cons.mpr ⟨lw_p38, List.forall_mem_cons.mpr ⟨lw_p39, List.forall_mem_cons.mpr ⟨lw_p40, List.forall_mem_cons.mpr ⟨lw_p41, List.forall_mem_cons.mpr ⟨lw_p42, List.forall_mem_cons.mpr ⟨lw_p43, List.forall_mem_cons.mpr ⟨lw_p44, List.forall_mem_cons.mpr ⟨lw_p45, List.forall_mem_cons.mpr ⟨lw_p46, List.forall_mem_cons.mpr ⟨lw_p47, fun _ h => absurd h List.not_mem_nil⟩⟩⟩⟩⟩⟩⟩⟩⟩⟩⟩⟩⟩⟩⟩⟩
theorem lw_p48 : lw_okq (⟨"PinnedToFitModel", "lacksNow", "()I"⟩, 38) := ⟨⟨by decide +kernel, by decide +kernel⟩, List.mem_of_getElem? (i := 890) (by decide +kernel), List.mem_of_getElem? (i := 1131) (by decide +kernel), List.mem_of_getElem? (i := 1132) (by decide +kernel)⟩
theorem lw_p49 : lw_okq (⟨"PinnedToFitModel", "easeOf", "(II)I"⟩, 38) := ⟨⟨by decide +kernel, by decide +kernel⟩, List.mem_of_getElem? (i := 890) (by decide +kernel), List.mem_of_getElem? (i := 1135) (by decide +kernel), List.mem_of_getElem? (i := 1136) (by decide +kernel)⟩
theorem lw_p50 : lw_okq (⟨"PinnedToFitModel", "fits", "(II)Z"⟩, 38) := ⟨⟨by decide +kernel, by decide +kernel⟩, List.mem_of_getElem? (i := 890) (by decide +kernel), List.mem_of_getElem? (i := 1149) (by decide +kernel), List.mem_of_getElem? (i := 1150) (by decide +kernel)⟩
theorem lw_p51 : lw_okq (⟨"PinnedToFitModel", "wrongPins", "(I)I"⟩, 38) := ⟨⟨by decide +kernel, by decide +kernel⟩, List.mem_of_getElem? (i := 890) (by decide +kernel), List.mem_of_getElem? (i := 1165) (by decide +kernel), List.mem_of_getElem? (i := 1166) (by decide +kernel)⟩
theorem lw_p52 : lw_okq (⟨"PinnedToFitModel", "told", "(II)I"⟩, 38) := ⟨⟨by decide +kernel, by decide +kernel⟩, List.mem_of_getElem? (i := 890) (by decide +kernel), List.mem_of_getElem? (i := 1169) (by decide +kernel), List.mem_of_getElem? (i := 1170) (by decide +kernel)⟩
theorem lw_p53 : lw_okq (⟨"PinnedToFitModel", "puts", "(II)Z"⟩, 38) := ⟨⟨by decide +kernel, by decide +kernel⟩, List.mem_of_getElem? (i := 890) (by decide +kernel), List.mem_of_getElem? (i := 1173) (by decide +kernel), List.mem_of_getElem? (i := 1174) (by decide +kernel)⟩
theorem lw_p54 : lw_okq (⟨"PinnedToFitModel", "power", "(I)I"⟩, 38) := ⟨⟨by decide +kernel, by decide +kernel⟩, List.mem_of_getElem? (i := 890) (by decide +kernel), List.mem_of_getElem? (i := 1185) (by decide +kernel), List.mem_of_getElem? (i := 1186) (by decide +kernel)⟩
theorem lw_p55 : lw_okq (⟨"PinnedToFitModel", "wrongList", "(II)I"⟩, 38) := ⟨⟨by decide +kernel, by decide +kernel⟩, List.mem_of_getElem? (i := 890) (by decide +kernel), List.mem_of_getElem? (i := 1213) (by decide +kernel), List.mem_of_getElem? (i := 1214) (by decide +kernel)⟩
theorem lw_p56 : lw_okq (⟨"PinnedToFitModel", "dressGirls", "(III)V"⟩, 38) := ⟨⟨by decide +kernel, by decide +kernel⟩, List.mem_of_getElem? (i := 890) (by decide +kernel), List.mem_of_getElem? (i := 1217) (by decide +kernel), List.mem_of_getElem? (i := 1218) (by decide +kernel)⟩
theorem lw_p57 : lw_okq (⟨"PinnedToFitModel", "draw", "(I)I"⟩, 38) := ⟨⟨by decide +kernel, by decide +kernel⟩, List.mem_of_getElem? (i := 890) (by decide +kernel), List.mem_of_getElem? (i := 1233) (by decide +kernel), List.mem_of_getElem? (i := 1234) (by decide +kernel)⟩
theorem lw_p58 : lw_okq (⟨"PinnedToFitModel", "skippedIn", "(I)J"⟩, 38) := ⟨⟨by decide +kernel, by decide +kernel⟩, List.mem_of_getElem? (i := 890) (by decide +kernel), List.mem_of_getElem? (i := 1244) (by decide +kernel), List.mem_of_getElem? (i := 1245) (by decide +kernel)⟩
def lw_privs_4 : List (MethodName × Nat) := [(⟨"PinnedToFitModel", "lacksNow", "()I"⟩, 38), (⟨"PinnedToFitModel", "easeOf", "(II)I"⟩, 38), (⟨"PinnedToFitModel", "fits", "(II)Z"⟩, 38), (⟨"PinnedToFitModel", "wrongPins", "(I)I"⟩, 38), (⟨"PinnedToFitModel", "told", "(II)I"⟩, 38), (⟨"PinnedToFitModel", "puts", "(II)Z"⟩, 38), (⟨"PinnedToFitModel", "power", "(I)I"⟩, 38), (⟨"PinnedToFitModel", "wrongList", "(II)I"⟩, 38), (⟨"PinnedToFitModel", "dressGirls", "(III)V"⟩, 38), (⟨"PinnedToFitModel", "draw", "(I)I"⟩, 38), (⟨"PinnedToFitModel", "skippedIn", "(I)J"⟩, 38)]
theorem lw_r4 : ∀ q ∈ lw_privs_4, lw_okq q := List.forall_mem_cons.mpr ⟨lw_p48, List.forall_mem_cons.mpr ⟨lw_p49, List.forall_mem_cons.mpr ⟨lw_p50, List.forall_mem_cons.mpr ⟨lw_p51, List.forall_mem_cons.mpr ⟨lw_p52, List.forall_mem_cons.mpr ⟨lw_p53, List.forall_mem_cons.mpr ⟨lw_p54, List.forall_mem_cons.mpr ⟨lw_p55, List.forall_mem_cons.mpr ⟨lw_p56, List.forall_mem_cons.mpr ⟨lw_p57, List.forall_mem_cons.mpr ⟨lw_p58, fun _ h => absurd h List.not_mem_nil⟩⟩⟩⟩⟩⟩⟩⟩⟩⟩⟩
def lw_privs : List (MethodName × Nat) := lw_privs_1 ++ (lw_privs_2 ++ (lw_privs_3 ++ (lw_privs_4)))
def lw_tbl : List Cond := k2_sels lw_privs ++ tables_1
theorem lw_privs_ok : ∀ q ∈ lw_privs, lw_okq q := by
  show ∀ q ∈ lw_privs_1 ++ (lw_privs_2 ++ (lw_privs_3 ++ (lw_privs_4))), lw_okq q
  exact List.forall_mem_append.mpr ⟨lw_r1, List.forall_mem_append.mpr ⟨lw_r2, List.forall_mem_append.mpr ⟨lw_r3, lw_r4⟩⟩⟩
end
section
def RX0 : String := "PinnedToFit$Dress"
def TX0 : u_T := fun k => match k with
  | 0 => ("PinnedToFit$Dress", "cells", "[I", true)
  | 1 => ("PinnedToFit$Dress", "rings", "I", false)
  | 2 => ("PinnedToFit$Dress", "tight", "I", false)
  | 3 => ("PinnedToFit$Dress", "loose", "I", false)
  | 4 => ("PinnedToFit$Dress", "holes", "I", false)
  | _ => ("PinnedToFit$Dress", "spent", "I", false)
def tyX0 : Nat → FieldType := fun k => match k with
  | 0 => .array .int
  | 1 => .int
  | 2 => .int
  | 3 => .int
  | 4 => .int
  | _ => .int
theorem nmX0 : ∀ a, a < 6 → ∀ b, b < 6 → a ≠ b → (TX0 a).2.1 ≠ (TX0 b).2.1 := by decide +kernel
theorem tyX0_ok : ∀ k, k < 6 → parseFieldDescriptor (TX0 k).2.2.1 = some (tyX0 k) := by decide +kernel
abbrev cX0_init : ByteArray := prog_2_method_1_code
def yX0_init : MethodName := ⟨RX0, "<init>", "()V"⟩
abbrev cX0_becomeLike : ByteArray := prog_2_method_2_code
def yX0_becomeLike : MethodName := ⟨RX0, "becomeLike", "(LPinnedToFit$Dress;)V"⟩
abbrev cX0_has : ByteArray := prog_2_method_3_code
def yX0_has : MethodName := ⟨RX0, "has", "(I)Z"⟩
abbrev cX0_get : ByteArray := prog_2_method_4_code
def yX0_get : MethodName := ⟨RX0, "get", "(II)I"⟩
abbrev cX0_set : ByteArray := prog_2_method_5_code
def yX0_set : MethodName := ⟨RX0, "set", "(III)V"⟩
abbrev cX0_widen : ByteArray := prog_2_method_6_code
def yX0_widen : MethodName := ⟨RX0, "widen", "(II)V"⟩
abbrev cX0_keepMore : ByteArray := prog_2_method_7_code
def yX0_keepMore : MethodName := ⟨RX0, "keepMore", "(II)V"⟩
abbrev cX0_pierce : ByteArray := prog_2_method_8_code
def yX0_pierce : MethodName := ⟨RX0, "pierce", "(I)V"⟩
abbrev cX0_addRing : ByteArray := prog_2_method_9_code
def yX0_addRing : MethodName := ⟨RX0, "addRing", "(IIII)Z"⟩
abbrev cX0_allows : ByteArray := prog_2_method_10_code
def yX0_allows : MethodName := ⟨RX0, "allows", "(LPinnedToFit$Pin;II)Z"⟩
abbrev cX0_tryPin : ByteArray := prog_2_method_11_code
def yX0_tryPin : MethodName := ⟨RX0, "tryPin", "(LPinnedToFit$Pin;II)Z"⟩
abbrev cX0_needOf : ByteArray := prog_2_method_12_code
def yX0_needOf : MethodName := ⟨RX0, "needOf", "(II)I"⟩
abbrev cX0_easeAt : ByteArray := prog_2_method_13_code
def yX0_easeAt : MethodName := ⟨RX0, "easeAt", "(II)I"⟩
abbrev cX0_fits : ByteArray := prog_2_method_14_code
def yX0_fits : MethodName := ⟨RX0, "fits", "(II)Z"⟩
abbrev cX0_lacking : ByteArray := prog_2_method_15_code
def yX0_lacking : MethodName := ⟨RX0, "lacking", "()I"⟩
abbrev cX0_total : ByteArray := prog_2_method_16_code
def yX0_total : MethodName := ⟨RX0, "total", "(I)I"⟩
def RX1 : String := "PinnedToFit$Last"
def TX1 : u_T := fun k => match k with
  | _ => ("", "", "", false)
def tyX1 : Nat → FieldType := fun k => match k with
  | _ => .int
theorem nmX1 : ∀ a, a < 0 → ∀ b, b < 0 → a ≠ b → (TX1 a).2.1 ≠ (TX1 b).2.1 := by decide +kernel
theorem tyX1_ok : ∀ k, k < 0 → parseFieldDescriptor (TX1 k).2.2.1 = some (tyX1 k) := by decide +kernel
abbrev cX1_init : ByteArray := prog_3_method_1_code
def yX1_init : MethodName := ⟨RX1, "<init>", "()V"⟩
abbrev cX1_canBe : ByteArray := prog_3_method_2_code
def yX1_canBe : MethodName := ⟨RX1, "canBe", "(LPinnedToFit$Dress;II)Z"⟩
abbrev cX1_work : ByteArray := prog_3_method_3_code
def yX1_work : MethodName := ⟨RX1, "work", "(LPinnedToFit$Dress;II)V"⟩
abbrev cX1_cost : ByteArray := prog_3_method_4_code
def yX1_cost : MethodName := ⟨RX1, "cost", "(I)I"⟩
def RX2 : String := "PinnedToFit$Let"
def TX2 : u_T := fun k => match k with
  | _ => ("", "", "", false)
def tyX2 : Nat → FieldType := fun k => match k with
  | _ => .int
theorem nmX2 : ∀ a, a < 0 → ∀ b, b < 0 → a ≠ b → (TX2 a).2.1 ≠ (TX2 b).2.1 := by decide +kernel
theorem tyX2_ok : ∀ k, k < 0 → parseFieldDescriptor (TX2 k).2.2.1 = some (tyX2 k) := by decide +kernel
abbrev cX2_init : ByteArray := prog_4_method_1_code
def yX2_init : MethodName := ⟨RX2, "<init>", "()V"⟩
abbrev cX2_canBe : ByteArray := prog_4_method_2_code
def yX2_canBe : MethodName := ⟨RX2, "canBe", "(LPinnedToFit$Dress;II)Z"⟩
abbrev cX2_work : ByteArray := prog_4_method_3_code
def yX2_work : MethodName := ⟨RX2, "work", "(LPinnedToFit$Dress;II)V"⟩
abbrev cX2_cost : ByteArray := prog_4_method_4_code
def yX2_cost : MethodName := ⟨RX2, "cost", "(I)I"⟩
def RX3 : String := "PinnedToFit$Pin"
def TX3 : u_T := fun k => match k with
  | _ => ("", "", "", false)
def tyX3 : Nat → FieldType := fun k => match k with
  | _ => .int
theorem nmX3 : ∀ a, a < 0 → ∀ b, b < 0 → a ≠ b → (TX3 a).2.1 ≠ (TX3 b).2.1 := by decide +kernel
theorem tyX3_ok : ∀ k, k < 0 → parseFieldDescriptor (TX3 k).2.2.1 = some (tyX3 k) := by decide +kernel
abbrev cX3_init : ByteArray := prog_5_method_1_code
def yX3_init : MethodName := ⟨RX3, "<init>", "()V"⟩
abbrev cX3_canBe : ByteArray := prog_5_method_2_code
def yX3_canBe : MethodName := ⟨RX3, "canBe", "(LPinnedToFit$Dress;II)Z"⟩
abbrev cX3_work : ByteArray := prog_5_method_3_code
def yX3_work : MethodName := ⟨RX3, "work", "(LPinnedToFit$Dress;II)V"⟩
abbrev cX3_cost : ByteArray := prog_5_method_4_code
def yX3_cost : MethodName := ⟨RX3, "cost", "(I)I"⟩
abbrev cX3_fail : ByteArray := prog_5_method_5_code
def yX3_fail : MethodName := ⟨RX3, "fail", "(I)V"⟩
def RX4 : String := "PinnedToFit$SetIn"
def TX4 : u_T := fun k => match k with
  | _ => ("", "", "", false)
def tyX4 : Nat → FieldType := fun k => match k with
  | _ => .int
theorem nmX4 : ∀ a, a < 0 → ∀ b, b < 0 → a ≠ b → (TX4 a).2.1 ≠ (TX4 b).2.1 := by decide +kernel
theorem tyX4_ok : ∀ k, k < 0 → parseFieldDescriptor (TX4 k).2.2.1 = some (tyX4 k) := by decide +kernel
abbrev cX4_init : ByteArray := prog_6_method_1_code
def yX4_init : MethodName := ⟨RX4, "<init>", "()V"⟩
abbrev cX4_canBe : ByteArray := prog_6_method_2_code
def yX4_canBe : MethodName := ⟨RX4, "canBe", "(LPinnedToFit$Dress;II)Z"⟩
abbrev cX4_work : ByteArray := prog_6_method_3_code
def yX4_work : MethodName := ⟨RX4, "work", "(LPinnedToFit$Dress;II)V"⟩
abbrev cX4_cost : ByteArray := prog_6_method_4_code
def yX4_cost : MethodName := ⟨RX4, "cost", "(I)I"⟩
abbrev cX4_fail : ByteArray := prog_6_method_5_code
def yX4_fail : MethodName := ⟨RX4, "fail", "(I)V"⟩
def RX5 : String := "PinnedToFit$Shelf"
def TX5 : u_T := fun k => match k with
  | 0 => ("PinnedToFit$Shelf", "cells", "[I", true)
  | 1 => ("PinnedToFit$Shelf", "held", "I", false)
  | 2 => ("PinnedToFit$Shelf", "kind", "I", false)
  | 3 => ("PinnedToFit$Shelf", "figure", "I", false)
  | 4 => ("PinnedToFit$Shelf", "sort", "I", false)
  | _ => ("PinnedToFit$Shelf", "size", "I", false)
def tyX5 : Nat → FieldType := fun k => match k with
  | 0 => .array .int
  | 1 => .int
  | 2 => .int
  | 3 => .int
  | 4 => .int
  | _ => .int
theorem nmX5 : ∀ a, a < 6 → ∀ b, b < 6 → a ≠ b → (TX5 a).2.1 ≠ (TX5 b).2.1 := by decide +kernel
theorem tyX5_ok : ∀ k, k < 6 → parseFieldDescriptor (TX5 k).2.2.1 = some (tyX5 k) := by decide +kernel
abbrev cX5_init : ByteArray := prog_7_method_1_code
def yX5_init : MethodName := ⟨RX5, "<init>", "()V"⟩
abbrev cX5_holdNothing : ByteArray := prog_7_method_2_code
def yX5_holdNothing : MethodName := ⟨RX5, "holdNothing", "()V"⟩
abbrev cX5_holdPin : ByteArray := prog_7_method_3_code
def yX5_holdPin : MethodName := ⟨RX5, "holdPin", "(II)V"⟩
abbrev cX5_holdRow : ByteArray := prog_7_method_4_code
def yX5_holdRow : MethodName := ⟨RX5, "holdRow", "(II)V"⟩
abbrev cX5_pinRefusal : ByteArray := prog_7_method_5_code
def yX5_pinRefusal : MethodName := ⟨RX5, "pinRefusal", "()I"⟩
abbrev cX5_rowRefusal : ByteArray := prog_7_method_6_code
def yX5_rowRefusal : MethodName := ⟨RX5, "rowRefusal", "()I"⟩
abbrev cX5_hasPlaces : ByteArray := prog_7_method_7_code
def yX5_hasPlaces : MethodName := ⟨RX5, "hasPlaces", "(II)Z"⟩
abbrev cX5_at : ByteArray := prog_7_method_8_code
def yX5_at : MethodName := ⟨RX5, "at", "(I)I"⟩
abbrev cX5_putAt : ByteArray := prog_7_method_9_code
def yX5_putAt : MethodName := ⟨RX5, "putAt", "(II)V"⟩
abbrev cX5_leastNumber : ByteArray := prog_7_method_10_code
def yX5_leastNumber : MethodName := ⟨RX5, "leastNumber", "()I"⟩
abbrev cX5_takeFrom : ByteArray := prog_7_method_11_code
def yX5_takeFrom : MethodName := ⟨RX5, "takeFrom", "(LPinnedToFit$Shelf;III)V"⟩
def RX6 : String := "PinnedToFit$Shown"
def TX6 : u_T := fun k => match k with
  | _ => ("", "", "", false)
def tyX6 : Nat → FieldType := fun k => match k with
  | _ => .int
theorem nmX6 : ∀ a, a < 0 → ∀ b, b < 0 → a ≠ b → (TX6 a).2.1 ≠ (TX6 b).2.1 := by decide +kernel
theorem tyX6_ok : ∀ k, k < 0 → parseFieldDescriptor (TX6 k).2.2.1 = some (tyX6 k) := by decide +kernel
abbrev cX6_init : ByteArray := prog_8_method_1_code
def yX6_init : MethodName := ⟨RX6, "<init>", "()V"⟩
abbrev cX6_work : ByteArray := prog_8_method_2_code
def yX6_work : MethodName := ⟨RX6, "work", "(LPinnedToFit$Dress;II)V"⟩
abbrev cX6_cost : ByteArray := prog_8_method_3_code
def yX6_cost : MethodName := ⟨RX6, "cost", "(I)I"⟩
def RX7 : String := "PinnedToFit$Taken"
def TX7 : u_T := fun k => match k with
  | _ => ("", "", "", false)
def tyX7 : Nat → FieldType := fun k => match k with
  | _ => .int
theorem nmX7 : ∀ a, a < 0 → ∀ b, b < 0 → a ≠ b → (TX7 a).2.1 ≠ (TX7 b).2.1 := by decide +kernel
theorem tyX7_ok : ∀ k, k < 0 → parseFieldDescriptor (TX7 k).2.2.1 = some (tyX7 k) := by decide +kernel
abbrev cX7_init : ByteArray := prog_9_method_1_code
def yX7_init : MethodName := ⟨RX7, "<init>", "()V"⟩
abbrev cX7_canBe : ByteArray := prog_9_method_2_code
def yX7_canBe : MethodName := ⟨RX7, "canBe", "(LPinnedToFit$Dress;II)Z"⟩
abbrev cX7_work : ByteArray := prog_9_method_3_code
def yX7_work : MethodName := ⟨RX7, "work", "(LPinnedToFit$Dress;II)V"⟩
abbrev cX7_cost : ByteArray := prog_9_method_4_code
def yX7_cost : MethodName := ⟨RX7, "cost", "(I)I"⟩
def RX8 : String := "PinnedToFit$Text"
def TX8 : u_T := fun k => match k with
  | 0 => ("PinnedToFit$Text", "numbers", "[I", true)
  | 1 => ("PinnedToFit$Text", "found", "I", false)
  | 2 => ("PinnedToFit$Text", "place", "I", false)
  | _ => ("PinnedToFit$Text", "letter", "I", false)
def tyX8 : Nat → FieldType := fun k => match k with
  | 0 => .array .int
  | 1 => .int
  | 2 => .int
  | _ => .int
theorem nmX8 : ∀ a, a < 4 → ∀ b, b < 4 → a ≠ b → (TX8 a).2.1 ≠ (TX8 b).2.1 := by decide +kernel
theorem tyX8_ok : ∀ k, k < 4 → parseFieldDescriptor (TX8 k).2.2.1 = some (tyX8 k) := by decide +kernel
abbrev cX8_init : ByteArray := prog_10_method_1_code
def yX8_init : MethodName := ⟨RX8, "<init>", "()V"⟩
abbrev cX8_formBehind : ByteArray := prog_10_method_2_code
def yX8_formBehind : MethodName := ⟨RX8, "formBehind", "(I)Ljava/lang/String;"⟩
abbrev cX8_readStatement : ByteArray := prog_10_method_3_code
def yX8_readStatement : MethodName := ⟨RX8, "readStatement", "(LPinnedToFit$Shelf;)Z"⟩
abbrev cX8_readPart : ByteArray := prog_10_method_4_code
def yX8_readPart : MethodName := ⟨RX8, "readPart", "(LPinnedToFit$Shelf;C)Z"⟩
abbrev cX8_readNumber : ByteArray := prog_10_method_5_code
def yX8_readNumber : MethodName := ⟨RX8, "readNumber", "(LPinnedToFit$Shelf;Z)Z"⟩
abbrev cX8_digitHere : ByteArray := prog_10_method_6_code
def yX8_digitHere : MethodName := ⟨RX8, "digitHere", "(LPinnedToFit$Shelf;)I"⟩
abbrev cX8_number : ByteArray := prog_10_method_7_code
def yX8_number : MethodName := ⟨RX8, "number", "(I)I"⟩
def RX9 : String := "PinnedToFit$Turned"
def TX9 : u_T := fun k => match k with
  | _ => ("", "", "", false)
def tyX9 : Nat → FieldType := fun k => match k with
  | _ => .int
theorem nmX9 : ∀ a, a < 0 → ∀ b, b < 0 → a ≠ b → (TX9 a).2.1 ≠ (TX9 b).2.1 := by decide +kernel
theorem tyX9_ok : ∀ k, k < 0 → parseFieldDescriptor (TX9 k).2.2.1 = some (tyX9 k) := by decide +kernel
abbrev cX9_init : ByteArray := prog_11_method_1_code
def yX9_init : MethodName := ⟨RX9, "<init>", "()V"⟩
abbrev cX9_canBe : ByteArray := prog_11_method_2_code
def yX9_canBe : MethodName := ⟨RX9, "canBe", "(LPinnedToFit$Dress;II)Z"⟩
abbrev cX9_work : ByteArray := prog_11_method_3_code
def yX9_work : MethodName := ⟨RX9, "work", "(LPinnedToFit$Dress;II)V"⟩
abbrev cX9_cost : ByteArray := prog_11_method_4_code
def yX9_cost : MethodName := ⟨RX9, "cost", "(I)I"⟩
abbrev cX9_fail : ByteArray := prog_11_method_5_code
def yX9_fail : MethodName := ⟨RX9, "fail", "(I)V"⟩
def RX10 : String := "PinnedToFit$Undone"
def TX10 : u_T := fun k => match k with
  | _ => ("", "", "", false)
def tyX10 : Nat → FieldType := fun k => match k with
  | _ => .int
theorem nmX10 : ∀ a, a < 0 → ∀ b, b < 0 → a ≠ b → (TX10 a).2.1 ≠ (TX10 b).2.1 := by decide +kernel
theorem tyX10_ok : ∀ k, k < 0 → parseFieldDescriptor (TX10 k).2.2.1 = some (tyX10 k) := by decide +kernel
abbrev cX10_init : ByteArray := prog_12_method_1_code
def yX10_init : MethodName := ⟨RX10, "<init>", "()V"⟩
abbrev cX10_canBe : ByteArray := prog_12_method_2_code
def yX10_canBe : MethodName := ⟨RX10, "canBe", "(LPinnedToFit$Dress;II)Z"⟩
abbrev cX10_work : ByteArray := prog_12_method_3_code
def yX10_work : MethodName := ⟨RX10, "work", "(LPinnedToFit$Dress;II)V"⟩
abbrev cX10_cost : ByteArray := prog_12_method_4_code
def yX10_cost : MethodName := ⟨RX10, "cost", "(I)I"⟩
abbrev cX10_fail : ByteArray := prog_12_method_5_code
def yX10_fail : MethodName := ⟨RX10, "fail", "(I)V"⟩
def RX11 : String := "PinnedToFit"
def TX11 : u_T := fun k => match k with
  | 0 => ("PinnedToFit", "now", "LPinnedToFit$Dress;", true)
  | 1 => ("PinnedToFit", "pictured", "LPinnedToFit$Dress;", true)
  | 2 => ("PinnedToFit", "mind", "LPinnedToFit$Dress;", true)
  | 3 => ("PinnedToFit", "steps", "[LPinnedToFit$Dress;", true)
  | 4 => ("PinnedToFit", "shelves", "[LPinnedToFit$Shelf;", true)
  | 5 => ("PinnedToFit", "noShelf", "LPinnedToFit$Shelf;", true)
  | 6 => ("PinnedToFit", "kinds", "[LPinnedToFit$Pin;", true)
  | 7 => ("PinnedToFit", "plainPin", "LPinnedToFit$Pin;", true)
  | 8 => ("PinnedToFit", "text", "LPinnedToFit$Text;", true)
  | 9 => ("PinnedToFit", "imageTaken", "Z", false)
  | 10 => ("PinnedToFit", "ordersFound", "I", false)
  | _ => ("PinnedToFit", "leastOfOrders", "I", false)
def tyX11 : Nat → FieldType := fun k => match k with
  | 0 => .object "PinnedToFit$Dress"
  | 1 => .object "PinnedToFit$Dress"
  | 2 => .object "PinnedToFit$Dress"
  | 3 => .array (.object "PinnedToFit$Dress")
  | 4 => .array (.object "PinnedToFit$Shelf")
  | 5 => .object "PinnedToFit$Shelf"
  | 6 => .array (.object "PinnedToFit$Pin")
  | 7 => .object "PinnedToFit$Pin"
  | 8 => .object "PinnedToFit$Text"
  | 9 => .boolean
  | 10 => .int
  | _ => .int
theorem nmX11 : ∀ a, a < 12 → ∀ b, b < 12 → a ≠ b → (TX11 a).2.1 ≠ (TX11 b).2.1 := by decide +kernel
theorem tyX11_ok : ∀ k, k < 12 → parseFieldDescriptor (TX11 k).2.2.1 = some (tyX11 k) := by decide +kernel
abbrev cX11_init : ByteArray := prog_1_method_1_code
def yX11_init : MethodName := ⟨RX11, "<init>", "()V"⟩
abbrev cX11_dress : ByteArray := prog_1_method_2_code
def yX11_dress : MethodName := ⟨RX11, "dress", "(I)I"⟩
abbrev cX11_ring : ByteArray := prog_1_method_3_code
def yX11_ring : MethodName := ⟨RX11, "ring", "(II)I"⟩
abbrev cX11_line : ByteArray := prog_1_method_4_code
def yX11_line : MethodName := ⟨RX11, "line", "(II)I"⟩
abbrev cX11_may : ByteArray := prog_1_method_5_code
def yX11_may : MethodName := ⟨RX11, "may", "(II)I"⟩
abbrev cX11_pin : ByteArray := prog_1_method_6_code
def yX11_pin : MethodName := ⟨RX11, "pin", "(II)I"⟩
abbrev cX11_ease : ByteArray := prog_1_method_7_code
def yX11_ease : MethodName := ⟨RX11, "ease", "(II)I"⟩
abbrev cX11_fit : ByteArray := prog_1_method_8_code
def yX11_fit : MethodName := ⟨RX11, "fit", "(I)I"⟩
abbrev cX11_lacks : ByteArray := prog_1_method_9_code
def yX11_lacks : MethodName := ⟨RX11, "lacks", "()I"⟩
abbrev cX11_bestPin : ByteArray := prog_1_method_10_code
def yX11_bestPin : MethodName := ⟨RX11, "bestPin", "(II)I"⟩
abbrev cX11_least : ByteArray := prog_1_method_11_code
def yX11_least : MethodName := ⟨RX11, "least", "(II)I"⟩
abbrev cX11_first : ByteArray := prog_1_method_12_code
def yX11_first : MethodName := ⟨RX11, "first", "(I)I"⟩
abbrev cX11_orders : ByteArray := prog_1_method_13_code
def yX11_orders : MethodName := ⟨RX11, "orders", "(II)I"⟩
abbrev cX11_hem : ByteArray := prog_1_method_14_code
def yX11_hem : MethodName := ⟨RX11, "hem", "(III)I"⟩
abbrev cX11_darts : ByteArray := prog_1_method_15_code
def yX11_darts : MethodName := ⟨RX11, "darts", "(IIII)I"⟩
abbrev cX11_stripes : ByteArray := prog_1_method_16_code
def yX11_stripes : MethodName := ⟨RX11, "stripes", "(IIII)I"⟩
abbrev cX11_measures : ByteArray := prog_1_method_17_code
def yX11_measures : MethodName := ⟨RX11, "measures", "(II)I"⟩
abbrev cX11_sizes : ByteArray := prog_1_method_18_code
def yX11_sizes : MethodName := ⟨RX11, "sizes", "(III)I"⟩
abbrev cX11_old : ByteArray := prog_1_method_19_code
def yX11_old : MethodName := ⟨RX11, "old", "(I)I"⟩
abbrev cX11_shape : ByteArray := prog_1_method_20_code
def yX11_shape : MethodName := ⟨RX11, "shape", "(II)I"⟩
abbrev cX11_seeded : ByteArray := prog_1_method_21_code
def yX11_seeded : MethodName := ⟨RX11, "seeded", "(III)I"⟩
abbrev cX11_judge : ByteArray := prog_1_method_22_code
def yX11_judge : MethodName := ⟨RX11, "judge", "(II)I"⟩
abbrev cX11_image : ByteArray := prog_1_method_23_code
def yX11_image : MethodName := ⟨RX11, "image", "()I"⟩
abbrev cX11_restore : ByteArray := prog_1_method_24_code
def yX11_restore : MethodName := ⟨RX11, "restore", "()I"⟩
abbrev cX11_count : ByteArray := prog_1_method_25_code
def yX11_count : MethodName := ⟨RX11, "count", "(I)I"⟩
abbrev cX11_keep : ByteArray := prog_1_method_26_code
def yX11_keep : MethodName := ⟨RX11, "keep", "(IIII)I"⟩
abbrev cX11_row : ByteArray := prog_1_method_27_code
def yX11_row : MethodName := ⟨RX11, "row", "(III)I"⟩
abbrev cX11_put : ByteArray := prog_1_method_28_code
def yX11_put : MethodName := ⟨RX11, "put", "(III)I"⟩
abbrev cX11_element : ByteArray := prog_1_method_29_code
def yX11_element : MethodName := ⟨RX11, "element", "(II)J"⟩
abbrev cX11_copy : ByteArray := prog_1_method_30_code
def yX11_copy : MethodName := ⟨RX11, "copy", "(IIIII)I"⟩
abbrev cX11_minutes : ByteArray := prog_1_method_31_code
def yX11_minutes : MethodName := ⟨RX11, "minutes", "(I)I"⟩
abbrev cX11_toss : ByteArray := prog_1_method_32_code
def yX11_toss : MethodName := ⟨RX11, "toss", "(I)I"⟩
abbrev cX11_within : ByteArray := prog_1_method_33_code
def yX11_within : MethodName := ⟨RX11, "within", "(III)Z"⟩
abbrev cX11_isShelf : ByteArray := prog_1_method_34_code
def yX11_isShelf : MethodName := ⟨RX11, "isShelf", "(I)Z"⟩
abbrev cX11_shelfAt : ByteArray := prog_1_method_35_code
def yX11_shelfAt : MethodName := ⟨RX11, "shelfAt", "(I)LPinnedToFit$Shelf;"⟩
abbrev cX11_kindAt : ByteArray := prog_1_method_36_code
def yX11_kindAt : MethodName := ⟨RX11, "kindAt", "(I)LPinnedToFit$Pin;"⟩
abbrev cX11_stepAt : ByteArray := prog_1_method_37_code
def yX11_stepAt : MethodName := ⟨RX11, "stepAt", "(I)LPinnedToFit$Dress;"⟩
abbrev cX11_pinRefusal : ByteArray := prog_1_method_38_code
def yX11_pinRefusal : MethodName := ⟨RX11, "pinRefusal", "(I)I"⟩
abbrev cX11_rowRefusal : ByteArray := prog_1_method_39_code
def yX11_rowRefusal : MethodName := ⟨RX11, "rowRefusal", "(II)I"⟩
abbrev cX11_pinsRefusal : ByteArray := prog_1_method_40_code
def yX11_pinsRefusal : MethodName := ⟨RX11, "pinsRefusal", "(I)I"⟩
abbrev cX11_lengthsRefusal : ByteArray := prog_1_method_41_code
def yX11_lengthsRefusal : MethodName := ⟨RX11, "lengthsRefusal", "(II)I"⟩
abbrev cX11_statementsOf : ByteArray := prog_1_method_42_code
def yX11_statementsOf : MethodName := ⟨RX11, "statementsOf", "(LPinnedToFit$Shelf;)I"⟩
abbrev cX11_carryOut : ByteArray := prog_1_method_43_code
def yX11_carryOut : MethodName := ⟨RX11, "carryOut", "(LPinnedToFit$Dress;)Z"⟩
abbrev cX11_tellsPins : ByteArray := prog_1_method_44_code
def yX11_tellsPins : MethodName := ⟨RX11, "tellsPins", "(LPinnedToFit$Shelf;)Z"⟩
abbrev cX11_pinsIn : ByteArray := prog_1_method_45_code
def yX11_pinsIn : MethodName := ⟨RX11, "pinsIn", "(LPinnedToFit$Shelf;)I"⟩
abbrev cX11_sewPinOfRow : ByteArray := prog_1_method_46_code
def yX11_sewPinOfRow : MethodName := ⟨RX11, "sewPinOfRow", "(LPinnedToFit$Dress;LPinnedToFit$Shelf;I)Z"⟩
abbrev cX11_sewSetInMind : ByteArray := prog_1_method_47_code
def yX11_sewSetInMind : MethodName := ⟨RX11, "sewSetInMind", "(LPinnedToFit$Shelf;I)Z"⟩
abbrev cX11_costOfSet : ByteArray := prog_1_method_48_code
def yX11_costOfSet : MethodName := ⟨RX11, "costOfSet", "(LPinnedToFit$Shelf;I)I"⟩
abbrev cX11_walkOrders : ByteArray := prog_1_method_49_code
def yX11_walkOrders : MethodName := ⟨RX11, "walkOrders", "(LPinnedToFit$Shelf;II)V"⟩
abbrev cX11_fitting : ByteArray := prog_1_method_50_code
def yX11_fitting : MethodName := ⟨RX11, "fitting", "(I)I"⟩
abbrev cX11_tellsMeasures : ByteArray := prog_1_method_51_code
def yX11_tellsMeasures : MethodName := ⟨RX11, "tellsMeasures", "(LPinnedToFit$Shelf;)Z"⟩
abbrev cX11_isWrongMeasure : ByteArray := prog_1_method_52_code
def yX11_isWrongMeasure : MethodName := ⟨RX11, "isWrongMeasure", "(LPinnedToFit$Shelf;I)Z"⟩
abbrev cX11_firstWrongMeasure : ByteArray := prog_1_method_53_code
def yX11_firstWrongMeasure : MethodName := ⟨RX11, "firstWrongMeasure", "(LPinnedToFit$Shelf;)I"⟩
abbrev cX11_ringMostWrong : ByteArray := prog_1_method_54_code
def yX11_ringMostWrong : MethodName := ⟨RX11, "ringMostWrong", "(LPinnedToFit$Shelf;)I"⟩
abbrev cX11_timesWrong : ByteArray := prog_1_method_55_code
def yX11_timesWrong : MethodName := ⟨RX11, "timesWrong", "(LPinnedToFit$Shelf;I)I"⟩
abbrev cX11_tellsLengths : ByteArray := prog_1_method_56_code
def yX11_tellsLengths : MethodName := ⟨RX11, "tellsLengths", "(LPinnedToFit$Shelf;I)Z"⟩
abbrev cX11_sizeTaken : ByteArray := prog_1_method_57_code
def yX11_sizeTaken : MethodName := ⟨RX11, "sizeTaken", "(LPinnedToFit$Shelf;II)I"⟩
abbrev cX11_girlsWithoutSize : ByteArray := prog_1_method_58_code
def yX11_girlsWithoutSize : MethodName := ⟨RX11, "girlsWithoutSize", "(LPinnedToFit$Shelf;ILPinnedToFit$Shelf;)I"⟩
abbrev cX11_spareOfSizes : ByteArray := prog_1_method_59_code
def yX11_spareOfSizes : MethodName := ⟨RX11, "spareOfSizes", "(LPinnedToFit$Shelf;ILPinnedToFit$Shelf;)I"⟩
abbrev cX11_oneMoreSize : ByteArray := prog_1_method_60_code
def yX11_oneMoreSize : MethodName := ⟨RX11, "oneMoreSize", "(LPinnedToFit$Shelf;LPinnedToFit$Shelf;)I"⟩
abbrev cX11_tightestSource : ByteArray := prog_1_method_61_code
def yX11_tightestSource : MethodName := ⟨RX11, "tightestSource", "(II)I"⟩
abbrev cX11_nextSeed : ByteArray := prog_1_method_62_code
def yX11_nextSeed : MethodName := ⟨RX11, "nextSeed", "(I)I"⟩
abbrev cX11_drawBelow : ByteArray := prog_1_method_63_code
def yX11_drawBelow : MethodName := ⟨RX11, "drawBelow", "(II)I"⟩
def RX12 : String := "PinnedToFitModel"
def TX12 : u_T := fun k => match k with
  | 0 => ("PinnedToFitModel", "rings", "I", false)
  | 1 => ("PinnedToFitModel", "holes", "I", false)
  | 2 => ("PinnedToFitModel", "minutes", "I", false)
  | 3 => ("PinnedToFitModel", "tight", "I", false)
  | 4 => ("PinnedToFitModel", "loose", "I", false)
  | 5 => ("PinnedToFitModel", "girths", "[I", true)
  | 6 => ("PinnedToFitModel", "widths", "[I", true)
  | 7 => ("PinnedToFitModel", "kepts", "[I", true)
  | 8 => ("PinnedToFitModel", "gives", "[I", true)
  | 9 => ("PinnedToFitModel", "thrown", "I", false)
  | 10 => ("PinnedToFitModel", "imaged", "[I", true)
  | 11 => ("PinnedToFitModel", "kept", "[I", true)
  | 12 => ("PinnedToFitModel", "hasImage", "Z", false)
  | 13 => ("PinnedToFitModel", "place", "I", false)
  | 14 => ("PinnedToFitModel", "isTaking", "Z", false)
  | 15 => ("PinnedToFitModel", "keptIn", "[I", false)
  | 16 => ("PinnedToFitModel", "base", "I", false)
  | 17 => ("PinnedToFitModel", "end", "I", false)
  | 18 => ("PinnedToFitModel", "at", "I", false)
  | 19 => ("PinnedToFitModel", "isBad", "Z", false)
  | 20 => ("PinnedToFitModel", "statements", "I", false)
  | 21 => ("PinnedToFitModel", "placeOf", "[I", true)
  | 22 => ("PinnedToFitModel", "letterOf", "[I", true)
  | 23 => ("PinnedToFitModel", "first", "[I", true)
  | 24 => ("PinnedToFitModel", "second", "[I", true)
  | 25 => ("PinnedToFitModel", "third", "[I", true)
  | 26 => ("PinnedToFitModel", "fourth", "[I", true)
  | 27 => ("PinnedToFitModel", "wrongs", "[I", true)
  | 28 => ("PinnedToFitModel", "noneMany", "I", false)
  | 29 => ("PinnedToFitModel", "spare", "I", false)
  | 30 => ("PinnedToFitModel", "seed", "I", false)
  | 31 => ("PinnedToFitModel", "holdsWhat", "[I", true)
  | 32 => ("PinnedToFitModel", "pinKind", "[I", true)
  | 33 => ("PinnedToFitModel", "pinFigure", "[I", true)
  | 34 => ("PinnedToFitModel", "rowSort", "[I", true)
  | 35 => ("PinnedToFitModel", "rowMany", "[I", true)
  | 36 => ("PinnedToFitModel", "rows", "[J", true)
  | _ => ("PinnedToFitModel", "between", "[J", true)
def tyX12 : Nat → FieldType := fun k => match k with
  | 0 => .int
  | 1 => .int
  | 2 => .int
  | 3 => .int
  | 4 => .int
  | 5 => .array .int
  | 6 => .array .int
  | 7 => .array .int
  | 8 => .array .int
  | 9 => .int
  | 10 => .array .int
  | 11 => .array .int
  | 12 => .boolean
  | 13 => .int
  | 14 => .boolean
  | 15 => .array .int
  | 16 => .int
  | 17 => .int
  | 18 => .int
  | 19 => .boolean
  | 20 => .int
  | 21 => .array .int
  | 22 => .array .int
  | 23 => .array .int
  | 24 => .array .int
  | 25 => .array .int
  | 26 => .array .int
  | 27 => .array .int
  | 28 => .int
  | 29 => .int
  | 30 => .int
  | 31 => .array .int
  | 32 => .array .int
  | 33 => .array .int
  | 34 => .array .int
  | 35 => .array .int
  | 36 => .array .long
  | _ => .array .long
theorem nmX12 : ∀ a, a < 38 → ∀ b, b < 38 → a ≠ b → (TX12 a).2.1 ≠ (TX12 b).2.1 := by decide +kernel
theorem tyX12_ok : ∀ k, k < 38 → parseFieldDescriptor (TX12 k).2.2.1 = some (tyX12 k) := by decide +kernel
abbrev cX12_init : ByteArray := prog_14_method_1_code
def yX12_init : MethodName := ⟨RX12, "<init>", "()V"⟩
abbrev cX12_thrown : ByteArray := prog_14_method_2_code
def yX12_thrown : MethodName := ⟨RX12, "thrown", "()I"⟩
abbrev cX12_in : ByteArray := prog_14_method_3_code
def yX12_in : MethodName := ⟨RX12, "in", "(JJJ)Z"⟩
abbrev cX12_isRing : ByteArray := prog_14_method_4_code
def yX12_isRing : MethodName := ⟨RX12, "isRing", "(I)Z"⟩
abbrev cX12_easeOf : ByteArray := prog_14_method_5_code
def yX12_easeOf : MethodName := ⟨RX12, "easeOf", "(II)I"⟩
abbrev cX12_fits : ByteArray := prog_14_method_6_code
def yX12_fits : MethodName := ⟨RX12, "fits", "(II)Z"⟩
abbrev cX12_lacksNow : ByteArray := prog_14_method_7_code
def yX12_lacksNow : MethodName := ⟨RX12, "lacksNow", "()I"⟩
abbrev cX12_minutesOf : ByteArray := prog_14_method_8_code
def yX12_minutesOf : MethodName := ⟨RX12, "minutesOf", "(II)I"⟩
abbrev cX12_mayBe : ByteArray := prog_14_method_9_code
def yX12_mayBe : MethodName := ⟨RX12, "mayBe", "(III)Z"⟩
abbrev cX12_most : ByteArray := prog_14_method_10_code
def yX12_most : MethodName := ⟨RX12, "most", "(II)I"⟩
abbrev cX12_widen : ByteArray := prog_14_method_11_code
def yX12_widen : MethodName := ⟨RX12, "widen", "(II)V"⟩
abbrev cX12_does : ByteArray := prog_14_method_12_code
def yX12_does : MethodName := ⟨RX12, "does", "(III)V"⟩
abbrev cX12_carry : ByteArray := prog_14_method_13_code
def yX12_carry : MethodName := ⟨RX12, "carry", "(I)I"⟩
abbrev cX12_carryAll : ByteArray := prog_14_method_14_code
def yX12_carryAll : MethodName := ⟨RX12, "carryAll", "([IZ)V"⟩
abbrev cX12_open : ByteArray := prog_14_method_15_code
def yX12_open : MethodName := ⟨RX12, "open", "()V"⟩
abbrev cX12_close : ByteArray := prog_14_method_16_code
def yX12_close : MethodName := ⟨RX12, "close", "()V"⟩
abbrev cX12_image : ByteArray := prog_14_method_17_code
def yX12_image : MethodName := ⟨RX12, "image", "()I"⟩
abbrev cX12_restore : ByteArray := prog_14_method_18_code
def yX12_restore : MethodName := ⟨RX12, "restore", "()I"⟩
abbrev cX12_here : ByteArray := prog_14_method_19_code
def yX12_here : MethodName := ⟨RX12, "here", "()I"⟩
abbrev cX12_take : ByteArray := prog_14_method_20_code
def yX12_take : MethodName := ⟨RX12, "take", "(I)V"⟩
abbrev cX12_readDigit : ByteArray := prog_14_method_21_code
def yX12_readDigit : MethodName := ⟨RX12, "readDigit", "()I"⟩
abbrev cX12_readNumber : ByteArray := prog_14_method_22_code
def yX12_readNumber : MethodName := ⟨RX12, "readNumber", "()I"⟩
abbrev cX12_readStatement : ByteArray := prog_14_method_23_code
def yX12_readStatement : MethodName := ⟨RX12, "readStatement", "()V"⟩
abbrev cX12_ringComes : ByteArray := prog_14_method_24_code
def yX12_ringComes : MethodName := ⟨RX12, "ringComes", "(I)Z"⟩
abbrev cX12_comes : ByteArray := prog_14_method_25_code
def yX12_comes : MethodName := ⟨RX12, "comes", "(I)Z"⟩
abbrev cX12_dress : ByteArray := prog_14_method_26_code
def yX12_dress : MethodName := ⟨RX12, "dress", "(I)I"⟩
abbrev cX12_ring : ByteArray := prog_14_method_27_code
def yX12_ring : MethodName := ⟨RX12, "ring", "(II)I"⟩
abbrev cX12_line : ByteArray := prog_14_method_28_code
def yX12_line : MethodName := ⟨RX12, "line", "(II)I"⟩
abbrev cX12_wrongPin : ByteArray := prog_14_method_29_code
def yX12_wrongPin : MethodName := ⟨RX12, "wrongPin", "(I)I"⟩
abbrev cX12_may : ByteArray := prog_14_method_30_code
def yX12_may : MethodName := ⟨RX12, "may", "(II)I"⟩
abbrev cX12_pin : ByteArray := prog_14_method_31_code
def yX12_pin : MethodName := ⟨RX12, "pin", "(II)I"⟩
abbrev cX12_ease : ByteArray := prog_14_method_32_code
def yX12_ease : MethodName := ⟨RX12, "ease", "(II)I"⟩
abbrev cX12_fit : ByteArray := prog_14_method_33_code
def yX12_fit : MethodName := ⟨RX12, "fit", "(I)I"⟩
abbrev cX12_lacks : ByteArray := prog_14_method_34_code
def yX12_lacks : MethodName := ⟨RX12, "lacks", "()I"⟩
abbrev cX12_bestPin : ByteArray := prog_14_method_35_code
def yX12_bestPin : MethodName := ⟨RX12, "bestPin", "(II)I"⟩
abbrev cX12_wrongPins : ByteArray := prog_14_method_36_code
def yX12_wrongPins : MethodName := ⟨RX12, "wrongPins", "(I)I"⟩
abbrev cX12_told : ByteArray := prog_14_method_37_code
def yX12_told : MethodName := ⟨RX12, "told", "(II)I"⟩
abbrev cX12_puts : ByteArray := prog_14_method_38_code
def yX12_puts : MethodName := ⟨RX12, "puts", "(II)Z"⟩
abbrev cX12_least : ByteArray := prog_14_method_39_code
def yX12_least : MethodName := ⟨RX12, "least", "(II)I"⟩
abbrev cX12_first : ByteArray := prog_14_method_40_code
def yX12_first : MethodName := ⟨RX12, "first", "(I)I"⟩
abbrev cX12_power : ByteArray := prog_14_method_41_code
def yX12_power : MethodName := ⟨RX12, "power", "(I)I"⟩
abbrev cX12_orders : ByteArray := prog_14_method_42_code
def yX12_orders : MethodName := ⟨RX12, "orders", "(II)I"⟩
abbrev cX12_hem : ByteArray := prog_14_method_43_code
def yX12_hem : MethodName := ⟨RX12, "hem", "(III)I"⟩
abbrev cX12_darts : ByteArray := prog_14_method_44_code
def yX12_darts : MethodName := ⟨RX12, "darts", "(IIII)I"⟩
abbrev cX12_stripes : ByteArray := prog_14_method_45_code
def yX12_stripes : MethodName := ⟨RX12, "stripes", "(IIII)I"⟩
abbrev cX12_measures : ByteArray := prog_14_method_46_code
def yX12_measures : MethodName := ⟨RX12, "measures", "(II)I"⟩
abbrev cX12_wrongList : ByteArray := prog_14_method_47_code
def yX12_wrongList : MethodName := ⟨RX12, "wrongList", "(II)I"⟩
abbrev cX12_dressGirls : ByteArray := prog_14_method_48_code
def yX12_dressGirls : MethodName := ⟨RX12, "dressGirls", "(III)V"⟩
abbrev cX12_sizes : ByteArray := prog_14_method_49_code
def yX12_sizes : MethodName := ⟨RX12, "sizes", "(III)I"⟩
abbrev cX12_old : ByteArray := prog_14_method_50_code
def yX12_old : MethodName := ⟨RX12, "old", "(I)I"⟩
abbrev cX12_shape : ByteArray := prog_14_method_51_code
def yX12_shape : MethodName := ⟨RX12, "shape", "(II)I"⟩
abbrev cX12_draw : ByteArray := prog_14_method_52_code
def yX12_draw : MethodName := ⟨RX12, "draw", "(I)I"⟩
abbrev cX12_seeded : ByteArray := prog_14_method_53_code
def yX12_seeded : MethodName := ⟨RX12, "seeded", "(III)I"⟩
abbrev cX12_skippedIn : ByteArray := prog_14_method_54_code
def yX12_skippedIn : MethodName := ⟨RX12, "skippedIn", "(I)J"⟩
abbrev cX12_judge : ByteArray := prog_14_method_55_code
def yX12_judge : MethodName := ⟨RX12, "judge", "(II)I"⟩
abbrev cX12_count : ByteArray := prog_14_method_56_code
def yX12_count : MethodName := ⟨RX12, "count", "(I)I"⟩
abbrev cX12_wrongSort : ByteArray := prog_14_method_57_code
def yX12_wrongSort : MethodName := ⟨RX12, "wrongSort", "(II)I"⟩
abbrev cX12_keep : ByteArray := prog_14_method_58_code
def yX12_keep : MethodName := ⟨RX12, "keep", "(IIII)I"⟩
abbrev cX12_wrongRow : ByteArray := prog_14_method_59_code
def yX12_wrongRow : MethodName := ⟨RX12, "wrongRow", "(I)I"⟩
abbrev cX12_narrowed : ByteArray := prog_14_method_60_code
def yX12_narrowed : MethodName := ⟨RX12, "narrowed", "(II)J"⟩
abbrev cX12_row : ByteArray := prog_14_method_61_code
def yX12_row : MethodName := ⟨RX12, "row", "(III)I"⟩
abbrev cX12_put : ByteArray := prog_14_method_62_code
def yX12_put : MethodName := ⟨RX12, "put", "(III)I"⟩
abbrev cX12_element : ByteArray := prog_14_method_63_code
def yX12_element : MethodName := ⟨RX12, "element", "(II)J"⟩
abbrev cX12_copy : ByteArray := prog_14_method_64_code
def yX12_copy : MethodName := ⟨RX12, "copy", "(IIIII)I"⟩
abbrev cX12_minutes : ByteArray := prog_14_method_65_code
def yX12_minutes : MethodName := ⟨RX12, "minutes", "(I)I"⟩
abbrev cX12_toss : ByteArray := prog_14_method_66_code
def yX12_toss : MethodName := ⟨RX12, "toss", "(I)I"⟩
def RJ9 : String := "java/lang/Math"
def TJ9 : u_T := fun k => match k with
  | _ => ("", "", "", false)
def tyJ9 : Nat → FieldType := fun k => match k with
  | _ => .int
theorem nmJ9 : ∀ a, a < 0 → ∀ b, b < 0 → a ≠ b → (TJ9 a).2.1 ≠ (TJ9 b).2.1 := by decide +kernel
theorem tyJ9_ok : ∀ k, k < 0 → parseFieldDescriptor (TJ9 k).2.2.1 = some (tyJ9 k) := by decide +kernel
abbrev cJ9_max_7cf53 : ByteArray := prog_18_method_65_code
def yJ9_max_7cf53 : MethodName := ⟨RJ9, "max", "(II)I"⟩
abbrev cJ9_min_7cf53 : ByteArray := prog_18_method_69_code
def yJ9_min_7cf53 : MethodName := ⟨RJ9, "min", "(II)I"⟩
def RJ0 : String := "java/lang/String"
def TJ0 : u_T := fun k => match k with
  | _ => ("", "", "", false)
def tyJ0 : Nat → FieldType := fun k => match k with
  | _ => .int
theorem nmJ0 : ∀ a, a < 0 → ∀ b, b < 0 → a ≠ b → (TJ0 a).2.1 ≠ (TJ0 b).2.1 := by decide +kernel
theorem tyJ0_ok : ∀ k, k < 0 → parseFieldDescriptor (TJ0 k).2.2.1 = some (tyJ0 k) := by decide +kernel
abbrev cJ0_length_8abf5 : ByteArray := prog_20_method_54_code
def yJ0_length_8abf5 : MethodName := ⟨RJ0, "length", "()I"⟩
abbrev cJ0_isEmpty_aae02 : ByteArray := prog_20_method_55_code
def yJ0_isEmpty_aae02 : MethodName := ⟨RJ0, "isEmpty", "()Z"⟩
abbrev cJ0_charAt_5068e : ByteArray := prog_20_method_56_code
def yJ0_charAt_5068e : MethodName := ⟨RJ0, "charAt", "(I)C"⟩
abbrev cJ0_coder_7d493 : ByteArray := prog_20_method_152_code
def yJ0_coder_7d493 : MethodName := ⟨RJ0, "coder", "()B"⟩
abbrev cJ0_isLatin1_aae02 : ByteArray := prog_20_method_154_code
def yJ0_isLatin1_aae02 : MethodName := ⟨RJ0, "isLatin1", "()Z"⟩
abbrev cJ0_checkIndex_df160 : ByteArray := prog_20_method_155_code
def yJ0_checkIndex_df160 : MethodName := ⟨RJ0, "checkIndex", "(II)V"⟩
def RJ1 : String := "java/lang/StringLatin1"
def TJ1 : u_T := fun k => match k with
  | _ => ("", "", "", false)
def tyJ1 : Nat → FieldType := fun k => match k with
  | _ => .int
theorem nmJ1 : ∀ a, a < 0 → ∀ b, b < 0 → a ≠ b → (TJ1 a).2.1 ≠ (TJ1 b).2.1 := by decide +kernel
theorem tyJ1_ok : ∀ k, k < 0 → parseFieldDescriptor (TJ1 k).2.2.1 = some (tyJ1 k) := by decide +kernel
abbrev cJ1_charAt_3b067 : ByteArray := prog_21_method_2_code
def yJ1_charAt_3b067 : MethodName := ⟨RJ1, "charAt", "([BI)C"⟩
def RJ2 : String := "java/lang/StringUTF16"
def TJ2 : u_T := fun k => match k with
  | _ => ("", "", "", false)
def tyJ2 : Nat → FieldType := fun k => match k with
  | _ => .int
theorem nmJ2 : ∀ a, a < 0 → ∀ b, b < 0 → a ≠ b → (TJ2 a).2.1 ≠ (TJ2 b).2.1 := by decide +kernel
theorem tyJ2_ok : ∀ k, k < 0 → parseFieldDescriptor (TJ2 k).2.2.1 = some (tyJ2 k) := by decide +kernel
abbrev cJ2_getChar_3b067 : ByteArray := prog_22_method_5_code
def yJ2_getChar_3b067 : MethodName := ⟨RJ2, "getChar", "([BI)C"⟩
abbrev cJ2_length_9d52b : ByteArray := prog_22_method_6_code
def yJ2_length_9d52b : MethodName := ⟨RJ2, "length", "([B)I"⟩
abbrev cJ2_charAt_3b067 : ByteArray := prog_22_method_83_code
def yJ2_charAt_3b067 : MethodName := ⟨RJ2, "charAt", "([BI)C"⟩
abbrev cJ2_checkIndex_2214a : ByteArray := prog_22_method_91_code
def yJ2_checkIndex_2214a : MethodName := ⟨RJ2, "checkIndex", "(I[B)V"⟩
def RJ10 : String := "java/lang/System"
def TJ10 : u_T := fun k => match k with
  | _ => ("", "", "", false)
def tyJ10 : Nat → FieldType := fun k => match k with
  | _ => .int
theorem nmJ10 : ∀ a, a < 0 → ∀ b, b < 0 → a ≠ b → (TJ10 a).2.1 ≠ (TJ10 b).2.1 := by decide +kernel
theorem tyJ10_ok : ∀ k, k < 0 → parseFieldDescriptor (TJ10 k).2.2.1 = some (tyJ10 k) := by decide +kernel
def RJ3 : String := "jdk/internal/util/Preconditions"
def TJ3 : u_T := fun k => match k with
  | _ => ("", "", "", false)
def tyJ3 : Nat → FieldType := fun k => match k with
  | _ => .int
theorem nmJ3 : ∀ a, a < 0 → ∀ b, b < 0 → a ≠ b → (TJ3 a).2.1 ≠ (TJ3 b).2.1 := by decide +kernel
theorem tyJ3_ok : ∀ k, k < 0 → parseFieldDescriptor (TJ3 k).2.2.1 = some (tyJ3 k) := by decide +kernel
abbrev cJ3_checkIndex_8e157 : ByteArray := prog_26_method_11_code
def yJ3_checkIndex_8e157 : MethodName := ⟨RJ3, "checkIndex", "(IILjava/util/function/BiFunction;)I"⟩
def RL : String := "PinnedToFitLaw"
abbrev cL_element : ByteArray := method_3_code
def yL_element : MethodName := ⟨RL, "element", "(LPinnedToFit;II[J)I"⟩
abbrev cL_law : ByteArray := code
def yL_law : MethodName := ⟨RL, "law", "([I)Z"⟩
abbrev vwCl : List vw_C := [(RX0, TX0, 6), (RX1, TX1, 0), (RX2, TX2, 0), (RX3, TX3, 0), (RX4, TX4, 0), (RX5, TX5, 6), (RX6, TX6, 0), (RX7, TX7, 0), (RX8, TX8, 4), (RX9, TX9, 0), (RX10, TX10, 0), (RX11, TX11, 12), (RX12, TX12, 38)]
end
section
theorem dX0_init_0 : decode cX0_init 0 = .ok (.aload_n 0, 1) := by decide +kernel
theorem dX0_init_1 : decode cX0_init 1 = .ok (.invokespecial 3, 3) := by decide +kernel
theorem dX0_init_4 : decode cX0_init 4 = .ok (.aload_n 0, 1) := by decide +kernel
theorem dX0_init_5 : decode cX0_init 5 = .ok (.bipush 24, 2) := by decide +kernel
theorem dX0_init_7 : decode cX0_init 7 = .ok (.newarray .int, 2) := by decide +kernel
theorem dX0_init_9 : decode cX0_init 9 = .ok (.putfield 9, 3) := by decide +kernel
theorem dX0_init_12 : decode cX0_init 12 = .ok (.aload_n 0, 1) := by decide +kernel
theorem dX0_init_13 : decode cX0_init 13 = .ok (.iconst 1, 1) := by decide +kernel
theorem dX0_init_14 : decode cX0_init 14 = .ok (.putfield 15, 3) := by decide +kernel
theorem dX0_init_17 : decode cX0_init 17 = .ok (.aload_n 0, 1) := by decide +kernel
theorem dX0_init_18 : decode cX0_init 18 = .ok (.bipush 8, 2) := by decide +kernel
theorem dX0_init_20 : decode cX0_init 20 = .ok (.putfield 19, 3) := by decide +kernel
theorem dX0_init_23 : decode cX0_init 23 = .ok (.return_, 1) := by decide +kernel
theorem dX0_becomeLike_0 : decode cX0_becomeLike 0 = .ok (.aload_n 1, 1) := by decide +kernel
theorem dX0_becomeLike_1 : decode cX0_becomeLike 1 = .ok (.getfield 9, 3) := by decide +kernel
theorem dX0_becomeLike_4 : decode cX0_becomeLike 4 = .ok (.iconst 0, 1) := by decide +kernel
theorem dX0_becomeLike_5 : decode cX0_becomeLike 5 = .ok (.aload_n 0, 1) := by decide +kernel
theorem dX0_becomeLike_6 : decode cX0_becomeLike 6 = .ok (.getfield 9, 3) := by decide +kernel
theorem dX0_becomeLike_9 : decode cX0_becomeLike 9 = .ok (.iconst 0, 1) := by decide +kernel
theorem dX0_becomeLike_10 : decode cX0_becomeLike 10 = .ok (.aload_n 1, 1) := by decide +kernel
theorem dX0_becomeLike_11 : decode cX0_becomeLike 11 = .ok (.getfield 9, 3) := by decide +kernel
theorem dX0_becomeLike_14 : decode cX0_becomeLike 14 = .ok (.arraylength, 1) := by decide +kernel
theorem dX0_becomeLike_15 : decode cX0_becomeLike 15 = .ok (.aload_n 0, 1) := by decide +kernel
theorem dX0_becomeLike_16 : decode cX0_becomeLike 16 = .ok (.getfield 9, 3) := by decide +kernel
theorem dX0_becomeLike_19 : decode cX0_becomeLike 19 = .ok (.arraylength, 1) := by decide +kernel
theorem dX0_becomeLike_20 : decode cX0_becomeLike 20 = .ok (.invokestatic 22, 3) := by decide +kernel
theorem dX0_becomeLike_23 : decode cX0_becomeLike 23 = .ok (.invokestatic 28, 3) := by decide +kernel
theorem dX0_becomeLike_26 : decode cX0_becomeLike 26 = .ok (.aload_n 0, 1) := by decide +kernel
theorem dX0_becomeLike_27 : decode cX0_becomeLike 27 = .ok (.aload_n 1, 1) := by decide +kernel
theorem dX0_becomeLike_28 : decode cX0_becomeLike 28 = .ok (.getfield 34, 3) := by decide +kernel
theorem dX0_becomeLike_31 : decode cX0_becomeLike 31 = .ok (.putfield 34, 3) := by decide +kernel
theorem dX0_becomeLike_34 : decode cX0_becomeLike 34 = .ok (.aload_n 0, 1) := by decide +kernel
theorem dX0_becomeLike_35 : decode cX0_becomeLike 35 = .ok (.aload_n 1, 1) := by decide +kernel
theorem dX0_becomeLike_36 : decode cX0_becomeLike 36 = .ok (.getfield 15, 3) := by decide +kernel
theorem dX0_becomeLike_39 : decode cX0_becomeLike 39 = .ok (.putfield 15, 3) := by decide +kernel
theorem dX0_becomeLike_42 : decode cX0_becomeLike 42 = .ok (.aload_n 0, 1) := by decide +kernel
theorem dX0_becomeLike_43 : decode cX0_becomeLike 43 = .ok (.aload_n 1, 1) := by decide +kernel
theorem dX0_becomeLike_44 : decode cX0_becomeLike 44 = .ok (.getfield 19, 3) := by decide +kernel
theorem dX0_becomeLike_47 : decode cX0_becomeLike 47 = .ok (.putfield 19, 3) := by decide +kernel
theorem dX0_becomeLike_50 : decode cX0_becomeLike 50 = .ok (.aload_n 0, 1) := by decide +kernel
theorem dX0_becomeLike_51 : decode cX0_becomeLike 51 = .ok (.aload_n 1, 1) := by decide +kernel
theorem dX0_becomeLike_52 : decode cX0_becomeLike 52 = .ok (.getfield 37, 3) := by decide +kernel
theorem dX0_becomeLike_55 : decode cX0_becomeLike 55 = .ok (.putfield 37, 3) := by decide +kernel
theorem dX0_becomeLike_58 : decode cX0_becomeLike 58 = .ok (.aload_n 0, 1) := by decide +kernel
theorem dX0_becomeLike_59 : decode cX0_becomeLike 59 = .ok (.aload_n 1, 1) := by decide +kernel
theorem dX0_becomeLike_60 : decode cX0_becomeLike 60 = .ok (.getfield 40, 3) := by decide +kernel
theorem dX0_becomeLike_63 : decode cX0_becomeLike 63 = .ok (.putfield 40, 3) := by decide +kernel
theorem dX0_becomeLike_66 : decode cX0_becomeLike 66 = .ok (.return_, 1) := by decide +kernel
theorem dX0_has_0 : decode cX0_has 0 = .ok (.iload_n 1, 1) := by decide +kernel
theorem dX0_has_1 : decode cX0_has 1 = .ok (.ifCond .lt 15, 3) := by decide +kernel
theorem dX0_has_4 : decode cX0_has 4 = .ok (.iload_n 1, 1) := by decide +kernel
theorem dX0_has_5 : decode cX0_has 5 = .ok (.aload_n 0, 1) := by decide +kernel
theorem dX0_has_6 : decode cX0_has 6 = .ok (.getfield 34, 3) := by decide +kernel
theorem dX0_has_9 : decode cX0_has 9 = .ok (.if_icmp .ge 7, 3) := by decide +kernel
theorem dX0_has_12 : decode cX0_has 12 = .ok (.iconst 1, 1) := by decide +kernel
theorem dX0_has_13 : decode cX0_has 13 = .ok (.goto 4, 3) := by decide +kernel
theorem dX0_has_16 : decode cX0_has 16 = .ok (.iconst 0, 1) := by decide +kernel
theorem dX0_has_17 : decode cX0_has 17 = .ok (.ireturn, 1) := by decide +kernel
theorem dX0_get_0 : decode cX0_get 0 = .ok (.iconst 4, 1) := by decide +kernel
theorem dX0_get_1 : decode cX0_get 1 = .ok (.iload_n 1, 1) := by decide +kernel
theorem dX0_get_2 : decode cX0_get 2 = .ok (.imul, 1) := by decide +kernel
theorem dX0_get_3 : decode cX0_get 3 = .ok (.iload_n 2, 1) := by decide +kernel
theorem dX0_get_4 : decode cX0_get 4 = .ok (.iadd, 1) := by decide +kernel
theorem dX0_get_5 : decode cX0_get 5 = .ok (.istore_n 3, 1) := by decide +kernel
theorem dX0_get_6 : decode cX0_get 6 = .ok (.iload_n 3, 1) := by decide +kernel
theorem dX0_get_7 : decode cX0_get 7 = .ok (.ifCond .lt 21, 3) := by decide +kernel
theorem dX0_get_10 : decode cX0_get 10 = .ok (.iload_n 3, 1) := by decide +kernel
theorem dX0_get_11 : decode cX0_get 11 = .ok (.aload_n 0, 1) := by decide +kernel
theorem dX0_get_12 : decode cX0_get 12 = .ok (.getfield 9, 3) := by decide +kernel
theorem dX0_get_15 : decode cX0_get 15 = .ok (.arraylength, 1) := by decide +kernel
theorem dX0_get_16 : decode cX0_get 16 = .ok (.if_icmp .ge 12, 3) := by decide +kernel
theorem dX0_get_19 : decode cX0_get 19 = .ok (.aload_n 0, 1) := by decide +kernel
theorem dX0_get_20 : decode cX0_get 20 = .ok (.getfield 9, 3) := by decide +kernel
theorem dX0_get_23 : decode cX0_get 23 = .ok (.iload_n 3, 1) := by decide +kernel
theorem dX0_get_24 : decode cX0_get 24 = .ok (.iaload, 1) := by decide +kernel
theorem dX0_get_25 : decode cX0_get 25 = .ok (.goto 4, 3) := by decide +kernel
theorem dX0_get_28 : decode cX0_get 28 = .ok (.iconst 0, 1) := by decide +kernel
theorem dX0_get_29 : decode cX0_get 29 = .ok (.ireturn, 1) := by decide +kernel
theorem dX0_set_0 : decode cX0_set 0 = .ok (.iconst 4, 1) := by decide +kernel
theorem dX0_set_1 : decode cX0_set 1 = .ok (.iload_n 1, 1) := by decide +kernel
theorem dX0_set_2 : decode cX0_set 2 = .ok (.imul, 1) := by decide +kernel
theorem dX0_set_3 : decode cX0_set 3 = .ok (.iload_n 2, 1) := by decide +kernel
theorem dX0_set_4 : decode cX0_set 4 = .ok (.iadd, 1) := by decide +kernel
theorem dX0_set_5 : decode cX0_set 5 = .ok (.istore 4, 2) := by decide +kernel
theorem dX0_set_7 : decode cX0_set 7 = .ok (.iload 4, 2) := by decide +kernel
theorem dX0_set_9 : decode cX0_set 9 = .ok (.ifCond .lt 21, 3) := by decide +kernel
theorem dX0_set_12 : decode cX0_set 12 = .ok (.iload 4, 2) := by decide +kernel
theorem dX0_set_14 : decode cX0_set 14 = .ok (.aload_n 0, 1) := by decide +kernel
theorem dX0_set_15 : decode cX0_set 15 = .ok (.getfield 9, 3) := by decide +kernel
theorem dX0_set_18 : decode cX0_set 18 = .ok (.arraylength, 1) := by decide +kernel
theorem dX0_set_19 : decode cX0_set 19 = .ok (.if_icmp .ge 11, 3) := by decide +kernel
theorem dX0_set_22 : decode cX0_set 22 = .ok (.aload_n 0, 1) := by decide +kernel
theorem dX0_set_23 : decode cX0_set 23 = .ok (.getfield 9, 3) := by decide +kernel
theorem dX0_set_26 : decode cX0_set 26 = .ok (.iload 4, 2) := by decide +kernel
theorem dX0_set_28 : decode cX0_set 28 = .ok (.iload_n 3, 1) := by decide +kernel
theorem dX0_set_29 : decode cX0_set 29 = .ok (.iastore, 1) := by decide +kernel
theorem dX0_set_30 : decode cX0_set 30 = .ok (.return_, 1) := by decide +kernel
theorem dX0_widen_0 : decode cX0_widen 0 = .ok (.aload_n 0, 1) := by decide +kernel
theorem dX0_widen_1 : decode cX0_widen 1 = .ok (.iload_n 1, 1) := by decide +kernel
theorem dX0_widen_2 : decode cX0_widen 2 = .ok (.iconst 1, 1) := by decide +kernel
theorem dX0_widen_3 : decode cX0_widen 3 = .ok (.iconst 1, 1) := by decide +kernel
theorem dX0_widen_4 : decode cX0_widen 4 = .ok (.bipush 99, 2) := by decide +kernel
theorem dX0_widen_6 : decode cX0_widen 6 = .ok (.aload_n 0, 1) := by decide +kernel
theorem dX0_widen_7 : decode cX0_widen 7 = .ok (.iload_n 1, 1) := by decide +kernel
theorem dX0_widen_8 : decode cX0_widen 8 = .ok (.iconst 1, 1) := by decide +kernel
theorem dX0_widen_9 : decode cX0_widen 9 = .ok (.invokevirtual 43, 3) := by decide +kernel
theorem dX0_widen_12 : decode cX0_widen 12 = .ok (.iload_n 2, 1) := by decide +kernel
theorem dX0_widen_13 : decode cX0_widen 13 = .ok (.iadd, 1) := by decide +kernel
theorem dX0_widen_14 : decode cX0_widen 14 = .ok (.invokestatic 22, 3) := by decide +kernel
theorem dX0_widen_17 : decode cX0_widen 17 = .ok (.invokestatic 46, 3) := by decide +kernel
theorem dX0_widen_20 : decode cX0_widen 20 = .ok (.invokevirtual 49, 3) := by decide +kernel
theorem dX0_widen_23 : decode cX0_widen 23 = .ok (.return_, 1) := by decide +kernel
theorem dX0_keepMore_0 : decode cX0_keepMore 0 = .ok (.aload_n 0, 1) := by decide +kernel
theorem dX0_keepMore_1 : decode cX0_keepMore 1 = .ok (.iload_n 1, 1) := by decide +kernel
theorem dX0_keepMore_2 : decode cX0_keepMore 2 = .ok (.iconst 2, 1) := by decide +kernel
theorem dX0_keepMore_3 : decode cX0_keepMore 3 = .ok (.iconst 0, 1) := by decide +kernel
theorem dX0_keepMore_4 : decode cX0_keepMore 4 = .ok (.bipush 9, 2) := by decide +kernel
theorem dX0_keepMore_6 : decode cX0_keepMore 6 = .ok (.aload_n 0, 1) := by decide +kernel
theorem dX0_keepMore_7 : decode cX0_keepMore 7 = .ok (.iload_n 1, 1) := by decide +kernel
theorem dX0_keepMore_8 : decode cX0_keepMore 8 = .ok (.iconst 2, 1) := by decide +kernel
theorem dX0_keepMore_9 : decode cX0_keepMore 9 = .ok (.invokevirtual 43, 3) := by decide +kernel
theorem dX0_keepMore_12 : decode cX0_keepMore 12 = .ok (.iload_n 2, 1) := by decide +kernel
theorem dX0_keepMore_13 : decode cX0_keepMore 13 = .ok (.iadd, 1) := by decide +kernel
theorem dX0_keepMore_14 : decode cX0_keepMore 14 = .ok (.invokestatic 22, 3) := by decide +kernel
theorem dX0_keepMore_17 : decode cX0_keepMore 17 = .ok (.invokestatic 46, 3) := by decide +kernel
theorem dX0_keepMore_20 : decode cX0_keepMore 20 = .ok (.invokevirtual 49, 3) := by decide +kernel
theorem dX0_keepMore_23 : decode cX0_keepMore 23 = .ok (.return_, 1) := by decide +kernel
theorem dX0_pierce_0 : decode cX0_pierce 0 = .ok (.aload_n 0, 1) := by decide +kernel
theorem dX0_pierce_1 : decode cX0_pierce 1 = .ok (.iconst 0, 1) := by decide +kernel
theorem dX0_pierce_2 : decode cX0_pierce 2 = .ok (.bipush 99, 2) := by decide +kernel
theorem dX0_pierce_4 : decode cX0_pierce 4 = .ok (.aload_n 0, 1) := by decide +kernel
theorem dX0_pierce_5 : decode cX0_pierce 5 = .ok (.getfield 37, 3) := by decide +kernel
theorem dX0_pierce_8 : decode cX0_pierce 8 = .ok (.iload_n 1, 1) := by decide +kernel
theorem dX0_pierce_9 : decode cX0_pierce 9 = .ok (.iadd, 1) := by decide +kernel
theorem dX0_pierce_10 : decode cX0_pierce 10 = .ok (.invokestatic 22, 3) := by decide +kernel
theorem dX0_pierce_13 : decode cX0_pierce 13 = .ok (.invokestatic 46, 3) := by decide +kernel
theorem dX0_pierce_16 : decode cX0_pierce 16 = .ok (.putfield 37, 3) := by decide +kernel
theorem dX0_pierce_19 : decode cX0_pierce 19 = .ok (.return_, 1) := by decide +kernel
theorem dX0_addRing_0 : decode cX0_addRing 0 = .ok (.iload_n 1, 1) := by decide +kernel
theorem dX0_addRing_1 : decode cX0_addRing 1 = .ok (.iconst 1, 1) := by decide +kernel
theorem dX0_addRing_2 : decode cX0_addRing 2 = .ok (.bipush 99, 2) := by decide +kernel
theorem dX0_addRing_4 : decode cX0_addRing 4 = .ok (.invokestatic 53, 3) := by decide +kernel
theorem dX0_addRing_7 : decode cX0_addRing 7 = .ok (.ifCond .eq 22, 3) := by decide +kernel
theorem dX0_addRing_10 : decode cX0_addRing 10 = .ok (.iload_n 2, 1) := by decide +kernel
theorem dX0_addRing_11 : decode cX0_addRing 11 = .ok (.iconst 1, 1) := by decide +kernel
theorem dX0_addRing_12 : decode cX0_addRing 12 = .ok (.bipush 99, 2) := by decide +kernel
theorem dX0_addRing_14 : decode cX0_addRing 14 = .ok (.invokestatic 53, 3) := by decide +kernel
theorem dX0_addRing_17 : decode cX0_addRing 17 = .ok (.ifCond .eq 12, 3) := by decide +kernel
theorem dX0_addRing_20 : decode cX0_addRing 20 = .ok (.aload_n 0, 1) := by decide +kernel
theorem dX0_addRing_21 : decode cX0_addRing 21 = .ok (.getfield 34, 3) := by decide +kernel
theorem dX0_addRing_24 : decode cX0_addRing 24 = .ok (.bipush 6, 2) := by decide +kernel
theorem dX0_addRing_26 : decode cX0_addRing 26 = .ok (.if_icmp .lt 5, 3) := by decide +kernel
theorem dX0_addRing_29 : decode cX0_addRing 29 = .ok (.iconst 0, 1) := by decide +kernel
theorem dX0_addRing_30 : decode cX0_addRing 30 = .ok (.ireturn, 1) := by decide +kernel
theorem dX0_addRing_31 : decode cX0_addRing 31 = .ok (.aload_n 0, 1) := by decide +kernel
theorem dX0_addRing_32 : decode cX0_addRing 32 = .ok (.aload_n 0, 1) := by decide +kernel
theorem dX0_addRing_33 : decode cX0_addRing 33 = .ok (.getfield 34, 3) := by decide +kernel
theorem dX0_addRing_36 : decode cX0_addRing 36 = .ok (.iconst 0, 1) := by decide +kernel
theorem dX0_addRing_37 : decode cX0_addRing 37 = .ok (.iload_n 1, 1) := by decide +kernel
theorem dX0_addRing_38 : decode cX0_addRing 38 = .ok (.invokevirtual 49, 3) := by decide +kernel
theorem dX0_addRing_41 : decode cX0_addRing 41 = .ok (.aload_n 0, 1) := by decide +kernel
theorem dX0_addRing_42 : decode cX0_addRing 42 = .ok (.aload_n 0, 1) := by decide +kernel
theorem dX0_addRing_43 : decode cX0_addRing 43 = .ok (.getfield 34, 3) := by decide +kernel
theorem dX0_addRing_46 : decode cX0_addRing 46 = .ok (.iconst 1, 1) := by decide +kernel
theorem dX0_addRing_47 : decode cX0_addRing 47 = .ok (.iload_n 2, 1) := by decide +kernel
theorem dX0_addRing_48 : decode cX0_addRing 48 = .ok (.invokevirtual 49, 3) := by decide +kernel
theorem dX0_addRing_51 : decode cX0_addRing 51 = .ok (.aload_n 0, 1) := by decide +kernel
theorem dX0_addRing_52 : decode cX0_addRing 52 = .ok (.aload_n 0, 1) := by decide +kernel
theorem dX0_addRing_53 : decode cX0_addRing 53 = .ok (.getfield 34, 3) := by decide +kernel
theorem dX0_addRing_56 : decode cX0_addRing 56 = .ok (.iconst 2, 1) := by decide +kernel
theorem dX0_addRing_57 : decode cX0_addRing 57 = .ok (.iload_n 3, 1) := by decide +kernel
theorem dX0_addRing_58 : decode cX0_addRing 58 = .ok (.invokevirtual 49, 3) := by decide +kernel
theorem dX0_addRing_61 : decode cX0_addRing 61 = .ok (.aload_n 0, 1) := by decide +kernel
theorem dX0_addRing_62 : decode cX0_addRing 62 = .ok (.aload_n 0, 1) := by decide +kernel
theorem dX0_addRing_63 : decode cX0_addRing 63 = .ok (.getfield 34, 3) := by decide +kernel
theorem dX0_addRing_66 : decode cX0_addRing 66 = .ok (.iconst 3, 1) := by decide +kernel
theorem dX0_addRing_67 : decode cX0_addRing 67 = .ok (.iload 4, 2) := by decide +kernel
theorem dX0_addRing_69 : decode cX0_addRing 69 = .ok (.invokevirtual 49, 3) := by decide +kernel
theorem dX0_addRing_72 : decode cX0_addRing 72 = .ok (.aload_n 0, 1) := by decide +kernel
theorem dX0_addRing_73 : decode cX0_addRing 73 = .ok (.dup, 1) := by decide +kernel
theorem dX0_addRing_74 : decode cX0_addRing 74 = .ok (.getfield 34, 3) := by decide +kernel
theorem dX0_addRing_77 : decode cX0_addRing 77 = .ok (.iconst 1, 1) := by decide +kernel
theorem dX0_addRing_78 : decode cX0_addRing 78 = .ok (.iadd, 1) := by decide +kernel
theorem dX0_addRing_79 : decode cX0_addRing 79 = .ok (.putfield 34, 3) := by decide +kernel
theorem dX0_addRing_82 : decode cX0_addRing 82 = .ok (.iconst 1, 1) := by decide +kernel
theorem dX0_addRing_83 : decode cX0_addRing 83 = .ok (.ireturn, 1) := by decide +kernel
theorem dX0_allows_0 : decode cX0_allows 0 = .ok (.aload_n 0, 1) := by decide +kernel
theorem dX0_allows_1 : decode cX0_allows 1 = .ok (.iload_n 3, 1) := by decide +kernel
theorem dX0_allows_2 : decode cX0_allows 2 = .ok (.invokevirtual 57, 3) := by decide +kernel
theorem dX0_allows_5 : decode cX0_allows 5 = .ok (.ifCond .eq 17, 3) := by decide +kernel
theorem dX0_allows_8 : decode cX0_allows 8 = .ok (.aload_n 1, 1) := by decide +kernel
theorem dX0_allows_9 : decode cX0_allows 9 = .ok (.aload_n 0, 1) := by decide +kernel
theorem dX0_allows_10 : decode cX0_allows 10 = .ok (.iload_n 3, 1) := by decide +kernel
theorem dX0_allows_11 : decode cX0_allows 11 = .ok (.iload_n 2, 1) := by decide +kernel
theorem dX0_allows_12 : decode cX0_allows 12 = .ok (.invokevirtual 61, 3) := by decide +kernel
theorem dX0_allows_15 : decode cX0_allows 15 = .ok (.ifCond .eq 7, 3) := by decide +kernel
theorem dX0_allows_18 : decode cX0_allows 18 = .ok (.iconst 1, 1) := by decide +kernel
theorem dX0_allows_19 : decode cX0_allows 19 = .ok (.goto 4, 3) := by decide +kernel
theorem dX0_allows_22 : decode cX0_allows 22 = .ok (.iconst 0, 1) := by decide +kernel
theorem dX0_allows_23 : decode cX0_allows 23 = .ok (.ireturn, 1) := by decide +kernel
theorem dX0_tryPin_0 : decode cX0_tryPin 0 = .ok (.aload_n 0, 1) := by decide +kernel
theorem dX0_tryPin_1 : decode cX0_tryPin 1 = .ok (.aload_n 1, 1) := by decide +kernel
theorem dX0_tryPin_2 : decode cX0_tryPin 2 = .ok (.iload_n 2, 1) := by decide +kernel
theorem dX0_tryPin_3 : decode cX0_tryPin 3 = .ok (.iload_n 3, 1) := by decide +kernel
theorem dX0_tryPin_4 : decode cX0_tryPin 4 = .ok (.invokevirtual 67, 3) := by decide +kernel
theorem dX0_tryPin_7 : decode cX0_tryPin 7 = .ok (.ifCond .ne 5, 3) := by decide +kernel
theorem dX0_tryPin_10 : decode cX0_tryPin 10 = .ok (.iconst 0, 1) := by decide +kernel
theorem dX0_tryPin_11 : decode cX0_tryPin 11 = .ok (.ireturn, 1) := by decide +kernel
theorem dX0_tryPin_12 : decode cX0_tryPin 12 = .ok (.aload_n 1, 1) := by decide +kernel
theorem dX0_tryPin_13 : decode cX0_tryPin 13 = .ok (.aload_n 0, 1) := by decide +kernel
theorem dX0_tryPin_14 : decode cX0_tryPin 14 = .ok (.iload_n 3, 1) := by decide +kernel
theorem dX0_tryPin_15 : decode cX0_tryPin 15 = .ok (.iload_n 2, 1) := by decide +kernel
theorem dX0_tryPin_16 : decode cX0_tryPin 16 = .ok (.invokevirtual 71, 3) := by decide +kernel
theorem dX0_tryPin_19 : decode cX0_tryPin 19 = .ok (.aload_n 0, 1) := by decide +kernel
theorem dX0_tryPin_20 : decode cX0_tryPin 20 = .ok (.sipush 9999, 3) := by decide +kernel
theorem dX0_tryPin_23 : decode cX0_tryPin 23 = .ok (.aload_n 0, 1) := by decide +kernel
theorem dX0_tryPin_24 : decode cX0_tryPin 24 = .ok (.getfield 40, 3) := by decide +kernel
theorem dX0_tryPin_27 : decode cX0_tryPin 27 = .ok (.aload_n 1, 1) := by decide +kernel
theorem dX0_tryPin_28 : decode cX0_tryPin 28 = .ok (.iload_n 2, 1) := by decide +kernel
theorem dX0_tryPin_29 : decode cX0_tryPin 29 = .ok (.invokevirtual 75, 3) := by decide +kernel
theorem dX0_tryPin_32 : decode cX0_tryPin 32 = .ok (.iadd, 1) := by decide +kernel
theorem dX0_tryPin_33 : decode cX0_tryPin 33 = .ok (.invokestatic 22, 3) := by decide +kernel
theorem dX0_tryPin_36 : decode cX0_tryPin 36 = .ok (.putfield 40, 3) := by decide +kernel
theorem dX0_tryPin_39 : decode cX0_tryPin 39 = .ok (.iconst 1, 1) := by decide +kernel
theorem dX0_tryPin_40 : decode cX0_tryPin 40 = .ok (.ireturn, 1) := by decide +kernel
theorem dX0_needOf_0 : decode cX0_needOf 0 = .ok (.iload_n 2, 1) := by decide +kernel
theorem dX0_needOf_1 : decode cX0_needOf 1 = .ok (.tableswitch 55 0 2 #[27, 29, 36], 27) := by decide +kernel
theorem dX0_needOf_28 : decode cX0_needOf 28 = .ok (.iconst 0, 1) := by decide +kernel
theorem dX0_needOf_29 : decode cX0_needOf 29 = .ok (.ireturn, 1) := by decide +kernel
theorem dX0_needOf_30 : decode cX0_needOf 30 = .ok (.aload_n 0, 1) := by decide +kernel
theorem dX0_needOf_31 : decode cX0_needOf 31 = .ok (.iload_n 1, 1) := by decide +kernel
theorem dX0_needOf_32 : decode cX0_needOf 32 = .ok (.iconst 3, 1) := by decide +kernel
theorem dX0_needOf_33 : decode cX0_needOf 33 = .ok (.invokevirtual 43, 3) := by decide +kernel
theorem dX0_needOf_36 : decode cX0_needOf 36 = .ok (.ireturn, 1) := by decide +kernel
theorem dX0_needOf_37 : decode cX0_needOf 37 = .ok (.aload_n 0, 1) := by decide +kernel
theorem dX0_needOf_38 : decode cX0_needOf 38 = .ok (.iload_n 1, 1) := by decide +kernel
theorem dX0_needOf_39 : decode cX0_needOf 39 = .ok (.iconst 3, 1) := by decide +kernel
theorem dX0_needOf_40 : decode cX0_needOf 40 = .ok (.invokevirtual 43, 3) := by decide +kernel
theorem dX0_needOf_43 : decode cX0_needOf 43 = .ok (.iconst 2, 1) := by decide +kernel
theorem dX0_needOf_44 : decode cX0_needOf 44 = .ok (.idiv, 1) := by decide +kernel
theorem dX0_needOf_45 : decode cX0_needOf 45 = .ok (.iload_n 1, 1) := by decide +kernel
theorem dX0_needOf_46 : decode cX0_needOf 46 = .ok (.ifCond .ne 7, 3) := by decide +kernel
theorem dX0_needOf_49 : decode cX0_needOf 49 = .ok (.iconst 2, 1) := by decide +kernel
theorem dX0_needOf_50 : decode cX0_needOf 50 = .ok (.goto 4, 3) := by decide +kernel
theorem dX0_needOf_53 : decode cX0_needOf 53 = .ok (.iconst 0, 1) := by decide +kernel
theorem dX0_needOf_54 : decode cX0_needOf 54 = .ok (.iadd, 1) := by decide +kernel
theorem dX0_needOf_55 : decode cX0_needOf 55 = .ok (.ireturn, 1) := by decide +kernel
theorem dX0_needOf_56 : decode cX0_needOf 56 = .ok (.iload_n 1, 1) := by decide +kernel
theorem dX0_needOf_57 : decode cX0_needOf 57 = .ok (.iconst 2, 1) := by decide +kernel
theorem dX0_needOf_58 : decode cX0_needOf 58 = .ok (.irem, 1) := by decide +kernel
theorem dX0_needOf_59 : decode cX0_needOf 59 = .ok (.ifCond .ne 7, 3) := by decide +kernel
theorem dX0_needOf_62 : decode cX0_needOf 62 = .ok (.iconst 1, 1) := by decide +kernel
theorem dX0_needOf_63 : decode cX0_needOf 63 = .ok (.goto 4, 3) := by decide +kernel
theorem dX0_needOf_66 : decode cX0_needOf 66 = .ok (.iconst 0, 1) := by decide +kernel
theorem dX0_needOf_67 : decode cX0_needOf 67 = .ok (.ireturn, 1) := by decide +kernel
theorem dX0_easeAt_0 : decode cX0_easeAt 0 = .ok (.aload_n 0, 1) := by decide +kernel
theorem dX0_easeAt_1 : decode cX0_easeAt 1 = .ok (.iload_n 1, 1) := by decide +kernel
theorem dX0_easeAt_2 : decode cX0_easeAt 2 = .ok (.iconst 1, 1) := by decide +kernel
theorem dX0_easeAt_3 : decode cX0_easeAt 3 = .ok (.invokevirtual 43, 3) := by decide +kernel
theorem dX0_easeAt_6 : decode cX0_easeAt 6 = .ok (.aload_n 0, 1) := by decide +kernel
theorem dX0_easeAt_7 : decode cX0_easeAt 7 = .ok (.iload_n 1, 1) := by decide +kernel
theorem dX0_easeAt_8 : decode cX0_easeAt 8 = .ok (.iconst 0, 1) := by decide +kernel
theorem dX0_easeAt_9 : decode cX0_easeAt 9 = .ok (.invokevirtual 43, 3) := by decide +kernel
theorem dX0_easeAt_12 : decode cX0_easeAt 12 = .ok (.isub, 1) := by decide +kernel
theorem dX0_easeAt_13 : decode cX0_easeAt 13 = .ok (.aload_n 0, 1) := by decide +kernel
theorem dX0_easeAt_14 : decode cX0_easeAt 14 = .ok (.iload_n 1, 1) := by decide +kernel
theorem dX0_easeAt_15 : decode cX0_easeAt 15 = .ok (.iload_n 2, 1) := by decide +kernel
theorem dX0_easeAt_16 : decode cX0_easeAt 16 = .ok (.invokevirtual 79, 3) := by decide +kernel
theorem dX0_easeAt_19 : decode cX0_easeAt 19 = .ok (.isub, 1) := by decide +kernel
theorem dX0_easeAt_20 : decode cX0_easeAt 20 = .ok (.ireturn, 1) := by decide +kernel
theorem dX0_fits_0 : decode cX0_fits 0 = .ok (.aload_n 0, 1) := by decide +kernel
theorem dX0_fits_1 : decode cX0_fits 1 = .ok (.iload_n 1, 1) := by decide +kernel
theorem dX0_fits_2 : decode cX0_fits 2 = .ok (.iload_n 2, 1) := by decide +kernel
theorem dX0_fits_3 : decode cX0_fits 3 = .ok (.invokevirtual 82, 3) := by decide +kernel
theorem dX0_fits_6 : decode cX0_fits 6 = .ok (.istore_n 3, 1) := by decide +kernel
theorem dX0_fits_7 : decode cX0_fits 7 = .ok (.iload_n 3, 1) := by decide +kernel
theorem dX0_fits_8 : decode cX0_fits 8 = .ok (.aload_n 0, 1) := by decide +kernel
theorem dX0_fits_9 : decode cX0_fits 9 = .ok (.getfield 15, 3) := by decide +kernel
theorem dX0_fits_12 : decode cX0_fits 12 = .ok (.if_icmp .lt 19, 3) := by decide +kernel
theorem dX0_fits_15 : decode cX0_fits 15 = .ok (.iload_n 2, 1) := by decide +kernel
theorem dX0_fits_16 : decode cX0_fits 16 = .ok (.ifCond .ne 11, 3) := by decide +kernel
theorem dX0_fits_19 : decode cX0_fits 19 = .ok (.iload_n 3, 1) := by decide +kernel
theorem dX0_fits_20 : decode cX0_fits 20 = .ok (.aload_n 0, 1) := by decide +kernel
theorem dX0_fits_21 : decode cX0_fits 21 = .ok (.getfield 19, 3) := by decide +kernel
theorem dX0_fits_24 : decode cX0_fits 24 = .ok (.if_icmp .gt 7, 3) := by decide +kernel
theorem dX0_fits_27 : decode cX0_fits 27 = .ok (.iconst 1, 1) := by decide +kernel
theorem dX0_fits_28 : decode cX0_fits 28 = .ok (.goto 4, 3) := by decide +kernel
theorem dX0_fits_31 : decode cX0_fits 31 = .ok (.iconst 0, 1) := by decide +kernel
theorem dX0_fits_32 : decode cX0_fits 32 = .ok (.ireturn, 1) := by decide +kernel
theorem dX0_lacking_0 : decode cX0_lacking 0 = .ok (.iconst 0, 1) := by decide +kernel
theorem dX0_lacking_1 : decode cX0_lacking 1 = .ok (.istore_n 1, 1) := by decide +kernel
theorem dX0_lacking_2 : decode cX0_lacking 2 = .ok (.iconst 0, 1) := by decide +kernel
theorem dX0_lacking_3 : decode cX0_lacking 3 = .ok (.istore_n 2, 1) := by decide +kernel
theorem dX0_lacking_4 : decode cX0_lacking 4 = .ok (.iload_n 2, 1) := by decide +kernel
theorem dX0_lacking_5 : decode cX0_lacking 5 = .ok (.aload_n 0, 1) := by decide +kernel
theorem dX0_lacking_6 : decode cX0_lacking 6 = .ok (.getfield 34, 3) := by decide +kernel
theorem dX0_lacking_9 : decode cX0_lacking 9 = .ok (.if_icmp .ge 58, 3) := by decide +kernel
theorem dX0_lacking_12 : decode cX0_lacking 12 = .ok (.iconst 0, 1) := by decide +kernel
theorem dX0_lacking_13 : decode cX0_lacking 13 = .ok (.istore_n 3, 1) := by decide +kernel
theorem dX0_lacking_14 : decode cX0_lacking 14 = .ok (.iload_n 3, 1) := by decide +kernel
theorem dX0_lacking_15 : decode cX0_lacking 15 = .ok (.iconst 4, 1) := by decide +kernel
theorem dX0_lacking_16 : decode cX0_lacking 16 = .ok (.if_icmp .ge 27, 3) := by decide +kernel
theorem dX0_lacking_19 : decode cX0_lacking 19 = .ok (.iload_n 1, 1) := by decide +kernel
theorem dX0_lacking_20 : decode cX0_lacking 20 = .ok (.iconst 0, 1) := by decide +kernel
theorem dX0_lacking_21 : decode cX0_lacking 21 = .ok (.aload_n 0, 1) := by decide +kernel
theorem dX0_lacking_22 : decode cX0_lacking 22 = .ok (.getfield 15, 3) := by decide +kernel
theorem dX0_lacking_25 : decode cX0_lacking 25 = .ok (.aload_n 0, 1) := by decide +kernel
theorem dX0_lacking_26 : decode cX0_lacking 26 = .ok (.iload_n 2, 1) := by decide +kernel
theorem dX0_lacking_27 : decode cX0_lacking 27 = .ok (.iload_n 3, 1) := by decide +kernel
theorem dX0_lacking_28 : decode cX0_lacking 28 = .ok (.invokevirtual 82, 3) := by decide +kernel
theorem dX0_lacking_31 : decode cX0_lacking 31 = .ok (.isub, 1) := by decide +kernel
theorem dX0_lacking_32 : decode cX0_lacking 32 = .ok (.invokestatic 46, 3) := by decide +kernel
theorem dX0_lacking_35 : decode cX0_lacking 35 = .ok (.iadd, 1) := by decide +kernel
theorem dX0_lacking_36 : decode cX0_lacking 36 = .ok (.istore_n 1, 1) := by decide +kernel
theorem dX0_lacking_37 : decode cX0_lacking 37 = .ok (.iinc 3 1, 3) := by decide +kernel
theorem dX0_lacking_40 : decode cX0_lacking 40 = .ok (.goto (-26), 3) := by decide +kernel
theorem dX0_lacking_43 : decode cX0_lacking 43 = .ok (.iload_n 1, 1) := by decide +kernel
theorem dX0_lacking_44 : decode cX0_lacking 44 = .ok (.iconst 0, 1) := by decide +kernel
theorem dX0_lacking_45 : decode cX0_lacking 45 = .ok (.aload_n 0, 1) := by decide +kernel
theorem dX0_lacking_46 : decode cX0_lacking 46 = .ok (.iload_n 2, 1) := by decide +kernel
theorem dX0_lacking_47 : decode cX0_lacking 47 = .ok (.iconst 0, 1) := by decide +kernel
theorem dX0_lacking_48 : decode cX0_lacking 48 = .ok (.invokevirtual 82, 3) := by decide +kernel
theorem dX0_lacking_51 : decode cX0_lacking 51 = .ok (.aload_n 0, 1) := by decide +kernel
theorem dX0_lacking_52 : decode cX0_lacking 52 = .ok (.getfield 19, 3) := by decide +kernel
theorem dX0_lacking_55 : decode cX0_lacking 55 = .ok (.isub, 1) := by decide +kernel
theorem dX0_lacking_56 : decode cX0_lacking 56 = .ok (.invokestatic 46, 3) := by decide +kernel
theorem dX0_lacking_59 : decode cX0_lacking 59 = .ok (.iadd, 1) := by decide +kernel
theorem dX0_lacking_60 : decode cX0_lacking 60 = .ok (.istore_n 1, 1) := by decide +kernel
theorem dX0_lacking_61 : decode cX0_lacking 61 = .ok (.iinc 2 1, 3) := by decide +kernel
theorem dX0_lacking_64 : decode cX0_lacking 64 = .ok (.goto (-60), 3) := by decide +kernel
theorem dX0_lacking_67 : decode cX0_lacking 67 = .ok (.iload_n 1, 1) := by decide +kernel
theorem dX0_lacking_68 : decode cX0_lacking 68 = .ok (.ireturn, 1) := by decide +kernel
theorem dX0_total_0 : decode cX0_total 0 = .ok (.iconst 0, 1) := by decide +kernel
theorem dX0_total_1 : decode cX0_total 1 = .ok (.istore_n 2, 1) := by decide +kernel
theorem dX0_total_2 : decode cX0_total 2 = .ok (.iconst 0, 1) := by decide +kernel
theorem dX0_total_3 : decode cX0_total 3 = .ok (.istore_n 3, 1) := by decide +kernel
theorem dX0_total_4 : decode cX0_total 4 = .ok (.iload_n 3, 1) := by decide +kernel
theorem dX0_total_5 : decode cX0_total 5 = .ok (.aload_n 0, 1) := by decide +kernel
theorem dX0_total_6 : decode cX0_total 6 = .ok (.getfield 34, 3) := by decide +kernel
theorem dX0_total_9 : decode cX0_total 9 = .ok (.if_icmp .ge 18, 3) := by decide +kernel
theorem dX0_total_12 : decode cX0_total 12 = .ok (.iload_n 2, 1) := by decide +kernel
theorem dX0_total_13 : decode cX0_total 13 = .ok (.aload_n 0, 1) := by decide +kernel
theorem dX0_total_14 : decode cX0_total 14 = .ok (.iload_n 3, 1) := by decide +kernel
theorem dX0_total_15 : decode cX0_total 15 = .ok (.iload_n 1, 1) := by decide +kernel
theorem dX0_total_16 : decode cX0_total 16 = .ok (.invokevirtual 43, 3) := by decide +kernel
theorem dX0_total_19 : decode cX0_total 19 = .ok (.iadd, 1) := by decide +kernel
theorem dX0_total_20 : decode cX0_total 20 = .ok (.istore_n 2, 1) := by decide +kernel
theorem dX0_total_21 : decode cX0_total 21 = .ok (.iinc 3 1, 3) := by decide +kernel
theorem dX0_total_24 : decode cX0_total 24 = .ok (.goto (-20), 3) := by decide +kernel
theorem dX0_total_27 : decode cX0_total 27 = .ok (.iload_n 2, 1) := by decide +kernel
theorem dX0_total_28 : decode cX0_total 28 = .ok (.ireturn, 1) := by decide +kernel
theorem dX1_init_0 : decode cX1_init 0 = .ok (.aload_n 0, 1) := by decide +kernel
theorem dX1_init_1 : decode cX1_init 1 = .ok (.invokespecial 1, 3) := by decide +kernel
theorem dX1_init_4 : decode cX1_init 4 = .ok (.return_, 1) := by decide +kernel
theorem dX1_canBe_0 : decode cX1_canBe 0 = .ok (.aload_n 0, 1) := by decide +kernel
theorem dX1_canBe_1 : decode cX1_canBe 1 = .ok (.aload_n 1, 1) := by decide +kernel
theorem dX1_canBe_2 : decode cX1_canBe 2 = .ok (.iload_n 2, 1) := by decide +kernel
theorem dX1_canBe_3 : decode cX1_canBe 3 = .ok (.iload_n 3, 1) := by decide +kernel
theorem dX1_canBe_4 : decode cX1_canBe 4 = .ok (.invokespecial 7, 3) := by decide +kernel
theorem dX1_canBe_7 : decode cX1_canBe 7 = .ok (.ifCond .eq 17, 3) := by decide +kernel
theorem dX1_canBe_10 : decode cX1_canBe 10 = .ok (.aload_n 1, 1) := by decide +kernel
theorem dX1_canBe_11 : decode cX1_canBe 11 = .ok (.iload_n 2, 1) := by decide +kernel
theorem dX1_canBe_12 : decode cX1_canBe 12 = .ok (.iconst 1, 1) := by decide +kernel
theorem dX1_canBe_13 : decode cX1_canBe 13 = .ok (.iadd, 1) := by decide +kernel
theorem dX1_canBe_14 : decode cX1_canBe 14 = .ok (.invokevirtual 11, 3) := by decide +kernel
theorem dX1_canBe_17 : decode cX1_canBe 17 = .ok (.ifCond .ne 7, 3) := by decide +kernel
theorem dX1_canBe_20 : decode cX1_canBe 20 = .ok (.iconst 1, 1) := by decide +kernel
theorem dX1_canBe_21 : decode cX1_canBe 21 = .ok (.goto 4, 3) := by decide +kernel
theorem dX1_canBe_24 : decode cX1_canBe 24 = .ok (.iconst 0, 1) := by decide +kernel
theorem dX1_canBe_25 : decode cX1_canBe 25 = .ok (.ireturn, 1) := by decide +kernel
theorem dX1_work_0 : decode cX1_work 0 = .ok (.aload_n 0, 1) := by decide +kernel
theorem dX1_work_1 : decode cX1_work 1 = .ok (.aload_n 1, 1) := by decide +kernel
theorem dX1_work_2 : decode cX1_work 2 = .ok (.iload_n 2, 1) := by decide +kernel
theorem dX1_work_3 : decode cX1_work 3 = .ok (.iload_n 3, 1) := by decide +kernel
theorem dX1_work_4 : decode cX1_work 4 = .ok (.invokespecial 17, 3) := by decide +kernel
theorem dX1_work_7 : decode cX1_work 7 = .ok (.iconst 0, 1) := by decide +kernel
theorem dX1_work_8 : decode cX1_work 8 = .ok (.istore 4, 2) := by decide +kernel
theorem dX1_work_10 : decode cX1_work 10 = .ok (.iload 4, 2) := by decide +kernel
theorem dX1_work_12 : decode cX1_work 12 = .ok (.iload_n 2, 1) := by decide +kernel
theorem dX1_work_13 : decode cX1_work 13 = .ok (.if_icmp .ge 16, 3) := by decide +kernel
theorem dX1_work_16 : decode cX1_work 16 = .ok (.aload_n 1, 1) := by decide +kernel
theorem dX1_work_17 : decode cX1_work 17 = .ok (.iload 4, 2) := by decide +kernel
theorem dX1_work_19 : decode cX1_work 19 = .ok (.iconst (-1), 1) := by decide +kernel
theorem dX1_work_20 : decode cX1_work 20 = .ok (.invokevirtual 21, 3) := by decide +kernel
theorem dX1_work_23 : decode cX1_work 23 = .ok (.iinc 4 1, 3) := by decide +kernel
theorem dX1_work_26 : decode cX1_work 26 = .ok (.goto (-16), 3) := by decide +kernel
theorem dX1_work_29 : decode cX1_work 29 = .ok (.return_, 1) := by decide +kernel
theorem dX1_cost_0 : decode cX1_cost 0 = .ok (.aload_n 0, 1) := by decide +kernel
theorem dX1_cost_1 : decode cX1_cost 1 = .ok (.iload_n 1, 1) := by decide +kernel
theorem dX1_cost_2 : decode cX1_cost 2 = .ok (.invokespecial 25, 3) := by decide +kernel
theorem dX1_cost_5 : decode cX1_cost 5 = .ok (.iconst 4, 1) := by decide +kernel
theorem dX1_cost_6 : decode cX1_cost 6 = .ok (.iadd, 1) := by decide +kernel
theorem dX1_cost_7 : decode cX1_cost 7 = .ok (.ireturn, 1) := by decide +kernel
theorem dX2_init_0 : decode cX2_init 0 = .ok (.aload_n 0, 1) := by decide +kernel
theorem dX2_init_1 : decode cX2_init 1 = .ok (.invokespecial 3, 3) := by decide +kernel
theorem dX2_init_4 : decode cX2_init 4 = .ok (.return_, 1) := by decide +kernel
theorem dX2_canBe_0 : decode cX2_canBe 0 = .ok (.aload_n 1, 1) := by decide +kernel
theorem dX2_canBe_1 : decode cX2_canBe 1 = .ok (.iload_n 2, 1) := by decide +kernel
theorem dX2_canBe_2 : decode cX2_canBe 2 = .ok (.iconst 2, 1) := by decide +kernel
theorem dX2_canBe_3 : decode cX2_canBe 3 = .ok (.invokevirtual 9, 3) := by decide +kernel
theorem dX2_canBe_6 : decode cX2_canBe 6 = .ok (.iload_n 3, 1) := by decide +kernel
theorem dX2_canBe_7 : decode cX2_canBe 7 = .ok (.if_icmp .lt 7, 3) := by decide +kernel
theorem dX2_canBe_10 : decode cX2_canBe 10 = .ok (.iconst 1, 1) := by decide +kernel
theorem dX2_canBe_11 : decode cX2_canBe 11 = .ok (.goto 4, 3) := by decide +kernel
theorem dX2_canBe_14 : decode cX2_canBe 14 = .ok (.iconst 0, 1) := by decide +kernel
theorem dX2_canBe_15 : decode cX2_canBe 15 = .ok (.ireturn, 1) := by decide +kernel
theorem dX2_work_0 : decode cX2_work 0 = .ok (.aload_n 1, 1) := by decide +kernel
theorem dX2_work_1 : decode cX2_work 1 = .ok (.iload_n 2, 1) := by decide +kernel
theorem dX2_work_2 : decode cX2_work 2 = .ok (.iload_n 3, 1) := by decide +kernel
theorem dX2_work_3 : decode cX2_work 3 = .ok (.invokevirtual 15, 3) := by decide +kernel
theorem dX2_work_6 : decode cX2_work 6 = .ok (.aload_n 1, 1) := by decide +kernel
theorem dX2_work_7 : decode cX2_work 7 = .ok (.iload_n 2, 1) := by decide +kernel
theorem dX2_work_8 : decode cX2_work 8 = .ok (.iload_n 3, 1) := by decide +kernel
theorem dX2_work_9 : decode cX2_work 9 = .ok (.ineg, 1) := by decide +kernel
theorem dX2_work_10 : decode cX2_work 10 = .ok (.invokevirtual 19, 3) := by decide +kernel
theorem dX2_work_13 : decode cX2_work 13 = .ok (.return_, 1) := by decide +kernel
theorem dX2_cost_0 : decode cX2_cost 0 = .ok (.aload_n 0, 1) := by decide +kernel
theorem dX2_cost_1 : decode cX2_cost 1 = .ok (.iload_n 1, 1) := by decide +kernel
theorem dX2_cost_2 : decode cX2_cost 2 = .ok (.invokespecial 22, 3) := by decide +kernel
theorem dX2_cost_5 : decode cX2_cost 5 = .ok (.iconst 2, 1) := by decide +kernel
theorem dX2_cost_6 : decode cX2_cost 6 = .ok (.iload_n 1, 1) := by decide +kernel
theorem dX2_cost_7 : decode cX2_cost 7 = .ok (.imul, 1) := by decide +kernel
theorem dX2_cost_8 : decode cX2_cost 8 = .ok (.iadd, 1) := by decide +kernel
theorem dX2_cost_9 : decode cX2_cost 9 = .ok (.ireturn, 1) := by decide +kernel
theorem dX3_init_0 : decode cX3_init 0 = .ok (.aload_n 0, 1) := by decide +kernel
theorem dX3_init_1 : decode cX3_init 1 = .ok (.invokespecial 1, 3) := by decide +kernel
theorem dX3_init_4 : decode cX3_init 4 = .ok (.return_, 1) := by decide +kernel
theorem dX3_canBe_0 : decode cX3_canBe 0 = .ok (.iconst 1, 1) := by decide +kernel
theorem dX3_canBe_1 : decode cX3_canBe 1 = .ok (.ireturn, 1) := by decide +kernel
theorem dX3_work_0 : decode cX3_work 0 = .ok (.return_, 1) := by decide +kernel
theorem dX3_cost_0 : decode cX3_cost 0 = .ok (.iconst 1, 1) := by decide +kernel
theorem dX3_cost_1 : decode cX3_cost 1 = .ok (.ireturn, 1) := by decide +kernel
theorem dX3_fail_0 : decode cX3_fail 0 = .ok (.iload_n 1, 1) := by decide +kernel
theorem dX3_fail_1 : decode cX3_fail 1 = .ok (.ifCond .le 13, 3) := by decide +kernel
theorem dX3_fail_4 : decode cX3_fail 4 = .ok (.new 7, 3) := by decide +kernel
theorem dX3_fail_7 : decode cX3_fail 7 = .ok (.dup, 1) := by decide +kernel
theorem dX3_fail_8 : decode cX3_fail 8 = .ok (.ldc 9, 2) := by decide +kernel
theorem dX3_fail_10 : decode cX3_fail 10 = .ok (.invokespecial 11, 3) := by decide +kernel
theorem dX3_fail_13 : decode cX3_fail 13 = .ok (.athrow, 1) := by decide +kernel
theorem dX3_fail_14 : decode cX3_fail 14 = .ok (.return_, 1) := by decide +kernel
theorem dX4_init_0 : decode cX4_init 0 = .ok (.aload_n 0, 1) := by decide +kernel
theorem dX4_init_1 : decode cX4_init 1 = .ok (.invokespecial 1, 3) := by decide +kernel
theorem dX4_init_4 : decode cX4_init 4 = .ok (.return_, 1) := by decide +kernel
theorem dX4_canBe_0 : decode cX4_canBe 0 = .ok (.iconst 1, 1) := by decide +kernel
theorem dX4_canBe_1 : decode cX4_canBe 1 = .ok (.ireturn, 1) := by decide +kernel
theorem dX4_work_0 : decode cX4_work 0 = .ok (.aload_n 1, 1) := by decide +kernel
theorem dX4_work_1 : decode cX4_work 1 = .ok (.iload_n 2, 1) := by decide +kernel
theorem dX4_work_2 : decode cX4_work 2 = .ok (.iconst 2, 1) := by decide +kernel
theorem dX4_work_3 : decode cX4_work 3 = .ok (.iload_n 3, 1) := by decide +kernel
theorem dX4_work_4 : decode cX4_work 4 = .ok (.imul, 1) := by decide +kernel
theorem dX4_work_5 : decode cX4_work 5 = .ok (.invokevirtual 7, 3) := by decide +kernel
theorem dX4_work_8 : decode cX4_work 8 = .ok (.return_, 1) := by decide +kernel
theorem dX4_cost_0 : decode cX4_cost 0 = .ok (.aload_n 0, 1) := by decide +kernel
theorem dX4_cost_1 : decode cX4_cost 1 = .ok (.iload_n 1, 1) := by decide +kernel
theorem dX4_cost_2 : decode cX4_cost 2 = .ok (.invokespecial 13, 3) := by decide +kernel
theorem dX4_cost_5 : decode cX4_cost 5 = .ok (.bipush 9, 2) := by decide +kernel
theorem dX4_cost_7 : decode cX4_cost 7 = .ok (.iadd, 1) := by decide +kernel
theorem dX4_cost_8 : decode cX4_cost 8 = .ok (.ireturn, 1) := by decide +kernel
theorem dX4_fail_0 : decode cX4_fail 0 = .ok (.iload_n 1, 1) := by decide +kernel
theorem dX4_fail_1 : decode cX4_fail 1 = .ok (.ifCond .le 13, 3) := by decide +kernel
theorem dX4_fail_4 : decode cX4_fail 4 = .ok (.new 17, 3) := by decide +kernel
theorem dX4_fail_7 : decode cX4_fail 7 = .ok (.dup, 1) := by decide +kernel
theorem dX4_fail_8 : decode cX4_fail 8 = .ok (.ldc 19, 2) := by decide +kernel
theorem dX4_fail_10 : decode cX4_fail 10 = .ok (.invokespecial 21, 3) := by decide +kernel
theorem dX4_fail_13 : decode cX4_fail 13 = .ok (.athrow, 1) := by decide +kernel
theorem dX4_fail_14 : decode cX4_fail 14 = .ok (.return_, 1) := by decide +kernel
theorem dX5_init_0 : decode cX5_init 0 = .ok (.aload_n 0, 1) := by decide +kernel
theorem dX5_init_1 : decode cX5_init 1 = .ok (.invokespecial 3, 3) := by decide +kernel
theorem dX5_init_4 : decode cX5_init 4 = .ok (.aload_n 0, 1) := by decide +kernel
theorem dX5_init_5 : decode cX5_init 5 = .ok (.bipush 100, 2) := by decide +kernel
theorem dX5_init_7 : decode cX5_init 7 = .ok (.newarray .int, 2) := by decide +kernel
theorem dX5_init_9 : decode cX5_init 9 = .ok (.putfield 9, 3) := by decide +kernel
theorem dX5_init_12 : decode cX5_init 12 = .ok (.return_, 1) := by decide +kernel
theorem dX5_holdNothing_0 : decode cX5_holdNothing 0 = .ok (.aload_n 0, 1) := by decide +kernel
theorem dX5_holdNothing_1 : decode cX5_holdNothing 1 = .ok (.iconst 0, 1) := by decide +kernel
theorem dX5_holdNothing_2 : decode cX5_holdNothing 2 = .ok (.putfield 15, 3) := by decide +kernel
theorem dX5_holdNothing_5 : decode cX5_holdNothing 5 = .ok (.return_, 1) := by decide +kernel
theorem dX5_holdPin_0 : decode cX5_holdPin 0 = .ok (.aload_n 0, 1) := by decide +kernel
theorem dX5_holdPin_1 : decode cX5_holdPin 1 = .ok (.iconst 1, 1) := by decide +kernel
theorem dX5_holdPin_2 : decode cX5_holdPin 2 = .ok (.putfield 15, 3) := by decide +kernel
theorem dX5_holdPin_5 : decode cX5_holdPin 5 = .ok (.aload_n 0, 1) := by decide +kernel
theorem dX5_holdPin_6 : decode cX5_holdPin 6 = .ok (.iload_n 1, 1) := by decide +kernel
theorem dX5_holdPin_7 : decode cX5_holdPin 7 = .ok (.putfield 19, 3) := by decide +kernel
theorem dX5_holdPin_10 : decode cX5_holdPin 10 = .ok (.aload_n 0, 1) := by decide +kernel
theorem dX5_holdPin_11 : decode cX5_holdPin 11 = .ok (.iload_n 2, 1) := by decide +kernel
theorem dX5_holdPin_12 : decode cX5_holdPin 12 = .ok (.putfield 22, 3) := by decide +kernel
theorem dX5_holdPin_15 : decode cX5_holdPin 15 = .ok (.return_, 1) := by decide +kernel
theorem dX5_holdRow_0 : decode cX5_holdRow 0 = .ok (.aload_n 0, 1) := by decide +kernel
theorem dX5_holdRow_1 : decode cX5_holdRow 1 = .ok (.iconst 2, 1) := by decide +kernel
theorem dX5_holdRow_2 : decode cX5_holdRow 2 = .ok (.putfield 15, 3) := by decide +kernel
theorem dX5_holdRow_5 : decode cX5_holdRow 5 = .ok (.aload_n 0, 1) := by decide +kernel
theorem dX5_holdRow_6 : decode cX5_holdRow 6 = .ok (.iload_n 1, 1) := by decide +kernel
theorem dX5_holdRow_7 : decode cX5_holdRow 7 = .ok (.putfield 25, 3) := by decide +kernel
theorem dX5_holdRow_10 : decode cX5_holdRow 10 = .ok (.aload_n 0, 1) := by decide +kernel
theorem dX5_holdRow_11 : decode cX5_holdRow 11 = .ok (.iconst 0, 1) := by decide +kernel
theorem dX5_holdRow_12 : decode cX5_holdRow 12 = .ok (.iload_n 2, 1) := by decide +kernel
theorem dX5_holdRow_13 : decode cX5_holdRow 13 = .ok (.aload_n 0, 1) := by decide +kernel
theorem dX5_holdRow_14 : decode cX5_holdRow 14 = .ok (.getfield 9, 3) := by decide +kernel
theorem dX5_holdRow_17 : decode cX5_holdRow 17 = .ok (.arraylength, 1) := by decide +kernel
theorem dX5_holdRow_18 : decode cX5_holdRow 18 = .ok (.invokestatic 28, 3) := by decide +kernel
theorem dX5_holdRow_21 : decode cX5_holdRow 21 = .ok (.invokestatic 34, 3) := by decide +kernel
theorem dX5_holdRow_24 : decode cX5_holdRow 24 = .ok (.putfield 37, 3) := by decide +kernel
theorem dX5_holdRow_27 : decode cX5_holdRow 27 = .ok (.iconst 0, 1) := by decide +kernel
theorem dX5_holdRow_28 : decode cX5_holdRow 28 = .ok (.istore_n 3, 1) := by decide +kernel
theorem dX5_holdRow_29 : decode cX5_holdRow 29 = .ok (.iload_n 3, 1) := by decide +kernel
theorem dX5_holdRow_30 : decode cX5_holdRow 30 = .ok (.aload_n 0, 1) := by decide +kernel
theorem dX5_holdRow_31 : decode cX5_holdRow 31 = .ok (.getfield 9, 3) := by decide +kernel
theorem dX5_holdRow_34 : decode cX5_holdRow 34 = .ok (.arraylength, 1) := by decide +kernel
theorem dX5_holdRow_35 : decode cX5_holdRow 35 = .ok (.if_icmp .ge 16, 3) := by decide +kernel
theorem dX5_holdRow_38 : decode cX5_holdRow 38 = .ok (.aload_n 0, 1) := by decide +kernel
theorem dX5_holdRow_39 : decode cX5_holdRow 39 = .ok (.getfield 9, 3) := by decide +kernel
theorem dX5_holdRow_42 : decode cX5_holdRow 42 = .ok (.iload_n 3, 1) := by decide +kernel
theorem dX5_holdRow_43 : decode cX5_holdRow 43 = .ok (.iconst 0, 1) := by decide +kernel
theorem dX5_holdRow_44 : decode cX5_holdRow 44 = .ok (.iastore, 1) := by decide +kernel
theorem dX5_holdRow_45 : decode cX5_holdRow 45 = .ok (.iinc 3 1, 3) := by decide +kernel
theorem dX5_holdRow_48 : decode cX5_holdRow 48 = .ok (.goto (-19), 3) := by decide +kernel
theorem dX5_holdRow_51 : decode cX5_holdRow 51 = .ok (.return_, 1) := by decide +kernel
theorem dX5_pinRefusal_0 : decode cX5_pinRefusal 0 = .ok (.aload_n 0, 1) := by decide +kernel
theorem dX5_pinRefusal_1 : decode cX5_pinRefusal 1 = .ok (.getfield 15, 3) := by decide +kernel
theorem dX5_pinRefusal_4 : decode cX5_pinRefusal 4 = .ok (.ifCond .ne 8, 3) := by decide +kernel
theorem dX5_pinRefusal_7 : decode cX5_pinRefusal 7 = .ok (.bipush (-11), 2) := by decide +kernel
theorem dX5_pinRefusal_9 : decode cX5_pinRefusal 9 = .ok (.goto 17, 3) := by decide +kernel
theorem dX5_pinRefusal_12 : decode cX5_pinRefusal 12 = .ok (.aload_n 0, 1) := by decide +kernel
theorem dX5_pinRefusal_13 : decode cX5_pinRefusal 13 = .ok (.getfield 15, 3) := by decide +kernel
theorem dX5_pinRefusal_16 : decode cX5_pinRefusal 16 = .ok (.iconst 1, 1) := by decide +kernel
theorem dX5_pinRefusal_17 : decode cX5_pinRefusal 17 = .ok (.if_icmp .ne 7, 3) := by decide +kernel
theorem dX5_pinRefusal_20 : decode cX5_pinRefusal 20 = .ok (.iconst 0, 1) := by decide +kernel
theorem dX5_pinRefusal_21 : decode cX5_pinRefusal 21 = .ok (.goto 5, 3) := by decide +kernel
theorem dX5_pinRefusal_24 : decode cX5_pinRefusal 24 = .ok (.bipush (-12), 2) := by decide +kernel
theorem dX5_pinRefusal_26 : decode cX5_pinRefusal 26 = .ok (.ireturn, 1) := by decide +kernel
theorem dX5_rowRefusal_0 : decode cX5_rowRefusal 0 = .ok (.aload_n 0, 1) := by decide +kernel
theorem dX5_rowRefusal_1 : decode cX5_rowRefusal 1 = .ok (.getfield 15, 3) := by decide +kernel
theorem dX5_rowRefusal_4 : decode cX5_rowRefusal 4 = .ok (.ifCond .ne 8, 3) := by decide +kernel
theorem dX5_rowRefusal_7 : decode cX5_rowRefusal 7 = .ok (.bipush (-11), 2) := by decide +kernel
theorem dX5_rowRefusal_9 : decode cX5_rowRefusal 9 = .ok (.goto 17, 3) := by decide +kernel
theorem dX5_rowRefusal_12 : decode cX5_rowRefusal 12 = .ok (.aload_n 0, 1) := by decide +kernel
theorem dX5_rowRefusal_13 : decode cX5_rowRefusal 13 = .ok (.getfield 15, 3) := by decide +kernel
theorem dX5_rowRefusal_16 : decode cX5_rowRefusal 16 = .ok (.iconst 2, 1) := by decide +kernel
theorem dX5_rowRefusal_17 : decode cX5_rowRefusal 17 = .ok (.if_icmp .ne 7, 3) := by decide +kernel
theorem dX5_rowRefusal_20 : decode cX5_rowRefusal 20 = .ok (.iconst 0, 1) := by decide +kernel
theorem dX5_rowRefusal_21 : decode cX5_rowRefusal 21 = .ok (.goto 5, 3) := by decide +kernel
theorem dX5_rowRefusal_24 : decode cX5_rowRefusal 24 = .ok (.bipush (-12), 2) := by decide +kernel
theorem dX5_rowRefusal_26 : decode cX5_rowRefusal 26 = .ok (.ireturn, 1) := by decide +kernel
theorem dX5_hasPlaces_0 : decode cX5_hasPlaces 0 = .ok (.iload_n 1, 1) := by decide +kernel
theorem dX5_hasPlaces_1 : decode cX5_hasPlaces 1 = .ok (.ifCond .lt 29, 3) := by decide +kernel
theorem dX5_hasPlaces_4 : decode cX5_hasPlaces 4 = .ok (.iload_n 2, 1) := by decide +kernel
theorem dX5_hasPlaces_5 : decode cX5_hasPlaces 5 = .ok (.ifCond .lt 25, 3) := by decide +kernel
theorem dX5_hasPlaces_8 : decode cX5_hasPlaces 8 = .ok (.iload_n 2, 1) := by decide +kernel
theorem dX5_hasPlaces_9 : decode cX5_hasPlaces 9 = .ok (.aload_n 0, 1) := by decide +kernel
theorem dX5_hasPlaces_10 : decode cX5_hasPlaces 10 = .ok (.getfield 37, 3) := by decide +kernel
theorem dX5_hasPlaces_13 : decode cX5_hasPlaces 13 = .ok (.if_icmp .gt 17, 3) := by decide +kernel
theorem dX5_hasPlaces_16 : decode cX5_hasPlaces 16 = .ok (.iload_n 1, 1) := by decide +kernel
theorem dX5_hasPlaces_17 : decode cX5_hasPlaces 17 = .ok (.aload_n 0, 1) := by decide +kernel
theorem dX5_hasPlaces_18 : decode cX5_hasPlaces 18 = .ok (.getfield 37, 3) := by decide +kernel
theorem dX5_hasPlaces_21 : decode cX5_hasPlaces 21 = .ok (.iload_n 2, 1) := by decide +kernel
theorem dX5_hasPlaces_22 : decode cX5_hasPlaces 22 = .ok (.isub, 1) := by decide +kernel
theorem dX5_hasPlaces_23 : decode cX5_hasPlaces 23 = .ok (.if_icmp .gt 7, 3) := by decide +kernel
theorem dX5_hasPlaces_26 : decode cX5_hasPlaces 26 = .ok (.iconst 1, 1) := by decide +kernel
theorem dX5_hasPlaces_27 : decode cX5_hasPlaces 27 = .ok (.goto 4, 3) := by decide +kernel
theorem dX5_hasPlaces_30 : decode cX5_hasPlaces 30 = .ok (.iconst 0, 1) := by decide +kernel
theorem dX5_hasPlaces_31 : decode cX5_hasPlaces 31 = .ok (.ireturn, 1) := by decide +kernel
theorem dX5_at_0 : decode cX5_at 0 = .ok (.iload_n 1, 1) := by decide +kernel
theorem dX5_at_1 : decode cX5_at 1 = .ok (.ifCond .lt 29, 3) := by decide +kernel
theorem dX5_at_4 : decode cX5_at 4 = .ok (.iload_n 1, 1) := by decide +kernel
theorem dX5_at_5 : decode cX5_at 5 = .ok (.aload_n 0, 1) := by decide +kernel
theorem dX5_at_6 : decode cX5_at 6 = .ok (.getfield 37, 3) := by decide +kernel
theorem dX5_at_9 : decode cX5_at 9 = .ok (.if_icmp .ge 21, 3) := by decide +kernel
theorem dX5_at_12 : decode cX5_at 12 = .ok (.iload_n 1, 1) := by decide +kernel
theorem dX5_at_13 : decode cX5_at 13 = .ok (.aload_n 0, 1) := by decide +kernel
theorem dX5_at_14 : decode cX5_at 14 = .ok (.getfield 9, 3) := by decide +kernel
theorem dX5_at_17 : decode cX5_at 17 = .ok (.arraylength, 1) := by decide +kernel
theorem dX5_at_18 : decode cX5_at 18 = .ok (.if_icmp .ge 12, 3) := by decide +kernel
theorem dX5_at_21 : decode cX5_at 21 = .ok (.aload_n 0, 1) := by decide +kernel
theorem dX5_at_22 : decode cX5_at 22 = .ok (.getfield 9, 3) := by decide +kernel
theorem dX5_at_25 : decode cX5_at 25 = .ok (.iload_n 1, 1) := by decide +kernel
theorem dX5_at_26 : decode cX5_at 26 = .ok (.iaload, 1) := by decide +kernel
theorem dX5_at_27 : decode cX5_at 27 = .ok (.goto 4, 3) := by decide +kernel
theorem dX5_at_30 : decode cX5_at 30 = .ok (.iconst 0, 1) := by decide +kernel
theorem dX5_at_31 : decode cX5_at 31 = .ok (.ireturn, 1) := by decide +kernel
theorem dX5_putAt_0 : decode cX5_putAt 0 = .ok (.iload_n 1, 1) := by decide +kernel
theorem dX5_putAt_1 : decode cX5_putAt 1 = .ok (.ifCond .lt 52, 3) := by decide +kernel
theorem dX5_putAt_4 : decode cX5_putAt 4 = .ok (.iload_n 1, 1) := by decide +kernel
theorem dX5_putAt_5 : decode cX5_putAt 5 = .ok (.aload_n 0, 1) := by decide +kernel
theorem dX5_putAt_6 : decode cX5_putAt 6 = .ok (.getfield 37, 3) := by decide +kernel
theorem dX5_putAt_9 : decode cX5_putAt 9 = .ok (.if_icmp .ge 44, 3) := by decide +kernel
theorem dX5_putAt_12 : decode cX5_putAt 12 = .ok (.iload_n 1, 1) := by decide +kernel
theorem dX5_putAt_13 : decode cX5_putAt 13 = .ok (.aload_n 0, 1) := by decide +kernel
theorem dX5_putAt_14 : decode cX5_putAt 14 = .ok (.getfield 9, 3) := by decide +kernel
theorem dX5_putAt_17 : decode cX5_putAt 17 = .ok (.arraylength, 1) := by decide +kernel
theorem dX5_putAt_18 : decode cX5_putAt 18 = .ok (.if_icmp .ge 35, 3) := by decide +kernel
theorem dX5_putAt_21 : decode cX5_putAt 21 = .ok (.aload_n 0, 1) := by decide +kernel
theorem dX5_putAt_22 : decode cX5_putAt 22 = .ok (.getfield 9, 3) := by decide +kernel
theorem dX5_putAt_25 : decode cX5_putAt 25 = .ok (.iload_n 1, 1) := by decide +kernel
theorem dX5_putAt_26 : decode cX5_putAt 26 = .ok (.aload_n 0, 1) := by decide +kernel
theorem dX5_putAt_27 : decode cX5_putAt 27 = .ok (.getfield 25, 3) := by decide +kernel
theorem dX5_putAt_30 : decode cX5_putAt 30 = .ok (.ifCond .ne 8, 3) := by decide +kernel
theorem dX5_putAt_33 : decode cX5_putAt 33 = .ok (.iload_n 2, 1) := by decide +kernel
theorem dX5_putAt_34 : decode cX5_putAt 34 = .ok (.i2b, 1) := by decide +kernel
theorem dX5_putAt_35 : decode cX5_putAt 35 = .ok (.goto 17, 3) := by decide +kernel
theorem dX5_putAt_38 : decode cX5_putAt 38 = .ok (.aload_n 0, 1) := by decide +kernel
theorem dX5_putAt_39 : decode cX5_putAt 39 = .ok (.getfield 25, 3) := by decide +kernel
theorem dX5_putAt_42 : decode cX5_putAt 42 = .ok (.iconst 1, 1) := by decide +kernel
theorem dX5_putAt_43 : decode cX5_putAt 43 = .ok (.if_icmp .ne 8, 3) := by decide +kernel
theorem dX5_putAt_46 : decode cX5_putAt 46 = .ok (.iload_n 2, 1) := by decide +kernel
theorem dX5_putAt_47 : decode cX5_putAt 47 = .ok (.i2s, 1) := by decide +kernel
theorem dX5_putAt_48 : decode cX5_putAt 48 = .ok (.goto 4, 3) := by decide +kernel
theorem dX5_putAt_51 : decode cX5_putAt 51 = .ok (.iload_n 2, 1) := by decide +kernel
theorem dX5_putAt_52 : decode cX5_putAt 52 = .ok (.iastore, 1) := by decide +kernel
theorem dX5_putAt_53 : decode cX5_putAt 53 = .ok (.return_, 1) := by decide +kernel
theorem dX5_leastNumber_0 : decode cX5_leastNumber 0 = .ok (.aload_n 0, 1) := by decide +kernel
theorem dX5_leastNumber_1 : decode cX5_leastNumber 1 = .ok (.getfield 25, 3) := by decide +kernel
theorem dX5_leastNumber_4 : decode cX5_leastNumber 4 = .ok (.ifCond .ne 8, 3) := by decide +kernel
theorem dX5_leastNumber_7 : decode cX5_leastNumber 7 = .ok (.bipush (-128), 2) := by decide +kernel
theorem dX5_leastNumber_9 : decode cX5_leastNumber 9 = .ok (.goto 19, 3) := by decide +kernel
theorem dX5_leastNumber_12 : decode cX5_leastNumber 12 = .ok (.aload_n 0, 1) := by decide +kernel
theorem dX5_leastNumber_13 : decode cX5_leastNumber 13 = .ok (.getfield 25, 3) := by decide +kernel
theorem dX5_leastNumber_16 : decode cX5_leastNumber 16 = .ok (.iconst 1, 1) := by decide +kernel
theorem dX5_leastNumber_17 : decode cX5_leastNumber 17 = .ok (.if_icmp .ne 9, 3) := by decide +kernel
theorem dX5_leastNumber_20 : decode cX5_leastNumber 20 = .ok (.sipush (-32768), 3) := by decide +kernel
theorem dX5_leastNumber_23 : decode cX5_leastNumber 23 = .ok (.goto 5, 3) := by decide +kernel
theorem dX5_leastNumber_26 : decode cX5_leastNumber 26 = .ok (.ldc 40, 2) := by decide +kernel
theorem dX5_leastNumber_28 : decode cX5_leastNumber 28 = .ok (.ireturn, 1) := by decide +kernel
theorem dX5_takeFrom_0 : decode cX5_takeFrom 0 = .ok (.aload_n 1, 1) := by decide +kernel
theorem dX5_takeFrom_1 : decode cX5_takeFrom 1 = .ok (.iload_n 2, 1) := by decide +kernel
theorem dX5_takeFrom_2 : decode cX5_takeFrom 2 = .ok (.iload 4, 2) := by decide +kernel
theorem dX5_takeFrom_4 : decode cX5_takeFrom 4 = .ok (.invokevirtual 41, 3) := by decide +kernel
theorem dX5_takeFrom_7 : decode cX5_takeFrom 7 = .ok (.ifCond .eq 28, 3) := by decide +kernel
theorem dX5_takeFrom_10 : decode cX5_takeFrom 10 = .ok (.aload_n 0, 1) := by decide +kernel
theorem dX5_takeFrom_11 : decode cX5_takeFrom 11 = .ok (.iload_n 3, 1) := by decide +kernel
theorem dX5_takeFrom_12 : decode cX5_takeFrom 12 = .ok (.iload 4, 2) := by decide +kernel
theorem dX5_takeFrom_14 : decode cX5_takeFrom 14 = .ok (.invokevirtual 41, 3) := by decide +kernel
theorem dX5_takeFrom_17 : decode cX5_takeFrom 17 = .ok (.ifCond .eq 18, 3) := by decide +kernel
theorem dX5_takeFrom_20 : decode cX5_takeFrom 20 = .ok (.aload_n 1, 1) := by decide +kernel
theorem dX5_takeFrom_21 : decode cX5_takeFrom 21 = .ok (.getfield 9, 3) := by decide +kernel
theorem dX5_takeFrom_24 : decode cX5_takeFrom 24 = .ok (.iload_n 2, 1) := by decide +kernel
theorem dX5_takeFrom_25 : decode cX5_takeFrom 25 = .ok (.aload_n 0, 1) := by decide +kernel
theorem dX5_takeFrom_26 : decode cX5_takeFrom 26 = .ok (.getfield 9, 3) := by decide +kernel
theorem dX5_takeFrom_29 : decode cX5_takeFrom 29 = .ok (.iload_n 3, 1) := by decide +kernel
theorem dX5_takeFrom_30 : decode cX5_takeFrom 30 = .ok (.iload 4, 2) := by decide +kernel
theorem dX5_takeFrom_32 : decode cX5_takeFrom 32 = .ok (.invokestatic 45, 3) := by decide +kernel
theorem dX5_takeFrom_35 : decode cX5_takeFrom 35 = .ok (.return_, 1) := by decide +kernel
theorem dX6_init_0 : decode cX6_init 0 = .ok (.aload_n 0, 1) := by decide +kernel
theorem dX6_init_1 : decode cX6_init 1 = .ok (.invokespecial 1, 3) := by decide +kernel
theorem dX6_init_4 : decode cX6_init 4 = .ok (.return_, 1) := by decide +kernel
theorem dX6_work_0 : decode cX6_work 0 = .ok (.aload_n 0, 1) := by decide +kernel
theorem dX6_work_1 : decode cX6_work 1 = .ok (.aload_n 1, 1) := by decide +kernel
theorem dX6_work_2 : decode cX6_work 2 = .ok (.iload_n 2, 1) := by decide +kernel
theorem dX6_work_3 : decode cX6_work 3 = .ok (.iload_n 3, 1) := by decide +kernel
theorem dX6_work_4 : decode cX6_work 4 = .ok (.invokespecial 7, 3) := by decide +kernel
theorem dX6_work_7 : decode cX6_work 7 = .ok (.aload_n 1, 1) := by decide +kernel
theorem dX6_work_8 : decode cX6_work 8 = .ok (.iload_n 3, 1) := by decide +kernel
theorem dX6_work_9 : decode cX6_work 9 = .ok (.invokevirtual 11, 3) := by decide +kernel
theorem dX6_work_12 : decode cX6_work 12 = .ok (.return_, 1) := by decide +kernel
theorem dX6_cost_0 : decode cX6_cost 0 = .ok (.aload_n 0, 1) := by decide +kernel
theorem dX6_cost_1 : decode cX6_cost 1 = .ok (.iload_n 1, 1) := by decide +kernel
theorem dX6_cost_2 : decode cX6_cost 2 = .ok (.invokespecial 17, 3) := by decide +kernel
theorem dX6_cost_5 : decode cX6_cost 5 = .ok (.iload_n 1, 1) := by decide +kernel
theorem dX6_cost_6 : decode cX6_cost 6 = .ok (.isub, 1) := by decide +kernel
theorem dX6_cost_7 : decode cX6_cost 7 = .ok (.ireturn, 1) := by decide +kernel
theorem dX7_init_0 : decode cX7_init 0 = .ok (.aload_n 0, 1) := by decide +kernel
theorem dX7_init_1 : decode cX7_init 1 = .ok (.invokespecial 3, 3) := by decide +kernel
theorem dX7_init_4 : decode cX7_init 4 = .ok (.return_, 1) := by decide +kernel
theorem dX7_canBe_0 : decode cX7_canBe 0 = .ok (.aload_n 1, 1) := by decide +kernel
theorem dX7_canBe_1 : decode cX7_canBe 1 = .ok (.iload_n 2, 1) := by decide +kernel
theorem dX7_canBe_2 : decode cX7_canBe 2 = .ok (.iconst 1, 1) := by decide +kernel
theorem dX7_canBe_3 : decode cX7_canBe 3 = .ok (.invokevirtual 9, 3) := by decide +kernel
theorem dX7_canBe_6 : decode cX7_canBe 6 = .ok (.iload_n 3, 1) := by decide +kernel
theorem dX7_canBe_7 : decode cX7_canBe 7 = .ok (.if_icmp .le 7, 3) := by decide +kernel
theorem dX7_canBe_10 : decode cX7_canBe 10 = .ok (.iconst 1, 1) := by decide +kernel
theorem dX7_canBe_11 : decode cX7_canBe 11 = .ok (.goto 4, 3) := by decide +kernel
theorem dX7_canBe_14 : decode cX7_canBe 14 = .ok (.iconst 0, 1) := by decide +kernel
theorem dX7_canBe_15 : decode cX7_canBe 15 = .ok (.ireturn, 1) := by decide +kernel
theorem dX7_work_0 : decode cX7_work 0 = .ok (.aload_n 1, 1) := by decide +kernel
theorem dX7_work_1 : decode cX7_work 1 = .ok (.iload_n 2, 1) := by decide +kernel
theorem dX7_work_2 : decode cX7_work 2 = .ok (.iload_n 3, 1) := by decide +kernel
theorem dX7_work_3 : decode cX7_work 3 = .ok (.ineg, 1) := by decide +kernel
theorem dX7_work_4 : decode cX7_work 4 = .ok (.invokevirtual 15, 3) := by decide +kernel
theorem dX7_work_7 : decode cX7_work 7 = .ok (.aload_n 1, 1) := by decide +kernel
theorem dX7_work_8 : decode cX7_work 8 = .ok (.iload_n 2, 1) := by decide +kernel
theorem dX7_work_9 : decode cX7_work 9 = .ok (.iload_n 3, 1) := by decide +kernel
theorem dX7_work_10 : decode cX7_work 10 = .ok (.iconst 2, 1) := by decide +kernel
theorem dX7_work_11 : decode cX7_work 11 = .ok (.idiv, 1) := by decide +kernel
theorem dX7_work_12 : decode cX7_work 12 = .ok (.invokevirtual 19, 3) := by decide +kernel
theorem dX7_work_15 : decode cX7_work 15 = .ok (.return_, 1) := by decide +kernel
theorem dX7_cost_0 : decode cX7_cost 0 = .ok (.aload_n 0, 1) := by decide +kernel
theorem dX7_cost_1 : decode cX7_cost 1 = .ok (.iload_n 1, 1) := by decide +kernel
theorem dX7_cost_2 : decode cX7_cost 2 = .ok (.invokespecial 22, 3) := by decide +kernel
theorem dX7_cost_5 : decode cX7_cost 5 = .ok (.iload_n 1, 1) := by decide +kernel
theorem dX7_cost_6 : decode cX7_cost 6 = .ok (.iadd, 1) := by decide +kernel
theorem dX7_cost_7 : decode cX7_cost 7 = .ok (.ireturn, 1) := by decide +kernel
theorem dX8_init_0 : decode cX8_init 0 = .ok (.aload_n 0, 1) := by decide +kernel
theorem dX8_init_1 : decode cX8_init 1 = .ok (.invokespecial 3, 3) := by decide +kernel
theorem dX8_init_4 : decode cX8_init 4 = .ok (.aload_n 0, 1) := by decide +kernel
theorem dX8_init_5 : decode cX8_init 5 = .ok (.iconst 4, 1) := by decide +kernel
theorem dX8_init_6 : decode cX8_init 6 = .ok (.newarray .int, 2) := by decide +kernel
theorem dX8_init_8 : decode cX8_init 8 = .ok (.putfield 9, 3) := by decide +kernel
theorem dX8_init_11 : decode cX8_init 11 = .ok (.return_, 1) := by decide +kernel
theorem dX8_formBehind_0 : decode cX8_formBehind 0 = .ok (.iload_n 0, 1) := by decide +kernel
theorem dX8_formBehind_1 : decode cX8_formBehind 1 = .ok (.tableswitch 63 108 116 #[57, 63, 63, 63, 60, 63, 51, 63, 54], 51) := by decide +kernel
theorem dX8_formBehind_52 : decode cX8_formBehind 52 = .ok (.ldc 15, 2) := by decide +kernel
theorem dX8_formBehind_54 : decode cX8_formBehind 54 = .ok (.areturn, 1) := by decide +kernel
theorem dX8_formBehind_55 : decode cX8_formBehind 55 = .ok (.ldc 17, 2) := by decide +kernel
theorem dX8_formBehind_57 : decode cX8_formBehind 57 = .ok (.areturn, 1) := by decide +kernel
theorem dX8_formBehind_58 : decode cX8_formBehind 58 = .ok (.ldc 19, 2) := by decide +kernel
theorem dX8_formBehind_60 : decode cX8_formBehind 60 = .ok (.areturn, 1) := by decide +kernel
theorem dX8_formBehind_61 : decode cX8_formBehind 61 = .ok (.ldc 21, 2) := by decide +kernel
theorem dX8_formBehind_63 : decode cX8_formBehind 63 = .ok (.areturn, 1) := by decide +kernel
theorem dX8_formBehind_64 : decode cX8_formBehind 64 = .ok (.ldc 23, 2) := by decide +kernel
theorem dX8_formBehind_66 : decode cX8_formBehind 66 = .ok (.areturn, 1) := by decide +kernel
theorem dX8_readStatement_0 : decode cX8_readStatement 0 = .ok (.aload_n 0, 1) := by decide +kernel
theorem dX8_readStatement_1 : decode cX8_readStatement 1 = .ok (.iconst 0, 1) := by decide +kernel
theorem dX8_readStatement_2 : decode cX8_readStatement 2 = .ok (.putfield 25, 3) := by decide +kernel
theorem dX8_readStatement_5 : decode cX8_readStatement 5 = .ok (.aload_n 0, 1) := by decide +kernel
theorem dX8_readStatement_6 : decode cX8_readStatement 6 = .ok (.aload_n 1, 1) := by decide +kernel
theorem dX8_readStatement_7 : decode cX8_readStatement 7 = .ok (.aload_n 0, 1) := by decide +kernel
theorem dX8_readStatement_8 : decode cX8_readStatement 8 = .ok (.getfield 29, 3) := by decide +kernel
theorem dX8_readStatement_11 : decode cX8_readStatement 11 = .ok (.invokevirtual 32, 3) := by decide +kernel
theorem dX8_readStatement_14 : decode cX8_readStatement 14 = .ok (.putfield 38, 3) := by decide +kernel
theorem dX8_readStatement_17 : decode cX8_readStatement 17 = .ok (.aload_n 0, 1) := by decide +kernel
theorem dX8_readStatement_18 : decode cX8_readStatement 18 = .ok (.getfield 38, 3) := by decide +kernel
theorem dX8_readStatement_21 : decode cX8_readStatement 21 = .ok (.invokestatic 41, 3) := by decide +kernel
theorem dX8_readStatement_24 : decode cX8_readStatement 24 = .ok (.astore_n 2, 1) := by decide +kernel
theorem dX8_readStatement_25 : decode cX8_readStatement 25 = .ok (.aload_n 2, 1) := by decide +kernel
theorem dX8_readStatement_26 : decode cX8_readStatement 26 = .ok (.invokevirtual 45, 3) := by decide +kernel
theorem dX8_readStatement_29 : decode cX8_readStatement 29 = .ok (.ifCond .eq 5, 3) := by decide +kernel
theorem dX8_readStatement_32 : decode cX8_readStatement 32 = .ok (.iconst 0, 1) := by decide +kernel
theorem dX8_readStatement_33 : decode cX8_readStatement 33 = .ok (.ireturn, 1) := by decide +kernel
theorem dX8_readStatement_34 : decode cX8_readStatement 34 = .ok (.aload_n 0, 1) := by decide +kernel
theorem dX8_readStatement_35 : decode cX8_readStatement 35 = .ok (.dup, 1) := by decide +kernel
theorem dX8_readStatement_36 : decode cX8_readStatement 36 = .ok (.getfield 29, 3) := by decide +kernel
theorem dX8_readStatement_39 : decode cX8_readStatement 39 = .ok (.iconst 1, 1) := by decide +kernel
theorem dX8_readStatement_40 : decode cX8_readStatement 40 = .ok (.iadd, 1) := by decide +kernel
theorem dX8_readStatement_41 : decode cX8_readStatement 41 = .ok (.putfield 29, 3) := by decide +kernel
theorem dX8_readStatement_44 : decode cX8_readStatement 44 = .ok (.iconst 0, 1) := by decide +kernel
theorem dX8_readStatement_45 : decode cX8_readStatement 45 = .ok (.istore_n 3, 1) := by decide +kernel
theorem dX8_readStatement_46 : decode cX8_readStatement 46 = .ok (.iload_n 3, 1) := by decide +kernel
theorem dX8_readStatement_47 : decode cX8_readStatement 47 = .ok (.aload_n 2, 1) := by decide +kernel
theorem dX8_readStatement_48 : decode cX8_readStatement 48 = .ok (.invokevirtual 51, 3) := by decide +kernel
theorem dX8_readStatement_51 : decode cX8_readStatement 51 = .ok (.if_icmp .ge 24, 3) := by decide +kernel
theorem dX8_readStatement_54 : decode cX8_readStatement 54 = .ok (.aload_n 0, 1) := by decide +kernel
theorem dX8_readStatement_55 : decode cX8_readStatement 55 = .ok (.aload_n 1, 1) := by decide +kernel
theorem dX8_readStatement_56 : decode cX8_readStatement 56 = .ok (.aload_n 2, 1) := by decide +kernel
theorem dX8_readStatement_57 : decode cX8_readStatement 57 = .ok (.iload_n 3, 1) := by decide +kernel
theorem dX8_readStatement_58 : decode cX8_readStatement 58 = .ok (.invokevirtual 55, 3) := by decide +kernel
theorem dX8_readStatement_61 : decode cX8_readStatement 61 = .ok (.invokevirtual 59, 3) := by decide +kernel
theorem dX8_readStatement_64 : decode cX8_readStatement 64 = .ok (.ifCond .ne 5, 3) := by decide +kernel
theorem dX8_readStatement_67 : decode cX8_readStatement 67 = .ok (.iconst 0, 1) := by decide +kernel
theorem dX8_readStatement_68 : decode cX8_readStatement 68 = .ok (.ireturn, 1) := by decide +kernel
theorem dX8_readStatement_69 : decode cX8_readStatement 69 = .ok (.iinc 3 1, 3) := by decide +kernel
theorem dX8_readStatement_72 : decode cX8_readStatement 72 = .ok (.goto (-26), 3) := by decide +kernel
theorem dX8_readStatement_75 : decode cX8_readStatement 75 = .ok (.iconst 1, 1) := by decide +kernel
theorem dX8_readStatement_76 : decode cX8_readStatement 76 = .ok (.ireturn, 1) := by decide +kernel
theorem dX8_readPart_0 : decode cX8_readPart 0 = .ok (.iload_n 2, 1) := by decide +kernel
theorem dX8_readPart_1 : decode cX8_readPart 1 = .ok (.bipush 110, 2) := by decide +kernel
theorem dX8_readPart_3 : decode cX8_readPart 3 = .ok (.if_icmp .eq 9, 3) := by decide +kernel
theorem dX8_readPart_6 : decode cX8_readPart 6 = .ok (.iload_n 2, 1) := by decide +kernel
theorem dX8_readPart_7 : decode cX8_readPart 7 = .ok (.bipush 100, 2) := by decide +kernel
theorem dX8_readPart_9 : decode cX8_readPart 9 = .ok (.if_icmp .ne 20, 3) := by decide +kernel
theorem dX8_readPart_12 : decode cX8_readPart 12 = .ok (.aload_n 0, 1) := by decide +kernel
theorem dX8_readPart_13 : decode cX8_readPart 13 = .ok (.aload_n 1, 1) := by decide +kernel
theorem dX8_readPart_14 : decode cX8_readPart 14 = .ok (.iload_n 2, 1) := by decide +kernel
theorem dX8_readPart_15 : decode cX8_readPart 15 = .ok (.bipush 110, 2) := by decide +kernel
theorem dX8_readPart_17 : decode cX8_readPart 17 = .ok (.if_icmp .ne 7, 3) := by decide +kernel
theorem dX8_readPart_20 : decode cX8_readPart 20 = .ok (.iconst 1, 1) := by decide +kernel
theorem dX8_readPart_21 : decode cX8_readPart 21 = .ok (.goto 4, 3) := by decide +kernel
theorem dX8_readPart_24 : decode cX8_readPart 24 = .ok (.iconst 0, 1) := by decide +kernel
theorem dX8_readPart_25 : decode cX8_readPart 25 = .ok (.invokevirtual 63, 3) := by decide +kernel
theorem dX8_readPart_28 : decode cX8_readPart 28 = .ok (.ireturn, 1) := by decide +kernel
theorem dX8_readPart_29 : decode cX8_readPart 29 = .ok (.aload_n 1, 1) := by decide +kernel
theorem dX8_readPart_30 : decode cX8_readPart 30 = .ok (.aload_n 0, 1) := by decide +kernel
theorem dX8_readPart_31 : decode cX8_readPart 31 = .ok (.getfield 29, 3) := by decide +kernel
theorem dX8_readPart_34 : decode cX8_readPart 34 = .ok (.invokevirtual 32, 3) := by decide +kernel
theorem dX8_readPart_37 : decode cX8_readPart 37 = .ok (.iload_n 2, 1) := by decide +kernel
theorem dX8_readPart_38 : decode cX8_readPart 38 = .ok (.if_icmp .eq 5, 3) := by decide +kernel
theorem dX8_readPart_41 : decode cX8_readPart 41 = .ok (.iconst 0, 1) := by decide +kernel
theorem dX8_readPart_42 : decode cX8_readPart 42 = .ok (.ireturn, 1) := by decide +kernel
theorem dX8_readPart_43 : decode cX8_readPart 43 = .ok (.aload_n 0, 1) := by decide +kernel
theorem dX8_readPart_44 : decode cX8_readPart 44 = .ok (.dup, 1) := by decide +kernel
theorem dX8_readPart_45 : decode cX8_readPart 45 = .ok (.getfield 29, 3) := by decide +kernel
theorem dX8_readPart_48 : decode cX8_readPart 48 = .ok (.iconst 1, 1) := by decide +kernel
theorem dX8_readPart_49 : decode cX8_readPart 49 = .ok (.iadd, 1) := by decide +kernel
theorem dX8_readPart_50 : decode cX8_readPart 50 = .ok (.putfield 29, 3) := by decide +kernel
theorem dX8_readPart_53 : decode cX8_readPart 53 = .ok (.iconst 1, 1) := by decide +kernel
theorem dX8_readPart_54 : decode cX8_readPart 54 = .ok (.ireturn, 1) := by decide +kernel
theorem dX8_readNumber_0 : decode cX8_readNumber 0 = .ok (.aload_n 0, 1) := by decide +kernel
theorem dX8_readNumber_1 : decode cX8_readNumber 1 = .ok (.aload_n 1, 1) := by decide +kernel
theorem dX8_readNumber_2 : decode cX8_readNumber 2 = .ok (.invokevirtual 67, 3) := by decide +kernel
theorem dX8_readNumber_5 : decode cX8_readNumber 5 = .ok (.istore_n 3, 1) := by decide +kernel
theorem dX8_readNumber_6 : decode cX8_readNumber 6 = .ok (.iload_n 3, 1) := by decide +kernel
theorem dX8_readNumber_7 : decode cX8_readNumber 7 = .ok (.ifCond .ge 5, 3) := by decide +kernel
theorem dX8_readNumber_10 : decode cX8_readNumber 10 = .ok (.iconst 0, 1) := by decide +kernel
theorem dX8_readNumber_11 : decode cX8_readNumber 11 = .ok (.ireturn, 1) := by decide +kernel
theorem dX8_readNumber_12 : decode cX8_readNumber 12 = .ok (.aload_n 0, 1) := by decide +kernel
theorem dX8_readNumber_13 : decode cX8_readNumber 13 = .ok (.dup, 1) := by decide +kernel
theorem dX8_readNumber_14 : decode cX8_readNumber 14 = .ok (.getfield 29, 3) := by decide +kernel
theorem dX8_readNumber_17 : decode cX8_readNumber 17 = .ok (.iconst 1, 1) := by decide +kernel
theorem dX8_readNumber_18 : decode cX8_readNumber 18 = .ok (.iadd, 1) := by decide +kernel
theorem dX8_readNumber_19 : decode cX8_readNumber 19 = .ok (.putfield 29, 3) := by decide +kernel
theorem dX8_readNumber_22 : decode cX8_readNumber 22 = .ok (.aload_n 0, 1) := by decide +kernel
theorem dX8_readNumber_23 : decode cX8_readNumber 23 = .ok (.aload_n 1, 1) := by decide +kernel
theorem dX8_readNumber_24 : decode cX8_readNumber 24 = .ok (.invokevirtual 67, 3) := by decide +kernel
theorem dX8_readNumber_27 : decode cX8_readNumber 27 = .ok (.istore 4, 2) := by decide +kernel
theorem dX8_readNumber_29 : decode cX8_readNumber 29 = .ok (.iload_n 2, 1) := by decide +kernel
theorem dX8_readNumber_30 : decode cX8_readNumber 30 = .ok (.ifCond .eq 30, 3) := by decide +kernel
theorem dX8_readNumber_33 : decode cX8_readNumber 33 = .ok (.iload_n 3, 1) := by decide +kernel
theorem dX8_readNumber_34 : decode cX8_readNumber 34 = .ok (.ifCond .le 26, 3) := by decide +kernel
theorem dX8_readNumber_37 : decode cX8_readNumber 37 = .ok (.iload 4, 2) := by decide +kernel
theorem dX8_readNumber_39 : decode cX8_readNumber 39 = .ok (.ifCond .lt 21, 3) := by decide +kernel
theorem dX8_readNumber_42 : decode cX8_readNumber 42 = .ok (.bipush 10, 2) := by decide +kernel
theorem dX8_readNumber_44 : decode cX8_readNumber 44 = .ok (.iload_n 3, 1) := by decide +kernel
theorem dX8_readNumber_45 : decode cX8_readNumber 45 = .ok (.imul, 1) := by decide +kernel
theorem dX8_readNumber_46 : decode cX8_readNumber 46 = .ok (.iload 4, 2) := by decide +kernel
theorem dX8_readNumber_48 : decode cX8_readNumber 48 = .ok (.iadd, 1) := by decide +kernel
theorem dX8_readNumber_49 : decode cX8_readNumber 49 = .ok (.istore_n 3, 1) := by decide +kernel
theorem dX8_readNumber_50 : decode cX8_readNumber 50 = .ok (.aload_n 0, 1) := by decide +kernel
theorem dX8_readNumber_51 : decode cX8_readNumber 51 = .ok (.dup, 1) := by decide +kernel
theorem dX8_readNumber_52 : decode cX8_readNumber 52 = .ok (.getfield 29, 3) := by decide +kernel
theorem dX8_readNumber_55 : decode cX8_readNumber 55 = .ok (.iconst 1, 1) := by decide +kernel
theorem dX8_readNumber_56 : decode cX8_readNumber 56 = .ok (.iadd, 1) := by decide +kernel
theorem dX8_readNumber_57 : decode cX8_readNumber 57 = .ok (.putfield 29, 3) := by decide +kernel
theorem dX8_readNumber_60 : decode cX8_readNumber 60 = .ok (.aload_n 0, 1) := by decide +kernel
theorem dX8_readNumber_61 : decode cX8_readNumber 61 = .ok (.getfield 25, 3) := by decide +kernel
theorem dX8_readNumber_64 : decode cX8_readNumber 64 = .ok (.ifCond .lt 35, 3) := by decide +kernel
theorem dX8_readNumber_67 : decode cX8_readNumber 67 = .ok (.aload_n 0, 1) := by decide +kernel
theorem dX8_readNumber_68 : decode cX8_readNumber 68 = .ok (.getfield 25, 3) := by decide +kernel
theorem dX8_readNumber_71 : decode cX8_readNumber 71 = .ok (.aload_n 0, 1) := by decide +kernel
theorem dX8_readNumber_72 : decode cX8_readNumber 72 = .ok (.getfield 9, 3) := by decide +kernel
theorem dX8_readNumber_75 : decode cX8_readNumber 75 = .ok (.arraylength, 1) := by decide +kernel
theorem dX8_readNumber_76 : decode cX8_readNumber 76 = .ok (.if_icmp .ge 23, 3) := by decide +kernel
theorem dX8_readNumber_79 : decode cX8_readNumber 79 = .ok (.aload_n 0, 1) := by decide +kernel
theorem dX8_readNumber_80 : decode cX8_readNumber 80 = .ok (.getfield 9, 3) := by decide +kernel
theorem dX8_readNumber_83 : decode cX8_readNumber 83 = .ok (.aload_n 0, 1) := by decide +kernel
theorem dX8_readNumber_84 : decode cX8_readNumber 84 = .ok (.getfield 25, 3) := by decide +kernel
theorem dX8_readNumber_87 : decode cX8_readNumber 87 = .ok (.iload_n 3, 1) := by decide +kernel
theorem dX8_readNumber_88 : decode cX8_readNumber 88 = .ok (.iastore, 1) := by decide +kernel
theorem dX8_readNumber_89 : decode cX8_readNumber 89 = .ok (.aload_n 0, 1) := by decide +kernel
theorem dX8_readNumber_90 : decode cX8_readNumber 90 = .ok (.dup, 1) := by decide +kernel
theorem dX8_readNumber_91 : decode cX8_readNumber 91 = .ok (.getfield 25, 3) := by decide +kernel
theorem dX8_readNumber_94 : decode cX8_readNumber 94 = .ok (.iconst 1, 1) := by decide +kernel
theorem dX8_readNumber_95 : decode cX8_readNumber 95 = .ok (.iadd, 1) := by decide +kernel
theorem dX8_readNumber_96 : decode cX8_readNumber 96 = .ok (.putfield 25, 3) := by decide +kernel
theorem dX8_readNumber_99 : decode cX8_readNumber 99 = .ok (.iconst 1, 1) := by decide +kernel
theorem dX8_readNumber_100 : decode cX8_readNumber 100 = .ok (.ireturn, 1) := by decide +kernel
theorem dX8_digitHere_0 : decode cX8_digitHere 0 = .ok (.aload_n 1, 1) := by decide +kernel
theorem dX8_digitHere_1 : decode cX8_digitHere 1 = .ok (.aload_n 0, 1) := by decide +kernel
theorem dX8_digitHere_2 : decode cX8_digitHere 2 = .ok (.getfield 29, 3) := by decide +kernel
theorem dX8_digitHere_5 : decode cX8_digitHere 5 = .ok (.invokevirtual 32, 3) := by decide +kernel
theorem dX8_digitHere_8 : decode cX8_digitHere 8 = .ok (.istore_n 2, 1) := by decide +kernel
theorem dX8_digitHere_9 : decode cX8_digitHere 9 = .ok (.iload_n 2, 1) := by decide +kernel
theorem dX8_digitHere_10 : decode cX8_digitHere 10 = .ok (.bipush 48, 2) := by decide +kernel
theorem dX8_digitHere_12 : decode cX8_digitHere 12 = .ok (.bipush 57, 2) := by decide +kernel
theorem dX8_digitHere_14 : decode cX8_digitHere 14 = .ok (.invokestatic 71, 3) := by decide +kernel
theorem dX8_digitHere_17 : decode cX8_digitHere 17 = .ok (.ifCond .eq 10, 3) := by decide +kernel
theorem dX8_digitHere_20 : decode cX8_digitHere 20 = .ok (.iload_n 2, 1) := by decide +kernel
theorem dX8_digitHere_21 : decode cX8_digitHere 21 = .ok (.bipush 48, 2) := by decide +kernel
theorem dX8_digitHere_23 : decode cX8_digitHere 23 = .ok (.isub, 1) := by decide +kernel
theorem dX8_digitHere_24 : decode cX8_digitHere 24 = .ok (.goto 4, 3) := by decide +kernel
theorem dX8_digitHere_27 : decode cX8_digitHere 27 = .ok (.iconst (-1), 1) := by decide +kernel
theorem dX8_digitHere_28 : decode cX8_digitHere 28 = .ok (.ireturn, 1) := by decide +kernel
theorem dX8_number_0 : decode cX8_number 0 = .ok (.iload_n 1, 1) := by decide +kernel
theorem dX8_number_1 : decode cX8_number 1 = .ok (.ifCond .lt 29, 3) := by decide +kernel
theorem dX8_number_4 : decode cX8_number 4 = .ok (.iload_n 1, 1) := by decide +kernel
theorem dX8_number_5 : decode cX8_number 5 = .ok (.aload_n 0, 1) := by decide +kernel
theorem dX8_number_6 : decode cX8_number 6 = .ok (.getfield 25, 3) := by decide +kernel
theorem dX8_number_9 : decode cX8_number 9 = .ok (.if_icmp .ge 21, 3) := by decide +kernel
theorem dX8_number_12 : decode cX8_number 12 = .ok (.iload_n 1, 1) := by decide +kernel
theorem dX8_number_13 : decode cX8_number 13 = .ok (.aload_n 0, 1) := by decide +kernel
theorem dX8_number_14 : decode cX8_number 14 = .ok (.getfield 9, 3) := by decide +kernel
theorem dX8_number_17 : decode cX8_number 17 = .ok (.arraylength, 1) := by decide +kernel
theorem dX8_number_18 : decode cX8_number 18 = .ok (.if_icmp .ge 12, 3) := by decide +kernel
theorem dX8_number_21 : decode cX8_number 21 = .ok (.aload_n 0, 1) := by decide +kernel
theorem dX8_number_22 : decode cX8_number 22 = .ok (.getfield 9, 3) := by decide +kernel
theorem dX8_number_25 : decode cX8_number 25 = .ok (.iload_n 1, 1) := by decide +kernel
theorem dX8_number_26 : decode cX8_number 26 = .ok (.iaload, 1) := by decide +kernel
theorem dX8_number_27 : decode cX8_number 27 = .ok (.goto 4, 3) := by decide +kernel
theorem dX8_number_30 : decode cX8_number 30 = .ok (.iconst 0, 1) := by decide +kernel
theorem dX8_number_31 : decode cX8_number 31 = .ok (.ireturn, 1) := by decide +kernel
theorem dX9_init_0 : decode cX9_init 0 = .ok (.aload_n 0, 1) := by decide +kernel
theorem dX9_init_1 : decode cX9_init 1 = .ok (.invokespecial 1, 3) := by decide +kernel
theorem dX9_init_4 : decode cX9_init 4 = .ok (.return_, 1) := by decide +kernel
theorem dX9_canBe_0 : decode cX9_canBe 0 = .ok (.aload_n 0, 1) := by decide +kernel
theorem dX9_canBe_1 : decode cX9_canBe 1 = .ok (.aload_n 1, 1) := by decide +kernel
theorem dX9_canBe_2 : decode cX9_canBe 2 = .ok (.iload_n 2, 1) := by decide +kernel
theorem dX9_canBe_3 : decode cX9_canBe 3 = .ok (.iload_n 3, 1) := by decide +kernel
theorem dX9_canBe_4 : decode cX9_canBe 4 = .ok (.invokespecial 7, 3) := by decide +kernel
theorem dX9_canBe_7 : decode cX9_canBe 7 = .ok (.ifCond .eq 17, 3) := by decide +kernel
theorem dX9_canBe_10 : decode cX9_canBe 10 = .ok (.aload_n 1, 1) := by decide +kernel
theorem dX9_canBe_11 : decode cX9_canBe 11 = .ok (.iload_n 2, 1) := by decide +kernel
theorem dX9_canBe_12 : decode cX9_canBe 12 = .ok (.iconst 1, 1) := by decide +kernel
theorem dX9_canBe_13 : decode cX9_canBe 13 = .ok (.iadd, 1) := by decide +kernel
theorem dX9_canBe_14 : decode cX9_canBe 14 = .ok (.invokevirtual 11, 3) := by decide +kernel
theorem dX9_canBe_17 : decode cX9_canBe 17 = .ok (.ifCond .eq 7, 3) := by decide +kernel
theorem dX9_canBe_20 : decode cX9_canBe 20 = .ok (.iconst 1, 1) := by decide +kernel
theorem dX9_canBe_21 : decode cX9_canBe 21 = .ok (.goto 4, 3) := by decide +kernel
theorem dX9_canBe_24 : decode cX9_canBe 24 = .ok (.iconst 0, 1) := by decide +kernel
theorem dX9_canBe_25 : decode cX9_canBe 25 = .ok (.ireturn, 1) := by decide +kernel
theorem dX9_work_0 : decode cX9_work 0 = .ok (.aload_n 0, 1) := by decide +kernel
theorem dX9_work_1 : decode cX9_work 1 = .ok (.aload_n 1, 1) := by decide +kernel
theorem dX9_work_2 : decode cX9_work 2 = .ok (.iload_n 2, 1) := by decide +kernel
theorem dX9_work_3 : decode cX9_work 3 = .ok (.iload_n 3, 1) := by decide +kernel
theorem dX9_work_4 : decode cX9_work 4 = .ok (.invokespecial 17, 3) := by decide +kernel
theorem dX9_work_7 : decode cX9_work 7 = .ok (.aload_n 1, 1) := by decide +kernel
theorem dX9_work_8 : decode cX9_work 8 = .ok (.iload_n 2, 1) := by decide +kernel
theorem dX9_work_9 : decode cX9_work 9 = .ok (.iconst 1, 1) := by decide +kernel
theorem dX9_work_10 : decode cX9_work 10 = .ok (.iadd, 1) := by decide +kernel
theorem dX9_work_11 : decode cX9_work 11 = .ok (.iload_n 3, 1) := by decide +kernel
theorem dX9_work_12 : decode cX9_work 12 = .ok (.invokevirtual 21, 3) := by decide +kernel
theorem dX9_work_15 : decode cX9_work 15 = .ok (.return_, 1) := by decide +kernel
theorem dX9_cost_0 : decode cX9_cost 0 = .ok (.iconst 3, 1) := by decide +kernel
theorem dX9_cost_1 : decode cX9_cost 1 = .ok (.aload_n 0, 1) := by decide +kernel
theorem dX9_cost_2 : decode cX9_cost 2 = .ok (.iload_n 1, 1) := by decide +kernel
theorem dX9_cost_3 : decode cX9_cost 3 = .ok (.invokespecial 25, 3) := by decide +kernel
theorem dX9_cost_6 : decode cX9_cost 6 = .ok (.imul, 1) := by decide +kernel
theorem dX9_cost_7 : decode cX9_cost 7 = .ok (.ireturn, 1) := by decide +kernel
theorem dX9_fail_0 : decode cX9_fail 0 = .ok (.iload_n 1, 1) := by decide +kernel
theorem dX9_fail_1 : decode cX9_fail 1 = .ok (.ifCond .le 13, 3) := by decide +kernel
theorem dX9_fail_4 : decode cX9_fail 4 = .ok (.new 29, 3) := by decide +kernel
theorem dX9_fail_7 : decode cX9_fail 7 = .ok (.dup, 1) := by decide +kernel
theorem dX9_fail_8 : decode cX9_fail 8 = .ok (.ldc 31, 2) := by decide +kernel
theorem dX9_fail_10 : decode cX9_fail 10 = .ok (.invokespecial 33, 3) := by decide +kernel
theorem dX9_fail_13 : decode cX9_fail 13 = .ok (.athrow, 1) := by decide +kernel
theorem dX9_fail_14 : decode cX9_fail 14 = .ok (.return_, 1) := by decide +kernel
theorem dX10_init_0 : decode cX10_init 0 = .ok (.aload_n 0, 1) := by decide +kernel
theorem dX10_init_1 : decode cX10_init 1 = .ok (.invokespecial 1, 3) := by decide +kernel
theorem dX10_init_4 : decode cX10_init 4 = .ok (.return_, 1) := by decide +kernel
theorem dX10_canBe_0 : decode cX10_canBe 0 = .ok (.aload_n 1, 1) := by decide +kernel
theorem dX10_canBe_1 : decode cX10_canBe 1 = .ok (.getfield 7, 3) := by decide +kernel
theorem dX10_canBe_4 : decode cX10_canBe 4 = .ok (.ifCond .le 7, 3) := by decide +kernel
theorem dX10_canBe_7 : decode cX10_canBe 7 = .ok (.iconst 1, 1) := by decide +kernel
theorem dX10_canBe_8 : decode cX10_canBe 8 = .ok (.goto 4, 3) := by decide +kernel
theorem dX10_canBe_11 : decode cX10_canBe 11 = .ok (.iconst 0, 1) := by decide +kernel
theorem dX10_canBe_12 : decode cX10_canBe 12 = .ok (.ireturn, 1) := by decide +kernel
theorem dX10_work_0 : decode cX10_work 0 = .ok (.aload_n 1, 1) := by decide +kernel
theorem dX10_work_1 : decode cX10_work 1 = .ok (.iconst (-1), 1) := by decide +kernel
theorem dX10_work_2 : decode cX10_work 2 = .ok (.invokevirtual 13, 3) := by decide +kernel
theorem dX10_work_5 : decode cX10_work 5 = .ok (.return_, 1) := by decide +kernel
theorem dX10_cost_0 : decode cX10_cost 0 = .ok (.aload_n 0, 1) := by decide +kernel
theorem dX10_cost_1 : decode cX10_cost 1 = .ok (.iload_n 1, 1) := by decide +kernel
theorem dX10_cost_2 : decode cX10_cost 2 = .ok (.invokespecial 17, 3) := by decide +kernel
theorem dX10_cost_5 : decode cX10_cost 5 = .ok (.iconst 1, 1) := by decide +kernel
theorem dX10_cost_6 : decode cX10_cost 6 = .ok (.isub, 1) := by decide +kernel
theorem dX10_cost_7 : decode cX10_cost 7 = .ok (.ireturn, 1) := by decide +kernel
theorem dX10_fail_0 : decode cX10_fail 0 = .ok (.return_, 1) := by decide +kernel
theorem dX11_init_0 : decode cX11_init 0 = .ok (.aload_n 0, 1) := by decide +kernel
theorem dX11_init_1 : decode cX11_init 1 = .ok (.invokespecial 1, 3) := by decide +kernel
theorem dX11_init_4 : decode cX11_init 4 = .ok (.aload_n 0, 1) := by decide +kernel
theorem dX11_init_5 : decode cX11_init 5 = .ok (.new 7, 3) := by decide +kernel
theorem dX11_init_8 : decode cX11_init 8 = .ok (.dup, 1) := by decide +kernel
theorem dX11_init_9 : decode cX11_init 9 = .ok (.invokespecial 9, 3) := by decide +kernel
theorem dX11_init_12 : decode cX11_init 12 = .ok (.putfield 10, 3) := by decide +kernel
theorem dX11_init_15 : decode cX11_init 15 = .ok (.aload_n 0, 1) := by decide +kernel
theorem dX11_init_16 : decode cX11_init 16 = .ok (.new 7, 3) := by decide +kernel
theorem dX11_init_19 : decode cX11_init 19 = .ok (.dup, 1) := by decide +kernel
theorem dX11_init_20 : decode cX11_init 20 = .ok (.invokespecial 9, 3) := by decide +kernel
theorem dX11_init_23 : decode cX11_init 23 = .ok (.putfield 16, 3) := by decide +kernel
theorem dX11_init_26 : decode cX11_init 26 = .ok (.aload_n 0, 1) := by decide +kernel
theorem dX11_init_27 : decode cX11_init 27 = .ok (.new 7, 3) := by decide +kernel
theorem dX11_init_30 : decode cX11_init 30 = .ok (.dup, 1) := by decide +kernel
theorem dX11_init_31 : decode cX11_init 31 = .ok (.invokespecial 9, 3) := by decide +kernel
theorem dX11_init_34 : decode cX11_init 34 = .ok (.putfield 19, 3) := by decide +kernel
theorem dX11_init_37 : decode cX11_init 37 = .ok (.aload_n 0, 1) := by decide +kernel
theorem dX11_init_38 : decode cX11_init 38 = .ok (.bipush 6, 2) := by decide +kernel
theorem dX11_init_40 : decode cX11_init 40 = .ok (.anewarray 7, 3) := by decide +kernel
theorem dX11_init_43 : decode cX11_init 43 = .ok (.putfield 22, 3) := by decide +kernel
theorem dX11_init_46 : decode cX11_init 46 = .ok (.aload_n 0, 1) := by decide +kernel
theorem dX11_init_47 : decode cX11_init 47 = .ok (.bipush 8, 2) := by decide +kernel
theorem dX11_init_49 : decode cX11_init 49 = .ok (.anewarray 26, 3) := by decide +kernel
theorem dX11_init_52 : decode cX11_init 52 = .ok (.putfield 28, 3) := by decide +kernel
theorem dX11_init_55 : decode cX11_init 55 = .ok (.aload_n 0, 1) := by decide +kernel
theorem dX11_init_56 : decode cX11_init 56 = .ok (.new 26, 3) := by decide +kernel
theorem dX11_init_59 : decode cX11_init 59 = .ok (.dup, 1) := by decide +kernel
theorem dX11_init_60 : decode cX11_init 60 = .ok (.invokespecial 32, 3) := by decide +kernel
theorem dX11_init_63 : decode cX11_init 63 = .ok (.putfield 33, 3) := by decide +kernel
theorem dX11_init_66 : decode cX11_init 66 = .ok (.aload_n 0, 1) := by decide +kernel
theorem dX11_init_67 : decode cX11_init 67 = .ok (.bipush 8, 2) := by decide +kernel
theorem dX11_init_69 : decode cX11_init 69 = .ok (.anewarray 37, 3) := by decide +kernel
theorem dX11_init_72 : decode cX11_init 72 = .ok (.putfield 39, 3) := by decide +kernel
theorem dX11_init_75 : decode cX11_init 75 = .ok (.aload_n 0, 1) := by decide +kernel
theorem dX11_init_76 : decode cX11_init 76 = .ok (.new 37, 3) := by decide +kernel
theorem dX11_init_79 : decode cX11_init 79 = .ok (.dup, 1) := by decide +kernel
theorem dX11_init_80 : decode cX11_init 80 = .ok (.invokespecial 43, 3) := by decide +kernel
theorem dX11_init_83 : decode cX11_init 83 = .ok (.putfield 44, 3) := by decide +kernel
theorem dX11_init_86 : decode cX11_init 86 = .ok (.aload_n 0, 1) := by decide +kernel
theorem dX11_init_87 : decode cX11_init 87 = .ok (.new 48, 3) := by decide +kernel
theorem dX11_init_90 : decode cX11_init 90 = .ok (.dup, 1) := by decide +kernel
theorem dX11_init_91 : decode cX11_init 91 = .ok (.invokespecial 50, 3) := by decide +kernel
theorem dX11_init_94 : decode cX11_init 94 = .ok (.putfield 51, 3) := by decide +kernel
theorem dX11_init_97 : decode cX11_init 97 = .ok (.iconst 0, 1) := by decide +kernel
theorem dX11_init_98 : decode cX11_init 98 = .ok (.istore_n 1, 1) := by decide +kernel
theorem dX11_init_99 : decode cX11_init 99 = .ok (.iload_n 1, 1) := by decide +kernel
theorem dX11_init_100 : decode cX11_init 100 = .ok (.aload_n 0, 1) := by decide +kernel
theorem dX11_init_101 : decode cX11_init 101 = .ok (.getfield 22, 3) := by decide +kernel
theorem dX11_init_104 : decode cX11_init 104 = .ok (.arraylength, 1) := by decide +kernel
theorem dX11_init_105 : decode cX11_init 105 = .ok (.if_icmp .ge 22, 3) := by decide +kernel
theorem dX11_init_108 : decode cX11_init 108 = .ok (.aload_n 0, 1) := by decide +kernel
theorem dX11_init_109 : decode cX11_init 109 = .ok (.getfield 22, 3) := by decide +kernel
theorem dX11_init_112 : decode cX11_init 112 = .ok (.iload_n 1, 1) := by decide +kernel
theorem dX11_init_113 : decode cX11_init 113 = .ok (.new 7, 3) := by decide +kernel
theorem dX11_init_116 : decode cX11_init 116 = .ok (.dup, 1) := by decide +kernel
theorem dX11_init_117 : decode cX11_init 117 = .ok (.invokespecial 9, 3) := by decide +kernel
theorem dX11_init_120 : decode cX11_init 120 = .ok (.aastore, 1) := by decide +kernel
theorem dX11_init_121 : decode cX11_init 121 = .ok (.iinc 1 1, 3) := by decide +kernel
theorem dX11_init_124 : decode cX11_init 124 = .ok (.goto (-25), 3) := by decide +kernel
theorem dX11_init_127 : decode cX11_init 127 = .ok (.iconst 0, 1) := by decide +kernel
theorem dX11_init_128 : decode cX11_init 128 = .ok (.istore_n 1, 1) := by decide +kernel
theorem dX11_init_129 : decode cX11_init 129 = .ok (.iload_n 1, 1) := by decide +kernel
theorem dX11_init_130 : decode cX11_init 130 = .ok (.aload_n 0, 1) := by decide +kernel
theorem dX11_init_131 : decode cX11_init 131 = .ok (.getfield 28, 3) := by decide +kernel
theorem dX11_init_134 : decode cX11_init 134 = .ok (.arraylength, 1) := by decide +kernel
theorem dX11_init_135 : decode cX11_init 135 = .ok (.if_icmp .ge 22, 3) := by decide +kernel
theorem dX11_init_138 : decode cX11_init 138 = .ok (.aload_n 0, 1) := by decide +kernel
theorem dX11_init_139 : decode cX11_init 139 = .ok (.getfield 28, 3) := by decide +kernel
theorem dX11_init_142 : decode cX11_init 142 = .ok (.iload_n 1, 1) := by decide +kernel
theorem dX11_init_143 : decode cX11_init 143 = .ok (.new 26, 3) := by decide +kernel
theorem dX11_init_146 : decode cX11_init 146 = .ok (.dup, 1) := by decide +kernel
theorem dX11_init_147 : decode cX11_init 147 = .ok (.invokespecial 32, 3) := by decide +kernel
theorem dX11_init_150 : decode cX11_init 150 = .ok (.aastore, 1) := by decide +kernel
theorem dX11_init_151 : decode cX11_init 151 = .ok (.iinc 1 1, 3) := by decide +kernel
theorem dX11_init_154 : decode cX11_init 154 = .ok (.goto (-25), 3) := by decide +kernel
theorem dX11_init_157 : decode cX11_init 157 = .ok (.aload_n 0, 1) := by decide +kernel
theorem dX11_init_158 : decode cX11_init 158 = .ok (.getfield 39, 3) := by decide +kernel
theorem dX11_init_161 : decode cX11_init 161 = .ok (.iconst 0, 1) := by decide +kernel
theorem dX11_init_162 : decode cX11_init 162 = .ok (.aload_n 0, 1) := by decide +kernel
theorem dX11_init_163 : decode cX11_init 163 = .ok (.getfield 44, 3) := by decide +kernel
theorem dX11_init_166 : decode cX11_init 166 = .ok (.aastore, 1) := by decide +kernel
theorem dX11_init_167 : decode cX11_init 167 = .ok (.aload_n 0, 1) := by decide +kernel
theorem dX11_init_168 : decode cX11_init 168 = .ok (.getfield 39, 3) := by decide +kernel
theorem dX11_init_171 : decode cX11_init 171 = .ok (.iconst 1, 1) := by decide +kernel
theorem dX11_init_172 : decode cX11_init 172 = .ok (.new 55, 3) := by decide +kernel
theorem dX11_init_175 : decode cX11_init 175 = .ok (.dup, 1) := by decide +kernel
theorem dX11_init_176 : decode cX11_init 176 = .ok (.invokespecial 57, 3) := by decide +kernel
theorem dX11_init_179 : decode cX11_init 179 = .ok (.aastore, 1) := by decide +kernel
theorem dX11_init_180 : decode cX11_init 180 = .ok (.aload_n 0, 1) := by decide +kernel
theorem dX11_init_181 : decode cX11_init 181 = .ok (.getfield 39, 3) := by decide +kernel
theorem dX11_init_184 : decode cX11_init 184 = .ok (.iconst 2, 1) := by decide +kernel
theorem dX11_init_185 : decode cX11_init 185 = .ok (.new 58, 3) := by decide +kernel
theorem dX11_init_188 : decode cX11_init 188 = .ok (.dup, 1) := by decide +kernel
theorem dX11_init_189 : decode cX11_init 189 = .ok (.invokespecial 60, 3) := by decide +kernel
theorem dX11_init_192 : decode cX11_init 192 = .ok (.aastore, 1) := by decide +kernel
theorem dX11_init_193 : decode cX11_init 193 = .ok (.aload_n 0, 1) := by decide +kernel
theorem dX11_init_194 : decode cX11_init 194 = .ok (.getfield 39, 3) := by decide +kernel
theorem dX11_init_197 : decode cX11_init 197 = .ok (.iconst 3, 1) := by decide +kernel
theorem dX11_init_198 : decode cX11_init 198 = .ok (.new 61, 3) := by decide +kernel
theorem dX11_init_201 : decode cX11_init 201 = .ok (.dup, 1) := by decide +kernel
theorem dX11_init_202 : decode cX11_init 202 = .ok (.invokespecial 63, 3) := by decide +kernel
theorem dX11_init_205 : decode cX11_init 205 = .ok (.aastore, 1) := by decide +kernel
theorem dX11_init_206 : decode cX11_init 206 = .ok (.aload_n 0, 1) := by decide +kernel
theorem dX11_init_207 : decode cX11_init 207 = .ok (.getfield 39, 3) := by decide +kernel
theorem dX11_init_210 : decode cX11_init 210 = .ok (.iconst 4, 1) := by decide +kernel
theorem dX11_init_211 : decode cX11_init 211 = .ok (.new 64, 3) := by decide +kernel
theorem dX11_init_214 : decode cX11_init 214 = .ok (.dup, 1) := by decide +kernel
theorem dX11_init_215 : decode cX11_init 215 = .ok (.invokespecial 66, 3) := by decide +kernel
theorem dX11_init_218 : decode cX11_init 218 = .ok (.aastore, 1) := by decide +kernel
theorem dX11_init_219 : decode cX11_init 219 = .ok (.aload_n 0, 1) := by decide +kernel
theorem dX11_init_220 : decode cX11_init 220 = .ok (.getfield 39, 3) := by decide +kernel
theorem dX11_init_223 : decode cX11_init 223 = .ok (.iconst 5, 1) := by decide +kernel
theorem dX11_init_224 : decode cX11_init 224 = .ok (.new 67, 3) := by decide +kernel
theorem dX11_init_227 : decode cX11_init 227 = .ok (.dup, 1) := by decide +kernel
theorem dX11_init_228 : decode cX11_init 228 = .ok (.invokespecial 69, 3) := by decide +kernel
theorem dX11_init_231 : decode cX11_init 231 = .ok (.aastore, 1) := by decide +kernel
theorem dX11_init_232 : decode cX11_init 232 = .ok (.aload_n 0, 1) := by decide +kernel
theorem dX11_init_233 : decode cX11_init 233 = .ok (.getfield 39, 3) := by decide +kernel
theorem dX11_init_236 : decode cX11_init 236 = .ok (.bipush 6, 2) := by decide +kernel
theorem dX11_init_238 : decode cX11_init 238 = .ok (.new 70, 3) := by decide +kernel
theorem dX11_init_241 : decode cX11_init 241 = .ok (.dup, 1) := by decide +kernel
theorem dX11_init_242 : decode cX11_init 242 = .ok (.invokespecial 72, 3) := by decide +kernel
theorem dX11_init_245 : decode cX11_init 245 = .ok (.aastore, 1) := by decide +kernel
theorem dX11_init_246 : decode cX11_init 246 = .ok (.aload_n 0, 1) := by decide +kernel
theorem dX11_init_247 : decode cX11_init 247 = .ok (.getfield 39, 3) := by decide +kernel
theorem dX11_init_250 : decode cX11_init 250 = .ok (.bipush 7, 2) := by decide +kernel
theorem dX11_init_252 : decode cX11_init 252 = .ok (.new 73, 3) := by decide +kernel
theorem dX11_init_255 : decode cX11_init 255 = .ok (.dup, 1) := by decide +kernel
theorem dX11_init_256 : decode cX11_init 256 = .ok (.invokespecial 75, 3) := by decide +kernel
theorem dX11_init_259 : decode cX11_init 259 = .ok (.aastore, 1) := by decide +kernel
theorem dX11_init_260 : decode cX11_init 260 = .ok (.return_, 1) := by decide +kernel
theorem dX11_dress_0 : decode cX11_dress 0 = .ok (.aload_n 0, 1) := by decide +kernel
theorem dX11_dress_1 : decode cX11_dress 1 = .ok (.iload_n 1, 1) := by decide +kernel
theorem dX11_dress_2 : decode cX11_dress 2 = .ok (.iconst 0, 1) := by decide +kernel
theorem dX11_dress_3 : decode cX11_dress 3 = .ok (.invokevirtual 76, 3) := by decide +kernel
theorem dX11_dress_6 : decode cX11_dress 6 = .ok (.istore_n 2, 1) := by decide +kernel
theorem dX11_dress_7 : decode cX11_dress 7 = .ok (.iload_n 2, 1) := by decide +kernel
theorem dX11_dress_8 : decode cX11_dress 8 = .ok (.ifCond .eq 5, 3) := by decide +kernel
theorem dX11_dress_11 : decode cX11_dress 11 = .ok (.iload_n 2, 1) := by decide +kernel
theorem dX11_dress_12 : decode cX11_dress 12 = .ok (.ireturn, 1) := by decide +kernel
theorem dX11_dress_13 : decode cX11_dress 13 = .ok (.aload_n 0, 1) := by decide +kernel
theorem dX11_dress_14 : decode cX11_dress 14 = .ok (.iload_n 1, 1) := by decide +kernel
theorem dX11_dress_15 : decode cX11_dress 15 = .ok (.invokevirtual 80, 3) := by decide +kernel
theorem dX11_dress_18 : decode cX11_dress 18 = .ok (.astore_n 3, 1) := by decide +kernel
theorem dX11_dress_19 : decode cX11_dress 19 = .ok (.aload_n 0, 1) := by decide +kernel
theorem dX11_dress_20 : decode cX11_dress 20 = .ok (.aload_n 3, 1) := by decide +kernel
theorem dX11_dress_21 : decode cX11_dress 21 = .ok (.invokevirtual 84, 3) := by decide +kernel
theorem dX11_dress_24 : decode cX11_dress 24 = .ok (.istore 4, 2) := by decide +kernel
theorem dX11_dress_26 : decode cX11_dress 26 = .ok (.iload 4, 2) := by decide +kernel
theorem dX11_dress_28 : decode cX11_dress 28 = .ok (.ifCond .ge 6, 3) := by decide +kernel
theorem dX11_dress_31 : decode cX11_dress 31 = .ok (.iload 4, 2) := by decide +kernel
theorem dX11_dress_33 : decode cX11_dress 33 = .ok (.ireturn, 1) := by decide +kernel
theorem dX11_dress_34 : decode cX11_dress 34 = .ok (.aload_n 0, 1) := by decide +kernel
theorem dX11_dress_35 : decode cX11_dress 35 = .ok (.getfield 19, 3) := by decide +kernel
theorem dX11_dress_38 : decode cX11_dress 38 = .ok (.aload_n 0, 1) := by decide +kernel
theorem dX11_dress_39 : decode cX11_dress 39 = .ok (.getfield 10, 3) := by decide +kernel
theorem dX11_dress_42 : decode cX11_dress 42 = .ok (.invokevirtual 88, 3) := by decide +kernel
theorem dX11_dress_45 : decode cX11_dress 45 = .ok (.aload_n 0, 1) := by decide +kernel
theorem dX11_dress_46 : decode cX11_dress 46 = .ok (.getfield 51, 3) := by decide +kernel
theorem dX11_dress_49 : decode cX11_dress 49 = .ok (.iconst 0, 1) := by decide +kernel
theorem dX11_dress_50 : decode cX11_dress 50 = .ok (.putfield 92, 3) := by decide +kernel
theorem dX11_dress_53 : decode cX11_dress 53 = .ok (.iconst 0, 1) := by decide +kernel
theorem dX11_dress_54 : decode cX11_dress 54 = .ok (.istore 5, 2) := by decide +kernel
theorem dX11_dress_56 : decode cX11_dress 56 = .ok (.iload 5, 2) := by decide +kernel
theorem dX11_dress_58 : decode cX11_dress 58 = .ok (.iload 4, 2) := by decide +kernel
theorem dX11_dress_60 : decode cX11_dress 60 = .ok (.if_icmp .ge 47, 3) := by decide +kernel
theorem dX11_dress_63 : decode cX11_dress 63 = .ok (.aload_n 0, 1) := by decide +kernel
theorem dX11_dress_64 : decode cX11_dress 64 = .ok (.getfield 51, 3) := by decide +kernel
theorem dX11_dress_67 : decode cX11_dress 67 = .ok (.getfield 92, 3) := by decide +kernel
theorem dX11_dress_70 : decode cX11_dress 70 = .ok (.istore 6, 2) := by decide +kernel
theorem dX11_dress_72 : decode cX11_dress 72 = .ok (.aload_n 0, 1) := by decide +kernel
theorem dX11_dress_73 : decode cX11_dress 73 = .ok (.getfield 51, 3) := by decide +kernel
theorem dX11_dress_76 : decode cX11_dress 76 = .ok (.aload_n 3, 1) := by decide +kernel
theorem dX11_dress_77 : decode cX11_dress 77 = .ok (.invokevirtual 96, 3) := by decide +kernel
theorem dX11_dress_80 : decode cX11_dress 80 = .ok (.ifCond .eq 14, 3) := by decide +kernel
theorem dX11_dress_83 : decode cX11_dress 83 = .ok (.aload_n 0, 1) := by decide +kernel
theorem dX11_dress_84 : decode cX11_dress 84 = .ok (.aload_n 0, 1) := by decide +kernel
theorem dX11_dress_85 : decode cX11_dress 85 = .ok (.getfield 19, 3) := by decide +kernel
theorem dX11_dress_88 : decode cX11_dress 88 = .ok (.invokevirtual 100, 3) := by decide +kernel
theorem dX11_dress_91 : decode cX11_dress 91 = .ok (.ifCond .ne 10, 3) := by decide +kernel
theorem dX11_dress_94 : decode cX11_dress 94 = .ok (.sipush (-2000), 3) := by decide +kernel
theorem dX11_dress_97 : decode cX11_dress 97 = .ok (.iload 6, 2) := by decide +kernel
theorem dX11_dress_99 : decode cX11_dress 99 = .ok (.isub, 1) := by decide +kernel
theorem dX11_dress_100 : decode cX11_dress 100 = .ok (.ireturn, 1) := by decide +kernel
theorem dX11_dress_101 : decode cX11_dress 101 = .ok (.iinc 5 1, 3) := by decide +kernel
theorem dX11_dress_104 : decode cX11_dress 104 = .ok (.goto (-48), 3) := by decide +kernel
theorem dX11_dress_107 : decode cX11_dress 107 = .ok (.aload_n 0, 1) := by decide +kernel
theorem dX11_dress_108 : decode cX11_dress 108 = .ok (.getfield 10, 3) := by decide +kernel
theorem dX11_dress_111 : decode cX11_dress 111 = .ok (.aload_n 0, 1) := by decide +kernel
theorem dX11_dress_112 : decode cX11_dress 112 = .ok (.getfield 19, 3) := by decide +kernel
theorem dX11_dress_115 : decode cX11_dress 115 = .ok (.invokevirtual 88, 3) := by decide +kernel
theorem dX11_dress_118 : decode cX11_dress 118 = .ok (.iload 4, 2) := by decide +kernel
theorem dX11_dress_120 : decode cX11_dress 120 = .ok (.ireturn, 1) := by decide +kernel
theorem dX11_ring_0 : decode cX11_ring 0 = .ok (.aload_n 0, 1) := by decide +kernel
theorem dX11_ring_1 : decode cX11_ring 1 = .ok (.getfield 10, 3) := by decide +kernel
theorem dX11_ring_4 : decode cX11_ring 4 = .ok (.iload_n 1, 1) := by decide +kernel
theorem dX11_ring_5 : decode cX11_ring 5 = .ok (.invokevirtual 104, 3) := by decide +kernel
theorem dX11_ring_8 : decode cX11_ring 8 = .ok (.ifCond .eq 24, 3) := by decide +kernel
theorem dX11_ring_11 : decode cX11_ring 11 = .ok (.iload_n 2, 1) := by decide +kernel
theorem dX11_ring_12 : decode cX11_ring 12 = .ok (.iconst 0, 1) := by decide +kernel
theorem dX11_ring_13 : decode cX11_ring 13 = .ok (.iconst 3, 1) := by decide +kernel
theorem dX11_ring_14 : decode cX11_ring 14 = .ok (.invokestatic 108, 3) := by decide +kernel
theorem dX11_ring_17 : decode cX11_ring 17 = .ok (.ifCond .eq 15, 3) := by decide +kernel
theorem dX11_ring_20 : decode cX11_ring 20 = .ok (.aload_n 0, 1) := by decide +kernel
theorem dX11_ring_21 : decode cX11_ring 21 = .ok (.getfield 10, 3) := by decide +kernel
theorem dX11_ring_24 : decode cX11_ring 24 = .ok (.iload_n 1, 1) := by decide +kernel
theorem dX11_ring_25 : decode cX11_ring 25 = .ok (.iload_n 2, 1) := by decide +kernel
theorem dX11_ring_26 : decode cX11_ring 26 = .ok (.invokevirtual 112, 3) := by decide +kernel
theorem dX11_ring_29 : decode cX11_ring 29 = .ok (.goto 4, 3) := by decide +kernel
theorem dX11_ring_32 : decode cX11_ring 32 = .ok (.iconst (-1), 1) := by decide +kernel
theorem dX11_ring_33 : decode cX11_ring 33 = .ok (.ireturn, 1) := by decide +kernel
theorem dX11_line_0 : decode cX11_line 0 = .ok (.iload_n 1, 1) := by decide +kernel
theorem dX11_line_1 : decode cX11_line 1 = .ok (.ifCond .ne 31, 3) := by decide +kernel
theorem dX11_line_4 : decode cX11_line 4 = .ok (.iload_n 2, 1) := by decide +kernel
theorem dX11_line_5 : decode cX11_line 5 = .ok (.iconst 0, 1) := by decide +kernel
theorem dX11_line_6 : decode cX11_line 6 = .ok (.bipush 9, 2) := by decide +kernel
theorem dX11_line_8 : decode cX11_line 8 = .ok (.invokestatic 108, 3) := by decide +kernel
theorem dX11_line_11 : decode cX11_line 11 = .ok (.ifCond .eq 21, 3) := by decide +kernel
theorem dX11_line_14 : decode cX11_line 14 = .ok (.aload_n 0, 1) := by decide +kernel
theorem dX11_line_15 : decode cX11_line 15 = .ok (.getfield 10, 3) := by decide +kernel
theorem dX11_line_18 : decode cX11_line 18 = .ok (.getfield 115, 3) := by decide +kernel
theorem dX11_line_21 : decode cX11_line 21 = .ok (.istore_n 3, 1) := by decide +kernel
theorem dX11_line_22 : decode cX11_line 22 = .ok (.aload_n 0, 1) := by decide +kernel
theorem dX11_line_23 : decode cX11_line 23 = .ok (.getfield 10, 3) := by decide +kernel
theorem dX11_line_26 : decode cX11_line 26 = .ok (.iload_n 2, 1) := by decide +kernel
theorem dX11_line_27 : decode cX11_line 27 = .ok (.putfield 115, 3) := by decide +kernel
theorem dX11_line_30 : decode cX11_line 30 = .ok (.iload_n 3, 1) := by decide +kernel
theorem dX11_line_31 : decode cX11_line 31 = .ok (.ireturn, 1) := by decide +kernel
theorem dX11_line_32 : decode cX11_line 32 = .ok (.iload_n 1, 1) := by decide +kernel
theorem dX11_line_33 : decode cX11_line 33 = .ok (.iconst 1, 1) := by decide +kernel
theorem dX11_line_34 : decode cX11_line 34 = .ok (.if_icmp .ne 31, 3) := by decide +kernel
theorem dX11_line_37 : decode cX11_line 37 = .ok (.iload_n 2, 1) := by decide +kernel
theorem dX11_line_38 : decode cX11_line 38 = .ok (.iconst 0, 1) := by decide +kernel
theorem dX11_line_39 : decode cX11_line 39 = .ok (.bipush 30, 2) := by decide +kernel
theorem dX11_line_41 : decode cX11_line 41 = .ok (.invokestatic 108, 3) := by decide +kernel
theorem dX11_line_44 : decode cX11_line 44 = .ok (.ifCond .eq 21, 3) := by decide +kernel
theorem dX11_line_47 : decode cX11_line 47 = .ok (.aload_n 0, 1) := by decide +kernel
theorem dX11_line_48 : decode cX11_line 48 = .ok (.getfield 10, 3) := by decide +kernel
theorem dX11_line_51 : decode cX11_line 51 = .ok (.getfield 118, 3) := by decide +kernel
theorem dX11_line_54 : decode cX11_line 54 = .ok (.istore_n 3, 1) := by decide +kernel
theorem dX11_line_55 : decode cX11_line 55 = .ok (.aload_n 0, 1) := by decide +kernel
theorem dX11_line_56 : decode cX11_line 56 = .ok (.getfield 10, 3) := by decide +kernel
theorem dX11_line_59 : decode cX11_line 59 = .ok (.iload_n 2, 1) := by decide +kernel
theorem dX11_line_60 : decode cX11_line 60 = .ok (.putfield 118, 3) := by decide +kernel
theorem dX11_line_63 : decode cX11_line 63 = .ok (.iload_n 3, 1) := by decide +kernel
theorem dX11_line_64 : decode cX11_line 64 = .ok (.ireturn, 1) := by decide +kernel
theorem dX11_line_65 : decode cX11_line 65 = .ok (.iconst (-1), 1) := by decide +kernel
theorem dX11_line_66 : decode cX11_line 66 = .ok (.ireturn, 1) := by decide +kernel
theorem dX11_may_0 : decode cX11_may 0 = .ok (.aload_n 0, 1) := by decide +kernel
theorem dX11_may_1 : decode cX11_may 1 = .ok (.getfield 10, 3) := by decide +kernel
theorem dX11_may_4 : decode cX11_may 4 = .ok (.iload_n 2, 1) := by decide +kernel
theorem dX11_may_5 : decode cX11_may 5 = .ok (.invokevirtual 104, 3) := by decide +kernel
theorem dX11_may_8 : decode cX11_may 8 = .ok (.ifCond .eq 11, 3) := by decide +kernel
theorem dX11_may_11 : decode cX11_may 11 = .ok (.aload_n 0, 1) := by decide +kernel
theorem dX11_may_12 : decode cX11_may 12 = .ok (.iload_n 1, 1) := by decide +kernel
theorem dX11_may_13 : decode cX11_may 13 = .ok (.invokevirtual 121, 3) := by decide +kernel
theorem dX11_may_16 : decode cX11_may 16 = .ok (.goto 4, 3) := by decide +kernel
theorem dX11_may_19 : decode cX11_may 19 = .ok (.iconst (-1), 1) := by decide +kernel
theorem dX11_may_20 : decode cX11_may 20 = .ok (.istore_n 3, 1) := by decide +kernel
theorem dX11_may_21 : decode cX11_may 21 = .ok (.iload_n 3, 1) := by decide +kernel
theorem dX11_may_22 : decode cX11_may 22 = .ok (.ifCond .eq 5, 3) := by decide +kernel
theorem dX11_may_25 : decode cX11_may 25 = .ok (.iload_n 3, 1) := by decide +kernel
theorem dX11_may_26 : decode cX11_may 26 = .ok (.ireturn, 1) := by decide +kernel
theorem dX11_may_27 : decode cX11_may 27 = .ok (.aload_n 0, 1) := by decide +kernel
theorem dX11_may_28 : decode cX11_may 28 = .ok (.iload_n 1, 1) := by decide +kernel
theorem dX11_may_29 : decode cX11_may 29 = .ok (.invokevirtual 80, 3) := by decide +kernel
theorem dX11_may_32 : decode cX11_may 32 = .ok (.astore 4, 2) := by decide +kernel
theorem dX11_may_34 : decode cX11_may 34 = .ok (.aload_n 0, 1) := by decide +kernel
theorem dX11_may_35 : decode cX11_may 35 = .ok (.getfield 10, 3) := by decide +kernel
theorem dX11_may_38 : decode cX11_may 38 = .ok (.aload_n 0, 1) := by decide +kernel
theorem dX11_may_39 : decode cX11_may 39 = .ok (.aload 4, 2) := by decide +kernel
theorem dX11_may_41 : decode cX11_may 41 = .ok (.getfield 125, 3) := by decide +kernel
theorem dX11_may_44 : decode cX11_may 44 = .ok (.invokevirtual 128, 3) := by decide +kernel
theorem dX11_may_47 : decode cX11_may 47 = .ok (.aload 4, 2) := by decide +kernel
theorem dX11_may_49 : decode cX11_may 49 = .ok (.getfield 132, 3) := by decide +kernel
theorem dX11_may_52 : decode cX11_may 52 = .ok (.iload_n 2, 1) := by decide +kernel
theorem dX11_may_53 : decode cX11_may 53 = .ok (.invokevirtual 135, 3) := by decide +kernel
theorem dX11_may_56 : decode cX11_may 56 = .ok (.ifCond .eq 7, 3) := by decide +kernel
theorem dX11_may_59 : decode cX11_may 59 = .ok (.iconst 1, 1) := by decide +kernel
theorem dX11_may_60 : decode cX11_may 60 = .ok (.goto 4, 3) := by decide +kernel
theorem dX11_may_63 : decode cX11_may 63 = .ok (.iconst 0, 1) := by decide +kernel
theorem dX11_may_64 : decode cX11_may 64 = .ok (.ireturn, 1) := by decide +kernel
theorem dX11_pin_0 : decode cX11_pin 0 = .ok (.aload_n 0, 1) := by decide +kernel
theorem dX11_pin_1 : decode cX11_pin 1 = .ok (.getfield 10, 3) := by decide +kernel
theorem dX11_pin_4 : decode cX11_pin 4 = .ok (.iload_n 2, 1) := by decide +kernel
theorem dX11_pin_5 : decode cX11_pin 5 = .ok (.invokevirtual 104, 3) := by decide +kernel
theorem dX11_pin_8 : decode cX11_pin 8 = .ok (.ifCond .eq 11, 3) := by decide +kernel
theorem dX11_pin_11 : decode cX11_pin 11 = .ok (.aload_n 0, 1) := by decide +kernel
theorem dX11_pin_12 : decode cX11_pin 12 = .ok (.iload_n 1, 1) := by decide +kernel
theorem dX11_pin_13 : decode cX11_pin 13 = .ok (.invokevirtual 121, 3) := by decide +kernel
theorem dX11_pin_16 : decode cX11_pin 16 = .ok (.goto 4, 3) := by decide +kernel
theorem dX11_pin_19 : decode cX11_pin 19 = .ok (.iconst (-1), 1) := by decide +kernel
theorem dX11_pin_20 : decode cX11_pin 20 = .ok (.istore_n 3, 1) := by decide +kernel
theorem dX11_pin_21 : decode cX11_pin 21 = .ok (.iload_n 3, 1) := by decide +kernel
theorem dX11_pin_22 : decode cX11_pin 22 = .ok (.ifCond .eq 5, 3) := by decide +kernel
theorem dX11_pin_25 : decode cX11_pin 25 = .ok (.iload_n 3, 1) := by decide +kernel
theorem dX11_pin_26 : decode cX11_pin 26 = .ok (.ireturn, 1) := by decide +kernel
theorem dX11_pin_27 : decode cX11_pin 27 = .ok (.aload_n 0, 1) := by decide +kernel
theorem dX11_pin_28 : decode cX11_pin 28 = .ok (.iload_n 1, 1) := by decide +kernel
theorem dX11_pin_29 : decode cX11_pin 29 = .ok (.invokevirtual 80, 3) := by decide +kernel
theorem dX11_pin_32 : decode cX11_pin 32 = .ok (.astore 4, 2) := by decide +kernel
theorem dX11_pin_34 : decode cX11_pin 34 = .ok (.aload_n 0, 1) := by decide +kernel
theorem dX11_pin_35 : decode cX11_pin 35 = .ok (.getfield 10, 3) := by decide +kernel
theorem dX11_pin_38 : decode cX11_pin 38 = .ok (.aload_n 0, 1) := by decide +kernel
theorem dX11_pin_39 : decode cX11_pin 39 = .ok (.aload 4, 2) := by decide +kernel
theorem dX11_pin_41 : decode cX11_pin 41 = .ok (.getfield 125, 3) := by decide +kernel
theorem dX11_pin_44 : decode cX11_pin 44 = .ok (.invokevirtual 128, 3) := by decide +kernel
theorem dX11_pin_47 : decode cX11_pin 47 = .ok (.aload 4, 2) := by decide +kernel
theorem dX11_pin_49 : decode cX11_pin 49 = .ok (.getfield 132, 3) := by decide +kernel
theorem dX11_pin_52 : decode cX11_pin 52 = .ok (.iload_n 2, 1) := by decide +kernel
theorem dX11_pin_53 : decode cX11_pin 53 = .ok (.invokevirtual 139, 3) := by decide +kernel
theorem dX11_pin_56 : decode cX11_pin 56 = .ok (.ifCond .eq 13, 3) := by decide +kernel
theorem dX11_pin_59 : decode cX11_pin 59 = .ok (.aload_n 0, 1) := by decide +kernel
theorem dX11_pin_60 : decode cX11_pin 60 = .ok (.getfield 10, 3) := by decide +kernel
theorem dX11_pin_63 : decode cX11_pin 63 = .ok (.invokevirtual 142, 3) := by decide +kernel
theorem dX11_pin_66 : decode cX11_pin 66 = .ok (.goto 5, 3) := by decide +kernel
theorem dX11_pin_69 : decode cX11_pin 69 = .ok (.bipush (-3), 2) := by decide +kernel
theorem dX11_pin_71 : decode cX11_pin 71 = .ok (.ireturn, 1) := by decide +kernel
theorem dX11_ease_0 : decode cX11_ease 0 = .ok (.aload_n 0, 1) := by decide +kernel
theorem dX11_ease_1 : decode cX11_ease 1 = .ok (.getfield 10, 3) := by decide +kernel
theorem dX11_ease_4 : decode cX11_ease 4 = .ok (.iload_n 1, 1) := by decide +kernel
theorem dX11_ease_5 : decode cX11_ease 5 = .ok (.invokevirtual 104, 3) := by decide +kernel
theorem dX11_ease_8 : decode cX11_ease 8 = .ok (.ifCond .eq 16, 3) := by decide +kernel
theorem dX11_ease_11 : decode cX11_ease 11 = .ok (.iload_n 2, 1) := by decide +kernel
theorem dX11_ease_12 : decode cX11_ease 12 = .ok (.iconst 0, 1) := by decide +kernel
theorem dX11_ease_13 : decode cX11_ease 13 = .ok (.iconst 3, 1) := by decide +kernel
theorem dX11_ease_14 : decode cX11_ease 14 = .ok (.invokestatic 108, 3) := by decide +kernel
theorem dX11_ease_17 : decode cX11_ease 17 = .ok (.ifCond .eq 7, 3) := by decide +kernel
theorem dX11_ease_20 : decode cX11_ease 20 = .ok (.iconst 1, 1) := by decide +kernel
theorem dX11_ease_21 : decode cX11_ease 21 = .ok (.goto 4, 3) := by decide +kernel
theorem dX11_ease_24 : decode cX11_ease 24 = .ok (.iconst 0, 1) := by decide +kernel
theorem dX11_ease_25 : decode cX11_ease 25 = .ok (.istore_n 3, 1) := by decide +kernel
theorem dX11_ease_26 : decode cX11_ease 26 = .ok (.iload_n 3, 1) := by decide +kernel
theorem dX11_ease_27 : decode cX11_ease 27 = .ok (.ifCond .eq 15, 3) := by decide +kernel
theorem dX11_ease_30 : decode cX11_ease 30 = .ok (.aload_n 0, 1) := by decide +kernel
theorem dX11_ease_31 : decode cX11_ease 31 = .ok (.getfield 10, 3) := by decide +kernel
theorem dX11_ease_34 : decode cX11_ease 34 = .ok (.iload_n 1, 1) := by decide +kernel
theorem dX11_ease_35 : decode cX11_ease 35 = .ok (.iload_n 2, 1) := by decide +kernel
theorem dX11_ease_36 : decode cX11_ease 36 = .ok (.invokevirtual 146, 3) := by decide +kernel
theorem dX11_ease_39 : decode cX11_ease 39 = .ok (.goto 5, 3) := by decide +kernel
theorem dX11_ease_42 : decode cX11_ease 42 = .ok (.ldc 149, 2) := by decide +kernel
theorem dX11_ease_44 : decode cX11_ease 44 = .ok (.ireturn, 1) := by decide +kernel
theorem dX11_fit_0 : decode cX11_fit 0 = .ok (.iload_n 1, 1) := by decide +kernel
theorem dX11_fit_1 : decode cX11_fit 1 = .ok (.iconst (-1), 1) := by decide +kernel
theorem dX11_fit_2 : decode cX11_fit 2 = .ok (.if_icmp .ne 32, 3) := by decide +kernel
theorem dX11_fit_5 : decode cX11_fit 5 = .ok (.aload_n 0, 1) := by decide +kernel
theorem dX11_fit_6 : decode cX11_fit 6 = .ok (.iconst 0, 1) := by decide +kernel
theorem dX11_fit_7 : decode cX11_fit 7 = .ok (.invokevirtual 150, 3) := by decide +kernel
theorem dX11_fit_10 : decode cX11_fit 10 = .ok (.istore_n 2, 1) := by decide +kernel
theorem dX11_fit_11 : decode cX11_fit 11 = .ok (.iconst 1, 1) := by decide +kernel
theorem dX11_fit_12 : decode cX11_fit 12 = .ok (.istore_n 3, 1) := by decide +kernel
theorem dX11_fit_13 : decode cX11_fit 13 = .ok (.iload_n 3, 1) := by decide +kernel
theorem dX11_fit_14 : decode cX11_fit 14 = .ok (.iconst 4, 1) := by decide +kernel
theorem dX11_fit_15 : decode cX11_fit 15 = .ok (.if_icmp .ge 17, 3) := by decide +kernel
theorem dX11_fit_18 : decode cX11_fit 18 = .ok (.iload_n 2, 1) := by decide +kernel
theorem dX11_fit_19 : decode cX11_fit 19 = .ok (.aload_n 0, 1) := by decide +kernel
theorem dX11_fit_20 : decode cX11_fit 20 = .ok (.iload_n 3, 1) := by decide +kernel
theorem dX11_fit_21 : decode cX11_fit 21 = .ok (.invokevirtual 150, 3) := by decide +kernel
theorem dX11_fit_24 : decode cX11_fit 24 = .ok (.iand, 1) := by decide +kernel
theorem dX11_fit_25 : decode cX11_fit 25 = .ok (.istore_n 2, 1) := by decide +kernel
theorem dX11_fit_26 : decode cX11_fit 26 = .ok (.iinc 3 1, 3) := by decide +kernel
theorem dX11_fit_29 : decode cX11_fit 29 = .ok (.goto (-16), 3) := by decide +kernel
theorem dX11_fit_32 : decode cX11_fit 32 = .ok (.iload_n 2, 1) := by decide +kernel
theorem dX11_fit_33 : decode cX11_fit 33 = .ok (.ireturn, 1) := by decide +kernel
theorem dX11_fit_34 : decode cX11_fit 34 = .ok (.iload_n 1, 1) := by decide +kernel
theorem dX11_fit_35 : decode cX11_fit 35 = .ok (.iconst 0, 1) := by decide +kernel
theorem dX11_fit_36 : decode cX11_fit 36 = .ok (.iconst 3, 1) := by decide +kernel
theorem dX11_fit_37 : decode cX11_fit 37 = .ok (.invokestatic 108, 3) := by decide +kernel
theorem dX11_fit_40 : decode cX11_fit 40 = .ok (.ifCond .eq 11, 3) := by decide +kernel
theorem dX11_fit_43 : decode cX11_fit 43 = .ok (.aload_n 0, 1) := by decide +kernel
theorem dX11_fit_44 : decode cX11_fit 44 = .ok (.iload_n 1, 1) := by decide +kernel
theorem dX11_fit_45 : decode cX11_fit 45 = .ok (.invokevirtual 150, 3) := by decide +kernel
theorem dX11_fit_48 : decode cX11_fit 48 = .ok (.goto 4, 3) := by decide +kernel
theorem dX11_fit_51 : decode cX11_fit 51 = .ok (.iconst (-1), 1) := by decide +kernel
theorem dX11_fit_52 : decode cX11_fit 52 = .ok (.ireturn, 1) := by decide +kernel
theorem dX11_lacks_0 : decode cX11_lacks 0 = .ok (.aload_n 0, 1) := by decide +kernel
theorem dX11_lacks_1 : decode cX11_lacks 1 = .ok (.getfield 10, 3) := by decide +kernel
theorem dX11_lacks_4 : decode cX11_lacks 4 = .ok (.invokevirtual 142, 3) := by decide +kernel
theorem dX11_lacks_7 : decode cX11_lacks 7 = .ok (.ireturn, 1) := by decide +kernel
theorem dX11_bestPin_0 : decode cX11_bestPin 0 = .ok (.iload_n 1, 1) := by decide +kernel
theorem dX11_bestPin_1 : decode cX11_bestPin 1 = .ok (.iconst 0, 1) := by decide +kernel
theorem dX11_bestPin_2 : decode cX11_bestPin 2 = .ok (.iconst 1, 1) := by decide +kernel
theorem dX11_bestPin_3 : decode cX11_bestPin 3 = .ok (.invokestatic 108, 3) := by decide +kernel
theorem dX11_bestPin_6 : decode cX11_bestPin 6 = .ok (.ifCond .eq 12, 3) := by decide +kernel
theorem dX11_bestPin_9 : decode cX11_bestPin 9 = .ok (.iload_n 2, 1) := by decide +kernel
theorem dX11_bestPin_10 : decode cX11_bestPin 10 = .ok (.iconst 0, 1) := by decide +kernel
theorem dX11_bestPin_11 : decode cX11_bestPin 11 = .ok (.iconst 1, 1) := by decide +kernel
theorem dX11_bestPin_12 : decode cX11_bestPin 12 = .ok (.invokestatic 108, 3) := by decide +kernel
theorem dX11_bestPin_15 : decode cX11_bestPin 15 = .ok (.ifCond .ne 5, 3) := by decide +kernel
theorem dX11_bestPin_18 : decode cX11_bestPin 18 = .ok (.iconst (-1), 1) := by decide +kernel
theorem dX11_bestPin_19 : decode cX11_bestPin 19 = .ok (.ireturn, 1) := by decide +kernel
theorem dX11_bestPin_20 : decode cX11_bestPin 20 = .ok (.bipush (-4), 2) := by decide +kernel
theorem dX11_bestPin_22 : decode cX11_bestPin 22 = .ok (.istore_n 3, 1) := by decide +kernel
theorem dX11_bestPin_23 : decode cX11_bestPin 23 = .ok (.aload_n 0, 1) := by decide +kernel
theorem dX11_bestPin_24 : decode cX11_bestPin 24 = .ok (.getfield 10, 3) := by decide +kernel
theorem dX11_bestPin_27 : decode cX11_bestPin 27 = .ok (.invokevirtual 142, 3) := by decide +kernel
theorem dX11_bestPin_30 : decode cX11_bestPin 30 = .ok (.istore 4, 2) := by decide +kernel
theorem dX11_bestPin_32 : decode cX11_bestPin 32 = .ok (.iconst 0, 1) := by decide +kernel
theorem dX11_bestPin_33 : decode cX11_bestPin 33 = .ok (.istore 5, 2) := by decide +kernel
theorem dX11_bestPin_35 : decode cX11_bestPin 35 = .ok (.iconst 0, 1) := by decide +kernel
theorem dX11_bestPin_36 : decode cX11_bestPin 36 = .ok (.istore 6, 2) := by decide +kernel
theorem dX11_bestPin_38 : decode cX11_bestPin 38 = .ok (.iload 6, 2) := by decide +kernel
theorem dX11_bestPin_40 : decode cX11_bestPin 40 = .ok (.bipush 100, 2) := by decide +kernel
theorem dX11_bestPin_42 : decode cX11_bestPin 42 = .ok (.aload_n 0, 1) := by decide +kernel
theorem dX11_bestPin_43 : decode cX11_bestPin 43 = .ok (.getfield 10, 3) := by decide +kernel
theorem dX11_bestPin_46 : decode cX11_bestPin 46 = .ok (.getfield 153, 3) := by decide +kernel
theorem dX11_bestPin_49 : decode cX11_bestPin 49 = .ok (.imul, 1) := by decide +kernel
theorem dX11_bestPin_50 : decode cX11_bestPin 50 = .ok (.if_icmp .ge 143, 3) := by decide +kernel
theorem dX11_bestPin_53 : decode cX11_bestPin 53 = .ok (.iload 6, 2) := by decide +kernel
theorem dX11_bestPin_55 : decode cX11_bestPin 55 = .ok (.bipush 10, 2) := by decide +kernel
theorem dX11_bestPin_57 : decode cX11_bestPin 57 = .ok (.idiv, 1) := by decide +kernel
theorem dX11_bestPin_58 : decode cX11_bestPin 58 = .ok (.bipush 10, 2) := by decide +kernel
theorem dX11_bestPin_60 : decode cX11_bestPin 60 = .ok (.irem, 1) := by decide +kernel
theorem dX11_bestPin_61 : decode cX11_bestPin 61 = .ok (.istore 7, 2) := by decide +kernel
theorem dX11_bestPin_63 : decode cX11_bestPin 63 = .ok (.iload 6, 2) := by decide +kernel
theorem dX11_bestPin_65 : decode cX11_bestPin 65 = .ok (.bipush 10, 2) := by decide +kernel
theorem dX11_bestPin_67 : decode cX11_bestPin 67 = .ok (.irem, 1) := by decide +kernel
theorem dX11_bestPin_68 : decode cX11_bestPin 68 = .ok (.istore 8, 2) := by decide +kernel
theorem dX11_bestPin_70 : decode cX11_bestPin 70 = .ok (.iload 7, 2) := by decide +kernel
theorem dX11_bestPin_72 : decode cX11_bestPin 72 = .ok (.bipush 8, 2) := by decide +kernel
theorem dX11_bestPin_74 : decode cX11_bestPin 74 = .ok (.if_icmp .ge 113, 3) := by decide +kernel
theorem dX11_bestPin_77 : decode cX11_bestPin 77 = .ok (.iload 7, 2) := by decide +kernel
theorem dX11_bestPin_79 : decode cX11_bestPin 79 = .ok (.iconst 4, 1) := by decide +kernel
theorem dX11_bestPin_80 : decode cX11_bestPin 80 = .ok (.if_icmp .ne 10, 3) := by decide +kernel
theorem dX11_bestPin_83 : decode cX11_bestPin 83 = .ok (.iload_n 1, 1) := by decide +kernel
theorem dX11_bestPin_84 : decode cX11_bestPin 84 = .ok (.ifCond .ne 6, 3) := by decide +kernel
theorem dX11_bestPin_87 : decode cX11_bestPin 87 = .ok (.goto 100, 3) := by decide +kernel
theorem dX11_bestPin_90 : decode cX11_bestPin 90 = .ok (.aload_n 0, 1) := by decide +kernel
theorem dX11_bestPin_91 : decode cX11_bestPin 91 = .ok (.getfield 19, 3) := by decide +kernel
theorem dX11_bestPin_94 : decode cX11_bestPin 94 = .ok (.aload_n 0, 1) := by decide +kernel
theorem dX11_bestPin_95 : decode cX11_bestPin 95 = .ok (.getfield 10, 3) := by decide +kernel
theorem dX11_bestPin_98 : decode cX11_bestPin 98 = .ok (.invokevirtual 88, 3) := by decide +kernel
theorem dX11_bestPin_101 : decode cX11_bestPin 101 = .ok (.aload_n 0, 1) := by decide +kernel
theorem dX11_bestPin_102 : decode cX11_bestPin 102 = .ok (.getfield 19, 3) := by decide +kernel
theorem dX11_bestPin_105 : decode cX11_bestPin 105 = .ok (.aload_n 0, 1) := by decide +kernel
theorem dX11_bestPin_106 : decode cX11_bestPin 106 = .ok (.iload 7, 2) := by decide +kernel
theorem dX11_bestPin_108 : decode cX11_bestPin 108 = .ok (.invokevirtual 128, 3) := by decide +kernel
theorem dX11_bestPin_111 : decode cX11_bestPin 111 = .ok (.iload 8, 2) := by decide +kernel
theorem dX11_bestPin_113 : decode cX11_bestPin 113 = .ok (.iload 6, 2) := by decide +kernel
theorem dX11_bestPin_115 : decode cX11_bestPin 115 = .ok (.bipush 100, 2) := by decide +kernel
theorem dX11_bestPin_117 : decode cX11_bestPin 117 = .ok (.idiv, 1) := by decide +kernel
theorem dX11_bestPin_118 : decode cX11_bestPin 118 = .ok (.invokevirtual 139, 3) := by decide +kernel
theorem dX11_bestPin_121 : decode cX11_bestPin 121 = .ok (.ifCond .ne 6, 3) := by decide +kernel
theorem dX11_bestPin_124 : decode cX11_bestPin 124 = .ok (.goto 63, 3) := by decide +kernel
theorem dX11_bestPin_127 : decode cX11_bestPin 127 = .ok (.aload_n 0, 1) := by decide +kernel
theorem dX11_bestPin_128 : decode cX11_bestPin 128 = .ok (.getfield 19, 3) := by decide +kernel
theorem dX11_bestPin_131 : decode cX11_bestPin 131 = .ok (.invokevirtual 142, 3) := by decide +kernel
theorem dX11_bestPin_134 : decode cX11_bestPin 134 = .ok (.istore 9, 2) := by decide +kernel
theorem dX11_bestPin_136 : decode cX11_bestPin 136 = .ok (.aload_n 0, 1) := by decide +kernel
theorem dX11_bestPin_137 : decode cX11_bestPin 137 = .ok (.iload 7, 2) := by decide +kernel
theorem dX11_bestPin_139 : decode cX11_bestPin 139 = .ok (.invokevirtual 128, 3) := by decide +kernel
theorem dX11_bestPin_142 : decode cX11_bestPin 142 = .ok (.iload 8, 2) := by decide +kernel
theorem dX11_bestPin_144 : decode cX11_bestPin 144 = .ok (.invokevirtual 156, 3) := by decide +kernel
theorem dX11_bestPin_147 : decode cX11_bestPin 147 = .ok (.istore 10, 2) := by decide +kernel
theorem dX11_bestPin_149 : decode cX11_bestPin 149 = .ok (.iload 9, 2) := by decide +kernel
theorem dX11_bestPin_151 : decode cX11_bestPin 151 = .ok (.iload 4, 2) := by decide +kernel
theorem dX11_bestPin_153 : decode cX11_bestPin 153 = .ok (.if_icmp .lt 23, 3) := by decide +kernel
theorem dX11_bestPin_156 : decode cX11_bestPin 156 = .ok (.iload_n 3, 1) := by decide +kernel
theorem dX11_bestPin_157 : decode cX11_bestPin 157 = .ok (.bipush (-4), 2) := by decide +kernel
theorem dX11_bestPin_159 : decode cX11_bestPin 159 = .ok (.if_icmp .eq 28, 3) := by decide +kernel
theorem dX11_bestPin_162 : decode cX11_bestPin 162 = .ok (.iload 9, 2) := by decide +kernel
theorem dX11_bestPin_164 : decode cX11_bestPin 164 = .ok (.iload 4, 2) := by decide +kernel
theorem dX11_bestPin_166 : decode cX11_bestPin 166 = .ok (.if_icmp .ne 21, 3) := by decide +kernel
theorem dX11_bestPin_169 : decode cX11_bestPin 169 = .ok (.iload 10, 2) := by decide +kernel
theorem dX11_bestPin_171 : decode cX11_bestPin 171 = .ok (.iload 5, 2) := by decide +kernel
theorem dX11_bestPin_173 : decode cX11_bestPin 173 = .ok (.if_icmp .ge 14, 3) := by decide +kernel
theorem dX11_bestPin_176 : decode cX11_bestPin 176 = .ok (.iload 6, 2) := by decide +kernel
theorem dX11_bestPin_178 : decode cX11_bestPin 178 = .ok (.istore_n 3, 1) := by decide +kernel
theorem dX11_bestPin_179 : decode cX11_bestPin 179 = .ok (.iload 9, 2) := by decide +kernel
theorem dX11_bestPin_181 : decode cX11_bestPin 181 = .ok (.istore 4, 2) := by decide +kernel
theorem dX11_bestPin_183 : decode cX11_bestPin 183 = .ok (.iload 10, 2) := by decide +kernel
theorem dX11_bestPin_185 : decode cX11_bestPin 185 = .ok (.istore 5, 2) := by decide +kernel
theorem dX11_bestPin_187 : decode cX11_bestPin 187 = .ok (.iinc 6 1, 3) := by decide +kernel
theorem dX11_bestPin_190 : decode cX11_bestPin 190 = .ok (.goto (-152), 3) := by decide +kernel
theorem dX11_bestPin_193 : decode cX11_bestPin 193 = .ok (.iload_n 2, 1) := by decide +kernel
theorem dX11_bestPin_194 : decode cX11_bestPin 194 = .ok (.ifCond .ne 7, 3) := by decide +kernel
theorem dX11_bestPin_197 : decode cX11_bestPin 197 = .ok (.iload_n 3, 1) := by decide +kernel
theorem dX11_bestPin_198 : decode cX11_bestPin 198 = .ok (.goto 5, 3) := by decide +kernel
theorem dX11_bestPin_201 : decode cX11_bestPin 201 = .ok (.iload 4, 2) := by decide +kernel
theorem dX11_bestPin_203 : decode cX11_bestPin 203 = .ok (.ireturn, 1) := by decide +kernel
theorem dX11_least_0 : decode cX11_least 0 = .ok (.iload_n 2, 1) := by decide +kernel
theorem dX11_least_1 : decode cX11_least 1 = .ok (.iconst 0, 1) := by decide +kernel
theorem dX11_least_2 : decode cX11_least 2 = .ok (.iconst 1, 1) := by decide +kernel
theorem dX11_least_3 : decode cX11_least 3 = .ok (.invokestatic 108, 3) := by decide +kernel
theorem dX11_least_6 : decode cX11_least 6 = .ok (.ifCond .eq 11, 3) := by decide +kernel
theorem dX11_least_9 : decode cX11_least 9 = .ok (.aload_n 0, 1) := by decide +kernel
theorem dX11_least_10 : decode cX11_least 10 = .ok (.iload_n 1, 1) := by decide +kernel
theorem dX11_least_11 : decode cX11_least 11 = .ok (.invokevirtual 159, 3) := by decide +kernel
theorem dX11_least_14 : decode cX11_least 14 = .ok (.goto 4, 3) := by decide +kernel
theorem dX11_least_17 : decode cX11_least 17 = .ok (.iconst (-1), 1) := by decide +kernel
theorem dX11_least_18 : decode cX11_least 18 = .ok (.istore_n 3, 1) := by decide +kernel
theorem dX11_least_19 : decode cX11_least 19 = .ok (.iload_n 3, 1) := by decide +kernel
theorem dX11_least_20 : decode cX11_least 20 = .ok (.ifCond .eq 5, 3) := by decide +kernel
theorem dX11_least_23 : decode cX11_least 23 = .ok (.iload_n 3, 1) := by decide +kernel
theorem dX11_least_24 : decode cX11_least 24 = .ok (.ireturn, 1) := by decide +kernel
theorem dX11_least_25 : decode cX11_least 25 = .ok (.aload_n 0, 1) := by decide +kernel
theorem dX11_least_26 : decode cX11_least 26 = .ok (.iload_n 1, 1) := by decide +kernel
theorem dX11_least_27 : decode cX11_least 27 = .ok (.invokevirtual 80, 3) := by decide +kernel
theorem dX11_least_30 : decode cX11_least 30 = .ok (.astore 4, 2) := by decide +kernel
theorem dX11_least_32 : decode cX11_least 32 = .ok (.iconst 1, 1) := by decide +kernel
theorem dX11_least_33 : decode cX11_least 33 = .ok (.aload 4, 2) := by decide +kernel
theorem dX11_least_35 : decode cX11_least 35 = .ok (.invokestatic 162, 3) := by decide +kernel
theorem dX11_least_38 : decode cX11_least 38 = .ok (.ishl, 1) := by decide +kernel
theorem dX11_least_39 : decode cX11_least 39 = .ok (.istore 5, 2) := by decide +kernel
theorem dX11_least_41 : decode cX11_least 41 = .ok (.iconst 0, 1) := by decide +kernel
theorem dX11_least_42 : decode cX11_least 42 = .ok (.istore 6, 2) := by decide +kernel
theorem dX11_least_44 : decode cX11_least 44 = .ok (.aload_n 0, 1) := by decide +kernel
theorem dX11_least_45 : decode cX11_least 45 = .ok (.getfield 10, 3) := by decide +kernel
theorem dX11_least_48 : decode cX11_least 48 = .ok (.invokevirtual 142, 3) := by decide +kernel
theorem dX11_least_51 : decode cX11_least 51 = .ok (.istore 7, 2) := by decide +kernel
theorem dX11_least_53 : decode cX11_least 53 = .ok (.iconst 0, 1) := by decide +kernel
theorem dX11_least_54 : decode cX11_least 54 = .ok (.istore 8, 2) := by decide +kernel
theorem dX11_least_56 : decode cX11_least 56 = .ok (.iconst 1, 1) := by decide +kernel
theorem dX11_least_57 : decode cX11_least 57 = .ok (.istore 9, 2) := by decide +kernel
theorem dX11_least_59 : decode cX11_least 59 = .ok (.iload 9, 2) := by decide +kernel
theorem dX11_least_61 : decode cX11_least 61 = .ok (.iload 5, 2) := by decide +kernel
theorem dX11_least_63 : decode cX11_least 63 = .ok (.if_icmp .ge 75, 3) := by decide +kernel
theorem dX11_least_66 : decode cX11_least 66 = .ok (.aload_n 0, 1) := by decide +kernel
theorem dX11_least_67 : decode cX11_least 67 = .ok (.aload 4, 2) := by decide +kernel
theorem dX11_least_69 : decode cX11_least 69 = .ok (.iload 9, 2) := by decide +kernel
theorem dX11_least_71 : decode cX11_least 71 = .ok (.invokevirtual 165, 3) := by decide +kernel
theorem dX11_least_74 : decode cX11_least 74 = .ok (.ifCond .ne 6, 3) := by decide +kernel
theorem dX11_least_77 : decode cX11_least 77 = .ok (.goto 55, 3) := by decide +kernel
theorem dX11_least_80 : decode cX11_least 80 = .ok (.aload_n 0, 1) := by decide +kernel
theorem dX11_least_81 : decode cX11_least 81 = .ok (.getfield 19, 3) := by decide +kernel
theorem dX11_least_84 : decode cX11_least 84 = .ok (.invokevirtual 142, 3) := by decide +kernel
theorem dX11_least_87 : decode cX11_least 87 = .ok (.istore 10, 2) := by decide +kernel
theorem dX11_least_89 : decode cX11_least 89 = .ok (.aload_n 0, 1) := by decide +kernel
theorem dX11_least_90 : decode cX11_least 90 = .ok (.aload 4, 2) := by decide +kernel
theorem dX11_least_92 : decode cX11_least 92 = .ok (.iload 9, 2) := by decide +kernel
theorem dX11_least_94 : decode cX11_least 94 = .ok (.invokevirtual 169, 3) := by decide +kernel
theorem dX11_least_97 : decode cX11_least 97 = .ok (.istore 11, 2) := by decide +kernel
theorem dX11_least_99 : decode cX11_least 99 = .ok (.iload 10, 2) := by decide +kernel
theorem dX11_least_101 : decode cX11_least 101 = .ok (.iload 7, 2) := by decide +kernel
theorem dX11_least_103 : decode cX11_least 103 = .ok (.if_icmp .lt 17, 3) := by decide +kernel
theorem dX11_least_106 : decode cX11_least 106 = .ok (.iload 10, 2) := by decide +kernel
theorem dX11_least_108 : decode cX11_least 108 = .ok (.iload 7, 2) := by decide +kernel
theorem dX11_least_110 : decode cX11_least 110 = .ok (.if_icmp .ne 22, 3) := by decide +kernel
theorem dX11_least_113 : decode cX11_least 113 = .ok (.iload 11, 2) := by decide +kernel
theorem dX11_least_115 : decode cX11_least 115 = .ok (.iload 8, 2) := by decide +kernel
theorem dX11_least_117 : decode cX11_least 117 = .ok (.if_icmp .ge 15, 3) := by decide +kernel
theorem dX11_least_120 : decode cX11_least 120 = .ok (.iload 9, 2) := by decide +kernel
theorem dX11_least_122 : decode cX11_least 122 = .ok (.istore 6, 2) := by decide +kernel
theorem dX11_least_124 : decode cX11_least 124 = .ok (.iload 10, 2) := by decide +kernel
theorem dX11_least_126 : decode cX11_least 126 = .ok (.istore 7, 2) := by decide +kernel
theorem dX11_least_128 : decode cX11_least 128 = .ok (.iload 11, 2) := by decide +kernel
theorem dX11_least_130 : decode cX11_least 130 = .ok (.istore 8, 2) := by decide +kernel
theorem dX11_least_132 : decode cX11_least 132 = .ok (.iinc 9 1, 3) := by decide +kernel
theorem dX11_least_135 : decode cX11_least 135 = .ok (.goto (-76), 3) := by decide +kernel
theorem dX11_least_138 : decode cX11_least 138 = .ok (.iload_n 2, 1) := by decide +kernel
theorem dX11_least_139 : decode cX11_least 139 = .ok (.ifCond .ne 8, 3) := by decide +kernel
theorem dX11_least_142 : decode cX11_least 142 = .ok (.iload 6, 2) := by decide +kernel
theorem dX11_least_144 : decode cX11_least 144 = .ok (.goto 5, 3) := by decide +kernel
theorem dX11_least_147 : decode cX11_least 147 = .ok (.iload 7, 2) := by decide +kernel
theorem dX11_least_149 : decode cX11_least 149 = .ok (.ireturn, 1) := by decide +kernel
theorem dX11_first_0 : decode cX11_first 0 = .ok (.aload_n 0, 1) := by decide +kernel
theorem dX11_first_1 : decode cX11_first 1 = .ok (.iload_n 1, 1) := by decide +kernel
theorem dX11_first_2 : decode cX11_first 2 = .ok (.invokevirtual 159, 3) := by decide +kernel
theorem dX11_first_5 : decode cX11_first 5 = .ok (.istore_n 2, 1) := by decide +kernel
theorem dX11_first_6 : decode cX11_first 6 = .ok (.iload_n 2, 1) := by decide +kernel
theorem dX11_first_7 : decode cX11_first 7 = .ok (.ifCond .eq 5, 3) := by decide +kernel
theorem dX11_first_10 : decode cX11_first 10 = .ok (.iload_n 2, 1) := by decide +kernel
theorem dX11_first_11 : decode cX11_first 11 = .ok (.ireturn, 1) := by decide +kernel
theorem dX11_first_12 : decode cX11_first 12 = .ok (.aload_n 0, 1) := by decide +kernel
theorem dX11_first_13 : decode cX11_first 13 = .ok (.iload_n 1, 1) := by decide +kernel
theorem dX11_first_14 : decode cX11_first 14 = .ok (.invokevirtual 80, 3) := by decide +kernel
theorem dX11_first_17 : decode cX11_first 17 = .ok (.astore_n 3, 1) := by decide +kernel
theorem dX11_first_18 : decode cX11_first 18 = .ok (.aload_n 3, 1) := by decide +kernel
theorem dX11_first_19 : decode cX11_first 19 = .ok (.invokestatic 162, 3) := by decide +kernel
theorem dX11_first_22 : decode cX11_first 22 = .ok (.istore 4, 2) := by decide +kernel
theorem dX11_first_24 : decode cX11_first 24 = .ok (.aload_n 0, 1) := by decide +kernel
theorem dX11_first_25 : decode cX11_first 25 = .ok (.getfield 19, 3) := by decide +kernel
theorem dX11_first_28 : decode cX11_first 28 = .ok (.aload_n 0, 1) := by decide +kernel
theorem dX11_first_29 : decode cX11_first 29 = .ok (.getfield 10, 3) := by decide +kernel
theorem dX11_first_32 : decode cX11_first 32 = .ok (.invokevirtual 88, 3) := by decide +kernel
theorem dX11_first_35 : decode cX11_first 35 = .ok (.iconst 0, 1) := by decide +kernel
theorem dX11_first_36 : decode cX11_first 36 = .ok (.istore 5, 2) := by decide +kernel
theorem dX11_first_38 : decode cX11_first 38 = .ok (.iload 5, 2) := by decide +kernel
theorem dX11_first_40 : decode cX11_first 40 = .ok (.iload 4, 2) := by decide +kernel
theorem dX11_first_42 : decode cX11_first 42 = .ok (.if_icmp .ge 26, 3) := by decide +kernel
theorem dX11_first_45 : decode cX11_first 45 = .ok (.aload_n 0, 1) := by decide +kernel
theorem dX11_first_46 : decode cX11_first 46 = .ok (.aload_n 0, 1) := by decide +kernel
theorem dX11_first_47 : decode cX11_first 47 = .ok (.getfield 19, 3) := by decide +kernel
theorem dX11_first_50 : decode cX11_first 50 = .ok (.aload_n 3, 1) := by decide +kernel
theorem dX11_first_51 : decode cX11_first 51 = .ok (.iload 5, 2) := by decide +kernel
theorem dX11_first_53 : decode cX11_first 53 = .ok (.invokevirtual 173, 3) := by decide +kernel
theorem dX11_first_56 : decode cX11_first 56 = .ok (.ifCond .ne 6, 3) := by decide +kernel
theorem dX11_first_59 : decode cX11_first 59 = .ok (.iload 5, 2) := by decide +kernel
theorem dX11_first_61 : decode cX11_first 61 = .ok (.ireturn, 1) := by decide +kernel
theorem dX11_first_62 : decode cX11_first 62 = .ok (.iinc 5 1, 3) := by decide +kernel
theorem dX11_first_65 : decode cX11_first 65 = .ok (.goto (-27), 3) := by decide +kernel
theorem dX11_first_68 : decode cX11_first 68 = .ok (.bipush (-4), 2) := by decide +kernel
theorem dX11_first_70 : decode cX11_first 70 = .ok (.ireturn, 1) := by decide +kernel
theorem dX11_orders_0 : decode cX11_orders 0 = .ok (.iload_n 2, 1) := by decide +kernel
theorem dX11_orders_1 : decode cX11_orders 1 = .ok (.iconst 0, 1) := by decide +kernel
theorem dX11_orders_2 : decode cX11_orders 2 = .ok (.iconst 1, 1) := by decide +kernel
theorem dX11_orders_3 : decode cX11_orders 3 = .ok (.invokestatic 108, 3) := by decide +kernel
theorem dX11_orders_6 : decode cX11_orders 6 = .ok (.ifCond .eq 11, 3) := by decide +kernel
theorem dX11_orders_9 : decode cX11_orders 9 = .ok (.aload_n 0, 1) := by decide +kernel
theorem dX11_orders_10 : decode cX11_orders 10 = .ok (.iload_n 1, 1) := by decide +kernel
theorem dX11_orders_11 : decode cX11_orders 11 = .ok (.invokevirtual 159, 3) := by decide +kernel
theorem dX11_orders_14 : decode cX11_orders 14 = .ok (.goto 4, 3) := by decide +kernel
theorem dX11_orders_17 : decode cX11_orders 17 = .ok (.iconst (-1), 1) := by decide +kernel
theorem dX11_orders_18 : decode cX11_orders 18 = .ok (.istore_n 3, 1) := by decide +kernel
theorem dX11_orders_19 : decode cX11_orders 19 = .ok (.iload_n 3, 1) := by decide +kernel
theorem dX11_orders_20 : decode cX11_orders 20 = .ok (.ifCond .eq 5, 3) := by decide +kernel
theorem dX11_orders_23 : decode cX11_orders 23 = .ok (.iload_n 3, 1) := by decide +kernel
theorem dX11_orders_24 : decode cX11_orders 24 = .ok (.ireturn, 1) := by decide +kernel
theorem dX11_orders_25 : decode cX11_orders 25 = .ok (.aload_n 0, 1) := by decide +kernel
theorem dX11_orders_26 : decode cX11_orders 26 = .ok (.iload_n 1, 1) := by decide +kernel
theorem dX11_orders_27 : decode cX11_orders 27 = .ok (.invokevirtual 80, 3) := by decide +kernel
theorem dX11_orders_30 : decode cX11_orders 30 = .ok (.astore 4, 2) := by decide +kernel
theorem dX11_orders_32 : decode cX11_orders 32 = .ok (.aload 4, 2) := by decide +kernel
theorem dX11_orders_34 : decode cX11_orders 34 = .ok (.invokestatic 162, 3) := by decide +kernel
theorem dX11_orders_37 : decode cX11_orders 37 = .ok (.iconst 5, 1) := by decide +kernel
theorem dX11_orders_38 : decode cX11_orders 38 = .ok (.if_icmp .le 6, 3) := by decide +kernel
theorem dX11_orders_41 : decode cX11_orders 41 = .ok (.bipush (-2), 2) := by decide +kernel
theorem dX11_orders_43 : decode cX11_orders 43 = .ok (.ireturn, 1) := by decide +kernel
theorem dX11_orders_44 : decode cX11_orders 44 = .ok (.aload_n 0, 1) := by decide +kernel
theorem dX11_orders_45 : decode cX11_orders 45 = .ok (.iconst 0, 1) := by decide +kernel
theorem dX11_orders_46 : decode cX11_orders 46 = .ok (.putfield 177, 3) := by decide +kernel
theorem dX11_orders_49 : decode cX11_orders 49 = .ok (.aload_n 0, 1) := by decide +kernel
theorem dX11_orders_50 : decode cX11_orders 50 = .ok (.bipush (-4), 2) := by decide +kernel
theorem dX11_orders_52 : decode cX11_orders 52 = .ok (.putfield 180, 3) := by decide +kernel
theorem dX11_orders_55 : decode cX11_orders 55 = .ok (.aload_n 0, 1) := by decide +kernel
theorem dX11_orders_56 : decode cX11_orders 56 = .ok (.iconst 0, 1) := by decide +kernel
theorem dX11_orders_57 : decode cX11_orders 57 = .ok (.invokevirtual 183, 3) := by decide +kernel
theorem dX11_orders_60 : decode cX11_orders 60 = .ok (.aload_n 0, 1) := by decide +kernel
theorem dX11_orders_61 : decode cX11_orders 61 = .ok (.getfield 10, 3) := by decide +kernel
theorem dX11_orders_64 : decode cX11_orders 64 = .ok (.invokevirtual 88, 3) := by decide +kernel
theorem dX11_orders_67 : decode cX11_orders 67 = .ok (.aload_n 0, 1) := by decide +kernel
theorem dX11_orders_68 : decode cX11_orders 68 = .ok (.aload 4, 2) := by decide +kernel
theorem dX11_orders_70 : decode cX11_orders 70 = .ok (.iconst 0, 1) := by decide +kernel
theorem dX11_orders_71 : decode cX11_orders 71 = .ok (.iconst 0, 1) := by decide +kernel
theorem dX11_orders_72 : decode cX11_orders 72 = .ok (.invokevirtual 187, 3) := by decide +kernel
theorem dX11_orders_75 : decode cX11_orders 75 = .ok (.iload_n 2, 1) := by decide +kernel
theorem dX11_orders_76 : decode cX11_orders 76 = .ok (.ifCond .ne 10, 3) := by decide +kernel
theorem dX11_orders_79 : decode cX11_orders 79 = .ok (.aload_n 0, 1) := by decide +kernel
theorem dX11_orders_80 : decode cX11_orders 80 = .ok (.getfield 177, 3) := by decide +kernel
theorem dX11_orders_83 : decode cX11_orders 83 = .ok (.goto 7, 3) := by decide +kernel
theorem dX11_orders_86 : decode cX11_orders 86 = .ok (.aload_n 0, 1) := by decide +kernel
theorem dX11_orders_87 : decode cX11_orders 87 = .ok (.getfield 180, 3) := by decide +kernel
theorem dX11_orders_90 : decode cX11_orders 90 = .ok (.ireturn, 1) := by decide +kernel
theorem dX11_hem_0 : decode cX11_hem 0 = .ok (.iload_n 1, 1) := by decide +kernel
theorem dX11_hem_1 : decode cX11_hem 1 = .ok (.iconst 1, 1) := by decide +kernel
theorem dX11_hem_2 : decode cX11_hem 2 = .ok (.bipush 99, 2) := by decide +kernel
theorem dX11_hem_4 : decode cX11_hem 4 = .ok (.invokestatic 108, 3) := by decide +kernel
theorem dX11_hem_7 : decode cX11_hem 7 = .ok (.ifCond .eq 23, 3) := by decide +kernel
theorem dX11_hem_10 : decode cX11_hem 10 = .ok (.iload_n 2, 1) := by decide +kernel
theorem dX11_hem_11 : decode cX11_hem 11 = .ok (.iconst 0, 1) := by decide +kernel
theorem dX11_hem_12 : decode cX11_hem 12 = .ok (.bipush 99, 2) := by decide +kernel
theorem dX11_hem_14 : decode cX11_hem 14 = .ok (.invokestatic 108, 3) := by decide +kernel
theorem dX11_hem_17 : decode cX11_hem 17 = .ok (.ifCond .eq 13, 3) := by decide +kernel
theorem dX11_hem_20 : decode cX11_hem 20 = .ok (.iload_n 3, 1) := by decide +kernel
theorem dX11_hem_21 : decode cX11_hem 21 = .ok (.iconst 0, 1) := by decide +kernel
theorem dX11_hem_22 : decode cX11_hem 22 = .ok (.bipush 20, 2) := by decide +kernel
theorem dX11_hem_24 : decode cX11_hem 24 = .ok (.invokestatic 108, 3) := by decide +kernel
theorem dX11_hem_27 : decode cX11_hem 27 = .ok (.ifCond .ne 5, 3) := by decide +kernel
theorem dX11_hem_30 : decode cX11_hem 30 = .ok (.iconst (-1), 1) := by decide +kernel
theorem dX11_hem_31 : decode cX11_hem 31 = .ok (.ireturn, 1) := by decide +kernel
theorem dX11_hem_32 : decode cX11_hem 32 = .ok (.iload_n 1, 1) := by decide +kernel
theorem dX11_hem_33 : decode cX11_hem 33 = .ok (.istore 4, 2) := by decide +kernel
theorem dX11_hem_35 : decode cX11_hem 35 = .ok (.iconst 0, 1) := by decide +kernel
theorem dX11_hem_36 : decode cX11_hem 36 = .ok (.istore 5, 2) := by decide +kernel
theorem dX11_hem_38 : decode cX11_hem 38 = .ok (.iload 5, 2) := by decide +kernel
theorem dX11_hem_40 : decode cX11_hem 40 = .ok (.iload_n 3, 1) := by decide +kernel
theorem dX11_hem_41 : decode cX11_hem 41 = .ok (.if_icmp .ge 26, 3) := by decide +kernel
theorem dX11_hem_44 : decode cX11_hem 44 = .ok (.bipush 99, 2) := by decide +kernel
theorem dX11_hem_46 : decode cX11_hem 46 = .ok (.iload 4, 2) := by decide +kernel
theorem dX11_hem_48 : decode cX11_hem 48 = .ok (.iload_n 2, 1) := by decide +kernel
theorem dX11_hem_49 : decode cX11_hem 49 = .ok (.iload 4, 2) := by decide +kernel
theorem dX11_hem_51 : decode cX11_hem 51 = .ok (.imul, 1) := by decide +kernel
theorem dX11_hem_52 : decode cX11_hem 52 = .ok (.bipush 100, 2) := by decide +kernel
theorem dX11_hem_54 : decode cX11_hem 54 = .ok (.idiv, 1) := by decide +kernel
theorem dX11_hem_55 : decode cX11_hem 55 = .ok (.iadd, 1) := by decide +kernel
theorem dX11_hem_56 : decode cX11_hem 56 = .ok (.invokestatic 191, 3) := by decide +kernel
theorem dX11_hem_59 : decode cX11_hem 59 = .ok (.istore 4, 2) := by decide +kernel
theorem dX11_hem_61 : decode cX11_hem 61 = .ok (.iinc 5 1, 3) := by decide +kernel
theorem dX11_hem_64 : decode cX11_hem 64 = .ok (.goto (-26), 3) := by decide +kernel
theorem dX11_hem_67 : decode cX11_hem 67 = .ok (.iload 4, 2) := by decide +kernel
theorem dX11_hem_69 : decode cX11_hem 69 = .ok (.ireturn, 1) := by decide +kernel
theorem dX11_darts_0 : decode cX11_darts 0 = .ok (.iload_n 1, 1) := by decide +kernel
theorem dX11_darts_1 : decode cX11_darts 1 = .ok (.iconst 0, 1) := by decide +kernel
theorem dX11_darts_2 : decode cX11_darts 2 = .ok (.bipush 99, 2) := by decide +kernel
theorem dX11_darts_4 : decode cX11_darts 4 = .ok (.invokestatic 108, 3) := by decide +kernel
theorem dX11_darts_7 : decode cX11_darts 7 = .ok (.ifCond .eq 17, 3) := by decide +kernel
theorem dX11_darts_10 : decode cX11_darts 10 = .ok (.iload_n 3, 1) := by decide +kernel
theorem dX11_darts_11 : decode cX11_darts 11 = .ok (.iconst 0, 1) := by decide +kernel
theorem dX11_darts_12 : decode cX11_darts 12 = .ok (.bipush 99, 2) := by decide +kernel
theorem dX11_darts_14 : decode cX11_darts 14 = .ok (.invokestatic 108, 3) := by decide +kernel
theorem dX11_darts_17 : decode cX11_darts 17 = .ok (.ifCond .eq 7, 3) := by decide +kernel
theorem dX11_darts_20 : decode cX11_darts 20 = .ok (.iconst 1, 1) := by decide +kernel
theorem dX11_darts_21 : decode cX11_darts 21 = .ok (.goto 4, 3) := by decide +kernel
theorem dX11_darts_24 : decode cX11_darts 24 = .ok (.iconst 0, 1) := by decide +kernel
theorem dX11_darts_25 : decode cX11_darts 25 = .ok (.istore 5, 2) := by decide +kernel
theorem dX11_darts_27 : decode cX11_darts 27 = .ok (.iload_n 2, 1) := by decide +kernel
theorem dX11_darts_28 : decode cX11_darts 28 = .ok (.iconst 1, 1) := by decide +kernel
theorem dX11_darts_29 : decode cX11_darts 29 = .ok (.bipush 99, 2) := by decide +kernel
theorem dX11_darts_31 : decode cX11_darts 31 = .ok (.invokestatic 108, 3) := by decide +kernel
theorem dX11_darts_34 : decode cX11_darts 34 = .ok (.ifCond .eq 18, 3) := by decide +kernel
theorem dX11_darts_37 : decode cX11_darts 37 = .ok (.iload 4, 2) := by decide +kernel
theorem dX11_darts_39 : decode cX11_darts 39 = .ok (.iconst 1, 1) := by decide +kernel
theorem dX11_darts_40 : decode cX11_darts 40 = .ok (.bipush 99, 2) := by decide +kernel
theorem dX11_darts_42 : decode cX11_darts 42 = .ok (.invokestatic 108, 3) := by decide +kernel
theorem dX11_darts_45 : decode cX11_darts 45 = .ok (.ifCond .eq 7, 3) := by decide +kernel
theorem dX11_darts_48 : decode cX11_darts 48 = .ok (.iconst 1, 1) := by decide +kernel
theorem dX11_darts_49 : decode cX11_darts 49 = .ok (.goto 4, 3) := by decide +kernel
theorem dX11_darts_52 : decode cX11_darts 52 = .ok (.iconst 0, 1) := by decide +kernel
theorem dX11_darts_53 : decode cX11_darts 53 = .ok (.istore 6, 2) := by decide +kernel
theorem dX11_darts_55 : decode cX11_darts 55 = .ok (.iload 5, 2) := by decide +kernel
theorem dX11_darts_57 : decode cX11_darts 57 = .ok (.ifCond .eq 8, 3) := by decide +kernel
theorem dX11_darts_60 : decode cX11_darts 60 = .ok (.iload 6, 2) := by decide +kernel
theorem dX11_darts_62 : decode cX11_darts 62 = .ok (.ifCond .ne 5, 3) := by decide +kernel
theorem dX11_darts_65 : decode cX11_darts 65 = .ok (.iconst (-1), 1) := by decide +kernel
theorem dX11_darts_66 : decode cX11_darts 66 = .ok (.ireturn, 1) := by decide +kernel
theorem dX11_darts_67 : decode cX11_darts 67 = .ok (.iload_n 1, 1) := by decide +kernel
theorem dX11_darts_68 : decode cX11_darts 68 = .ok (.iload 4, 2) := by decide +kernel
theorem dX11_darts_70 : decode cX11_darts 70 = .ok (.imul, 1) := by decide +kernel
theorem dX11_darts_71 : decode cX11_darts 71 = .ok (.iload_n 3, 1) := by decide +kernel
theorem dX11_darts_72 : decode cX11_darts 72 = .ok (.iload_n 2, 1) := by decide +kernel
theorem dX11_darts_73 : decode cX11_darts 73 = .ok (.imul, 1) := by decide +kernel
theorem dX11_darts_74 : decode cX11_darts 74 = .ok (.if_icmp .ne 7, 3) := by decide +kernel
theorem dX11_darts_77 : decode cX11_darts 77 = .ok (.iconst 1, 1) := by decide +kernel
theorem dX11_darts_78 : decode cX11_darts 78 = .ok (.goto 4, 3) := by decide +kernel
theorem dX11_darts_81 : decode cX11_darts 81 = .ok (.iconst 0, 1) := by decide +kernel
theorem dX11_darts_82 : decode cX11_darts 82 = .ok (.ireturn, 1) := by decide +kernel
theorem dX11_stripes_0 : decode cX11_stripes 0 = .ok (.iload_n 1, 1) := by decide +kernel
theorem dX11_stripes_1 : decode cX11_stripes 1 = .ok (.iconst 1, 1) := by decide +kernel
theorem dX11_stripes_2 : decode cX11_stripes 2 = .ok (.bipush 60, 2) := by decide +kernel
theorem dX11_stripes_4 : decode cX11_stripes 4 = .ok (.invokestatic 108, 3) := by decide +kernel
theorem dX11_stripes_7 : decode cX11_stripes 7 = .ok (.ifCond .eq 36, 3) := by decide +kernel
theorem dX11_stripes_10 : decode cX11_stripes 10 = .ok (.iload_n 3, 1) := by decide +kernel
theorem dX11_stripes_11 : decode cX11_stripes 11 = .ok (.iconst 1, 1) := by decide +kernel
theorem dX11_stripes_12 : decode cX11_stripes 12 = .ok (.bipush 60, 2) := by decide +kernel
theorem dX11_stripes_14 : decode cX11_stripes 14 = .ok (.invokestatic 108, 3) := by decide +kernel
theorem dX11_stripes_17 : decode cX11_stripes 17 = .ok (.ifCond .eq 26, 3) := by decide +kernel
theorem dX11_stripes_20 : decode cX11_stripes 20 = .ok (.iload_n 2, 1) := by decide +kernel
theorem dX11_stripes_21 : decode cX11_stripes 21 = .ok (.iconst 0, 1) := by decide +kernel
theorem dX11_stripes_22 : decode cX11_stripes 22 = .ok (.iload_n 1, 1) := by decide +kernel
theorem dX11_stripes_23 : decode cX11_stripes 23 = .ok (.iconst 1, 1) := by decide +kernel
theorem dX11_stripes_24 : decode cX11_stripes 24 = .ok (.isub, 1) := by decide +kernel
theorem dX11_stripes_25 : decode cX11_stripes 25 = .ok (.invokestatic 108, 3) := by decide +kernel
theorem dX11_stripes_28 : decode cX11_stripes 28 = .ok (.ifCond .eq 15, 3) := by decide +kernel
theorem dX11_stripes_31 : decode cX11_stripes 31 = .ok (.iload 4, 2) := by decide +kernel
theorem dX11_stripes_33 : decode cX11_stripes 33 = .ok (.iconst 0, 1) := by decide +kernel
theorem dX11_stripes_34 : decode cX11_stripes 34 = .ok (.iload_n 3, 1) := by decide +kernel
theorem dX11_stripes_35 : decode cX11_stripes 35 = .ok (.iconst 1, 1) := by decide +kernel
theorem dX11_stripes_36 : decode cX11_stripes 36 = .ok (.isub, 1) := by decide +kernel
theorem dX11_stripes_37 : decode cX11_stripes 37 = .ok (.invokestatic 108, 3) := by decide +kernel
theorem dX11_stripes_40 : decode cX11_stripes 40 = .ok (.ifCond .ne 5, 3) := by decide +kernel
theorem dX11_stripes_43 : decode cX11_stripes 43 = .ok (.iconst (-1), 1) := by decide +kernel
theorem dX11_stripes_44 : decode cX11_stripes 44 = .ok (.ireturn, 1) := by decide +kernel
theorem dX11_stripes_45 : decode cX11_stripes 45 = .ok (.iconst 0, 1) := by decide +kernel
theorem dX11_stripes_46 : decode cX11_stripes 46 = .ok (.istore 5, 2) := by decide +kernel
theorem dX11_stripes_48 : decode cX11_stripes 48 = .ok (.iload 5, 2) := by decide +kernel
theorem dX11_stripes_50 : decode cX11_stripes 50 = .ok (.iload_n 3, 1) := by decide +kernel
theorem dX11_stripes_51 : decode cX11_stripes 51 = .ok (.if_icmp .ge 29, 3) := by decide +kernel
theorem dX11_stripes_54 : decode cX11_stripes 54 = .ok (.iload_n 2, 1) := by decide +kernel
theorem dX11_stripes_55 : decode cX11_stripes 55 = .ok (.iload 5, 2) := by decide +kernel
theorem dX11_stripes_57 : decode cX11_stripes 57 = .ok (.iload_n 1, 1) := by decide +kernel
theorem dX11_stripes_58 : decode cX11_stripes 58 = .ok (.imul, 1) := by decide +kernel
theorem dX11_stripes_59 : decode cX11_stripes 59 = .ok (.iadd, 1) := by decide +kernel
theorem dX11_stripes_60 : decode cX11_stripes 60 = .ok (.istore 6, 2) := by decide +kernel
theorem dX11_stripes_62 : decode cX11_stripes 62 = .ok (.iload 6, 2) := by decide +kernel
theorem dX11_stripes_64 : decode cX11_stripes 64 = .ok (.iload_n 3, 1) := by decide +kernel
theorem dX11_stripes_65 : decode cX11_stripes 65 = .ok (.irem, 1) := by decide +kernel
theorem dX11_stripes_66 : decode cX11_stripes 66 = .ok (.iload 4, 2) := by decide +kernel
theorem dX11_stripes_68 : decode cX11_stripes 68 = .ok (.if_icmp .ne 6, 3) := by decide +kernel
theorem dX11_stripes_71 : decode cX11_stripes 71 = .ok (.iload 6, 2) := by decide +kernel
theorem dX11_stripes_73 : decode cX11_stripes 73 = .ok (.ireturn, 1) := by decide +kernel
theorem dX11_stripes_74 : decode cX11_stripes 74 = .ok (.iinc 5 1, 3) := by decide +kernel
theorem dX11_stripes_77 : decode cX11_stripes 77 = .ok (.goto (-29), 3) := by decide +kernel
theorem dX11_stripes_80 : decode cX11_stripes 80 = .ok (.bipush (-4), 2) := by decide +kernel
theorem dX11_stripes_82 : decode cX11_stripes 82 = .ok (.ireturn, 1) := by decide +kernel
theorem dX11_measures_0 : decode cX11_measures 0 = .ok (.iload_n 2, 1) := by decide +kernel
theorem dX11_measures_1 : decode cX11_measures 1 = .ok (.iconst 0, 1) := by decide +kernel
theorem dX11_measures_2 : decode cX11_measures 2 = .ok (.iconst 1, 1) := by decide +kernel
theorem dX11_measures_3 : decode cX11_measures 3 = .ok (.invokestatic 108, 3) := by decide +kernel
theorem dX11_measures_6 : decode cX11_measures 6 = .ok (.ifCond .eq 12, 3) := by decide +kernel
theorem dX11_measures_9 : decode cX11_measures 9 = .ok (.aload_n 0, 1) := by decide +kernel
theorem dX11_measures_10 : decode cX11_measures 10 = .ok (.iload_n 1, 1) := by decide +kernel
theorem dX11_measures_11 : decode cX11_measures 11 = .ok (.iconst 1, 1) := by decide +kernel
theorem dX11_measures_12 : decode cX11_measures 12 = .ok (.invokevirtual 76, 3) := by decide +kernel
theorem dX11_measures_15 : decode cX11_measures 15 = .ok (.goto 4, 3) := by decide +kernel
theorem dX11_measures_18 : decode cX11_measures 18 = .ok (.iconst (-1), 1) := by decide +kernel
theorem dX11_measures_19 : decode cX11_measures 19 = .ok (.istore_n 3, 1) := by decide +kernel
theorem dX11_measures_20 : decode cX11_measures 20 = .ok (.iload_n 3, 1) := by decide +kernel
theorem dX11_measures_21 : decode cX11_measures 21 = .ok (.ifCond .eq 5, 3) := by decide +kernel
theorem dX11_measures_24 : decode cX11_measures 24 = .ok (.iload_n 3, 1) := by decide +kernel
theorem dX11_measures_25 : decode cX11_measures 25 = .ok (.ireturn, 1) := by decide +kernel
theorem dX11_measures_26 : decode cX11_measures 26 = .ok (.aload_n 0, 1) := by decide +kernel
theorem dX11_measures_27 : decode cX11_measures 27 = .ok (.iload_n 1, 1) := by decide +kernel
theorem dX11_measures_28 : decode cX11_measures 28 = .ok (.invokevirtual 80, 3) := by decide +kernel
theorem dX11_measures_31 : decode cX11_measures 31 = .ok (.astore 4, 2) := by decide +kernel
theorem dX11_measures_33 : decode cX11_measures 33 = .ok (.aload_n 0, 1) := by decide +kernel
theorem dX11_measures_34 : decode cX11_measures 34 = .ok (.aload 4, 2) := by decide +kernel
theorem dX11_measures_36 : decode cX11_measures 36 = .ok (.invokevirtual 196, 3) := by decide +kernel
theorem dX11_measures_39 : decode cX11_measures 39 = .ok (.ifCond .ne 6, 3) := by decide +kernel
theorem dX11_measures_42 : decode cX11_measures 42 = .ok (.bipush (-13), 2) := by decide +kernel
theorem dX11_measures_44 : decode cX11_measures 44 = .ok (.ireturn, 1) := by decide +kernel
theorem dX11_measures_45 : decode cX11_measures 45 = .ok (.iload_n 2, 1) := by decide +kernel
theorem dX11_measures_46 : decode cX11_measures 46 = .ok (.ifCond .ne 12, 3) := by decide +kernel
theorem dX11_measures_49 : decode cX11_measures 49 = .ok (.aload_n 0, 1) := by decide +kernel
theorem dX11_measures_50 : decode cX11_measures 50 = .ok (.aload 4, 2) := by decide +kernel
theorem dX11_measures_52 : decode cX11_measures 52 = .ok (.invokevirtual 199, 3) := by decide +kernel
theorem dX11_measures_55 : decode cX11_measures 55 = .ok (.goto 9, 3) := by decide +kernel
theorem dX11_measures_58 : decode cX11_measures 58 = .ok (.aload_n 0, 1) := by decide +kernel
theorem dX11_measures_59 : decode cX11_measures 59 = .ok (.aload 4, 2) := by decide +kernel
theorem dX11_measures_61 : decode cX11_measures 61 = .ok (.invokevirtual 202, 3) := by decide +kernel
theorem dX11_measures_64 : decode cX11_measures 64 = .ok (.ireturn, 1) := by decide +kernel
theorem dX11_sizes_0 : decode cX11_sizes 0 = .ok (.iload_n 1, 1) := by decide +kernel
theorem dX11_sizes_1 : decode cX11_sizes 1 = .ok (.invokestatic 205, 3) := by decide +kernel
theorem dX11_sizes_4 : decode cX11_sizes 4 = .ok (.ifCond .eq 19, 3) := by decide +kernel
theorem dX11_sizes_7 : decode cX11_sizes 7 = .ok (.iload_n 2, 1) := by decide +kernel
theorem dX11_sizes_8 : decode cX11_sizes 8 = .ok (.invokestatic 205, 3) := by decide +kernel
theorem dX11_sizes_11 : decode cX11_sizes 11 = .ok (.ifCond .eq 12, 3) := by decide +kernel
theorem dX11_sizes_14 : decode cX11_sizes 14 = .ok (.iload_n 3, 1) := by decide +kernel
theorem dX11_sizes_15 : decode cX11_sizes 15 = .ok (.iconst 0, 1) := by decide +kernel
theorem dX11_sizes_16 : decode cX11_sizes 16 = .ok (.iconst 2, 1) := by decide +kernel
theorem dX11_sizes_17 : decode cX11_sizes 17 = .ok (.invokestatic 108, 3) := by decide +kernel
theorem dX11_sizes_20 : decode cX11_sizes 20 = .ok (.ifCond .ne 5, 3) := by decide +kernel
theorem dX11_sizes_23 : decode cX11_sizes 23 = .ok (.iconst (-1), 1) := by decide +kernel
theorem dX11_sizes_24 : decode cX11_sizes 24 = .ok (.ireturn, 1) := by decide +kernel
theorem dX11_sizes_25 : decode cX11_sizes 25 = .ok (.aload_n 0, 1) := by decide +kernel
theorem dX11_sizes_26 : decode cX11_sizes 26 = .ok (.iload_n 1, 1) := by decide +kernel
theorem dX11_sizes_27 : decode cX11_sizes 27 = .ok (.bipush 6, 2) := by decide +kernel
theorem dX11_sizes_29 : decode cX11_sizes 29 = .ok (.invokevirtual 208, 3) := by decide +kernel
theorem dX11_sizes_32 : decode cX11_sizes 32 = .ok (.istore 4, 2) := by decide +kernel
theorem dX11_sizes_34 : decode cX11_sizes 34 = .ok (.iload 4, 2) := by decide +kernel
theorem dX11_sizes_36 : decode cX11_sizes 36 = .ok (.ifCond .ne 12, 3) := by decide +kernel
theorem dX11_sizes_39 : decode cX11_sizes 39 = .ok (.aload_n 0, 1) := by decide +kernel
theorem dX11_sizes_40 : decode cX11_sizes 40 = .ok (.iload_n 2, 1) := by decide +kernel
theorem dX11_sizes_41 : decode cX11_sizes 41 = .ok (.bipush 20, 2) := by decide +kernel
theorem dX11_sizes_43 : decode cX11_sizes 43 = .ok (.invokevirtual 208, 3) := by decide +kernel
theorem dX11_sizes_46 : decode cX11_sizes 46 = .ok (.istore 4, 2) := by decide +kernel
theorem dX11_sizes_48 : decode cX11_sizes 48 = .ok (.iload 4, 2) := by decide +kernel
theorem dX11_sizes_50 : decode cX11_sizes 50 = .ok (.ifCond .eq 6, 3) := by decide +kernel
theorem dX11_sizes_53 : decode cX11_sizes 53 = .ok (.iload 4, 2) := by decide +kernel
theorem dX11_sizes_55 : decode cX11_sizes 55 = .ok (.ireturn, 1) := by decide +kernel
theorem dX11_sizes_56 : decode cX11_sizes 56 = .ok (.aload_n 0, 1) := by decide +kernel
theorem dX11_sizes_57 : decode cX11_sizes 57 = .ok (.iload_n 1, 1) := by decide +kernel
theorem dX11_sizes_58 : decode cX11_sizes 58 = .ok (.invokevirtual 80, 3) := by decide +kernel
theorem dX11_sizes_61 : decode cX11_sizes 61 = .ok (.astore 5, 2) := by decide +kernel
theorem dX11_sizes_63 : decode cX11_sizes 63 = .ok (.aload_n 0, 1) := by decide +kernel
theorem dX11_sizes_64 : decode cX11_sizes 64 = .ok (.iload_n 2, 1) := by decide +kernel
theorem dX11_sizes_65 : decode cX11_sizes 65 = .ok (.invokevirtual 80, 3) := by decide +kernel
theorem dX11_sizes_68 : decode cX11_sizes 68 = .ok (.astore 6, 2) := by decide +kernel
theorem dX11_sizes_70 : decode cX11_sizes 70 = .ok (.iload_n 3, 1) := by decide +kernel
theorem dX11_sizes_71 : decode cX11_sizes 71 = .ok (.lookupswitch 45 #[(0, 25), (1, 35)], 25) := by decide +kernel
theorem dX11_sizes_96 : decode cX11_sizes 96 = .ok (.aload_n 0, 1) := by decide +kernel
theorem dX11_sizes_97 : decode cX11_sizes 97 = .ok (.aload 5, 2) := by decide +kernel
theorem dX11_sizes_99 : decode cX11_sizes 99 = .ok (.iconst 0, 1) := by decide +kernel
theorem dX11_sizes_100 : decode cX11_sizes 100 = .ok (.aload 6, 2) := by decide +kernel
theorem dX11_sizes_102 : decode cX11_sizes 102 = .ok (.invokevirtual 211, 3) := by decide +kernel
theorem dX11_sizes_105 : decode cX11_sizes 105 = .ok (.ireturn, 1) := by decide +kernel
theorem dX11_sizes_106 : decode cX11_sizes 106 = .ok (.aload_n 0, 1) := by decide +kernel
theorem dX11_sizes_107 : decode cX11_sizes 107 = .ok (.aload 5, 2) := by decide +kernel
theorem dX11_sizes_109 : decode cX11_sizes 109 = .ok (.iconst 0, 1) := by decide +kernel
theorem dX11_sizes_110 : decode cX11_sizes 110 = .ok (.aload 6, 2) := by decide +kernel
theorem dX11_sizes_112 : decode cX11_sizes 112 = .ok (.invokevirtual 215, 3) := by decide +kernel
theorem dX11_sizes_115 : decode cX11_sizes 115 = .ok (.ireturn, 1) := by decide +kernel
theorem dX11_sizes_116 : decode cX11_sizes 116 = .ok (.aload_n 0, 1) := by decide +kernel
theorem dX11_sizes_117 : decode cX11_sizes 117 = .ok (.aload 5, 2) := by decide +kernel
theorem dX11_sizes_119 : decode cX11_sizes 119 = .ok (.aload 6, 2) := by decide +kernel
theorem dX11_sizes_121 : decode cX11_sizes 121 = .ok (.invokevirtual 218, 3) := by decide +kernel
theorem dX11_sizes_124 : decode cX11_sizes 124 = .ok (.ireturn, 1) := by decide +kernel
theorem dX11_old_0 : decode cX11_old 0 = .ok (.aload_n 0, 1) := by decide +kernel
theorem dX11_old_1 : decode cX11_old 1 = .ok (.iload_n 1, 1) := by decide +kernel
theorem dX11_old_2 : decode cX11_old 2 = .ok (.bipush 6, 2) := by decide +kernel
theorem dX11_old_4 : decode cX11_old 4 = .ok (.invokevirtual 208, 3) := by decide +kernel
theorem dX11_old_7 : decode cX11_old 7 = .ok (.istore_n 2, 1) := by decide +kernel
theorem dX11_old_8 : decode cX11_old 8 = .ok (.iload_n 2, 1) := by decide +kernel
theorem dX11_old_9 : decode cX11_old 9 = .ok (.ifCond .eq 5, 3) := by decide +kernel
theorem dX11_old_12 : decode cX11_old 12 = .ok (.iload_n 2, 1) := by decide +kernel
theorem dX11_old_13 : decode cX11_old 13 = .ok (.ireturn, 1) := by decide +kernel
theorem dX11_old_14 : decode cX11_old 14 = .ok (.aload_n 0, 1) := by decide +kernel
theorem dX11_old_15 : decode cX11_old 15 = .ok (.iload_n 1, 1) := by decide +kernel
theorem dX11_old_16 : decode cX11_old 16 = .ok (.invokevirtual 80, 3) := by decide +kernel
theorem dX11_old_19 : decode cX11_old 19 = .ok (.astore_n 3, 1) := by decide +kernel
theorem dX11_old_20 : decode cX11_old 20 = .ok (.iconst 0, 1) := by decide +kernel
theorem dX11_old_21 : decode cX11_old 21 = .ok (.istore 4, 2) := by decide +kernel
theorem dX11_old_23 : decode cX11_old 23 = .ok (.iconst 0, 1) := by decide +kernel
theorem dX11_old_24 : decode cX11_old 24 = .ok (.istore 5, 2) := by decide +kernel
theorem dX11_old_26 : decode cX11_old 26 = .ok (.iconst 0, 1) := by decide +kernel
theorem dX11_old_27 : decode cX11_old 27 = .ok (.istore 6, 2) := by decide +kernel
theorem dX11_old_29 : decode cX11_old 29 = .ok (.iload 6, 2) := by decide +kernel
theorem dX11_old_31 : decode cX11_old 31 = .ok (.aload_n 3, 1) := by decide +kernel
theorem dX11_old_32 : decode cX11_old 32 = .ok (.getfield 222, 3) := by decide +kernel
theorem dX11_old_35 : decode cX11_old 35 = .ok (.if_icmp .ge 42, 3) := by decide +kernel
theorem dX11_old_38 : decode cX11_old 38 = .ok (.aload_n 0, 1) := by decide +kernel
theorem dX11_old_39 : decode cX11_old 39 = .ok (.aload_n 3, 1) := by decide +kernel
theorem dX11_old_40 : decode cX11_old 40 = .ok (.iload 6, 2) := by decide +kernel
theorem dX11_old_42 : decode cX11_old 42 = .ok (.invokevirtual 225, 3) := by decide +kernel
theorem dX11_old_45 : decode cX11_old 45 = .ok (.iload 4, 2) := by decide +kernel
theorem dX11_old_47 : decode cX11_old 47 = .ok (.invokevirtual 228, 3) := by decide +kernel
theorem dX11_old_50 : decode cX11_old 50 = .ok (.istore 7, 2) := by decide +kernel
theorem dX11_old_52 : decode cX11_old 52 = .ok (.iload 7, 2) := by decide +kernel
theorem dX11_old_54 : decode cX11_old 54 = .ok (.bipush (-4), 2) := by decide +kernel
theorem dX11_old_56 : decode cX11_old 56 = .ok (.if_icmp .eq 15, 3) := by decide +kernel
theorem dX11_old_59 : decode cX11_old 59 = .ok (.iload 4, 2) := by decide +kernel
theorem dX11_old_61 : decode cX11_old 61 = .ok (.iconst 1, 1) := by decide +kernel
theorem dX11_old_62 : decode cX11_old 62 = .ok (.iload 7, 2) := by decide +kernel
theorem dX11_old_64 : decode cX11_old 64 = .ok (.ishl, 1) := by decide +kernel
theorem dX11_old_65 : decode cX11_old 65 = .ok (.ior, 1) := by decide +kernel
theorem dX11_old_66 : decode cX11_old 66 = .ok (.istore 4, 2) := by decide +kernel
theorem dX11_old_68 : decode cX11_old 68 = .ok (.iinc 5 1, 3) := by decide +kernel
theorem dX11_old_71 : decode cX11_old 71 = .ok (.iinc 6 1, 3) := by decide +kernel
theorem dX11_old_74 : decode cX11_old 74 = .ok (.goto (-45), 3) := by decide +kernel
theorem dX11_old_77 : decode cX11_old 77 = .ok (.iload 5, 2) := by decide +kernel
theorem dX11_old_79 : decode cX11_old 79 = .ok (.ireturn, 1) := by decide +kernel
theorem dX11_shape_0 : decode cX11_shape 0 = .ok (.aload_n 0, 1) := by decide +kernel
theorem dX11_shape_1 : decode cX11_shape 1 = .ok (.getfield 10, 3) := by decide +kernel
theorem dX11_shape_4 : decode cX11_shape 4 = .ok (.iload_n 1, 1) := by decide +kernel
theorem dX11_shape_5 : decode cX11_shape 5 = .ok (.invokevirtual 104, 3) := by decide +kernel
theorem dX11_shape_8 : decode cX11_shape 8 = .ok (.ifCond .eq 13, 3) := by decide +kernel
theorem dX11_shape_11 : decode cX11_shape 11 = .ok (.iload_n 2, 1) := by decide +kernel
theorem dX11_shape_12 : decode cX11_shape 12 = .ok (.iconst 0, 1) := by decide +kernel
theorem dX11_shape_13 : decode cX11_shape 13 = .ok (.bipush 9, 2) := by decide +kernel
theorem dX11_shape_15 : decode cX11_shape 15 = .ok (.invokestatic 108, 3) := by decide +kernel
theorem dX11_shape_18 : decode cX11_shape 18 = .ok (.ifCond .ne 6, 3) := by decide +kernel
theorem dX11_shape_21 : decode cX11_shape 21 = .ok (.ldc 149, 2) := by decide +kernel
theorem dX11_shape_23 : decode cX11_shape 23 = .ok (.ireturn, 1) := by decide +kernel
theorem dX11_shape_24 : decode cX11_shape 24 = .ok (.aload_n 0, 1) := by decide +kernel
theorem dX11_shape_25 : decode cX11_shape 25 = .ok (.getfield 10, 3) := by decide +kernel
theorem dX11_shape_28 : decode cX11_shape 28 = .ok (.iload_n 1, 1) := by decide +kernel
theorem dX11_shape_29 : decode cX11_shape 29 = .ok (.iconst 1, 1) := by decide +kernel
theorem dX11_shape_30 : decode cX11_shape 30 = .ok (.invokevirtual 112, 3) := by decide +kernel
theorem dX11_shape_33 : decode cX11_shape 33 = .ok (.iload_n 2, 1) := by decide +kernel
theorem dX11_shape_34 : decode cX11_shape 34 = .ok (.iadd, 1) := by decide +kernel
theorem dX11_shape_35 : decode cX11_shape 35 = .ok (.aload_n 0, 1) := by decide +kernel
theorem dX11_shape_36 : decode cX11_shape 36 = .ok (.getfield 10, 3) := by decide +kernel
theorem dX11_shape_39 : decode cX11_shape 39 = .ok (.getfield 115, 3) := by decide +kernel
theorem dX11_shape_42 : decode cX11_shape 42 = .ok (.isub, 1) := by decide +kernel
theorem dX11_shape_43 : decode cX11_shape 43 = .ok (.aload_n 0, 1) := by decide +kernel
theorem dX11_shape_44 : decode cX11_shape 44 = .ok (.getfield 10, 3) := by decide +kernel
theorem dX11_shape_47 : decode cX11_shape 47 = .ok (.iload_n 1, 1) := by decide +kernel
theorem dX11_shape_48 : decode cX11_shape 48 = .ok (.iconst 0, 1) := by decide +kernel
theorem dX11_shape_49 : decode cX11_shape 49 = .ok (.invokevirtual 112, 3) := by decide +kernel
theorem dX11_shape_52 : decode cX11_shape 52 = .ok (.isub, 1) := by decide +kernel
theorem dX11_shape_53 : decode cX11_shape 53 = .ok (.ireturn, 1) := by decide +kernel
theorem dX11_seeded_0 : decode cX11_seeded 0 = .ok (.iload_n 1, 1) := by decide +kernel
theorem dX11_seeded_1 : decode cX11_seeded 1 = .ok (.iconst 1, 1) := by decide +kernel
theorem dX11_seeded_2 : decode cX11_seeded 2 = .ok (.bipush 30, 2) := by decide +kernel
theorem dX11_seeded_4 : decode cX11_seeded 4 = .ok (.invokestatic 108, 3) := by decide +kernel
theorem dX11_seeded_7 : decode cX11_seeded 7 = .ok (.ifCond .eq 12, 3) := by decide +kernel
theorem dX11_seeded_10 : decode cX11_seeded 10 = .ok (.iload_n 3, 1) := by decide +kernel
theorem dX11_seeded_11 : decode cX11_seeded 11 = .ok (.iconst 0, 1) := by decide +kernel
theorem dX11_seeded_12 : decode cX11_seeded 12 = .ok (.iconst 1, 1) := by decide +kernel
theorem dX11_seeded_13 : decode cX11_seeded 13 = .ok (.invokestatic 108, 3) := by decide +kernel
theorem dX11_seeded_16 : decode cX11_seeded 16 = .ok (.ifCond .ne 5, 3) := by decide +kernel
theorem dX11_seeded_19 : decode cX11_seeded 19 = .ok (.iconst (-1), 1) := by decide +kernel
theorem dX11_seeded_20 : decode cX11_seeded 20 = .ok (.ireturn, 1) := by decide +kernel
theorem dX11_seeded_21 : decode cX11_seeded 21 = .ok (.aload_n 0, 1) := by decide +kernel
theorem dX11_seeded_22 : decode cX11_seeded 22 = .ok (.getfield 10, 3) := by decide +kernel
theorem dX11_seeded_25 : decode cX11_seeded 25 = .ok (.getfield 153, 3) := by decide +kernel
theorem dX11_seeded_28 : decode cX11_seeded 28 = .ok (.ifCond .ne 6, 3) := by decide +kernel
theorem dX11_seeded_31 : decode cX11_seeded 31 = .ok (.bipush (-3), 2) := by decide +kernel
theorem dX11_seeded_33 : decode cX11_seeded 33 = .ok (.ireturn, 1) := by decide +kernel
theorem dX11_seeded_34 : decode cX11_seeded 34 = .ok (.aload_n 0, 1) := by decide +kernel
theorem dX11_seeded_35 : decode cX11_seeded 35 = .ok (.getfield 19, 3) := by decide +kernel
theorem dX11_seeded_38 : decode cX11_seeded 38 = .ok (.aload_n 0, 1) := by decide +kernel
theorem dX11_seeded_39 : decode cX11_seeded 39 = .ok (.getfield 10, 3) := by decide +kernel
theorem dX11_seeded_42 : decode cX11_seeded 42 = .ok (.invokevirtual 88, 3) := by decide +kernel
theorem dX11_seeded_45 : decode cX11_seeded 45 = .ok (.iload_n 2, 1) := by decide +kernel
theorem dX11_seeded_46 : decode cX11_seeded 46 = .ok (.istore 4, 2) := by decide +kernel
theorem dX11_seeded_48 : decode cX11_seeded 48 = .ok (.iconst 0, 1) := by decide +kernel
theorem dX11_seeded_49 : decode cX11_seeded 49 = .ok (.istore 5, 2) := by decide +kernel
theorem dX11_seeded_51 : decode cX11_seeded 51 = .ok (.iconst 0, 1) := by decide +kernel
theorem dX11_seeded_52 : decode cX11_seeded 52 = .ok (.istore 6, 2) := by decide +kernel
theorem dX11_seeded_54 : decode cX11_seeded 54 = .ok (.iload 6, 2) := by decide +kernel
theorem dX11_seeded_56 : decode cX11_seeded 56 = .ok (.iload_n 1, 1) := by decide +kernel
theorem dX11_seeded_57 : decode cX11_seeded 57 = .ok (.if_icmp .ge 85, 3) := by decide +kernel
theorem dX11_seeded_60 : decode cX11_seeded 60 = .ok (.iload 4, 2) := by decide +kernel
theorem dX11_seeded_62 : decode cX11_seeded 62 = .ok (.invokestatic 231, 3) := by decide +kernel
theorem dX11_seeded_65 : decode cX11_seeded 65 = .ok (.istore 4, 2) := by decide +kernel
theorem dX11_seeded_67 : decode cX11_seeded 67 = .ok (.iload 4, 2) := by decide +kernel
theorem dX11_seeded_69 : decode cX11_seeded 69 = .ok (.aload_n 0, 1) := by decide +kernel
theorem dX11_seeded_70 : decode cX11_seeded 70 = .ok (.getfield 10, 3) := by decide +kernel
theorem dX11_seeded_73 : decode cX11_seeded 73 = .ok (.getfield 153, 3) := by decide +kernel
theorem dX11_seeded_76 : decode cX11_seeded 76 = .ok (.invokestatic 234, 3) := by decide +kernel
theorem dX11_seeded_79 : decode cX11_seeded 79 = .ok (.istore 7, 2) := by decide +kernel
theorem dX11_seeded_81 : decode cX11_seeded 81 = .ok (.iload 4, 2) := by decide +kernel
theorem dX11_seeded_83 : decode cX11_seeded 83 = .ok (.invokestatic 231, 3) := by decide +kernel
theorem dX11_seeded_86 : decode cX11_seeded 86 = .ok (.istore 4, 2) := by decide +kernel
theorem dX11_seeded_88 : decode cX11_seeded 88 = .ok (.iload 4, 2) := by decide +kernel
theorem dX11_seeded_90 : decode cX11_seeded 90 = .ok (.bipush 8, 2) := by decide +kernel
theorem dX11_seeded_92 : decode cX11_seeded 92 = .ok (.invokestatic 234, 3) := by decide +kernel
theorem dX11_seeded_95 : decode cX11_seeded 95 = .ok (.istore 8, 2) := by decide +kernel
theorem dX11_seeded_97 : decode cX11_seeded 97 = .ok (.iload 4, 2) := by decide +kernel
theorem dX11_seeded_99 : decode cX11_seeded 99 = .ok (.invokestatic 231, 3) := by decide +kernel
theorem dX11_seeded_102 : decode cX11_seeded 102 = .ok (.istore 4, 2) := by decide +kernel
theorem dX11_seeded_104 : decode cX11_seeded 104 = .ok (.iload 4, 2) := by decide +kernel
theorem dX11_seeded_106 : decode cX11_seeded 106 = .ok (.bipush 10, 2) := by decide +kernel
theorem dX11_seeded_108 : decode cX11_seeded 108 = .ok (.invokestatic 234, 3) := by decide +kernel
theorem dX11_seeded_111 : decode cX11_seeded 111 = .ok (.istore 9, 2) := by decide +kernel
theorem dX11_seeded_113 : decode cX11_seeded 113 = .ok (.aload_n 0, 1) := by decide +kernel
theorem dX11_seeded_114 : decode cX11_seeded 114 = .ok (.getfield 19, 3) := by decide +kernel
theorem dX11_seeded_117 : decode cX11_seeded 117 = .ok (.aload_n 0, 1) := by decide +kernel
theorem dX11_seeded_118 : decode cX11_seeded 118 = .ok (.iload 8, 2) := by decide +kernel
theorem dX11_seeded_120 : decode cX11_seeded 120 = .ok (.invokevirtual 128, 3) := by decide +kernel
theorem dX11_seeded_123 : decode cX11_seeded 123 = .ok (.iload 9, 2) := by decide +kernel
theorem dX11_seeded_125 : decode cX11_seeded 125 = .ok (.iload 7, 2) := by decide +kernel
theorem dX11_seeded_127 : decode cX11_seeded 127 = .ok (.invokevirtual 139, 3) := by decide +kernel
theorem dX11_seeded_130 : decode cX11_seeded 130 = .ok (.ifCond .eq 6, 3) := by decide +kernel
theorem dX11_seeded_133 : decode cX11_seeded 133 = .ok (.iinc 5 1, 3) := by decide +kernel
theorem dX11_seeded_136 : decode cX11_seeded 136 = .ok (.iinc 6 1, 3) := by decide +kernel
theorem dX11_seeded_139 : decode cX11_seeded 139 = .ok (.goto (-85), 3) := by decide +kernel
theorem dX11_seeded_142 : decode cX11_seeded 142 = .ok (.iload_n 3, 1) := by decide +kernel
theorem dX11_seeded_143 : decode cX11_seeded 143 = .ok (.ifCond .ne 13, 3) := by decide +kernel
theorem dX11_seeded_146 : decode cX11_seeded 146 = .ok (.aload_n 0, 1) := by decide +kernel
theorem dX11_seeded_147 : decode cX11_seeded 147 = .ok (.getfield 19, 3) := by decide +kernel
theorem dX11_seeded_150 : decode cX11_seeded 150 = .ok (.invokevirtual 142, 3) := by decide +kernel
theorem dX11_seeded_153 : decode cX11_seeded 153 = .ok (.goto 5, 3) := by decide +kernel
theorem dX11_seeded_156 : decode cX11_seeded 156 = .ok (.iload 5, 2) := by decide +kernel
theorem dX11_seeded_158 : decode cX11_seeded 158 = .ok (.ireturn, 1) := by decide +kernel
theorem dX11_judge_0 : decode cX11_judge 0 = .ok (.iload_n 1, 1) := by decide +kernel
theorem dX11_judge_1 : decode cX11_judge 1 = .ok (.iconst 0, 1) := by decide +kernel
theorem dX11_judge_2 : decode cX11_judge 2 = .ok (.iconst 3, 1) := by decide +kernel
theorem dX11_judge_3 : decode cX11_judge 3 = .ok (.invokestatic 108, 3) := by decide +kernel
theorem dX11_judge_6 : decode cX11_judge 6 = .ok (.ifCond .eq 10, 3) := by decide +kernel
theorem dX11_judge_9 : decode cX11_judge 9 = .ok (.iload_n 2, 1) := by decide +kernel
theorem dX11_judge_10 : decode cX11_judge 10 = .ok (.invokestatic 205, 3) := by decide +kernel
theorem dX11_judge_13 : decode cX11_judge 13 = .ok (.ifCond .ne 5, 3) := by decide +kernel
theorem dX11_judge_16 : decode cX11_judge 16 = .ok (.iconst (-1), 1) := by decide +kernel
theorem dX11_judge_17 : decode cX11_judge 17 = .ok (.ireturn, 1) := by decide +kernel
theorem dX11_judge_18 : decode cX11_judge 18 = .ok (.aload_n 0, 1) := by decide +kernel
theorem dX11_judge_19 : decode cX11_judge 19 = .ok (.iload_n 2, 1) := by decide +kernel
theorem dX11_judge_20 : decode cX11_judge 20 = .ok (.invokevirtual 80, 3) := by decide +kernel
theorem dX11_judge_23 : decode cX11_judge 23 = .ok (.astore_n 3, 1) := by decide +kernel
theorem dX11_judge_24 : decode cX11_judge 24 = .ok (.aload_n 3, 1) := by decide +kernel
theorem dX11_judge_25 : decode cX11_judge 25 = .ok (.invokevirtual 237, 3) := by decide +kernel
theorem dX11_judge_28 : decode cX11_judge 28 = .ok (.istore 4, 2) := by decide +kernel
theorem dX11_judge_30 : decode cX11_judge 30 = .ok (.iload 4, 2) := by decide +kernel
theorem dX11_judge_32 : decode cX11_judge 32 = .ok (.ifCond .eq 6, 3) := by decide +kernel
theorem dX11_judge_35 : decode cX11_judge 35 = .ok (.iload 4, 2) := by decide +kernel
theorem dX11_judge_37 : decode cX11_judge 37 = .ok (.ireturn, 1) := by decide +kernel
theorem dX11_judge_38 : decode cX11_judge 38 = .ok (.aload_n 3, 1) := by decide +kernel
theorem dX11_judge_39 : decode cX11_judge 39 = .ok (.getfield 222, 3) := by decide +kernel
theorem dX11_judge_42 : decode cX11_judge 42 = .ok (.aload_n 0, 1) := by decide +kernel
theorem dX11_judge_43 : decode cX11_judge 43 = .ok (.getfield 10, 3) := by decide +kernel
theorem dX11_judge_46 : decode cX11_judge 46 = .ok (.getfield 153, 3) := by decide +kernel
theorem dX11_judge_49 : decode cX11_judge 49 = .ok (.invokestatic 191, 3) := by decide +kernel
theorem dX11_judge_52 : decode cX11_judge 52 = .ok (.istore 5, 2) := by decide +kernel
theorem dX11_judge_54 : decode cX11_judge 54 = .ok (.aload_n 3, 1) := by decide +kernel
theorem dX11_judge_55 : decode cX11_judge 55 = .ok (.invokevirtual 239, 3) := by decide +kernel
theorem dX11_judge_58 : decode cX11_judge 58 = .ok (.istore 6, 2) := by decide +kernel
theorem dX11_judge_60 : decode cX11_judge 60 = .ok (.iconst 0, 1) := by decide +kernel
theorem dX11_judge_61 : decode cX11_judge 61 = .ok (.istore 7, 2) := by decide +kernel
theorem dX11_judge_63 : decode cX11_judge 63 = .ok (.iload 7, 2) := by decide +kernel
theorem dX11_judge_65 : decode cX11_judge 65 = .ok (.iload 5, 2) := by decide +kernel
theorem dX11_judge_67 : decode cX11_judge 67 = .ok (.if_icmp .ge 42, 3) := by decide +kernel
theorem dX11_judge_70 : decode cX11_judge 70 = .ok (.aload_n 3, 1) := by decide +kernel
theorem dX11_judge_71 : decode cX11_judge 71 = .ok (.iload 7, 2) := by decide +kernel
theorem dX11_judge_73 : decode cX11_judge 73 = .ok (.invokevirtual 225, 3) := by decide +kernel
theorem dX11_judge_76 : decode cX11_judge 76 = .ok (.istore 8, 2) := by decide +kernel
theorem dX11_judge_78 : decode cX11_judge 78 = .ok (.iload 8, 2) := by decide +kernel
theorem dX11_judge_80 : decode cX11_judge 80 = .ok (.iload 6, 2) := by decide +kernel
theorem dX11_judge_82 : decode cX11_judge 82 = .ok (.if_icmp .eq 21, 3) := by decide +kernel
theorem dX11_judge_85 : decode cX11_judge 85 = .ok (.iload 8, 2) := by decide +kernel
theorem dX11_judge_87 : decode cX11_judge 87 = .ok (.aload_n 0, 1) := by decide +kernel
theorem dX11_judge_88 : decode cX11_judge 88 = .ok (.getfield 10, 3) := by decide +kernel
theorem dX11_judge_91 : decode cX11_judge 91 = .ok (.iload 7, 2) := by decide +kernel
theorem dX11_judge_93 : decode cX11_judge 93 = .ok (.iload_n 1, 1) := by decide +kernel
theorem dX11_judge_94 : decode cX11_judge 94 = .ok (.invokevirtual 146, 3) := by decide +kernel
theorem dX11_judge_97 : decode cX11_judge 97 = .ok (.if_icmp .eq 6, 3) := by decide +kernel
theorem dX11_judge_100 : decode cX11_judge 100 = .ok (.iload 7, 2) := by decide +kernel
theorem dX11_judge_102 : decode cX11_judge 102 = .ok (.ireturn, 1) := by decide +kernel
theorem dX11_judge_103 : decode cX11_judge 103 = .ok (.iinc 7 1, 3) := by decide +kernel
theorem dX11_judge_106 : decode cX11_judge 106 = .ok (.goto (-43), 3) := by decide +kernel
theorem dX11_judge_109 : decode cX11_judge 109 = .ok (.aload_n 3, 1) := by decide +kernel
theorem dX11_judge_110 : decode cX11_judge 110 = .ok (.getfield 222, 3) := by decide +kernel
theorem dX11_judge_113 : decode cX11_judge 113 = .ok (.aload_n 0, 1) := by decide +kernel
theorem dX11_judge_114 : decode cX11_judge 114 = .ok (.getfield 10, 3) := by decide +kernel
theorem dX11_judge_117 : decode cX11_judge 117 = .ok (.getfield 153, 3) := by decide +kernel
theorem dX11_judge_120 : decode cX11_judge 120 = .ok (.if_icmp .ne 8, 3) := by decide +kernel
theorem dX11_judge_123 : decode cX11_judge 123 = .ok (.bipush (-4), 2) := by decide +kernel
theorem dX11_judge_125 : decode cX11_judge 125 = .ok (.goto 5, 3) := by decide +kernel
theorem dX11_judge_128 : decode cX11_judge 128 = .ok (.iload 5, 2) := by decide +kernel
theorem dX11_judge_130 : decode cX11_judge 130 = .ok (.ireturn, 1) := by decide +kernel
theorem dX11_image_0 : decode cX11_image 0 = .ok (.aload_n 0, 1) := by decide +kernel
theorem dX11_image_1 : decode cX11_image 1 = .ok (.getfield 16, 3) := by decide +kernel
theorem dX11_image_4 : decode cX11_image 4 = .ok (.aload_n 0, 1) := by decide +kernel
theorem dX11_image_5 : decode cX11_image 5 = .ok (.getfield 10, 3) := by decide +kernel
theorem dX11_image_8 : decode cX11_image 8 = .ok (.invokevirtual 88, 3) := by decide +kernel
theorem dX11_image_11 : decode cX11_image 11 = .ok (.aload_n 0, 1) := by decide +kernel
theorem dX11_image_12 : decode cX11_image 12 = .ok (.iconst 1, 1) := by decide +kernel
theorem dX11_image_13 : decode cX11_image 13 = .ok (.putfield 242, 3) := by decide +kernel
theorem dX11_image_16 : decode cX11_image 16 = .ok (.aload_n 0, 1) := by decide +kernel
theorem dX11_image_17 : decode cX11_image 17 = .ok (.getfield 10, 3) := by decide +kernel
theorem dX11_image_20 : decode cX11_image 20 = .ok (.getfield 153, 3) := by decide +kernel
theorem dX11_image_23 : decode cX11_image 23 = .ok (.ireturn, 1) := by decide +kernel
theorem dX11_restore_0 : decode cX11_restore 0 = .ok (.aload_n 0, 1) := by decide +kernel
theorem dX11_restore_1 : decode cX11_restore 1 = .ok (.getfield 242, 3) := by decide +kernel
theorem dX11_restore_4 : decode cX11_restore 4 = .ok (.ifCond .ne 6, 3) := by decide +kernel
theorem dX11_restore_7 : decode cX11_restore 7 = .ok (.bipush (-3), 2) := by decide +kernel
theorem dX11_restore_9 : decode cX11_restore 9 = .ok (.ireturn, 1) := by decide +kernel
theorem dX11_restore_10 : decode cX11_restore 10 = .ok (.aload_n 0, 1) := by decide +kernel
theorem dX11_restore_11 : decode cX11_restore 11 = .ok (.getfield 10, 3) := by decide +kernel
theorem dX11_restore_14 : decode cX11_restore 14 = .ok (.aload_n 0, 1) := by decide +kernel
theorem dX11_restore_15 : decode cX11_restore 15 = .ok (.getfield 16, 3) := by decide +kernel
theorem dX11_restore_18 : decode cX11_restore 18 = .ok (.invokevirtual 88, 3) := by decide +kernel
theorem dX11_restore_21 : decode cX11_restore 21 = .ok (.aload_n 0, 1) := by decide +kernel
theorem dX11_restore_22 : decode cX11_restore 22 = .ok (.getfield 10, 3) := by decide +kernel
theorem dX11_restore_25 : decode cX11_restore 25 = .ok (.getfield 153, 3) := by decide +kernel
theorem dX11_restore_28 : decode cX11_restore 28 = .ok (.ireturn, 1) := by decide +kernel
theorem dX11_count_0 : decode cX11_count 0 = .ok (.iload_n 1, 1) := by decide +kernel
theorem dX11_count_1 : decode cX11_count 1 = .ok (.tableswitch 101 0 6 #[43, 51, 59, 67, 75, 83, 92], 43) := by decide +kernel
theorem dX11_count_44 : decode cX11_count 44 = .ok (.aload_n 0, 1) := by decide +kernel
theorem dX11_count_45 : decode cX11_count 45 = .ok (.getfield 10, 3) := by decide +kernel
theorem dX11_count_48 : decode cX11_count 48 = .ok (.getfield 153, 3) := by decide +kernel
theorem dX11_count_51 : decode cX11_count 51 = .ok (.ireturn, 1) := by decide +kernel
theorem dX11_count_52 : decode cX11_count 52 = .ok (.aload_n 0, 1) := by decide +kernel
theorem dX11_count_53 : decode cX11_count 53 = .ok (.getfield 10, 3) := by decide +kernel
theorem dX11_count_56 : decode cX11_count 56 = .ok (.getfield 246, 3) := by decide +kernel
theorem dX11_count_59 : decode cX11_count 59 = .ok (.ireturn, 1) := by decide +kernel
theorem dX11_count_60 : decode cX11_count 60 = .ok (.aload_n 0, 1) := by decide +kernel
theorem dX11_count_61 : decode cX11_count 61 = .ok (.getfield 10, 3) := by decide +kernel
theorem dX11_count_64 : decode cX11_count 64 = .ok (.getfield 249, 3) := by decide +kernel
theorem dX11_count_67 : decode cX11_count 67 = .ok (.ireturn, 1) := by decide +kernel
theorem dX11_count_68 : decode cX11_count 68 = .ok (.aload_n 0, 1) := by decide +kernel
theorem dX11_count_69 : decode cX11_count 69 = .ok (.getfield 10, 3) := by decide +kernel
theorem dX11_count_72 : decode cX11_count 72 = .ok (.getfield 115, 3) := by decide +kernel
theorem dX11_count_75 : decode cX11_count 75 = .ok (.ireturn, 1) := by decide +kernel
theorem dX11_count_76 : decode cX11_count 76 = .ok (.aload_n 0, 1) := by decide +kernel
theorem dX11_count_77 : decode cX11_count 77 = .ok (.getfield 10, 3) := by decide +kernel
theorem dX11_count_80 : decode cX11_count 80 = .ok (.getfield 118, 3) := by decide +kernel
theorem dX11_count_83 : decode cX11_count 83 = .ok (.ireturn, 1) := by decide +kernel
theorem dX11_count_84 : decode cX11_count 84 = .ok (.aload_n 0, 1) := by decide +kernel
theorem dX11_count_85 : decode cX11_count 85 = .ok (.getfield 10, 3) := by decide +kernel
theorem dX11_count_88 : decode cX11_count 88 = .ok (.iconst 2, 1) := by decide +kernel
theorem dX11_count_89 : decode cX11_count 89 = .ok (.invokevirtual 252, 3) := by decide +kernel
theorem dX11_count_92 : decode cX11_count 92 = .ok (.ireturn, 1) := by decide +kernel
theorem dX11_count_93 : decode cX11_count 93 = .ok (.aload_n 0, 1) := by decide +kernel
theorem dX11_count_94 : decode cX11_count 94 = .ok (.getfield 10, 3) := by decide +kernel
theorem dX11_count_97 : decode cX11_count 97 = .ok (.iconst 1, 1) := by decide +kernel
theorem dX11_count_98 : decode cX11_count 98 = .ok (.invokevirtual 252, 3) := by decide +kernel
theorem dX11_count_101 : decode cX11_count 101 = .ok (.ireturn, 1) := by decide +kernel
theorem dX11_count_102 : decode cX11_count 102 = .ok (.iconst (-1), 1) := by decide +kernel
theorem dX11_count_103 : decode cX11_count 103 = .ok (.ireturn, 1) := by decide +kernel
theorem dX11_keep_0 : decode cX11_keep 0 = .ok (.iload_n 1, 1) := by decide +kernel
theorem dX11_keep_1 : decode cX11_keep 1 = .ok (.invokestatic 205, 3) := by decide +kernel
theorem dX11_keep_4 : decode cX11_keep 4 = .ok (.ifCond .ne 5, 3) := by decide +kernel
theorem dX11_keep_7 : decode cX11_keep 7 = .ok (.iconst (-1), 1) := by decide +kernel
theorem dX11_keep_8 : decode cX11_keep 8 = .ok (.ireturn, 1) := by decide +kernel
theorem dX11_keep_9 : decode cX11_keep 9 = .ok (.iload_n 2, 1) := by decide +kernel
theorem dX11_keep_10 : decode cX11_keep 10 = .ok (.ifCond .ne 13, 3) := by decide +kernel
theorem dX11_keep_13 : decode cX11_keep 13 = .ok (.aload_n 0, 1) := by decide +kernel
theorem dX11_keep_14 : decode cX11_keep 14 = .ok (.iload_n 1, 1) := by decide +kernel
theorem dX11_keep_15 : decode cX11_keep 15 = .ok (.invokevirtual 80, 3) := by decide +kernel
theorem dX11_keep_18 : decode cX11_keep 18 = .ok (.invokevirtual 255, 3) := by decide +kernel
theorem dX11_keep_21 : decode cX11_keep 21 = .ok (.iconst 0, 1) := by decide +kernel
theorem dX11_keep_22 : decode cX11_keep 22 = .ok (.ireturn, 1) := by decide +kernel
theorem dX11_keep_23 : decode cX11_keep 23 = .ok (.iload_n 2, 1) := by decide +kernel
theorem dX11_keep_24 : decode cX11_keep 24 = .ok (.iconst 1, 1) := by decide +kernel
theorem dX11_keep_25 : decode cX11_keep 25 = .ok (.if_icmp .ne 24, 3) := by decide +kernel
theorem dX11_keep_28 : decode cX11_keep 28 = .ok (.iload_n 3, 1) := by decide +kernel
theorem dX11_keep_29 : decode cX11_keep 29 = .ok (.iconst 0, 1) := by decide +kernel
theorem dX11_keep_30 : decode cX11_keep 30 = .ok (.bipush 7, 2) := by decide +kernel
theorem dX11_keep_32 : decode cX11_keep 32 = .ok (.invokestatic 108, 3) := by decide +kernel
theorem dX11_keep_35 : decode cX11_keep 35 = .ok (.ifCond .eq 14, 3) := by decide +kernel
theorem dX11_keep_38 : decode cX11_keep 38 = .ok (.iload 4, 2) := by decide +kernel
theorem dX11_keep_40 : decode cX11_keep 40 = .ok (.iconst 0, 1) := by decide +kernel
theorem dX11_keep_41 : decode cX11_keep 41 = .ok (.bipush 9, 2) := by decide +kernel
theorem dX11_keep_43 : decode cX11_keep 43 = .ok (.invokestatic 108, 3) := by decide +kernel
theorem dX11_keep_46 : decode cX11_keep 46 = .ok (.ifCond .ne 5, 3) := by decide +kernel
theorem dX11_keep_49 : decode cX11_keep 49 = .ok (.iconst (-1), 1) := by decide +kernel
theorem dX11_keep_50 : decode cX11_keep 50 = .ok (.ireturn, 1) := by decide +kernel
theorem dX11_keep_51 : decode cX11_keep 51 = .ok (.aload_n 0, 1) := by decide +kernel
theorem dX11_keep_52 : decode cX11_keep 52 = .ok (.iload_n 1, 1) := by decide +kernel
theorem dX11_keep_53 : decode cX11_keep 53 = .ok (.invokevirtual 80, 3) := by decide +kernel
theorem dX11_keep_56 : decode cX11_keep 56 = .ok (.iload_n 3, 1) := by decide +kernel
theorem dX11_keep_57 : decode cX11_keep 57 = .ok (.iload 4, 2) := by decide +kernel
theorem dX11_keep_59 : decode cX11_keep 59 = .ok (.invokevirtual 258, 3) := by decide +kernel
theorem dX11_keep_62 : decode cX11_keep 62 = .ok (.iconst 0, 1) := by decide +kernel
theorem dX11_keep_63 : decode cX11_keep 63 = .ok (.ireturn, 1) := by decide +kernel
theorem dX11_row_0 : decode cX11_row 0 = .ok (.iload_n 1, 1) := by decide +kernel
theorem dX11_row_1 : decode cX11_row 1 = .ok (.invokestatic 205, 3) := by decide +kernel
theorem dX11_row_4 : decode cX11_row 4 = .ok (.ifCond .eq 18, 3) := by decide +kernel
theorem dX11_row_7 : decode cX11_row 7 = .ok (.iload_n 2, 1) := by decide +kernel
theorem dX11_row_8 : decode cX11_row 8 = .ok (.iconst 0, 1) := by decide +kernel
theorem dX11_row_9 : decode cX11_row 9 = .ok (.iconst 2, 1) := by decide +kernel
theorem dX11_row_10 : decode cX11_row 10 = .ok (.invokestatic 108, 3) := by decide +kernel
theorem dX11_row_13 : decode cX11_row 13 = .ok (.ifCond .eq 9, 3) := by decide +kernel
theorem dX11_row_16 : decode cX11_row 16 = .ok (.iload_n 3, 1) := by decide +kernel
theorem dX11_row_17 : decode cX11_row 17 = .ok (.bipush 100, 2) := by decide +kernel
theorem dX11_row_19 : decode cX11_row 19 = .ok (.if_icmp .le 5, 3) := by decide +kernel
theorem dX11_row_22 : decode cX11_row 22 = .ok (.iconst (-1), 1) := by decide +kernel
theorem dX11_row_23 : decode cX11_row 23 = .ok (.ireturn, 1) := by decide +kernel
theorem dX11_row_24 : decode cX11_row 24 = .ok (.iload_n 3, 1) := by decide +kernel
theorem dX11_row_25 : decode cX11_row 25 = .ok (.ifCond .ge 6, 3) := by decide +kernel
theorem dX11_row_28 : decode cX11_row 28 = .ok (.bipush (-14), 2) := by decide +kernel
theorem dX11_row_30 : decode cX11_row 30 = .ok (.ireturn, 1) := by decide +kernel
theorem dX11_row_31 : decode cX11_row 31 = .ok (.aload_n 0, 1) := by decide +kernel
theorem dX11_row_32 : decode cX11_row 32 = .ok (.iload_n 1, 1) := by decide +kernel
theorem dX11_row_33 : decode cX11_row 33 = .ok (.invokevirtual 80, 3) := by decide +kernel
theorem dX11_row_36 : decode cX11_row 36 = .ok (.iload_n 2, 1) := by decide +kernel
theorem dX11_row_37 : decode cX11_row 37 = .ok (.iload_n 3, 1) := by decide +kernel
theorem dX11_row_38 : decode cX11_row 38 = .ok (.invokevirtual 262, 3) := by decide +kernel
theorem dX11_row_41 : decode cX11_row 41 = .ok (.iconst 0, 1) := by decide +kernel
theorem dX11_row_42 : decode cX11_row 42 = .ok (.ireturn, 1) := by decide +kernel
theorem dX11_put_0 : decode cX11_put 0 = .ok (.iload_n 1, 1) := by decide +kernel
theorem dX11_put_1 : decode cX11_put 1 = .ok (.invokestatic 205, 3) := by decide +kernel
theorem dX11_put_4 : decode cX11_put 4 = .ok (.ifCond .ne 5, 3) := by decide +kernel
theorem dX11_put_7 : decode cX11_put 7 = .ok (.iconst (-1), 1) := by decide +kernel
theorem dX11_put_8 : decode cX11_put 8 = .ok (.ireturn, 1) := by decide +kernel
theorem dX11_put_9 : decode cX11_put 9 = .ok (.aload_n 0, 1) := by decide +kernel
theorem dX11_put_10 : decode cX11_put 10 = .ok (.iload_n 1, 1) := by decide +kernel
theorem dX11_put_11 : decode cX11_put 11 = .ok (.invokevirtual 80, 3) := by decide +kernel
theorem dX11_put_14 : decode cX11_put 14 = .ok (.astore 4, 2) := by decide +kernel
theorem dX11_put_16 : decode cX11_put 16 = .ok (.aload 4, 2) := by decide +kernel
theorem dX11_put_18 : decode cX11_put 18 = .ok (.invokevirtual 237, 3) := by decide +kernel
theorem dX11_put_21 : decode cX11_put 21 = .ok (.istore 5, 2) := by decide +kernel
theorem dX11_put_23 : decode cX11_put 23 = .ok (.iload 5, 2) := by decide +kernel
theorem dX11_put_25 : decode cX11_put 25 = .ok (.ifCond .eq 6, 3) := by decide +kernel
theorem dX11_put_28 : decode cX11_put 28 = .ok (.iload 5, 2) := by decide +kernel
theorem dX11_put_30 : decode cX11_put 30 = .ok (.ireturn, 1) := by decide +kernel
theorem dX11_put_31 : decode cX11_put 31 = .ok (.aload 4, 2) := by decide +kernel
theorem dX11_put_33 : decode cX11_put 33 = .ok (.iload_n 2, 1) := by decide +kernel
theorem dX11_put_34 : decode cX11_put 34 = .ok (.iconst 1, 1) := by decide +kernel
theorem dX11_put_35 : decode cX11_put 35 = .ok (.invokevirtual 265, 3) := by decide +kernel
theorem dX11_put_38 : decode cX11_put 38 = .ok (.ifCond .ne 6, 3) := by decide +kernel
theorem dX11_put_41 : decode cX11_put 41 = .ok (.bipush (-13), 2) := by decide +kernel
theorem dX11_put_43 : decode cX11_put 43 = .ok (.ireturn, 1) := by decide +kernel
theorem dX11_put_44 : decode cX11_put 44 = .ok (.aload 4, 2) := by decide +kernel
theorem dX11_put_46 : decode cX11_put 46 = .ok (.iload_n 2, 1) := by decide +kernel
theorem dX11_put_47 : decode cX11_put 47 = .ok (.iload_n 3, 1) := by decide +kernel
theorem dX11_put_48 : decode cX11_put 48 = .ok (.invokevirtual 269, 3) := by decide +kernel
theorem dX11_put_51 : decode cX11_put 51 = .ok (.iconst 0, 1) := by decide +kernel
theorem dX11_put_52 : decode cX11_put 52 = .ok (.ireturn, 1) := by decide +kernel
theorem dX11_element_0 : decode cX11_element 0 = .ok (.iload_n 1, 1) := by decide +kernel
theorem dX11_element_1 : decode cX11_element 1 = .ok (.invokestatic 205, 3) := by decide +kernel
theorem dX11_element_4 : decode cX11_element 4 = .ok (.ifCond .ne 14, 3) := by decide +kernel
theorem dX11_element_7 : decode cX11_element 7 = .ok (.new 272, 3) := by decide +kernel
theorem dX11_element_10 : decode cX11_element 10 = .ok (.dup, 1) := by decide +kernel
theorem dX11_element_11 : decode cX11_element 11 = .ok (.ldc_w 274, 3) := by decide +kernel
theorem dX11_element_14 : decode cX11_element 14 = .ok (.invokespecial 276, 3) := by decide +kernel
theorem dX11_element_17 : decode cX11_element 17 = .ok (.athrow, 1) := by decide +kernel
theorem dX11_element_18 : decode cX11_element 18 = .ok (.aload_n 0, 1) := by decide +kernel
theorem dX11_element_19 : decode cX11_element 19 = .ok (.iload_n 1, 1) := by decide +kernel
theorem dX11_element_20 : decode cX11_element 20 = .ok (.invokevirtual 80, 3) := by decide +kernel
theorem dX11_element_23 : decode cX11_element 23 = .ok (.astore_n 3, 1) := by decide +kernel
theorem dX11_element_24 : decode cX11_element 24 = .ok (.aload_n 3, 1) := by decide +kernel
theorem dX11_element_25 : decode cX11_element 25 = .ok (.invokevirtual 237, 3) := by decide +kernel
theorem dX11_element_28 : decode cX11_element 28 = .ok (.ifCond .eq 14, 3) := by decide +kernel
theorem dX11_element_31 : decode cX11_element 31 = .ok (.new 279, 3) := by decide +kernel
theorem dX11_element_34 : decode cX11_element 34 = .ok (.dup, 1) := by decide +kernel
theorem dX11_element_35 : decode cX11_element 35 = .ok (.ldc_w 281, 3) := by decide +kernel
theorem dX11_element_38 : decode cX11_element 38 = .ok (.invokespecial 283, 3) := by decide +kernel
theorem dX11_element_41 : decode cX11_element 41 = .ok (.athrow, 1) := by decide +kernel
theorem dX11_element_42 : decode cX11_element 42 = .ok (.aload_n 3, 1) := by decide +kernel
theorem dX11_element_43 : decode cX11_element 43 = .ok (.iload_n 2, 1) := by decide +kernel
theorem dX11_element_44 : decode cX11_element 44 = .ok (.iconst 1, 1) := by decide +kernel
theorem dX11_element_45 : decode cX11_element 45 = .ok (.invokevirtual 265, 3) := by decide +kernel
theorem dX11_element_48 : decode cX11_element 48 = .ok (.ifCond .ne 14, 3) := by decide +kernel
theorem dX11_element_51 : decode cX11_element 51 = .ok (.new 279, 3) := by decide +kernel
theorem dX11_element_54 : decode cX11_element 54 = .ok (.dup, 1) := by decide +kernel
theorem dX11_element_55 : decode cX11_element 55 = .ok (.ldc_w 284, 3) := by decide +kernel
theorem dX11_element_58 : decode cX11_element 58 = .ok (.invokespecial 283, 3) := by decide +kernel
theorem dX11_element_61 : decode cX11_element 61 = .ok (.athrow, 1) := by decide +kernel
theorem dX11_element_62 : decode cX11_element 62 = .ok (.aload_n 3, 1) := by decide +kernel
theorem dX11_element_63 : decode cX11_element 63 = .ok (.iload_n 2, 1) := by decide +kernel
theorem dX11_element_64 : decode cX11_element 64 = .ok (.invokevirtual 225, 3) := by decide +kernel
theorem dX11_element_67 : decode cX11_element 67 = .ok (.i2l, 1) := by decide +kernel
theorem dX11_element_68 : decode cX11_element 68 = .ok (.lreturn, 1) := by decide +kernel
theorem dX11_copy_0 : decode cX11_copy 0 = .ok (.iload_n 1, 1) := by decide +kernel
theorem dX11_copy_1 : decode cX11_copy 1 = .ok (.invokestatic 205, 3) := by decide +kernel
theorem dX11_copy_4 : decode cX11_copy 4 = .ok (.ifCond .eq 10, 3) := by decide +kernel
theorem dX11_copy_7 : decode cX11_copy 7 = .ok (.iload_n 3, 1) := by decide +kernel
theorem dX11_copy_8 : decode cX11_copy 8 = .ok (.invokestatic 205, 3) := by decide +kernel
theorem dX11_copy_11 : decode cX11_copy 11 = .ok (.ifCond .ne 5, 3) := by decide +kernel
theorem dX11_copy_14 : decode cX11_copy 14 = .ok (.iconst (-1), 1) := by decide +kernel
theorem dX11_copy_15 : decode cX11_copy 15 = .ok (.ireturn, 1) := by decide +kernel
theorem dX11_copy_16 : decode cX11_copy 16 = .ok (.aload_n 0, 1) := by decide +kernel
theorem dX11_copy_17 : decode cX11_copy 17 = .ok (.iload_n 1, 1) := by decide +kernel
theorem dX11_copy_18 : decode cX11_copy 18 = .ok (.invokevirtual 80, 3) := by decide +kernel
theorem dX11_copy_21 : decode cX11_copy 21 = .ok (.astore 6, 2) := by decide +kernel
theorem dX11_copy_23 : decode cX11_copy 23 = .ok (.aload_n 0, 1) := by decide +kernel
theorem dX11_copy_24 : decode cX11_copy 24 = .ok (.iload_n 3, 1) := by decide +kernel
theorem dX11_copy_25 : decode cX11_copy 25 = .ok (.invokevirtual 80, 3) := by decide +kernel
theorem dX11_copy_28 : decode cX11_copy 28 = .ok (.astore 7, 2) := by decide +kernel
theorem dX11_copy_30 : decode cX11_copy 30 = .ok (.aload 6, 2) := by decide +kernel
theorem dX11_copy_32 : decode cX11_copy 32 = .ok (.getfield 286, 3) := by decide +kernel
theorem dX11_copy_35 : decode cX11_copy 35 = .ok (.ifCond .eq 11, 3) := by decide +kernel
theorem dX11_copy_38 : decode cX11_copy 38 = .ok (.aload 7, 2) := by decide +kernel
theorem dX11_copy_40 : decode cX11_copy 40 = .ok (.getfield 286, 3) := by decide +kernel
theorem dX11_copy_43 : decode cX11_copy 43 = .ok (.ifCond .ne 6, 3) := by decide +kernel
theorem dX11_copy_46 : decode cX11_copy 46 = .ok (.bipush (-11), 2) := by decide +kernel
theorem dX11_copy_48 : decode cX11_copy 48 = .ok (.ireturn, 1) := by decide +kernel
theorem dX11_copy_49 : decode cX11_copy 49 = .ok (.aload 6, 2) := by decide +kernel
theorem dX11_copy_51 : decode cX11_copy 51 = .ok (.invokevirtual 237, 3) := by decide +kernel
theorem dX11_copy_54 : decode cX11_copy 54 = .ok (.ifCond .ne 24, 3) := by decide +kernel
theorem dX11_copy_57 : decode cX11_copy 57 = .ok (.aload 7, 2) := by decide +kernel
theorem dX11_copy_59 : decode cX11_copy 59 = .ok (.invokevirtual 237, 3) := by decide +kernel
theorem dX11_copy_62 : decode cX11_copy 62 = .ok (.ifCond .ne 16, 3) := by decide +kernel
theorem dX11_copy_65 : decode cX11_copy 65 = .ok (.aload 6, 2) := by decide +kernel
theorem dX11_copy_67 : decode cX11_copy 67 = .ok (.getfield 289, 3) := by decide +kernel
theorem dX11_copy_70 : decode cX11_copy 70 = .ok (.aload 7, 2) := by decide +kernel
theorem dX11_copy_72 : decode cX11_copy 72 = .ok (.getfield 289, 3) := by decide +kernel
theorem dX11_copy_75 : decode cX11_copy 75 = .ok (.if_icmp .eq 6, 3) := by decide +kernel
theorem dX11_copy_78 : decode cX11_copy 78 = .ok (.bipush (-12), 2) := by decide +kernel
theorem dX11_copy_80 : decode cX11_copy 80 = .ok (.ireturn, 1) := by decide +kernel
theorem dX11_copy_81 : decode cX11_copy 81 = .ok (.aload 6, 2) := by decide +kernel
theorem dX11_copy_83 : decode cX11_copy 83 = .ok (.iload_n 2, 1) := by decide +kernel
theorem dX11_copy_84 : decode cX11_copy 84 = .ok (.iload 5, 2) := by decide +kernel
theorem dX11_copy_86 : decode cX11_copy 86 = .ok (.invokevirtual 265, 3) := by decide +kernel
theorem dX11_copy_89 : decode cX11_copy 89 = .ok (.ifCond .eq 15, 3) := by decide +kernel
end
section
theorem dX11_copy_92 : decode cX11_copy 92 = .ok (.aload 7, 2) := by decide +kernel
theorem dX11_copy_94 : decode cX11_copy 94 = .ok (.iload 4, 2) := by decide +kernel
theorem dX11_copy_96 : decode cX11_copy 96 = .ok (.iload 5, 2) := by decide +kernel
theorem dX11_copy_98 : decode cX11_copy 98 = .ok (.invokevirtual 265, 3) := by decide +kernel
theorem dX11_copy_101 : decode cX11_copy 101 = .ok (.ifCond .ne 6, 3) := by decide +kernel
theorem dX11_copy_104 : decode cX11_copy 104 = .ok (.bipush (-13), 2) := by decide +kernel
theorem dX11_copy_106 : decode cX11_copy 106 = .ok (.ireturn, 1) := by decide +kernel
theorem dX11_copy_107 : decode cX11_copy 107 = .ok (.aload 7, 2) := by decide +kernel
theorem dX11_copy_109 : decode cX11_copy 109 = .ok (.aload 6, 2) := by decide +kernel
theorem dX11_copy_111 : decode cX11_copy 111 = .ok (.iload_n 2, 1) := by decide +kernel
theorem dX11_copy_112 : decode cX11_copy 112 = .ok (.iload 4, 2) := by decide +kernel
theorem dX11_copy_114 : decode cX11_copy 114 = .ok (.iload 5, 2) := by decide +kernel
theorem dX11_copy_116 : decode cX11_copy 116 = .ok (.invokevirtual 292, 3) := by decide +kernel
theorem dX11_copy_119 : decode cX11_copy 119 = .ok (.iload 5, 2) := by decide +kernel
theorem dX11_copy_121 : decode cX11_copy 121 = .ok (.ireturn, 1) := by decide +kernel
theorem dX11_minutes_0 : decode cX11_minutes 0 = .ok (.aload_n 0, 1) := by decide +kernel
theorem dX11_minutes_1 : decode cX11_minutes 1 = .ok (.iload_n 1, 1) := by decide +kernel
theorem dX11_minutes_2 : decode cX11_minutes 2 = .ok (.invokevirtual 121, 3) := by decide +kernel
theorem dX11_minutes_5 : decode cX11_minutes 5 = .ok (.istore_n 2, 1) := by decide +kernel
theorem dX11_minutes_6 : decode cX11_minutes 6 = .ok (.iload_n 2, 1) := by decide +kernel
theorem dX11_minutes_7 : decode cX11_minutes 7 = .ok (.ifCond .eq 5, 3) := by decide +kernel
theorem dX11_minutes_10 : decode cX11_minutes 10 = .ok (.iload_n 2, 1) := by decide +kernel
theorem dX11_minutes_11 : decode cX11_minutes 11 = .ok (.ireturn, 1) := by decide +kernel
theorem dX11_minutes_12 : decode cX11_minutes 12 = .ok (.aload_n 0, 1) := by decide +kernel
theorem dX11_minutes_13 : decode cX11_minutes 13 = .ok (.iload_n 1, 1) := by decide +kernel
theorem dX11_minutes_14 : decode cX11_minutes 14 = .ok (.invokevirtual 80, 3) := by decide +kernel
theorem dX11_minutes_17 : decode cX11_minutes 17 = .ok (.astore_n 3, 1) := by decide +kernel
theorem dX11_minutes_18 : decode cX11_minutes 18 = .ok (.aload_n 0, 1) := by decide +kernel
theorem dX11_minutes_19 : decode cX11_minutes 19 = .ok (.aload_n 3, 1) := by decide +kernel
theorem dX11_minutes_20 : decode cX11_minutes 20 = .ok (.getfield 125, 3) := by decide +kernel
theorem dX11_minutes_23 : decode cX11_minutes 23 = .ok (.invokevirtual 128, 3) := by decide +kernel
theorem dX11_minutes_26 : decode cX11_minutes 26 = .ok (.aload_n 3, 1) := by decide +kernel
theorem dX11_minutes_27 : decode cX11_minutes 27 = .ok (.getfield 132, 3) := by decide +kernel
theorem dX11_minutes_30 : decode cX11_minutes 30 = .ok (.invokevirtual 156, 3) := by decide +kernel
theorem dX11_minutes_33 : decode cX11_minutes 33 = .ok (.ireturn, 1) := by decide +kernel
theorem dX11_toss_0 : decode cX11_toss 0 = .ok (.aload_n 0, 1) := by decide +kernel
theorem dX11_toss_1 : decode cX11_toss 1 = .ok (.iload_n 1, 1) := by decide +kernel
theorem dX11_toss_2 : decode cX11_toss 2 = .ok (.invokevirtual 121, 3) := by decide +kernel
theorem dX11_toss_5 : decode cX11_toss 5 = .ok (.istore_n 2, 1) := by decide +kernel
theorem dX11_toss_6 : decode cX11_toss 6 = .ok (.iload_n 2, 1) := by decide +kernel
theorem dX11_toss_7 : decode cX11_toss 7 = .ok (.ifCond .eq 5, 3) := by decide +kernel
theorem dX11_toss_10 : decode cX11_toss 10 = .ok (.iload_n 2, 1) := by decide +kernel
theorem dX11_toss_11 : decode cX11_toss 11 = .ok (.ireturn, 1) := by decide +kernel
theorem dX11_toss_12 : decode cX11_toss 12 = .ok (.aload_n 0, 1) := by decide +kernel
theorem dX11_toss_13 : decode cX11_toss 13 = .ok (.iload_n 1, 1) := by decide +kernel
theorem dX11_toss_14 : decode cX11_toss 14 = .ok (.invokevirtual 80, 3) := by decide +kernel
theorem dX11_toss_17 : decode cX11_toss 17 = .ok (.astore_n 3, 1) := by decide +kernel
theorem dX11_toss_18 : decode cX11_toss 18 = .ok (.aload_n 0, 1) := by decide +kernel
theorem dX11_toss_19 : decode cX11_toss 19 = .ok (.aload_n 3, 1) := by decide +kernel
theorem dX11_toss_20 : decode cX11_toss 20 = .ok (.getfield 125, 3) := by decide +kernel
theorem dX11_toss_23 : decode cX11_toss 23 = .ok (.invokevirtual 128, 3) := by decide +kernel
theorem dX11_toss_26 : decode cX11_toss 26 = .ok (.astore 4, 2) := by decide +kernel
theorem dX11_toss_28 : decode cX11_toss 28 = .ok (.aload_n 3, 1) := by decide +kernel
theorem dX11_toss_29 : decode cX11_toss 29 = .ok (.getfield 132, 3) := by decide +kernel
theorem dX11_toss_32 : decode cX11_toss 32 = .ok (.istore 5, 2) := by decide +kernel
theorem dX11_toss_34 : decode cX11_toss 34 = .ok (.aload 4, 2) := by decide +kernel
theorem dX11_toss_36 : decode cX11_toss 36 = .ok (.iload 5, 2) := by decide +kernel
theorem dX11_toss_38 : decode cX11_toss 38 = .ok (.invokevirtual 296, 3) := by decide +kernel
theorem dX11_toss_41 : decode cX11_toss 41 = .ok (.bipush (-15), 2) := by decide +kernel
theorem dX11_toss_43 : decode cX11_toss 43 = .ok (.ireturn, 1) := by decide +kernel
theorem dX11_toss_44 : decode cX11_toss 44 = .ok (.astore 6, 2) := by decide +kernel
theorem dX11_toss_46 : decode cX11_toss 46 = .ok (.sipush 200, 3) := by decide +kernel
theorem dX11_toss_49 : decode cX11_toss 49 = .ok (.aload 4, 2) := by decide +kernel
theorem dX11_toss_51 : decode cX11_toss 51 = .ok (.iload 5, 2) := by decide +kernel
theorem dX11_toss_53 : decode cX11_toss 53 = .ok (.invokevirtual 156, 3) := by decide +kernel
theorem dX11_toss_56 : decode cX11_toss 56 = .ok (.iadd, 1) := by decide +kernel
theorem dX11_toss_57 : decode cX11_toss 57 = .ok (.ireturn, 1) := by decide +kernel
theorem dX11_toss_58 : decode cX11_toss 58 = .ok (.astore 6, 2) := by decide +kernel
theorem dX11_toss_60 : decode cX11_toss 60 = .ok (.bipush 100, 2) := by decide +kernel
theorem dX11_toss_62 : decode cX11_toss 62 = .ok (.iload 5, 2) := by decide +kernel
theorem dX11_toss_64 : decode cX11_toss 64 = .ok (.iadd, 1) := by decide +kernel
theorem dX11_toss_65 : decode cX11_toss 65 = .ok (.ireturn, 1) := by decide +kernel
theorem dX11_toss_66 : decode cX11_toss 66 = .ok (.astore 6, 2) := by decide +kernel
theorem dX11_toss_68 : decode cX11_toss 68 = .ok (.iload 5, 2) := by decide +kernel
theorem dX11_toss_70 : decode cX11_toss 70 = .ok (.ireturn, 1) := by decide +kernel
theorem dX11_within_0 : decode cX11_within 0 = .ok (.iload_n 0, 1) := by decide +kernel
theorem dX11_within_1 : decode cX11_within 1 = .ok (.iload_n 1, 1) := by decide +kernel
theorem dX11_within_2 : decode cX11_within 2 = .ok (.if_icmp .lt 12, 3) := by decide +kernel
theorem dX11_within_5 : decode cX11_within 5 = .ok (.iload_n 0, 1) := by decide +kernel
theorem dX11_within_6 : decode cX11_within 6 = .ok (.iload_n 2, 1) := by decide +kernel
theorem dX11_within_7 : decode cX11_within 7 = .ok (.if_icmp .gt 7, 3) := by decide +kernel
theorem dX11_within_10 : decode cX11_within 10 = .ok (.iconst 1, 1) := by decide +kernel
theorem dX11_within_11 : decode cX11_within 11 = .ok (.goto 4, 3) := by decide +kernel
theorem dX11_within_14 : decode cX11_within 14 = .ok (.iconst 0, 1) := by decide +kernel
theorem dX11_within_15 : decode cX11_within 15 = .ok (.ireturn, 1) := by decide +kernel
theorem dX11_isShelf_0 : decode cX11_isShelf 0 = .ok (.iload_n 0, 1) := by decide +kernel
theorem dX11_isShelf_1 : decode cX11_isShelf 1 = .ok (.iconst 0, 1) := by decide +kernel
theorem dX11_isShelf_2 : decode cX11_isShelf 2 = .ok (.bipush 7, 2) := by decide +kernel
theorem dX11_isShelf_4 : decode cX11_isShelf 4 = .ok (.invokestatic 108, 3) := by decide +kernel
theorem dX11_isShelf_7 : decode cX11_isShelf 7 = .ok (.ireturn, 1) := by decide +kernel
theorem dX11_shelfAt_0 : decode cX11_shelfAt 0 = .ok (.iload_n 1, 1) := by decide +kernel
theorem dX11_shelfAt_1 : decode cX11_shelfAt 1 = .ok (.ifCond .lt 21, 3) := by decide +kernel
theorem dX11_shelfAt_4 : decode cX11_shelfAt 4 = .ok (.iload_n 1, 1) := by decide +kernel
theorem dX11_shelfAt_5 : decode cX11_shelfAt 5 = .ok (.aload_n 0, 1) := by decide +kernel
theorem dX11_shelfAt_6 : decode cX11_shelfAt 6 = .ok (.getfield 28, 3) := by decide +kernel
theorem dX11_shelfAt_9 : decode cX11_shelfAt 9 = .ok (.arraylength, 1) := by decide +kernel
theorem dX11_shelfAt_10 : decode cX11_shelfAt 10 = .ok (.if_icmp .ge 12, 3) := by decide +kernel
theorem dX11_shelfAt_13 : decode cX11_shelfAt 13 = .ok (.aload_n 0, 1) := by decide +kernel
theorem dX11_shelfAt_14 : decode cX11_shelfAt 14 = .ok (.getfield 28, 3) := by decide +kernel
theorem dX11_shelfAt_17 : decode cX11_shelfAt 17 = .ok (.iload_n 1, 1) := by decide +kernel
theorem dX11_shelfAt_18 : decode cX11_shelfAt 18 = .ok (.aaload, 1) := by decide +kernel
theorem dX11_shelfAt_19 : decode cX11_shelfAt 19 = .ok (.goto 4, 3) := by decide +kernel
theorem dX11_shelfAt_22 : decode cX11_shelfAt 22 = .ok (.aconst_null, 1) := by decide +kernel
theorem dX11_shelfAt_23 : decode cX11_shelfAt 23 = .ok (.astore_n 2, 1) := by decide +kernel
theorem dX11_shelfAt_24 : decode cX11_shelfAt 24 = .ok (.aload_n 2, 1) := by decide +kernel
theorem dX11_shelfAt_25 : decode cX11_shelfAt 25 = .ok (.ifnonnull 10, 3) := by decide +kernel
theorem dX11_shelfAt_28 : decode cX11_shelfAt 28 = .ok (.aload_n 0, 1) := by decide +kernel
theorem dX11_shelfAt_29 : decode cX11_shelfAt 29 = .ok (.getfield 33, 3) := by decide +kernel
theorem dX11_shelfAt_32 : decode cX11_shelfAt 32 = .ok (.goto 4, 3) := by decide +kernel
theorem dX11_shelfAt_35 : decode cX11_shelfAt 35 = .ok (.aload_n 2, 1) := by decide +kernel
theorem dX11_shelfAt_36 : decode cX11_shelfAt 36 = .ok (.areturn, 1) := by decide +kernel
theorem dX11_kindAt_0 : decode cX11_kindAt 0 = .ok (.iload_n 1, 1) := by decide +kernel
theorem dX11_kindAt_1 : decode cX11_kindAt 1 = .ok (.ifCond .lt 21, 3) := by decide +kernel
theorem dX11_kindAt_4 : decode cX11_kindAt 4 = .ok (.iload_n 1, 1) := by decide +kernel
theorem dX11_kindAt_5 : decode cX11_kindAt 5 = .ok (.aload_n 0, 1) := by decide +kernel
theorem dX11_kindAt_6 : decode cX11_kindAt 6 = .ok (.getfield 39, 3) := by decide +kernel
theorem dX11_kindAt_9 : decode cX11_kindAt 9 = .ok (.arraylength, 1) := by decide +kernel
theorem dX11_kindAt_10 : decode cX11_kindAt 10 = .ok (.if_icmp .ge 12, 3) := by decide +kernel
theorem dX11_kindAt_13 : decode cX11_kindAt 13 = .ok (.aload_n 0, 1) := by decide +kernel
theorem dX11_kindAt_14 : decode cX11_kindAt 14 = .ok (.getfield 39, 3) := by decide +kernel
theorem dX11_kindAt_17 : decode cX11_kindAt 17 = .ok (.iload_n 1, 1) := by decide +kernel
theorem dX11_kindAt_18 : decode cX11_kindAt 18 = .ok (.aaload, 1) := by decide +kernel
theorem dX11_kindAt_19 : decode cX11_kindAt 19 = .ok (.goto 4, 3) := by decide +kernel
theorem dX11_kindAt_22 : decode cX11_kindAt 22 = .ok (.aconst_null, 1) := by decide +kernel
theorem dX11_kindAt_23 : decode cX11_kindAt 23 = .ok (.astore_n 2, 1) := by decide +kernel
theorem dX11_kindAt_24 : decode cX11_kindAt 24 = .ok (.aload_n 2, 1) := by decide +kernel
theorem dX11_kindAt_25 : decode cX11_kindAt 25 = .ok (.ifnonnull 10, 3) := by decide +kernel
theorem dX11_kindAt_28 : decode cX11_kindAt 28 = .ok (.aload_n 0, 1) := by decide +kernel
theorem dX11_kindAt_29 : decode cX11_kindAt 29 = .ok (.getfield 44, 3) := by decide +kernel
theorem dX11_kindAt_32 : decode cX11_kindAt 32 = .ok (.goto 4, 3) := by decide +kernel
theorem dX11_kindAt_35 : decode cX11_kindAt 35 = .ok (.aload_n 2, 1) := by decide +kernel
theorem dX11_kindAt_36 : decode cX11_kindAt 36 = .ok (.areturn, 1) := by decide +kernel
theorem dX11_stepAt_0 : decode cX11_stepAt 0 = .ok (.iload_n 1, 1) := by decide +kernel
theorem dX11_stepAt_1 : decode cX11_stepAt 1 = .ok (.ifCond .lt 21, 3) := by decide +kernel
theorem dX11_stepAt_4 : decode cX11_stepAt 4 = .ok (.iload_n 1, 1) := by decide +kernel
theorem dX11_stepAt_5 : decode cX11_stepAt 5 = .ok (.aload_n 0, 1) := by decide +kernel
theorem dX11_stepAt_6 : decode cX11_stepAt 6 = .ok (.getfield 22, 3) := by decide +kernel
theorem dX11_stepAt_9 : decode cX11_stepAt 9 = .ok (.arraylength, 1) := by decide +kernel
theorem dX11_stepAt_10 : decode cX11_stepAt 10 = .ok (.if_icmp .ge 12, 3) := by decide +kernel
theorem dX11_stepAt_13 : decode cX11_stepAt 13 = .ok (.aload_n 0, 1) := by decide +kernel
theorem dX11_stepAt_14 : decode cX11_stepAt 14 = .ok (.getfield 22, 3) := by decide +kernel
theorem dX11_stepAt_17 : decode cX11_stepAt 17 = .ok (.iload_n 1, 1) := by decide +kernel
theorem dX11_stepAt_18 : decode cX11_stepAt 18 = .ok (.aaload, 1) := by decide +kernel
theorem dX11_stepAt_19 : decode cX11_stepAt 19 = .ok (.goto 4, 3) := by decide +kernel
theorem dX11_stepAt_22 : decode cX11_stepAt 22 = .ok (.aconst_null, 1) := by decide +kernel
theorem dX11_stepAt_23 : decode cX11_stepAt 23 = .ok (.astore_n 2, 1) := by decide +kernel
theorem dX11_stepAt_24 : decode cX11_stepAt 24 = .ok (.aload_n 2, 1) := by decide +kernel
theorem dX11_stepAt_25 : decode cX11_stepAt 25 = .ok (.ifnonnull 10, 3) := by decide +kernel
theorem dX11_stepAt_28 : decode cX11_stepAt 28 = .ok (.aload_n 0, 1) := by decide +kernel
theorem dX11_stepAt_29 : decode cX11_stepAt 29 = .ok (.getfield 19, 3) := by decide +kernel
theorem dX11_stepAt_32 : decode cX11_stepAt 32 = .ok (.goto 4, 3) := by decide +kernel
theorem dX11_stepAt_35 : decode cX11_stepAt 35 = .ok (.aload_n 2, 1) := by decide +kernel
theorem dX11_stepAt_36 : decode cX11_stepAt 36 = .ok (.areturn, 1) := by decide +kernel
theorem dX11_pinRefusal_0 : decode cX11_pinRefusal 0 = .ok (.iload_n 1, 1) := by decide +kernel
theorem dX11_pinRefusal_1 : decode cX11_pinRefusal 1 = .ok (.invokestatic 205, 3) := by decide +kernel
theorem dX11_pinRefusal_4 : decode cX11_pinRefusal 4 = .ok (.ifCond .eq 14, 3) := by decide +kernel
theorem dX11_pinRefusal_7 : decode cX11_pinRefusal 7 = .ok (.aload_n 0, 1) := by decide +kernel
theorem dX11_pinRefusal_8 : decode cX11_pinRefusal 8 = .ok (.iload_n 1, 1) := by decide +kernel
theorem dX11_pinRefusal_9 : decode cX11_pinRefusal 9 = .ok (.invokevirtual 80, 3) := by decide +kernel
theorem dX11_pinRefusal_12 : decode cX11_pinRefusal 12 = .ok (.invokevirtual 302, 3) := by decide +kernel
theorem dX11_pinRefusal_15 : decode cX11_pinRefusal 15 = .ok (.goto 4, 3) := by decide +kernel
theorem dX11_pinRefusal_18 : decode cX11_pinRefusal 18 = .ok (.iconst (-1), 1) := by decide +kernel
theorem dX11_pinRefusal_19 : decode cX11_pinRefusal 19 = .ok (.ireturn, 1) := by decide +kernel
theorem dX11_rowRefusal_0 : decode cX11_rowRefusal 0 = .ok (.iload_n 1, 1) := by decide +kernel
theorem dX11_rowRefusal_1 : decode cX11_rowRefusal 1 = .ok (.invokestatic 205, 3) := by decide +kernel
theorem dX11_rowRefusal_4 : decode cX11_rowRefusal 4 = .ok (.ifCond .ne 5, 3) := by decide +kernel
theorem dX11_rowRefusal_7 : decode cX11_rowRefusal 7 = .ok (.iconst (-1), 1) := by decide +kernel
theorem dX11_rowRefusal_8 : decode cX11_rowRefusal 8 = .ok (.ireturn, 1) := by decide +kernel
theorem dX11_rowRefusal_9 : decode cX11_rowRefusal 9 = .ok (.aload_n 0, 1) := by decide +kernel
theorem dX11_rowRefusal_10 : decode cX11_rowRefusal 10 = .ok (.iload_n 1, 1) := by decide +kernel
theorem dX11_rowRefusal_11 : decode cX11_rowRefusal 11 = .ok (.invokevirtual 80, 3) := by decide +kernel
theorem dX11_rowRefusal_14 : decode cX11_rowRefusal 14 = .ok (.astore_n 3, 1) := by decide +kernel
theorem dX11_rowRefusal_15 : decode cX11_rowRefusal 15 = .ok (.aload_n 3, 1) := by decide +kernel
theorem dX11_rowRefusal_16 : decode cX11_rowRefusal 16 = .ok (.invokevirtual 237, 3) := by decide +kernel
theorem dX11_rowRefusal_19 : decode cX11_rowRefusal 19 = .ok (.istore 4, 2) := by decide +kernel
theorem dX11_rowRefusal_21 : decode cX11_rowRefusal 21 = .ok (.iload 4, 2) := by decide +kernel
theorem dX11_rowRefusal_23 : decode cX11_rowRefusal 23 = .ok (.ifCond .ne 16, 3) := by decide +kernel
theorem dX11_rowRefusal_26 : decode cX11_rowRefusal 26 = .ok (.aload_n 3, 1) := by decide +kernel
theorem dX11_rowRefusal_27 : decode cX11_rowRefusal 27 = .ok (.getfield 289, 3) := by decide +kernel
theorem dX11_rowRefusal_30 : decode cX11_rowRefusal 30 = .ok (.iload_n 2, 1) := by decide +kernel
theorem dX11_rowRefusal_31 : decode cX11_rowRefusal 31 = .ok (.if_icmp .eq 8, 3) := by decide +kernel
theorem dX11_rowRefusal_34 : decode cX11_rowRefusal 34 = .ok (.bipush (-12), 2) := by decide +kernel
theorem dX11_rowRefusal_36 : decode cX11_rowRefusal 36 = .ok (.goto 5, 3) := by decide +kernel
theorem dX11_rowRefusal_39 : decode cX11_rowRefusal 39 = .ok (.iload 4, 2) := by decide +kernel
theorem dX11_rowRefusal_41 : decode cX11_rowRefusal 41 = .ok (.ireturn, 1) := by decide +kernel
theorem dX11_pinsRefusal_0 : decode cX11_pinsRefusal 0 = .ok (.aload_n 0, 1) := by decide +kernel
theorem dX11_pinsRefusal_1 : decode cX11_pinsRefusal 1 = .ok (.iload_n 1, 1) := by decide +kernel
theorem dX11_pinsRefusal_2 : decode cX11_pinsRefusal 2 = .ok (.iconst 0, 1) := by decide +kernel
theorem dX11_pinsRefusal_3 : decode cX11_pinsRefusal 3 = .ok (.invokevirtual 76, 3) := by decide +kernel
theorem dX11_pinsRefusal_6 : decode cX11_pinsRefusal 6 = .ok (.istore_n 2, 1) := by decide +kernel
theorem dX11_pinsRefusal_7 : decode cX11_pinsRefusal 7 = .ok (.iload_n 2, 1) := by decide +kernel
theorem dX11_pinsRefusal_8 : decode cX11_pinsRefusal 8 = .ok (.ifCond .ne 20, 3) := by decide +kernel
theorem dX11_pinsRefusal_11 : decode cX11_pinsRefusal 11 = .ok (.aload_n 0, 1) := by decide +kernel
theorem dX11_pinsRefusal_12 : decode cX11_pinsRefusal 12 = .ok (.aload_n 0, 1) := by decide +kernel
theorem dX11_pinsRefusal_13 : decode cX11_pinsRefusal 13 = .ok (.iload_n 1, 1) := by decide +kernel
theorem dX11_pinsRefusal_14 : decode cX11_pinsRefusal 14 = .ok (.invokevirtual 80, 3) := by decide +kernel
theorem dX11_pinsRefusal_17 : decode cX11_pinsRefusal 17 = .ok (.invokevirtual 304, 3) := by decide +kernel
theorem dX11_pinsRefusal_20 : decode cX11_pinsRefusal 20 = .ok (.ifCond .ne 8, 3) := by decide +kernel
theorem dX11_pinsRefusal_23 : decode cX11_pinsRefusal 23 = .ok (.bipush (-13), 2) := by decide +kernel
theorem dX11_pinsRefusal_25 : decode cX11_pinsRefusal 25 = .ok (.goto 4, 3) := by decide +kernel
theorem dX11_pinsRefusal_28 : decode cX11_pinsRefusal 28 = .ok (.iload_n 2, 1) := by decide +kernel
theorem dX11_pinsRefusal_29 : decode cX11_pinsRefusal 29 = .ok (.ireturn, 1) := by decide +kernel
theorem dX11_lengthsRefusal_0 : decode cX11_lengthsRefusal 0 = .ok (.aload_n 0, 1) := by decide +kernel
theorem dX11_lengthsRefusal_1 : decode cX11_lengthsRefusal 1 = .ok (.iload_n 1, 1) := by decide +kernel
theorem dX11_lengthsRefusal_2 : decode cX11_lengthsRefusal 2 = .ok (.iconst 0, 1) := by decide +kernel
theorem dX11_lengthsRefusal_3 : decode cX11_lengthsRefusal 3 = .ok (.invokevirtual 76, 3) := by decide +kernel
theorem dX11_lengthsRefusal_6 : decode cX11_lengthsRefusal 6 = .ok (.istore_n 3, 1) := by decide +kernel
theorem dX11_lengthsRefusal_7 : decode cX11_lengthsRefusal 7 = .ok (.iload_n 3, 1) := by decide +kernel
theorem dX11_lengthsRefusal_8 : decode cX11_lengthsRefusal 8 = .ok (.ifCond .ne 20, 3) := by decide +kernel
theorem dX11_lengthsRefusal_11 : decode cX11_lengthsRefusal 11 = .ok (.aload_n 0, 1) := by decide +kernel
theorem dX11_lengthsRefusal_12 : decode cX11_lengthsRefusal 12 = .ok (.iload_n 1, 1) := by decide +kernel
theorem dX11_lengthsRefusal_13 : decode cX11_lengthsRefusal 13 = .ok (.invokevirtual 80, 3) := by decide +kernel
theorem dX11_lengthsRefusal_16 : decode cX11_lengthsRefusal 16 = .ok (.iload_n 2, 1) := by decide +kernel
theorem dX11_lengthsRefusal_17 : decode cX11_lengthsRefusal 17 = .ok (.invokestatic 307, 3) := by decide +kernel
theorem dX11_lengthsRefusal_20 : decode cX11_lengthsRefusal 20 = .ok (.ifCond .ne 8, 3) := by decide +kernel
theorem dX11_lengthsRefusal_23 : decode cX11_lengthsRefusal 23 = .ok (.bipush (-13), 2) := by decide +kernel
theorem dX11_lengthsRefusal_25 : decode cX11_lengthsRefusal 25 = .ok (.goto 4, 3) := by decide +kernel
theorem dX11_lengthsRefusal_28 : decode cX11_lengthsRefusal 28 = .ok (.iload_n 3, 1) := by decide +kernel
theorem dX11_lengthsRefusal_29 : decode cX11_lengthsRefusal 29 = .ok (.ireturn, 1) := by decide +kernel
theorem dX11_statementsOf_0 : decode cX11_statementsOf 0 = .ok (.aload_n 0, 1) := by decide +kernel
theorem dX11_statementsOf_1 : decode cX11_statementsOf 1 = .ok (.getfield 51, 3) := by decide +kernel
theorem dX11_statementsOf_4 : decode cX11_statementsOf 4 = .ok (.iconst 0, 1) := by decide +kernel
theorem dX11_statementsOf_5 : decode cX11_statementsOf 5 = .ok (.putfield 92, 3) := by decide +kernel
theorem dX11_statementsOf_8 : decode cX11_statementsOf 8 = .ok (.iconst 0, 1) := by decide +kernel
theorem dX11_statementsOf_9 : decode cX11_statementsOf 9 = .ok (.istore_n 2, 1) := by decide +kernel
theorem dX11_statementsOf_10 : decode cX11_statementsOf 10 = .ok (.iconst 0, 1) := by decide +kernel
theorem dX11_statementsOf_11 : decode cX11_statementsOf 11 = .ok (.istore_n 3, 1) := by decide +kernel
theorem dX11_statementsOf_12 : decode cX11_statementsOf 12 = .ok (.iload_n 3, 1) := by decide +kernel
theorem dX11_statementsOf_13 : decode cX11_statementsOf 13 = .ok (.ifCond .eq 23, 3) := by decide +kernel
theorem dX11_statementsOf_16 : decode cX11_statementsOf 16 = .ok (.iload_n 3, 1) := by decide +kernel
theorem dX11_statementsOf_17 : decode cX11_statementsOf 17 = .ok (.bipush 100, 2) := by decide +kernel
theorem dX11_statementsOf_19 : decode cX11_statementsOf 19 = .ok (.if_icmp .ge 49, 3) := by decide +kernel
theorem dX11_statementsOf_22 : decode cX11_statementsOf 22 = .ok (.aload_n 0, 1) := by decide +kernel
theorem dX11_statementsOf_23 : decode cX11_statementsOf 23 = .ok (.getfield 51, 3) := by decide +kernel
theorem dX11_statementsOf_26 : decode cX11_statementsOf 26 = .ok (.getfield 92, 3) := by decide +kernel
theorem dX11_statementsOf_29 : decode cX11_statementsOf 29 = .ok (.aload_n 1, 1) := by decide +kernel
theorem dX11_statementsOf_30 : decode cX11_statementsOf 30 = .ok (.getfield 222, 3) := by decide +kernel
theorem dX11_statementsOf_33 : decode cX11_statementsOf 33 = .ok (.if_icmp .ge 35, 3) := by decide +kernel
theorem dX11_statementsOf_36 : decode cX11_statementsOf 36 = .ok (.aload_n 0, 1) := by decide +kernel
theorem dX11_statementsOf_37 : decode cX11_statementsOf 37 = .ok (.getfield 51, 3) := by decide +kernel
theorem dX11_statementsOf_40 : decode cX11_statementsOf 40 = .ok (.aload_n 1, 1) := by decide +kernel
theorem dX11_statementsOf_41 : decode cX11_statementsOf 41 = .ok (.invokevirtual 96, 3) := by decide +kernel
theorem dX11_statementsOf_44 : decode cX11_statementsOf 44 = .ok (.ifCond .ne 15, 3) := by decide +kernel
theorem dX11_statementsOf_47 : decode cX11_statementsOf 47 = .ok (.sipush (-1000), 3) := by decide +kernel
theorem dX11_statementsOf_50 : decode cX11_statementsOf 50 = .ok (.aload_n 0, 1) := by decide +kernel
theorem dX11_statementsOf_51 : decode cX11_statementsOf 51 = .ok (.getfield 51, 3) := by decide +kernel
theorem dX11_statementsOf_54 : decode cX11_statementsOf 54 = .ok (.getfield 92, 3) := by decide +kernel
theorem dX11_statementsOf_57 : decode cX11_statementsOf 57 = .ok (.isub, 1) := by decide +kernel
theorem dX11_statementsOf_58 : decode cX11_statementsOf 58 = .ok (.ireturn, 1) := by decide +kernel
theorem dX11_statementsOf_59 : decode cX11_statementsOf 59 = .ok (.iinc 2 1, 3) := by decide +kernel
theorem dX11_statementsOf_62 : decode cX11_statementsOf 62 = .ok (.iinc 3 1, 3) := by decide +kernel
theorem dX11_statementsOf_65 : decode cX11_statementsOf 65 = .ok (.goto (-53), 3) := by decide +kernel
theorem dX11_statementsOf_68 : decode cX11_statementsOf 68 = .ok (.iload_n 2, 1) := by decide +kernel
theorem dX11_statementsOf_69 : decode cX11_statementsOf 69 = .ok (.ireturn, 1) := by decide +kernel
theorem dX11_carryOut_0 : decode cX11_carryOut 0 = .ok (.aload_n 0, 1) := by decide +kernel
theorem dX11_carryOut_1 : decode cX11_carryOut 1 = .ok (.getfield 51, 3) := by decide +kernel
theorem dX11_carryOut_4 : decode cX11_carryOut 4 = .ok (.iconst 0, 1) := by decide +kernel
theorem dX11_carryOut_5 : decode cX11_carryOut 5 = .ok (.invokevirtual 310, 3) := by decide +kernel
theorem dX11_carryOut_8 : decode cX11_carryOut 8 = .ok (.istore_n 2, 1) := by decide +kernel
theorem dX11_carryOut_9 : decode cX11_carryOut 9 = .ok (.aload_n 0, 1) := by decide +kernel
theorem dX11_carryOut_10 : decode cX11_carryOut 10 = .ok (.getfield 51, 3) := by decide +kernel
theorem dX11_carryOut_13 : decode cX11_carryOut 13 = .ok (.getfield 313, 3) := by decide +kernel
theorem dX11_carryOut_16 : decode cX11_carryOut 16 = .ok (.lookupswitch 88 #[(108, 73), (114, 36), (116, 66)], 36) := by decide +kernel
theorem dX11_carryOut_52 : decode cX11_carryOut 52 = .ok (.aload_n 1, 1) := by decide +kernel
theorem dX11_carryOut_53 : decode cX11_carryOut 53 = .ok (.iload_n 2, 1) := by decide +kernel
theorem dX11_carryOut_54 : decode cX11_carryOut 54 = .ok (.aload_n 0, 1) := by decide +kernel
theorem dX11_carryOut_55 : decode cX11_carryOut 55 = .ok (.getfield 51, 3) := by decide +kernel
theorem dX11_carryOut_58 : decode cX11_carryOut 58 = .ok (.iconst 1, 1) := by decide +kernel
theorem dX11_carryOut_59 : decode cX11_carryOut 59 = .ok (.invokevirtual 310, 3) := by decide +kernel
theorem dX11_carryOut_62 : decode cX11_carryOut 62 = .ok (.aload_n 0, 1) := by decide +kernel
theorem dX11_carryOut_63 : decode cX11_carryOut 63 = .ok (.getfield 51, 3) := by decide +kernel
theorem dX11_carryOut_66 : decode cX11_carryOut 66 = .ok (.iconst 2, 1) := by decide +kernel
theorem dX11_carryOut_67 : decode cX11_carryOut 67 = .ok (.invokevirtual 310, 3) := by decide +kernel
theorem dX11_carryOut_70 : decode cX11_carryOut 70 = .ok (.aload_n 0, 1) := by decide +kernel
theorem dX11_carryOut_71 : decode cX11_carryOut 71 = .ok (.getfield 51, 3) := by decide +kernel
theorem dX11_carryOut_74 : decode cX11_carryOut 74 = .ok (.iconst 3, 1) := by decide +kernel
theorem dX11_carryOut_75 : decode cX11_carryOut 75 = .ok (.invokevirtual 310, 3) := by decide +kernel
theorem dX11_carryOut_78 : decode cX11_carryOut 78 = .ok (.invokevirtual 316, 3) := by decide +kernel
theorem dX11_carryOut_81 : decode cX11_carryOut 81 = .ok (.ireturn, 1) := by decide +kernel
theorem dX11_carryOut_82 : decode cX11_carryOut 82 = .ok (.aload_n 1, 1) := by decide +kernel
theorem dX11_carryOut_83 : decode cX11_carryOut 83 = .ok (.iload_n 2, 1) := by decide +kernel
theorem dX11_carryOut_84 : decode cX11_carryOut 84 = .ok (.putfield 115, 3) := by decide +kernel
theorem dX11_carryOut_87 : decode cX11_carryOut 87 = .ok (.iconst 1, 1) := by decide +kernel
theorem dX11_carryOut_88 : decode cX11_carryOut 88 = .ok (.ireturn, 1) := by decide +kernel
theorem dX11_carryOut_89 : decode cX11_carryOut 89 = .ok (.iload_n 2, 1) := by decide +kernel
theorem dX11_carryOut_90 : decode cX11_carryOut 90 = .ok (.bipush 30, 2) := by decide +kernel
theorem dX11_carryOut_92 : decode cX11_carryOut 92 = .ok (.if_icmp .le 5, 3) := by decide +kernel
theorem dX11_carryOut_95 : decode cX11_carryOut 95 = .ok (.iconst 0, 1) := by decide +kernel
theorem dX11_carryOut_96 : decode cX11_carryOut 96 = .ok (.ireturn, 1) := by decide +kernel
theorem dX11_carryOut_97 : decode cX11_carryOut 97 = .ok (.aload_n 1, 1) := by decide +kernel
theorem dX11_carryOut_98 : decode cX11_carryOut 98 = .ok (.iload_n 2, 1) := by decide +kernel
theorem dX11_carryOut_99 : decode cX11_carryOut 99 = .ok (.putfield 118, 3) := by decide +kernel
theorem dX11_carryOut_102 : decode cX11_carryOut 102 = .ok (.iconst 1, 1) := by decide +kernel
theorem dX11_carryOut_103 : decode cX11_carryOut 103 = .ok (.ireturn, 1) := by decide +kernel
theorem dX11_carryOut_104 : decode cX11_carryOut 104 = .ok (.iload_n 2, 1) := by decide +kernel
theorem dX11_carryOut_105 : decode cX11_carryOut 105 = .ok (.bipush 8, 2) := by decide +kernel
theorem dX11_carryOut_107 : decode cX11_carryOut 107 = .ok (.if_icmp .ge 35, 3) := by decide +kernel
theorem dX11_carryOut_110 : decode cX11_carryOut 110 = .ok (.aload_n 1, 1) := by decide +kernel
theorem dX11_carryOut_111 : decode cX11_carryOut 111 = .ok (.aload_n 0, 1) := by decide +kernel
theorem dX11_carryOut_112 : decode cX11_carryOut 112 = .ok (.iload_n 2, 1) := by decide +kernel
theorem dX11_carryOut_113 : decode cX11_carryOut 113 = .ok (.invokevirtual 128, 3) := by decide +kernel
theorem dX11_carryOut_116 : decode cX11_carryOut 116 = .ok (.aload_n 0, 1) := by decide +kernel
theorem dX11_carryOut_117 : decode cX11_carryOut 117 = .ok (.getfield 51, 3) := by decide +kernel
theorem dX11_carryOut_120 : decode cX11_carryOut 120 = .ok (.iconst 1, 1) := by decide +kernel
theorem dX11_carryOut_121 : decode cX11_carryOut 121 = .ok (.invokevirtual 310, 3) := by decide +kernel
theorem dX11_carryOut_124 : decode cX11_carryOut 124 = .ok (.aload_n 0, 1) := by decide +kernel
theorem dX11_carryOut_125 : decode cX11_carryOut 125 = .ok (.getfield 51, 3) := by decide +kernel
theorem dX11_carryOut_128 : decode cX11_carryOut 128 = .ok (.iconst 2, 1) := by decide +kernel
theorem dX11_carryOut_129 : decode cX11_carryOut 129 = .ok (.invokevirtual 310, 3) := by decide +kernel
theorem dX11_carryOut_132 : decode cX11_carryOut 132 = .ok (.invokevirtual 139, 3) := by decide +kernel
theorem dX11_carryOut_135 : decode cX11_carryOut 135 = .ok (.ifCond .eq 7, 3) := by decide +kernel
theorem dX11_carryOut_138 : decode cX11_carryOut 138 = .ok (.iconst 1, 1) := by decide +kernel
theorem dX11_carryOut_139 : decode cX11_carryOut 139 = .ok (.goto 4, 3) := by decide +kernel
theorem dX11_carryOut_142 : decode cX11_carryOut 142 = .ok (.iconst 0, 1) := by decide +kernel
theorem dX11_carryOut_143 : decode cX11_carryOut 143 = .ok (.ireturn, 1) := by decide +kernel
theorem dX11_tellsPins_0 : decode cX11_tellsPins 0 = .ok (.aload_n 1, 1) := by decide +kernel
theorem dX11_tellsPins_1 : decode cX11_tellsPins 1 = .ok (.getfield 222, 3) := by decide +kernel
theorem dX11_tellsPins_4 : decode cX11_tellsPins 4 = .ok (.iconst 3, 1) := by decide +kernel
theorem dX11_tellsPins_5 : decode cX11_tellsPins 5 = .ok (.irem, 1) := by decide +kernel
theorem dX11_tellsPins_6 : decode cX11_tellsPins 6 = .ok (.ifCond .ne 12, 3) := by decide +kernel
theorem dX11_tellsPins_9 : decode cX11_tellsPins 9 = .ok (.aload_n 1, 1) := by decide +kernel
theorem dX11_tellsPins_10 : decode cX11_tellsPins 10 = .ok (.getfield 222, 3) := by decide +kernel
theorem dX11_tellsPins_13 : decode cX11_tellsPins 13 = .ok (.bipush 18, 2) := by decide +kernel
theorem dX11_tellsPins_15 : decode cX11_tellsPins 15 = .ok (.if_icmp .le 5, 3) := by decide +kernel
theorem dX11_tellsPins_18 : decode cX11_tellsPins 18 = .ok (.iconst 0, 1) := by decide +kernel
theorem dX11_tellsPins_19 : decode cX11_tellsPins 19 = .ok (.ireturn, 1) := by decide +kernel
theorem dX11_tellsPins_20 : decode cX11_tellsPins 20 = .ok (.iconst 0, 1) := by decide +kernel
theorem dX11_tellsPins_21 : decode cX11_tellsPins 21 = .ok (.istore_n 2, 1) := by decide +kernel
theorem dX11_tellsPins_22 : decode cX11_tellsPins 22 = .ok (.iload_n 2, 1) := by decide +kernel
theorem dX11_tellsPins_23 : decode cX11_tellsPins 23 = .ok (.aload_n 1, 1) := by decide +kernel
theorem dX11_tellsPins_24 : decode cX11_tellsPins 24 = .ok (.getfield 222, 3) := by decide +kernel
theorem dX11_tellsPins_27 : decode cX11_tellsPins 27 = .ok (.if_icmp .ge 68, 3) := by decide +kernel
theorem dX11_tellsPins_30 : decode cX11_tellsPins 30 = .ok (.aload_n 1, 1) := by decide +kernel
theorem dX11_tellsPins_31 : decode cX11_tellsPins 31 = .ok (.iload_n 2, 1) := by decide +kernel
theorem dX11_tellsPins_32 : decode cX11_tellsPins 32 = .ok (.invokevirtual 225, 3) := by decide +kernel
theorem dX11_tellsPins_35 : decode cX11_tellsPins 35 = .ok (.iconst 0, 1) := by decide +kernel
theorem dX11_tellsPins_36 : decode cX11_tellsPins 36 = .ok (.bipush 7, 2) := by decide +kernel
theorem dX11_tellsPins_38 : decode cX11_tellsPins 38 = .ok (.invokestatic 108, 3) := by decide +kernel
theorem dX11_tellsPins_41 : decode cX11_tellsPins 41 = .ok (.ifCond .eq 23, 3) := by decide +kernel
theorem dX11_tellsPins_44 : decode cX11_tellsPins 44 = .ok (.aload_n 1, 1) := by decide +kernel
theorem dX11_tellsPins_45 : decode cX11_tellsPins 45 = .ok (.iload_n 2, 1) := by decide +kernel
theorem dX11_tellsPins_46 : decode cX11_tellsPins 46 = .ok (.iconst 1, 1) := by decide +kernel
theorem dX11_tellsPins_47 : decode cX11_tellsPins 47 = .ok (.iadd, 1) := by decide +kernel
theorem dX11_tellsPins_48 : decode cX11_tellsPins 48 = .ok (.invokevirtual 225, 3) := by decide +kernel
theorem dX11_tellsPins_51 : decode cX11_tellsPins 51 = .ok (.iconst 0, 1) := by decide +kernel
theorem dX11_tellsPins_52 : decode cX11_tellsPins 52 = .ok (.bipush 9, 2) := by decide +kernel
theorem dX11_tellsPins_54 : decode cX11_tellsPins 54 = .ok (.invokestatic 108, 3) := by decide +kernel
theorem dX11_tellsPins_57 : decode cX11_tellsPins 57 = .ok (.ifCond .eq 7, 3) := by decide +kernel
theorem dX11_tellsPins_60 : decode cX11_tellsPins 60 = .ok (.iconst 1, 1) := by decide +kernel
theorem dX11_tellsPins_61 : decode cX11_tellsPins 61 = .ok (.goto 4, 3) := by decide +kernel
theorem dX11_tellsPins_64 : decode cX11_tellsPins 64 = .ok (.iconst 0, 1) := by decide +kernel
theorem dX11_tellsPins_65 : decode cX11_tellsPins 65 = .ok (.istore_n 3, 1) := by decide +kernel
theorem dX11_tellsPins_66 : decode cX11_tellsPins 66 = .ok (.iload_n 3, 1) := by decide +kernel
theorem dX11_tellsPins_67 : decode cX11_tellsPins 67 = .ok (.ifCond .eq 20, 3) := by decide +kernel
theorem dX11_tellsPins_70 : decode cX11_tellsPins 70 = .ok (.aload_n 0, 1) := by decide +kernel
theorem dX11_tellsPins_71 : decode cX11_tellsPins 71 = .ok (.getfield 10, 3) := by decide +kernel
theorem dX11_tellsPins_74 : decode cX11_tellsPins 74 = .ok (.aload_n 1, 1) := by decide +kernel
theorem dX11_tellsPins_75 : decode cX11_tellsPins 75 = .ok (.iload_n 2, 1) := by decide +kernel
theorem dX11_tellsPins_76 : decode cX11_tellsPins 76 = .ok (.iconst 2, 1) := by decide +kernel
theorem dX11_tellsPins_77 : decode cX11_tellsPins 77 = .ok (.iadd, 1) := by decide +kernel
theorem dX11_tellsPins_78 : decode cX11_tellsPins 78 = .ok (.invokevirtual 225, 3) := by decide +kernel
theorem dX11_tellsPins_81 : decode cX11_tellsPins 81 = .ok (.invokevirtual 104, 3) := by decide +kernel
theorem dX11_tellsPins_84 : decode cX11_tellsPins 84 = .ok (.ifCond .ne 5, 3) := by decide +kernel
theorem dX11_tellsPins_87 : decode cX11_tellsPins 87 = .ok (.iconst 0, 1) := by decide +kernel
theorem dX11_tellsPins_88 : decode cX11_tellsPins 88 = .ok (.ireturn, 1) := by decide +kernel
theorem dX11_tellsPins_89 : decode cX11_tellsPins 89 = .ok (.iinc 2 3, 3) := by decide +kernel
theorem dX11_tellsPins_92 : decode cX11_tellsPins 92 = .ok (.goto (-70), 3) := by decide +kernel
theorem dX11_tellsPins_95 : decode cX11_tellsPins 95 = .ok (.iconst 1, 1) := by decide +kernel
theorem dX11_tellsPins_96 : decode cX11_tellsPins 96 = .ok (.ireturn, 1) := by decide +kernel
theorem dX11_pinsIn_0 : decode cX11_pinsIn 0 = .ok (.aload_n 0, 1) := by decide +kernel
theorem dX11_pinsIn_1 : decode cX11_pinsIn 1 = .ok (.getfield 222, 3) := by decide +kernel
theorem dX11_pinsIn_4 : decode cX11_pinsIn 4 = .ok (.iconst 3, 1) := by decide +kernel
theorem dX11_pinsIn_5 : decode cX11_pinsIn 5 = .ok (.idiv, 1) := by decide +kernel
theorem dX11_pinsIn_6 : decode cX11_pinsIn 6 = .ok (.ireturn, 1) := by decide +kernel
theorem dX11_sewPinOfRow_0 : decode cX11_sewPinOfRow 0 = .ok (.aload_n 1, 1) := by decide +kernel
theorem dX11_sewPinOfRow_1 : decode cX11_sewPinOfRow 1 = .ok (.aload_n 0, 1) := by decide +kernel
theorem dX11_sewPinOfRow_2 : decode cX11_sewPinOfRow 2 = .ok (.aload_n 2, 1) := by decide +kernel
theorem dX11_sewPinOfRow_3 : decode cX11_sewPinOfRow 3 = .ok (.iconst 3, 1) := by decide +kernel
theorem dX11_sewPinOfRow_4 : decode cX11_sewPinOfRow 4 = .ok (.iload_n 3, 1) := by decide +kernel
theorem dX11_sewPinOfRow_5 : decode cX11_sewPinOfRow 5 = .ok (.imul, 1) := by decide +kernel
theorem dX11_sewPinOfRow_6 : decode cX11_sewPinOfRow 6 = .ok (.invokevirtual 225, 3) := by decide +kernel
theorem dX11_sewPinOfRow_9 : decode cX11_sewPinOfRow 9 = .ok (.invokevirtual 128, 3) := by decide +kernel
theorem dX11_sewPinOfRow_12 : decode cX11_sewPinOfRow 12 = .ok (.aload_n 2, 1) := by decide +kernel
theorem dX11_sewPinOfRow_13 : decode cX11_sewPinOfRow 13 = .ok (.iconst 3, 1) := by decide +kernel
theorem dX11_sewPinOfRow_14 : decode cX11_sewPinOfRow 14 = .ok (.iload_n 3, 1) := by decide +kernel
theorem dX11_sewPinOfRow_15 : decode cX11_sewPinOfRow 15 = .ok (.imul, 1) := by decide +kernel
theorem dX11_sewPinOfRow_16 : decode cX11_sewPinOfRow 16 = .ok (.iconst 1, 1) := by decide +kernel
theorem dX11_sewPinOfRow_17 : decode cX11_sewPinOfRow 17 = .ok (.iadd, 1) := by decide +kernel
theorem dX11_sewPinOfRow_18 : decode cX11_sewPinOfRow 18 = .ok (.invokevirtual 225, 3) := by decide +kernel
theorem dX11_sewPinOfRow_21 : decode cX11_sewPinOfRow 21 = .ok (.aload_n 2, 1) := by decide +kernel
theorem dX11_sewPinOfRow_22 : decode cX11_sewPinOfRow 22 = .ok (.iconst 3, 1) := by decide +kernel
theorem dX11_sewPinOfRow_23 : decode cX11_sewPinOfRow 23 = .ok (.iload_n 3, 1) := by decide +kernel
theorem dX11_sewPinOfRow_24 : decode cX11_sewPinOfRow 24 = .ok (.imul, 1) := by decide +kernel
theorem dX11_sewPinOfRow_25 : decode cX11_sewPinOfRow 25 = .ok (.iconst 2, 1) := by decide +kernel
theorem dX11_sewPinOfRow_26 : decode cX11_sewPinOfRow 26 = .ok (.iadd, 1) := by decide +kernel
theorem dX11_sewPinOfRow_27 : decode cX11_sewPinOfRow 27 = .ok (.invokevirtual 225, 3) := by decide +kernel
theorem dX11_sewPinOfRow_30 : decode cX11_sewPinOfRow 30 = .ok (.invokevirtual 139, 3) := by decide +kernel
theorem dX11_sewPinOfRow_33 : decode cX11_sewPinOfRow 33 = .ok (.ireturn, 1) := by decide +kernel
theorem dX11_sewSetInMind_0 : decode cX11_sewSetInMind 0 = .ok (.aload_n 1, 1) := by decide +kernel
theorem dX11_sewSetInMind_1 : decode cX11_sewSetInMind 1 = .ok (.invokestatic 162, 3) := by decide +kernel
theorem dX11_sewSetInMind_4 : decode cX11_sewSetInMind 4 = .ok (.istore_n 3, 1) := by decide +kernel
theorem dX11_sewSetInMind_5 : decode cX11_sewSetInMind 5 = .ok (.aload_n 0, 1) := by decide +kernel
theorem dX11_sewSetInMind_6 : decode cX11_sewSetInMind 6 = .ok (.getfield 19, 3) := by decide +kernel
theorem dX11_sewSetInMind_9 : decode cX11_sewSetInMind 9 = .ok (.aload_n 0, 1) := by decide +kernel
theorem dX11_sewSetInMind_10 : decode cX11_sewSetInMind 10 = .ok (.getfield 10, 3) := by decide +kernel
theorem dX11_sewSetInMind_13 : decode cX11_sewSetInMind 13 = .ok (.invokevirtual 88, 3) := by decide +kernel
theorem dX11_sewSetInMind_16 : decode cX11_sewSetInMind 16 = .ok (.iconst 0, 1) := by decide +kernel
theorem dX11_sewSetInMind_17 : decode cX11_sewSetInMind 17 = .ok (.istore 4, 2) := by decide +kernel
theorem dX11_sewSetInMind_19 : decode cX11_sewSetInMind 19 = .ok (.iload 4, 2) := by decide +kernel
theorem dX11_sewSetInMind_21 : decode cX11_sewSetInMind 21 = .ok (.iload_n 3, 1) := by decide +kernel
theorem dX11_sewSetInMind_22 : decode cX11_sewSetInMind 22 = .ok (.if_icmp .ge 34, 3) := by decide +kernel
theorem dX11_sewSetInMind_25 : decode cX11_sewSetInMind 25 = .ok (.iload_n 2, 1) := by decide +kernel
theorem dX11_sewSetInMind_26 : decode cX11_sewSetInMind 26 = .ok (.iload 4, 2) := by decide +kernel
theorem dX11_sewSetInMind_28 : decode cX11_sewSetInMind 28 = .ok (.ishr, 1) := by decide +kernel
theorem dX11_sewSetInMind_29 : decode cX11_sewSetInMind 29 = .ok (.iconst 1, 1) := by decide +kernel
theorem dX11_sewSetInMind_30 : decode cX11_sewSetInMind 30 = .ok (.iand, 1) := by decide +kernel
theorem dX11_sewSetInMind_31 : decode cX11_sewSetInMind 31 = .ok (.ifCond .eq 19, 3) := by decide +kernel
theorem dX11_sewSetInMind_34 : decode cX11_sewSetInMind 34 = .ok (.aload_n 0, 1) := by decide +kernel
theorem dX11_sewSetInMind_35 : decode cX11_sewSetInMind 35 = .ok (.aload_n 0, 1) := by decide +kernel
theorem dX11_sewSetInMind_36 : decode cX11_sewSetInMind 36 = .ok (.getfield 19, 3) := by decide +kernel
theorem dX11_sewSetInMind_39 : decode cX11_sewSetInMind 39 = .ok (.aload_n 1, 1) := by decide +kernel
theorem dX11_sewSetInMind_40 : decode cX11_sewSetInMind 40 = .ok (.iload 4, 2) := by decide +kernel
theorem dX11_sewSetInMind_42 : decode cX11_sewSetInMind 42 = .ok (.invokevirtual 173, 3) := by decide +kernel
theorem dX11_sewSetInMind_45 : decode cX11_sewSetInMind 45 = .ok (.ifCond .ne 5, 3) := by decide +kernel
theorem dX11_sewSetInMind_48 : decode cX11_sewSetInMind 48 = .ok (.iconst 0, 1) := by decide +kernel
theorem dX11_sewSetInMind_49 : decode cX11_sewSetInMind 49 = .ok (.ireturn, 1) := by decide +kernel
theorem dX11_sewSetInMind_50 : decode cX11_sewSetInMind 50 = .ok (.iinc 4 1, 3) := by decide +kernel
theorem dX11_sewSetInMind_53 : decode cX11_sewSetInMind 53 = .ok (.goto (-34), 3) := by decide +kernel
theorem dX11_sewSetInMind_56 : decode cX11_sewSetInMind 56 = .ok (.iconst 1, 1) := by decide +kernel
theorem dX11_sewSetInMind_57 : decode cX11_sewSetInMind 57 = .ok (.ireturn, 1) := by decide +kernel
theorem dX11_costOfSet_0 : decode cX11_costOfSet 0 = .ok (.aload_n 1, 1) := by decide +kernel
theorem dX11_costOfSet_1 : decode cX11_costOfSet 1 = .ok (.invokestatic 162, 3) := by decide +kernel
theorem dX11_costOfSet_4 : decode cX11_costOfSet 4 = .ok (.istore_n 3, 1) := by decide +kernel
theorem dX11_costOfSet_5 : decode cX11_costOfSet 5 = .ok (.iconst 0, 1) := by decide +kernel
theorem dX11_costOfSet_6 : decode cX11_costOfSet 6 = .ok (.istore 4, 2) := by decide +kernel
theorem dX11_costOfSet_8 : decode cX11_costOfSet 8 = .ok (.iconst 0, 1) := by decide +kernel
theorem dX11_costOfSet_9 : decode cX11_costOfSet 9 = .ok (.istore 5, 2) := by decide +kernel
theorem dX11_costOfSet_11 : decode cX11_costOfSet 11 = .ok (.iload 5, 2) := by decide +kernel
theorem dX11_costOfSet_13 : decode cX11_costOfSet 13 = .ok (.iload_n 3, 1) := by decide +kernel
theorem dX11_costOfSet_14 : decode cX11_costOfSet 14 = .ok (.if_icmp .ge 48, 3) := by decide +kernel
theorem dX11_costOfSet_17 : decode cX11_costOfSet 17 = .ok (.iload_n 2, 1) := by decide +kernel
theorem dX11_costOfSet_18 : decode cX11_costOfSet 18 = .ok (.iload 5, 2) := by decide +kernel
theorem dX11_costOfSet_20 : decode cX11_costOfSet 20 = .ok (.ishr, 1) := by decide +kernel
theorem dX11_costOfSet_21 : decode cX11_costOfSet 21 = .ok (.iconst 1, 1) := by decide +kernel
theorem dX11_costOfSet_22 : decode cX11_costOfSet 22 = .ok (.iand, 1) := by decide +kernel
theorem dX11_costOfSet_23 : decode cX11_costOfSet 23 = .ok (.ifCond .eq 33, 3) := by decide +kernel
theorem dX11_costOfSet_26 : decode cX11_costOfSet 26 = .ok (.iload 4, 2) := by decide +kernel
theorem dX11_costOfSet_28 : decode cX11_costOfSet 28 = .ok (.aload_n 0, 1) := by decide +kernel
theorem dX11_costOfSet_29 : decode cX11_costOfSet 29 = .ok (.aload_n 1, 1) := by decide +kernel
theorem dX11_costOfSet_30 : decode cX11_costOfSet 30 = .ok (.iconst 3, 1) := by decide +kernel
theorem dX11_costOfSet_31 : decode cX11_costOfSet 31 = .ok (.iload 5, 2) := by decide +kernel
theorem dX11_costOfSet_33 : decode cX11_costOfSet 33 = .ok (.imul, 1) := by decide +kernel
theorem dX11_costOfSet_34 : decode cX11_costOfSet 34 = .ok (.invokevirtual 225, 3) := by decide +kernel
theorem dX11_costOfSet_37 : decode cX11_costOfSet 37 = .ok (.invokevirtual 128, 3) := by decide +kernel
theorem dX11_costOfSet_40 : decode cX11_costOfSet 40 = .ok (.aload_n 1, 1) := by decide +kernel
theorem dX11_costOfSet_41 : decode cX11_costOfSet 41 = .ok (.iconst 3, 1) := by decide +kernel
theorem dX11_costOfSet_42 : decode cX11_costOfSet 42 = .ok (.iload 5, 2) := by decide +kernel
theorem dX11_costOfSet_44 : decode cX11_costOfSet 44 = .ok (.imul, 1) := by decide +kernel
theorem dX11_costOfSet_45 : decode cX11_costOfSet 45 = .ok (.iconst 1, 1) := by decide +kernel
theorem dX11_costOfSet_46 : decode cX11_costOfSet 46 = .ok (.iadd, 1) := by decide +kernel
theorem dX11_costOfSet_47 : decode cX11_costOfSet 47 = .ok (.invokevirtual 225, 3) := by decide +kernel
theorem dX11_costOfSet_50 : decode cX11_costOfSet 50 = .ok (.invokevirtual 156, 3) := by decide +kernel
theorem dX11_costOfSet_53 : decode cX11_costOfSet 53 = .ok (.iadd, 1) := by decide +kernel
theorem dX11_costOfSet_54 : decode cX11_costOfSet 54 = .ok (.istore 4, 2) := by decide +kernel
theorem dX11_costOfSet_56 : decode cX11_costOfSet 56 = .ok (.iinc 5 1, 3) := by decide +kernel
theorem dX11_costOfSet_59 : decode cX11_costOfSet 59 = .ok (.goto (-48), 3) := by decide +kernel
theorem dX11_costOfSet_62 : decode cX11_costOfSet 62 = .ok (.iload 4, 2) := by decide +kernel
theorem dX11_costOfSet_64 : decode cX11_costOfSet 64 = .ok (.ireturn, 1) := by decide +kernel
theorem dX11_walkOrders_0 : decode cX11_walkOrders 0 = .ok (.aload_n 0, 1) := by decide +kernel
theorem dX11_walkOrders_1 : decode cX11_walkOrders 1 = .ok (.iload_n 3, 1) := by decide +kernel
theorem dX11_walkOrders_2 : decode cX11_walkOrders 2 = .ok (.invokevirtual 183, 3) := by decide +kernel
theorem dX11_walkOrders_5 : decode cX11_walkOrders 5 = .ok (.astore 4, 2) := by decide +kernel
theorem dX11_walkOrders_7 : decode cX11_walkOrders 7 = .ok (.aload_n 1, 1) := by decide +kernel
theorem dX11_walkOrders_8 : decode cX11_walkOrders 8 = .ok (.invokestatic 162, 3) := by decide +kernel
theorem dX11_walkOrders_11 : decode cX11_walkOrders 11 = .ok (.istore 5, 2) := by decide +kernel
theorem dX11_walkOrders_13 : decode cX11_walkOrders 13 = .ok (.iload_n 3, 1) := by decide +kernel
theorem dX11_walkOrders_14 : decode cX11_walkOrders 14 = .ok (.iload 5, 2) := by decide +kernel
theorem dX11_walkOrders_16 : decode cX11_walkOrders 16 = .ok (.if_icmp .ge 8, 3) := by decide +kernel
theorem dX11_walkOrders_19 : decode cX11_walkOrders 19 = .ok (.iload_n 3, 1) := by decide +kernel
theorem dX11_walkOrders_20 : decode cX11_walkOrders 20 = .ok (.iconst 5, 1) := by decide +kernel
theorem dX11_walkOrders_21 : decode cX11_walkOrders 21 = .ok (.if_icmp .lt 46, 3) := by decide +kernel
theorem dX11_walkOrders_24 : decode cX11_walkOrders 24 = .ok (.aload 4, 2) := by decide +kernel
theorem dX11_walkOrders_26 : decode cX11_walkOrders 26 = .ok (.invokevirtual 142, 3) := by decide +kernel
theorem dX11_walkOrders_29 : decode cX11_walkOrders 29 = .ok (.istore 6, 2) := by decide +kernel
theorem dX11_walkOrders_31 : decode cX11_walkOrders 31 = .ok (.aload_n 0, 1) := by decide +kernel
theorem dX11_walkOrders_32 : decode cX11_walkOrders 32 = .ok (.aload_n 0, 1) := by decide +kernel
theorem dX11_walkOrders_33 : decode cX11_walkOrders 33 = .ok (.getfield 177, 3) := by decide +kernel
theorem dX11_walkOrders_36 : decode cX11_walkOrders 36 = .ok (.ifCond .ne 8, 3) := by decide +kernel
theorem dX11_walkOrders_39 : decode cX11_walkOrders 39 = .ok (.iload 6, 2) := by decide +kernel
theorem dX11_walkOrders_41 : decode cX11_walkOrders 41 = .ok (.goto 12, 3) := by decide +kernel
theorem dX11_walkOrders_44 : decode cX11_walkOrders 44 = .ok (.aload_n 0, 1) := by decide +kernel
theorem dX11_walkOrders_45 : decode cX11_walkOrders 45 = .ok (.getfield 180, 3) := by decide +kernel
theorem dX11_walkOrders_48 : decode cX11_walkOrders 48 = .ok (.iload 6, 2) := by decide +kernel
theorem dX11_walkOrders_50 : decode cX11_walkOrders 50 = .ok (.invokestatic 191, 3) := by decide +kernel
theorem dX11_walkOrders_53 : decode cX11_walkOrders 53 = .ok (.putfield 180, 3) := by decide +kernel
theorem dX11_walkOrders_56 : decode cX11_walkOrders 56 = .ok (.aload_n 0, 1) := by decide +kernel
theorem dX11_walkOrders_57 : decode cX11_walkOrders 57 = .ok (.dup, 1) := by decide +kernel
theorem dX11_walkOrders_58 : decode cX11_walkOrders 58 = .ok (.getfield 177, 3) := by decide +kernel
theorem dX11_walkOrders_61 : decode cX11_walkOrders 61 = .ok (.iconst 1, 1) := by decide +kernel
theorem dX11_walkOrders_62 : decode cX11_walkOrders 62 = .ok (.iadd, 1) := by decide +kernel
theorem dX11_walkOrders_63 : decode cX11_walkOrders 63 = .ok (.putfield 177, 3) := by decide +kernel
theorem dX11_walkOrders_66 : decode cX11_walkOrders 66 = .ok (.return_, 1) := by decide +kernel
theorem dX11_walkOrders_67 : decode cX11_walkOrders 67 = .ok (.aload_n 0, 1) := by decide +kernel
theorem dX11_walkOrders_68 : decode cX11_walkOrders 68 = .ok (.iload_n 3, 1) := by decide +kernel
theorem dX11_walkOrders_69 : decode cX11_walkOrders 69 = .ok (.iconst 1, 1) := by decide +kernel
theorem dX11_walkOrders_70 : decode cX11_walkOrders 70 = .ok (.iadd, 1) := by decide +kernel
theorem dX11_walkOrders_71 : decode cX11_walkOrders 71 = .ok (.invokevirtual 183, 3) := by decide +kernel
theorem dX11_walkOrders_74 : decode cX11_walkOrders 74 = .ok (.astore 6, 2) := by decide +kernel
theorem dX11_walkOrders_76 : decode cX11_walkOrders 76 = .ok (.iconst 0, 1) := by decide +kernel
theorem dX11_walkOrders_77 : decode cX11_walkOrders 77 = .ok (.istore 7, 2) := by decide +kernel
theorem dX11_walkOrders_79 : decode cX11_walkOrders 79 = .ok (.iload 7, 2) := by decide +kernel
theorem dX11_walkOrders_81 : decode cX11_walkOrders 81 = .ok (.iload 5, 2) := by decide +kernel
theorem dX11_walkOrders_83 : decode cX11_walkOrders 83 = .ok (.if_icmp .ge 54, 3) := by decide +kernel
theorem dX11_walkOrders_86 : decode cX11_walkOrders 86 = .ok (.iload_n 2, 1) := by decide +kernel
theorem dX11_walkOrders_87 : decode cX11_walkOrders 87 = .ok (.iload 7, 2) := by decide +kernel
theorem dX11_walkOrders_89 : decode cX11_walkOrders 89 = .ok (.ishr, 1) := by decide +kernel
theorem dX11_walkOrders_90 : decode cX11_walkOrders 90 = .ok (.iconst 1, 1) := by decide +kernel
theorem dX11_walkOrders_91 : decode cX11_walkOrders 91 = .ok (.iand, 1) := by decide +kernel
theorem dX11_walkOrders_92 : decode cX11_walkOrders 92 = .ok (.ifCond .eq 6, 3) := by decide +kernel
theorem dX11_walkOrders_95 : decode cX11_walkOrders 95 = .ok (.goto 36, 3) := by decide +kernel
theorem dX11_walkOrders_98 : decode cX11_walkOrders 98 = .ok (.aload 6, 2) := by decide +kernel
theorem dX11_walkOrders_100 : decode cX11_walkOrders 100 = .ok (.aload 4, 2) := by decide +kernel
theorem dX11_walkOrders_102 : decode cX11_walkOrders 102 = .ok (.invokevirtual 88, 3) := by decide +kernel
theorem dX11_walkOrders_105 : decode cX11_walkOrders 105 = .ok (.aload_n 0, 1) := by decide +kernel
theorem dX11_walkOrders_106 : decode cX11_walkOrders 106 = .ok (.aload 6, 2) := by decide +kernel
theorem dX11_walkOrders_108 : decode cX11_walkOrders 108 = .ok (.aload_n 1, 1) := by decide +kernel
theorem dX11_walkOrders_109 : decode cX11_walkOrders 109 = .ok (.iload 7, 2) := by decide +kernel
theorem dX11_walkOrders_111 : decode cX11_walkOrders 111 = .ok (.invokevirtual 173, 3) := by decide +kernel
theorem dX11_walkOrders_114 : decode cX11_walkOrders 114 = .ok (.ifCond .eq 17, 3) := by decide +kernel
theorem dX11_walkOrders_117 : decode cX11_walkOrders 117 = .ok (.aload_n 0, 1) := by decide +kernel
theorem dX11_walkOrders_118 : decode cX11_walkOrders 118 = .ok (.aload_n 1, 1) := by decide +kernel
theorem dX11_walkOrders_119 : decode cX11_walkOrders 119 = .ok (.iload_n 2, 1) := by decide +kernel
theorem dX11_walkOrders_120 : decode cX11_walkOrders 120 = .ok (.iconst 1, 1) := by decide +kernel
theorem dX11_walkOrders_121 : decode cX11_walkOrders 121 = .ok (.iload 7, 2) := by decide +kernel
theorem dX11_walkOrders_123 : decode cX11_walkOrders 123 = .ok (.ishl, 1) := by decide +kernel
theorem dX11_walkOrders_124 : decode cX11_walkOrders 124 = .ok (.ior, 1) := by decide +kernel
theorem dX11_walkOrders_125 : decode cX11_walkOrders 125 = .ok (.iload_n 3, 1) := by decide +kernel
theorem dX11_walkOrders_126 : decode cX11_walkOrders 126 = .ok (.iconst 1, 1) := by decide +kernel
theorem dX11_walkOrders_127 : decode cX11_walkOrders 127 = .ok (.iadd, 1) := by decide +kernel
theorem dX11_walkOrders_128 : decode cX11_walkOrders 128 = .ok (.invokevirtual 187, 3) := by decide +kernel
theorem dX11_walkOrders_131 : decode cX11_walkOrders 131 = .ok (.iinc 7 1, 3) := by decide +kernel
theorem dX11_walkOrders_134 : decode cX11_walkOrders 134 = .ok (.goto (-55), 3) := by decide +kernel
theorem dX11_walkOrders_137 : decode cX11_walkOrders 137 = .ok (.return_, 1) := by decide +kernel
theorem dX11_fitting_0 : decode cX11_fitting 0 = .ok (.iconst 0, 1) := by decide +kernel
theorem dX11_fitting_1 : decode cX11_fitting 1 = .ok (.istore_n 2, 1) := by decide +kernel
theorem dX11_fitting_2 : decode cX11_fitting 2 = .ok (.iconst 0, 1) := by decide +kernel
theorem dX11_fitting_3 : decode cX11_fitting 3 = .ok (.istore_n 3, 1) := by decide +kernel
theorem dX11_fitting_4 : decode cX11_fitting 4 = .ok (.iload_n 3, 1) := by decide +kernel
theorem dX11_fitting_5 : decode cX11_fitting 5 = .ok (.aload_n 0, 1) := by decide +kernel
theorem dX11_fitting_6 : decode cX11_fitting 6 = .ok (.getfield 10, 3) := by decide +kernel
theorem dX11_fitting_9 : decode cX11_fitting 9 = .ok (.getfield 153, 3) := by decide +kernel
theorem dX11_fitting_12 : decode cX11_fitting 12 = .ok (.if_icmp .ge 27, 3) := by decide +kernel
theorem dX11_fitting_15 : decode cX11_fitting 15 = .ok (.aload_n 0, 1) := by decide +kernel
theorem dX11_fitting_16 : decode cX11_fitting 16 = .ok (.getfield 10, 3) := by decide +kernel
theorem dX11_fitting_19 : decode cX11_fitting 19 = .ok (.iload_n 3, 1) := by decide +kernel
theorem dX11_fitting_20 : decode cX11_fitting 20 = .ok (.iload_n 1, 1) := by decide +kernel
theorem dX11_fitting_21 : decode cX11_fitting 21 = .ok (.invokevirtual 320, 3) := by decide +kernel
theorem dX11_fitting_24 : decode cX11_fitting 24 = .ok (.ifCond .eq 9, 3) := by decide +kernel
theorem dX11_fitting_27 : decode cX11_fitting 27 = .ok (.iload_n 2, 1) := by decide +kernel
theorem dX11_fitting_28 : decode cX11_fitting 28 = .ok (.iconst 1, 1) := by decide +kernel
theorem dX11_fitting_29 : decode cX11_fitting 29 = .ok (.iload_n 3, 1) := by decide +kernel
theorem dX11_fitting_30 : decode cX11_fitting 30 = .ok (.ishl, 1) := by decide +kernel
theorem dX11_fitting_31 : decode cX11_fitting 31 = .ok (.ior, 1) := by decide +kernel
theorem dX11_fitting_32 : decode cX11_fitting 32 = .ok (.istore_n 2, 1) := by decide +kernel
theorem dX11_fitting_33 : decode cX11_fitting 33 = .ok (.iinc 3 1, 3) := by decide +kernel
theorem dX11_fitting_36 : decode cX11_fitting 36 = .ok (.goto (-32), 3) := by decide +kernel
theorem dX11_fitting_39 : decode cX11_fitting 39 = .ok (.iload_n 2, 1) := by decide +kernel
theorem dX11_fitting_40 : decode cX11_fitting 40 = .ok (.ireturn, 1) := by decide +kernel
theorem dX11_tellsMeasures_0 : decode cX11_tellsMeasures 0 = .ok (.aload_n 1, 1) := by decide +kernel
theorem dX11_tellsMeasures_1 : decode cX11_tellsMeasures 1 = .ok (.getfield 222, 3) := by decide +kernel
theorem dX11_tellsMeasures_4 : decode cX11_tellsMeasures 4 = .ok (.iconst 3, 1) := by decide +kernel
theorem dX11_tellsMeasures_5 : decode cX11_tellsMeasures 5 = .ok (.irem, 1) := by decide +kernel
theorem dX11_tellsMeasures_6 : decode cX11_tellsMeasures 6 = .ok (.ifCond .eq 5, 3) := by decide +kernel
theorem dX11_tellsMeasures_9 : decode cX11_tellsMeasures 9 = .ok (.iconst 0, 1) := by decide +kernel
theorem dX11_tellsMeasures_10 : decode cX11_tellsMeasures 10 = .ok (.ireturn, 1) := by decide +kernel
theorem dX11_tellsMeasures_11 : decode cX11_tellsMeasures 11 = .ok (.iconst 0, 1) := by decide +kernel
theorem dX11_tellsMeasures_12 : decode cX11_tellsMeasures 12 = .ok (.istore_n 2, 1) := by decide +kernel
theorem dX11_tellsMeasures_13 : decode cX11_tellsMeasures 13 = .ok (.iload_n 2, 1) := by decide +kernel
theorem dX11_tellsMeasures_14 : decode cX11_tellsMeasures 14 = .ok (.aload_n 1, 1) := by decide +kernel
theorem dX11_tellsMeasures_15 : decode cX11_tellsMeasures 15 = .ok (.getfield 222, 3) := by decide +kernel
theorem dX11_tellsMeasures_18 : decode cX11_tellsMeasures 18 = .ok (.if_icmp .ge 55, 3) := by decide +kernel
theorem dX11_tellsMeasures_21 : decode cX11_tellsMeasures 21 = .ok (.aload_n 1, 1) := by decide +kernel
theorem dX11_tellsMeasures_22 : decode cX11_tellsMeasures 22 = .ok (.iload_n 2, 1) := by decide +kernel
theorem dX11_tellsMeasures_23 : decode cX11_tellsMeasures 23 = .ok (.invokevirtual 225, 3) := by decide +kernel
theorem dX11_tellsMeasures_26 : decode cX11_tellsMeasures 26 = .ok (.istore_n 3, 1) := by decide +kernel
theorem dX11_tellsMeasures_27 : decode cX11_tellsMeasures 27 = .ok (.aload_n 1, 1) := by decide +kernel
theorem dX11_tellsMeasures_28 : decode cX11_tellsMeasures 28 = .ok (.iload_n 2, 1) := by decide +kernel
theorem dX11_tellsMeasures_29 : decode cX11_tellsMeasures 29 = .ok (.iconst 1, 1) := by decide +kernel
theorem dX11_tellsMeasures_30 : decode cX11_tellsMeasures 30 = .ok (.iadd, 1) := by decide +kernel
theorem dX11_tellsMeasures_31 : decode cX11_tellsMeasures 31 = .ok (.invokevirtual 225, 3) := by decide +kernel
theorem dX11_tellsMeasures_34 : decode cX11_tellsMeasures 34 = .ok (.istore 4, 2) := by decide +kernel
theorem dX11_tellsMeasures_36 : decode cX11_tellsMeasures 36 = .ok (.aload_n 0, 1) := by decide +kernel
theorem dX11_tellsMeasures_37 : decode cX11_tellsMeasures 37 = .ok (.getfield 10, 3) := by decide +kernel
theorem dX11_tellsMeasures_40 : decode cX11_tellsMeasures 40 = .ok (.iload_n 3, 1) := by decide +kernel
theorem dX11_tellsMeasures_41 : decode cX11_tellsMeasures 41 = .ok (.invokevirtual 104, 3) := by decide +kernel
theorem dX11_tellsMeasures_44 : decode cX11_tellsMeasures 44 = .ok (.ifCond .eq 21, 3) := by decide +kernel
theorem dX11_tellsMeasures_47 : decode cX11_tellsMeasures 47 = .ok (.aload_n 0, 1) := by decide +kernel
theorem dX11_tellsMeasures_48 : decode cX11_tellsMeasures 48 = .ok (.getfield 10, 3) := by decide +kernel
theorem dX11_tellsMeasures_51 : decode cX11_tellsMeasures 51 = .ok (.iload 4, 2) := by decide +kernel
theorem dX11_tellsMeasures_53 : decode cX11_tellsMeasures 53 = .ok (.invokevirtual 104, 3) := by decide +kernel
theorem dX11_tellsMeasures_56 : decode cX11_tellsMeasures 56 = .ok (.ifCond .eq 9, 3) := by decide +kernel
theorem dX11_tellsMeasures_59 : decode cX11_tellsMeasures 59 = .ok (.iload_n 3, 1) := by decide +kernel
theorem dX11_tellsMeasures_60 : decode cX11_tellsMeasures 60 = .ok (.iload 4, 2) := by decide +kernel
theorem dX11_tellsMeasures_62 : decode cX11_tellsMeasures 62 = .ok (.if_icmp .ne 5, 3) := by decide +kernel
theorem dX11_tellsMeasures_65 : decode cX11_tellsMeasures 65 = .ok (.iconst 0, 1) := by decide +kernel
theorem dX11_tellsMeasures_66 : decode cX11_tellsMeasures 66 = .ok (.ireturn, 1) := by decide +kernel
theorem dX11_tellsMeasures_67 : decode cX11_tellsMeasures 67 = .ok (.iinc 2 3, 3) := by decide +kernel
theorem dX11_tellsMeasures_70 : decode cX11_tellsMeasures 70 = .ok (.goto (-57), 3) := by decide +kernel
theorem dX11_tellsMeasures_73 : decode cX11_tellsMeasures 73 = .ok (.iconst 1, 1) := by decide +kernel
theorem dX11_tellsMeasures_74 : decode cX11_tellsMeasures 74 = .ok (.ireturn, 1) := by decide +kernel
theorem dX11_isWrongMeasure_0 : decode cX11_isWrongMeasure 0 = .ok (.aload_n 0, 1) := by decide +kernel
theorem dX11_isWrongMeasure_1 : decode cX11_isWrongMeasure 1 = .ok (.getfield 10, 3) := by decide +kernel
theorem dX11_isWrongMeasure_4 : decode cX11_isWrongMeasure 4 = .ok (.aload_n 1, 1) := by decide +kernel
theorem dX11_isWrongMeasure_5 : decode cX11_isWrongMeasure 5 = .ok (.iload_n 2, 1) := by decide +kernel
theorem dX11_isWrongMeasure_6 : decode cX11_isWrongMeasure 6 = .ok (.invokevirtual 225, 3) := by decide +kernel
theorem dX11_isWrongMeasure_9 : decode cX11_isWrongMeasure 9 = .ok (.iconst 0, 1) := by decide +kernel
theorem dX11_isWrongMeasure_10 : decode cX11_isWrongMeasure 10 = .ok (.invokevirtual 112, 3) := by decide +kernel
theorem dX11_isWrongMeasure_13 : decode cX11_isWrongMeasure 13 = .ok (.aload_n 0, 1) := by decide +kernel
theorem dX11_isWrongMeasure_14 : decode cX11_isWrongMeasure 14 = .ok (.getfield 10, 3) := by decide +kernel
theorem dX11_isWrongMeasure_17 : decode cX11_isWrongMeasure 17 = .ok (.aload_n 1, 1) := by decide +kernel
theorem dX11_isWrongMeasure_18 : decode cX11_isWrongMeasure 18 = .ok (.iload_n 2, 1) := by decide +kernel
theorem dX11_isWrongMeasure_19 : decode cX11_isWrongMeasure 19 = .ok (.iconst 1, 1) := by decide +kernel
theorem dX11_isWrongMeasure_20 : decode cX11_isWrongMeasure 20 = .ok (.iadd, 1) := by decide +kernel
theorem dX11_isWrongMeasure_21 : decode cX11_isWrongMeasure 21 = .ok (.invokevirtual 225, 3) := by decide +kernel
theorem dX11_isWrongMeasure_24 : decode cX11_isWrongMeasure 24 = .ok (.iconst 0, 1) := by decide +kernel
theorem dX11_isWrongMeasure_25 : decode cX11_isWrongMeasure 25 = .ok (.invokevirtual 112, 3) := by decide +kernel
theorem dX11_isWrongMeasure_28 : decode cX11_isWrongMeasure 28 = .ok (.isub, 1) := by decide +kernel
theorem dX11_isWrongMeasure_29 : decode cX11_isWrongMeasure 29 = .ok (.aload_n 1, 1) := by decide +kernel
theorem dX11_isWrongMeasure_30 : decode cX11_isWrongMeasure 30 = .ok (.iload_n 2, 1) := by decide +kernel
theorem dX11_isWrongMeasure_31 : decode cX11_isWrongMeasure 31 = .ok (.iconst 2, 1) := by decide +kernel
theorem dX11_isWrongMeasure_32 : decode cX11_isWrongMeasure 32 = .ok (.iadd, 1) := by decide +kernel
theorem dX11_isWrongMeasure_33 : decode cX11_isWrongMeasure 33 = .ok (.invokevirtual 225, 3) := by decide +kernel
theorem dX11_isWrongMeasure_36 : decode cX11_isWrongMeasure 36 = .ok (.if_icmp .eq 7, 3) := by decide +kernel
theorem dX11_isWrongMeasure_39 : decode cX11_isWrongMeasure 39 = .ok (.iconst 1, 1) := by decide +kernel
theorem dX11_isWrongMeasure_40 : decode cX11_isWrongMeasure 40 = .ok (.goto 4, 3) := by decide +kernel
theorem dX11_isWrongMeasure_43 : decode cX11_isWrongMeasure 43 = .ok (.iconst 0, 1) := by decide +kernel
theorem dX11_isWrongMeasure_44 : decode cX11_isWrongMeasure 44 = .ok (.ireturn, 1) := by decide +kernel
theorem dX11_firstWrongMeasure_0 : decode cX11_firstWrongMeasure 0 = .ok (.iconst 0, 1) := by decide +kernel
theorem dX11_firstWrongMeasure_1 : decode cX11_firstWrongMeasure 1 = .ok (.istore_n 2, 1) := by decide +kernel
theorem dX11_firstWrongMeasure_2 : decode cX11_firstWrongMeasure 2 = .ok (.iload_n 2, 1) := by decide +kernel
theorem dX11_firstWrongMeasure_3 : decode cX11_firstWrongMeasure 3 = .ok (.aload_n 1, 1) := by decide +kernel
theorem dX11_firstWrongMeasure_4 : decode cX11_firstWrongMeasure 4 = .ok (.getfield 222, 3) := by decide +kernel
theorem dX11_firstWrongMeasure_7 : decode cX11_firstWrongMeasure 7 = .ok (.if_icmp .ge 20, 3) := by decide +kernel
theorem dX11_firstWrongMeasure_10 : decode cX11_firstWrongMeasure 10 = .ok (.aload_n 0, 1) := by decide +kernel
theorem dX11_firstWrongMeasure_11 : decode cX11_firstWrongMeasure 11 = .ok (.aload_n 1, 1) := by decide +kernel
theorem dX11_firstWrongMeasure_12 : decode cX11_firstWrongMeasure 12 = .ok (.iload_n 2, 1) := by decide +kernel
theorem dX11_firstWrongMeasure_13 : decode cX11_firstWrongMeasure 13 = .ok (.invokevirtual 323, 3) := by decide +kernel
theorem dX11_firstWrongMeasure_16 : decode cX11_firstWrongMeasure 16 = .ok (.ifCond .eq 5, 3) := by decide +kernel
theorem dX11_firstWrongMeasure_19 : decode cX11_firstWrongMeasure 19 = .ok (.iload_n 2, 1) := by decide +kernel
theorem dX11_firstWrongMeasure_20 : decode cX11_firstWrongMeasure 20 = .ok (.ireturn, 1) := by decide +kernel
theorem dX11_firstWrongMeasure_21 : decode cX11_firstWrongMeasure 21 = .ok (.iinc 2 3, 3) := by decide +kernel
theorem dX11_firstWrongMeasure_24 : decode cX11_firstWrongMeasure 24 = .ok (.goto (-22), 3) := by decide +kernel
theorem dX11_firstWrongMeasure_27 : decode cX11_firstWrongMeasure 27 = .ok (.bipush (-4), 2) := by decide +kernel
theorem dX11_firstWrongMeasure_29 : decode cX11_firstWrongMeasure 29 = .ok (.ireturn, 1) := by decide +kernel
theorem dX11_ringMostWrong_0 : decode cX11_ringMostWrong 0 = .ok (.bipush (-4), 2) := by decide +kernel
theorem dX11_ringMostWrong_2 : decode cX11_ringMostWrong 2 = .ok (.istore_n 2, 1) := by decide +kernel
theorem dX11_ringMostWrong_3 : decode cX11_ringMostWrong 3 = .ok (.iconst 0, 1) := by decide +kernel
theorem dX11_ringMostWrong_4 : decode cX11_ringMostWrong 4 = .ok (.istore_n 3, 1) := by decide +kernel
theorem dX11_ringMostWrong_5 : decode cX11_ringMostWrong 5 = .ok (.iconst 0, 1) := by decide +kernel
theorem dX11_ringMostWrong_6 : decode cX11_ringMostWrong 6 = .ok (.istore 4, 2) := by decide +kernel
theorem dX11_ringMostWrong_8 : decode cX11_ringMostWrong 8 = .ok (.iload 4, 2) := by decide +kernel
theorem dX11_ringMostWrong_10 : decode cX11_ringMostWrong 10 = .ok (.aload_n 0, 1) := by decide +kernel
theorem dX11_ringMostWrong_11 : decode cX11_ringMostWrong 11 = .ok (.getfield 10, 3) := by decide +kernel
theorem dX11_ringMostWrong_14 : decode cX11_ringMostWrong 14 = .ok (.getfield 153, 3) := by decide +kernel
theorem dX11_ringMostWrong_17 : decode cX11_ringMostWrong 17 = .ok (.if_icmp .ge 30, 3) := by decide +kernel
theorem dX11_ringMostWrong_20 : decode cX11_ringMostWrong 20 = .ok (.aload_n 0, 1) := by decide +kernel
theorem dX11_ringMostWrong_21 : decode cX11_ringMostWrong 21 = .ok (.aload_n 1, 1) := by decide +kernel
theorem dX11_ringMostWrong_22 : decode cX11_ringMostWrong 22 = .ok (.iload 4, 2) := by decide +kernel
theorem dX11_ringMostWrong_24 : decode cX11_ringMostWrong 24 = .ok (.invokevirtual 326, 3) := by decide +kernel
theorem dX11_ringMostWrong_27 : decode cX11_ringMostWrong 27 = .ok (.istore 5, 2) := by decide +kernel
theorem dX11_ringMostWrong_29 : decode cX11_ringMostWrong 29 = .ok (.iload 5, 2) := by decide +kernel
theorem dX11_ringMostWrong_31 : decode cX11_ringMostWrong 31 = .ok (.iload_n 3, 1) := by decide +kernel
theorem dX11_ringMostWrong_32 : decode cX11_ringMostWrong 32 = .ok (.if_icmp .le 9, 3) := by decide +kernel
theorem dX11_ringMostWrong_35 : decode cX11_ringMostWrong 35 = .ok (.iload 4, 2) := by decide +kernel
theorem dX11_ringMostWrong_37 : decode cX11_ringMostWrong 37 = .ok (.istore_n 2, 1) := by decide +kernel
theorem dX11_ringMostWrong_38 : decode cX11_ringMostWrong 38 = .ok (.iload 5, 2) := by decide +kernel
theorem dX11_ringMostWrong_40 : decode cX11_ringMostWrong 40 = .ok (.istore_n 3, 1) := by decide +kernel
theorem dX11_ringMostWrong_41 : decode cX11_ringMostWrong 41 = .ok (.iinc 4 1, 3) := by decide +kernel
theorem dX11_ringMostWrong_44 : decode cX11_ringMostWrong 44 = .ok (.goto (-36), 3) := by decide +kernel
theorem dX11_ringMostWrong_47 : decode cX11_ringMostWrong 47 = .ok (.iload_n 2, 1) := by decide +kernel
theorem dX11_ringMostWrong_48 : decode cX11_ringMostWrong 48 = .ok (.ireturn, 1) := by decide +kernel
theorem dX11_timesWrong_0 : decode cX11_timesWrong 0 = .ok (.iconst 0, 1) := by decide +kernel
theorem dX11_timesWrong_1 : decode cX11_timesWrong 1 = .ok (.istore_n 3, 1) := by decide +kernel
theorem dX11_timesWrong_2 : decode cX11_timesWrong 2 = .ok (.iconst 0, 1) := by decide +kernel
theorem dX11_timesWrong_3 : decode cX11_timesWrong 3 = .ok (.istore 4, 2) := by decide +kernel
theorem dX11_timesWrong_5 : decode cX11_timesWrong 5 = .ok (.iload 4, 2) := by decide +kernel
theorem dX11_timesWrong_7 : decode cX11_timesWrong 7 = .ok (.aload_n 1, 1) := by decide +kernel
theorem dX11_timesWrong_8 : decode cX11_timesWrong 8 = .ok (.getfield 222, 3) := by decide +kernel
theorem dX11_timesWrong_11 : decode cX11_timesWrong 11 = .ok (.if_icmp .ge 44, 3) := by decide +kernel
theorem dX11_timesWrong_14 : decode cX11_timesWrong 14 = .ok (.aload_n 1, 1) := by decide +kernel
theorem dX11_timesWrong_15 : decode cX11_timesWrong 15 = .ok (.iload 4, 2) := by decide +kernel
theorem dX11_timesWrong_17 : decode cX11_timesWrong 17 = .ok (.invokevirtual 225, 3) := by decide +kernel
theorem dX11_timesWrong_20 : decode cX11_timesWrong 20 = .ok (.iload_n 2, 1) := by decide +kernel
theorem dX11_timesWrong_21 : decode cX11_timesWrong 21 = .ok (.if_icmp .eq 15, 3) := by decide +kernel
theorem dX11_timesWrong_24 : decode cX11_timesWrong 24 = .ok (.aload_n 1, 1) := by decide +kernel
theorem dX11_timesWrong_25 : decode cX11_timesWrong 25 = .ok (.iload 4, 2) := by decide +kernel
theorem dX11_timesWrong_27 : decode cX11_timesWrong 27 = .ok (.iconst 1, 1) := by decide +kernel
theorem dX11_timesWrong_28 : decode cX11_timesWrong 28 = .ok (.iadd, 1) := by decide +kernel
theorem dX11_timesWrong_29 : decode cX11_timesWrong 29 = .ok (.invokevirtual 225, 3) := by decide +kernel
theorem dX11_timesWrong_32 : decode cX11_timesWrong 32 = .ok (.iload_n 2, 1) := by decide +kernel
theorem dX11_timesWrong_33 : decode cX11_timesWrong 33 = .ok (.if_icmp .ne 16, 3) := by decide +kernel
theorem dX11_timesWrong_36 : decode cX11_timesWrong 36 = .ok (.aload_n 0, 1) := by decide +kernel
theorem dX11_timesWrong_37 : decode cX11_timesWrong 37 = .ok (.aload_n 1, 1) := by decide +kernel
theorem dX11_timesWrong_38 : decode cX11_timesWrong 38 = .ok (.iload 4, 2) := by decide +kernel
theorem dX11_timesWrong_40 : decode cX11_timesWrong 40 = .ok (.invokevirtual 323, 3) := by decide +kernel
theorem dX11_timesWrong_43 : decode cX11_timesWrong 43 = .ok (.ifCond .eq 6, 3) := by decide +kernel
theorem dX11_timesWrong_46 : decode cX11_timesWrong 46 = .ok (.iinc 3 1, 3) := by decide +kernel
theorem dX11_timesWrong_49 : decode cX11_timesWrong 49 = .ok (.iinc 4 3, 3) := by decide +kernel
theorem dX11_timesWrong_52 : decode cX11_timesWrong 52 = .ok (.goto (-47), 3) := by decide +kernel
theorem dX11_timesWrong_55 : decode cX11_timesWrong 55 = .ok (.iload_n 3, 1) := by decide +kernel
theorem dX11_timesWrong_56 : decode cX11_timesWrong 56 = .ok (.ireturn, 1) := by decide +kernel
theorem dX11_tellsLengths_0 : decode cX11_tellsLengths 0 = .ok (.aload_n 0, 1) := by decide +kernel
theorem dX11_tellsLengths_1 : decode cX11_tellsLengths 1 = .ok (.getfield 222, 3) := by decide +kernel
theorem dX11_tellsLengths_4 : decode cX11_tellsLengths 4 = .ok (.iconst 1, 1) := by decide +kernel
theorem dX11_tellsLengths_5 : decode cX11_tellsLengths 5 = .ok (.iload_n 1, 1) := by decide +kernel
theorem dX11_tellsLengths_6 : decode cX11_tellsLengths 6 = .ok (.invokestatic 108, 3) := by decide +kernel
theorem dX11_tellsLengths_9 : decode cX11_tellsLengths 9 = .ok (.ifCond .ne 5, 3) := by decide +kernel
theorem dX11_tellsLengths_12 : decode cX11_tellsLengths 12 = .ok (.iconst 0, 1) := by decide +kernel
theorem dX11_tellsLengths_13 : decode cX11_tellsLengths 13 = .ok (.ireturn, 1) := by decide +kernel
theorem dX11_tellsLengths_14 : decode cX11_tellsLengths 14 = .ok (.iconst 0, 1) := by decide +kernel
theorem dX11_tellsLengths_15 : decode cX11_tellsLengths 15 = .ok (.istore_n 2, 1) := by decide +kernel
theorem dX11_tellsLengths_16 : decode cX11_tellsLengths 16 = .ok (.iload_n 2, 1) := by decide +kernel
theorem dX11_tellsLengths_17 : decode cX11_tellsLengths 17 = .ok (.aload_n 0, 1) := by decide +kernel
theorem dX11_tellsLengths_18 : decode cX11_tellsLengths 18 = .ok (.getfield 222, 3) := by decide +kernel
theorem dX11_tellsLengths_21 : decode cX11_tellsLengths 21 = .ok (.if_icmp .ge 25, 3) := by decide +kernel
theorem dX11_tellsLengths_24 : decode cX11_tellsLengths 24 = .ok (.aload_n 0, 1) := by decide +kernel
theorem dX11_tellsLengths_25 : decode cX11_tellsLengths 25 = .ok (.iload_n 2, 1) := by decide +kernel
theorem dX11_tellsLengths_26 : decode cX11_tellsLengths 26 = .ok (.invokevirtual 225, 3) := by decide +kernel
theorem dX11_tellsLengths_29 : decode cX11_tellsLengths 29 = .ok (.iconst 1, 1) := by decide +kernel
theorem dX11_tellsLengths_30 : decode cX11_tellsLengths 30 = .ok (.bipush 99, 2) := by decide +kernel
theorem dX11_tellsLengths_32 : decode cX11_tellsLengths 32 = .ok (.invokestatic 108, 3) := by decide +kernel
theorem dX11_tellsLengths_35 : decode cX11_tellsLengths 35 = .ok (.ifCond .ne 5, 3) := by decide +kernel
theorem dX11_tellsLengths_38 : decode cX11_tellsLengths 38 = .ok (.iconst 0, 1) := by decide +kernel
theorem dX11_tellsLengths_39 : decode cX11_tellsLengths 39 = .ok (.ireturn, 1) := by decide +kernel
theorem dX11_tellsLengths_40 : decode cX11_tellsLengths 40 = .ok (.iinc 2 1, 3) := by decide +kernel
theorem dX11_tellsLengths_43 : decode cX11_tellsLengths 43 = .ok (.goto (-27), 3) := by decide +kernel
theorem dX11_tellsLengths_46 : decode cX11_tellsLengths 46 = .ok (.iconst 1, 1) := by decide +kernel
theorem dX11_tellsLengths_47 : decode cX11_tellsLengths 47 = .ok (.ireturn, 1) := by decide +kernel
theorem dX11_sizeTaken_0 : decode cX11_sizeTaken 0 = .ok (.iload_n 1, 1) := by decide +kernel
theorem dX11_sizeTaken_1 : decode cX11_sizeTaken 1 = .ok (.iload_n 2, 1) := by decide +kernel
theorem dX11_sizeTaken_2 : decode cX11_sizeTaken 2 = .ok (.if_icmp .lt 7, 3) := by decide +kernel
theorem dX11_sizeTaken_5 : decode cX11_sizeTaken 5 = .ok (.iload_n 1, 1) := by decide +kernel
theorem dX11_sizeTaken_6 : decode cX11_sizeTaken 6 = .ok (.goto 4, 3) := by decide +kernel
theorem dX11_sizeTaken_9 : decode cX11_sizeTaken 9 = .ok (.iconst 0, 1) := by decide +kernel
theorem dX11_sizeTaken_10 : decode cX11_sizeTaken 10 = .ok (.istore_n 3, 1) := by decide +kernel
theorem dX11_sizeTaken_11 : decode cX11_sizeTaken 11 = .ok (.iconst 0, 1) := by decide +kernel
theorem dX11_sizeTaken_12 : decode cX11_sizeTaken 12 = .ok (.istore 4, 2) := by decide +kernel
theorem dX11_sizeTaken_14 : decode cX11_sizeTaken 14 = .ok (.iload 4, 2) := by decide +kernel
theorem dX11_sizeTaken_16 : decode cX11_sizeTaken 16 = .ok (.aload_n 0, 1) := by decide +kernel
theorem dX11_sizeTaken_17 : decode cX11_sizeTaken 17 = .ok (.getfield 222, 3) := by decide +kernel
theorem dX11_sizeTaken_20 : decode cX11_sizeTaken 20 = .ok (.if_icmp .ge 36, 3) := by decide +kernel
theorem dX11_sizeTaken_23 : decode cX11_sizeTaken 23 = .ok (.aload_n 0, 1) := by decide +kernel
theorem dX11_sizeTaken_24 : decode cX11_sizeTaken 24 = .ok (.iload 4, 2) := by decide +kernel
theorem dX11_sizeTaken_26 : decode cX11_sizeTaken 26 = .ok (.invokevirtual 225, 3) := by decide +kernel
theorem dX11_sizeTaken_29 : decode cX11_sizeTaken 29 = .ok (.istore 5, 2) := by decide +kernel
theorem dX11_sizeTaken_31 : decode cX11_sizeTaken 31 = .ok (.iload 5, 2) := by decide +kernel
theorem dX11_sizeTaken_33 : decode cX11_sizeTaken 33 = .ok (.iload_n 2, 1) := by decide +kernel
theorem dX11_sizeTaken_34 : decode cX11_sizeTaken 34 = .ok (.if_icmp .lt 16, 3) := by decide +kernel
theorem dX11_sizeTaken_37 : decode cX11_sizeTaken 37 = .ok (.iload_n 3, 1) := by decide +kernel
theorem dX11_sizeTaken_38 : decode cX11_sizeTaken 38 = .ok (.ifCond .eq 9, 3) := by decide +kernel
theorem dX11_sizeTaken_41 : decode cX11_sizeTaken 41 = .ok (.iload 5, 2) := by decide +kernel
theorem dX11_sizeTaken_43 : decode cX11_sizeTaken 43 = .ok (.iload_n 3, 1) := by decide +kernel
theorem dX11_sizeTaken_44 : decode cX11_sizeTaken 44 = .ok (.if_icmp .ge 6, 3) := by decide +kernel
theorem dX11_sizeTaken_47 : decode cX11_sizeTaken 47 = .ok (.iload 5, 2) := by decide +kernel
theorem dX11_sizeTaken_49 : decode cX11_sizeTaken 49 = .ok (.istore_n 3, 1) := by decide +kernel
theorem dX11_sizeTaken_50 : decode cX11_sizeTaken 50 = .ok (.iinc 4 1, 3) := by decide +kernel
theorem dX11_sizeTaken_53 : decode cX11_sizeTaken 53 = .ok (.goto (-39), 3) := by decide +kernel
theorem dX11_sizeTaken_56 : decode cX11_sizeTaken 56 = .ok (.iload_n 3, 1) := by decide +kernel
theorem dX11_sizeTaken_57 : decode cX11_sizeTaken 57 = .ok (.ireturn, 1) := by decide +kernel
theorem dX11_girlsWithoutSize_0 : decode cX11_girlsWithoutSize 0 = .ok (.iconst 0, 1) := by decide +kernel
theorem dX11_girlsWithoutSize_1 : decode cX11_girlsWithoutSize 1 = .ok (.istore 4, 2) := by decide +kernel
theorem dX11_girlsWithoutSize_3 : decode cX11_girlsWithoutSize 3 = .ok (.iconst 0, 1) := by decide +kernel
theorem dX11_girlsWithoutSize_4 : decode cX11_girlsWithoutSize 4 = .ok (.istore 5, 2) := by decide +kernel
theorem dX11_girlsWithoutSize_6 : decode cX11_girlsWithoutSize 6 = .ok (.iload 5, 2) := by decide +kernel
theorem dX11_girlsWithoutSize_8 : decode cX11_girlsWithoutSize 8 = .ok (.aload_n 3, 1) := by decide +kernel
theorem dX11_girlsWithoutSize_9 : decode cX11_girlsWithoutSize 9 = .ok (.getfield 222, 3) := by decide +kernel
theorem dX11_girlsWithoutSize_12 : decode cX11_girlsWithoutSize 12 = .ok (.if_icmp .ge 34, 3) := by decide +kernel
theorem dX11_girlsWithoutSize_15 : decode cX11_girlsWithoutSize 15 = .ok (.aload_n 1, 1) := by decide +kernel
theorem dX11_girlsWithoutSize_16 : decode cX11_girlsWithoutSize 16 = .ok (.iload_n 2, 1) := by decide +kernel
theorem dX11_girlsWithoutSize_17 : decode cX11_girlsWithoutSize 17 = .ok (.aload_n 3, 1) := by decide +kernel
theorem dX11_girlsWithoutSize_18 : decode cX11_girlsWithoutSize 18 = .ok (.iload 5, 2) := by decide +kernel
theorem dX11_girlsWithoutSize_20 : decode cX11_girlsWithoutSize 20 = .ok (.invokevirtual 225, 3) := by decide +kernel
theorem dX11_girlsWithoutSize_23 : decode cX11_girlsWithoutSize 23 = .ok (.aload_n 0, 1) := by decide +kernel
theorem dX11_girlsWithoutSize_24 : decode cX11_girlsWithoutSize 24 = .ok (.getfield 10, 3) := by decide +kernel
theorem dX11_girlsWithoutSize_27 : decode cX11_girlsWithoutSize 27 = .ok (.getfield 115, 3) := by decide +kernel
theorem dX11_girlsWithoutSize_30 : decode cX11_girlsWithoutSize 30 = .ok (.iadd, 1) := by decide +kernel
theorem dX11_girlsWithoutSize_31 : decode cX11_girlsWithoutSize 31 = .ok (.invokestatic 329, 3) := by decide +kernel
theorem dX11_girlsWithoutSize_34 : decode cX11_girlsWithoutSize 34 = .ok (.ifCond .ne 6, 3) := by decide +kernel
theorem dX11_girlsWithoutSize_37 : decode cX11_girlsWithoutSize 37 = .ok (.iinc 4 1, 3) := by decide +kernel
theorem dX11_girlsWithoutSize_40 : decode cX11_girlsWithoutSize 40 = .ok (.iinc 5 1, 3) := by decide +kernel
theorem dX11_girlsWithoutSize_43 : decode cX11_girlsWithoutSize 43 = .ok (.goto (-37), 3) := by decide +kernel
theorem dX11_girlsWithoutSize_46 : decode cX11_girlsWithoutSize 46 = .ok (.iload 4, 2) := by decide +kernel
theorem dX11_girlsWithoutSize_48 : decode cX11_girlsWithoutSize 48 = .ok (.ireturn, 1) := by decide +kernel
theorem dX11_spareOfSizes_0 : decode cX11_spareOfSizes 0 = .ok (.iconst 0, 1) := by decide +kernel
theorem dX11_spareOfSizes_1 : decode cX11_spareOfSizes 1 = .ok (.istore 4, 2) := by decide +kernel
theorem dX11_spareOfSizes_3 : decode cX11_spareOfSizes 3 = .ok (.iconst 0, 1) := by decide +kernel
theorem dX11_spareOfSizes_4 : decode cX11_spareOfSizes 4 = .ok (.istore 5, 2) := by decide +kernel
theorem dX11_spareOfSizes_6 : decode cX11_spareOfSizes 6 = .ok (.iload 5, 2) := by decide +kernel
theorem dX11_spareOfSizes_8 : decode cX11_spareOfSizes 8 = .ok (.aload_n 3, 1) := by decide +kernel
theorem dX11_spareOfSizes_9 : decode cX11_spareOfSizes 9 = .ok (.getfield 222, 3) := by decide +kernel
theorem dX11_spareOfSizes_12 : decode cX11_spareOfSizes 12 = .ok (.if_icmp .ge 49, 3) := by decide +kernel
theorem dX11_spareOfSizes_15 : decode cX11_spareOfSizes 15 = .ok (.aload_n 3, 1) := by decide +kernel
theorem dX11_spareOfSizes_16 : decode cX11_spareOfSizes 16 = .ok (.iload 5, 2) := by decide +kernel
theorem dX11_spareOfSizes_18 : decode cX11_spareOfSizes 18 = .ok (.invokevirtual 225, 3) := by decide +kernel
theorem dX11_spareOfSizes_21 : decode cX11_spareOfSizes 21 = .ok (.aload_n 0, 1) := by decide +kernel
theorem dX11_spareOfSizes_22 : decode cX11_spareOfSizes 22 = .ok (.getfield 10, 3) := by decide +kernel
theorem dX11_spareOfSizes_25 : decode cX11_spareOfSizes 25 = .ok (.getfield 115, 3) := by decide +kernel
theorem dX11_spareOfSizes_28 : decode cX11_spareOfSizes 28 = .ok (.iadd, 1) := by decide +kernel
theorem dX11_spareOfSizes_29 : decode cX11_spareOfSizes 29 = .ok (.istore 6, 2) := by decide +kernel
theorem dX11_spareOfSizes_31 : decode cX11_spareOfSizes 31 = .ok (.aload_n 1, 1) := by decide +kernel
theorem dX11_spareOfSizes_32 : decode cX11_spareOfSizes 32 = .ok (.iload_n 2, 1) := by decide +kernel
theorem dX11_spareOfSizes_33 : decode cX11_spareOfSizes 33 = .ok (.iload 6, 2) := by decide +kernel
theorem dX11_spareOfSizes_35 : decode cX11_spareOfSizes 35 = .ok (.invokestatic 329, 3) := by decide +kernel
theorem dX11_spareOfSizes_38 : decode cX11_spareOfSizes 38 = .ok (.istore 7, 2) := by decide +kernel
theorem dX11_spareOfSizes_40 : decode cX11_spareOfSizes 40 = .ok (.iload 7, 2) := by decide +kernel
theorem dX11_spareOfSizes_42 : decode cX11_spareOfSizes 42 = .ok (.ifCond .eq 13, 3) := by decide +kernel
theorem dX11_spareOfSizes_45 : decode cX11_spareOfSizes 45 = .ok (.iload 4, 2) := by decide +kernel
theorem dX11_spareOfSizes_47 : decode cX11_spareOfSizes 47 = .ok (.iload 7, 2) := by decide +kernel
theorem dX11_spareOfSizes_49 : decode cX11_spareOfSizes 49 = .ok (.iload 6, 2) := by decide +kernel
theorem dX11_spareOfSizes_51 : decode cX11_spareOfSizes 51 = .ok (.isub, 1) := by decide +kernel
theorem dX11_spareOfSizes_52 : decode cX11_spareOfSizes 52 = .ok (.iadd, 1) := by decide +kernel
theorem dX11_spareOfSizes_53 : decode cX11_spareOfSizes 53 = .ok (.istore 4, 2) := by decide +kernel
theorem dX11_spareOfSizes_55 : decode cX11_spareOfSizes 55 = .ok (.iinc 5 1, 3) := by decide +kernel
theorem dX11_spareOfSizes_58 : decode cX11_spareOfSizes 58 = .ok (.goto (-52), 3) := by decide +kernel
theorem dX11_spareOfSizes_61 : decode cX11_spareOfSizes 61 = .ok (.iload 4, 2) := by decide +kernel
theorem dX11_spareOfSizes_63 : decode cX11_spareOfSizes 63 = .ok (.ireturn, 1) := by decide +kernel
theorem dX11_oneMoreSize_0 : decode cX11_oneMoreSize 0 = .ok (.iconst 0, 1) := by decide +kernel
theorem dX11_oneMoreSize_1 : decode cX11_oneMoreSize 1 = .ok (.istore_n 3, 1) := by decide +kernel
theorem dX11_oneMoreSize_2 : decode cX11_oneMoreSize 2 = .ok (.iconst 0, 1) := by decide +kernel
theorem dX11_oneMoreSize_3 : decode cX11_oneMoreSize 3 = .ok (.istore 4, 2) := by decide +kernel
theorem dX11_oneMoreSize_5 : decode cX11_oneMoreSize 5 = .ok (.iconst 0, 1) := by decide +kernel
theorem dX11_oneMoreSize_6 : decode cX11_oneMoreSize 6 = .ok (.istore 5, 2) := by decide +kernel
theorem dX11_oneMoreSize_8 : decode cX11_oneMoreSize 8 = .ok (.iconst 1, 1) := by decide +kernel
theorem dX11_oneMoreSize_9 : decode cX11_oneMoreSize 9 = .ok (.istore 6, 2) := by decide +kernel
theorem dX11_oneMoreSize_11 : decode cX11_oneMoreSize 11 = .ok (.iload 6, 2) := by decide +kernel
theorem dX11_oneMoreSize_13 : decode cX11_oneMoreSize 13 = .ok (.bipush 99, 2) := by decide +kernel
theorem dX11_oneMoreSize_15 : decode cX11_oneMoreSize 15 = .ok (.if_icmp .gt 77, 3) := by decide +kernel
theorem dX11_oneMoreSize_18 : decode cX11_oneMoreSize 18 = .ok (.aload_n 0, 1) := by decide +kernel
theorem dX11_oneMoreSize_19 : decode cX11_oneMoreSize 19 = .ok (.aload_n 1, 1) := by decide +kernel
theorem dX11_oneMoreSize_20 : decode cX11_oneMoreSize 20 = .ok (.iload 6, 2) := by decide +kernel
theorem dX11_oneMoreSize_22 : decode cX11_oneMoreSize 22 = .ok (.aload_n 2, 1) := by decide +kernel
theorem dX11_oneMoreSize_23 : decode cX11_oneMoreSize 23 = .ok (.invokevirtual 211, 3) := by decide +kernel
theorem dX11_oneMoreSize_26 : decode cX11_oneMoreSize 26 = .ok (.istore 7, 2) := by decide +kernel
theorem dX11_oneMoreSize_28 : decode cX11_oneMoreSize 28 = .ok (.aload_n 0, 1) := by decide +kernel
theorem dX11_oneMoreSize_29 : decode cX11_oneMoreSize 29 = .ok (.aload_n 1, 1) := by decide +kernel
theorem dX11_oneMoreSize_30 : decode cX11_oneMoreSize 30 = .ok (.iload 6, 2) := by decide +kernel
theorem dX11_oneMoreSize_32 : decode cX11_oneMoreSize 32 = .ok (.aload_n 2, 1) := by decide +kernel
theorem dX11_oneMoreSize_33 : decode cX11_oneMoreSize 33 = .ok (.invokevirtual 215, 3) := by decide +kernel
theorem dX11_oneMoreSize_36 : decode cX11_oneMoreSize 36 = .ok (.istore 8, 2) := by decide +kernel
theorem dX11_oneMoreSize_38 : decode cX11_oneMoreSize 38 = .ok (.iload 7, 2) := by decide +kernel
theorem dX11_oneMoreSize_40 : decode cX11_oneMoreSize 40 = .ok (.iload 4, 2) := by decide +kernel
theorem dX11_oneMoreSize_42 : decode cX11_oneMoreSize 42 = .ok (.if_icmp .lt 17, 3) := by decide +kernel
theorem dX11_oneMoreSize_45 : decode cX11_oneMoreSize 45 = .ok (.iload 7, 2) := by decide +kernel
theorem dX11_oneMoreSize_47 : decode cX11_oneMoreSize 47 = .ok (.iload 4, 2) := by decide +kernel
theorem dX11_oneMoreSize_49 : decode cX11_oneMoreSize 49 = .ok (.if_icmp .ne 14, 3) := by decide +kernel
theorem dX11_oneMoreSize_52 : decode cX11_oneMoreSize 52 = .ok (.iload 8, 2) := by decide +kernel
theorem dX11_oneMoreSize_54 : decode cX11_oneMoreSize 54 = .ok (.iload 5, 2) := by decide +kernel
theorem dX11_oneMoreSize_56 : decode cX11_oneMoreSize 56 = .ok (.if_icmp .ge 7, 3) := by decide +kernel
theorem dX11_oneMoreSize_59 : decode cX11_oneMoreSize 59 = .ok (.iconst 1, 1) := by decide +kernel
theorem dX11_oneMoreSize_60 : decode cX11_oneMoreSize 60 = .ok (.goto 4, 3) := by decide +kernel
theorem dX11_oneMoreSize_63 : decode cX11_oneMoreSize 63 = .ok (.iconst 0, 1) := by decide +kernel
theorem dX11_oneMoreSize_64 : decode cX11_oneMoreSize 64 = .ok (.istore 9, 2) := by decide +kernel
theorem dX11_oneMoreSize_66 : decode cX11_oneMoreSize 66 = .ok (.iload_n 3, 1) := by decide +kernel
theorem dX11_oneMoreSize_67 : decode cX11_oneMoreSize 67 = .ok (.ifCond .eq 8, 3) := by decide +kernel
theorem dX11_oneMoreSize_70 : decode cX11_oneMoreSize 70 = .ok (.iload 9, 2) := by decide +kernel
theorem dX11_oneMoreSize_72 : decode cX11_oneMoreSize 72 = .ok (.ifCond .eq 14, 3) := by decide +kernel
theorem dX11_oneMoreSize_75 : decode cX11_oneMoreSize 75 = .ok (.iload 6, 2) := by decide +kernel
theorem dX11_oneMoreSize_77 : decode cX11_oneMoreSize 77 = .ok (.istore_n 3, 1) := by decide +kernel
theorem dX11_oneMoreSize_78 : decode cX11_oneMoreSize 78 = .ok (.iload 7, 2) := by decide +kernel
theorem dX11_oneMoreSize_80 : decode cX11_oneMoreSize 80 = .ok (.istore 4, 2) := by decide +kernel
theorem dX11_oneMoreSize_82 : decode cX11_oneMoreSize 82 = .ok (.iload 8, 2) := by decide +kernel
theorem dX11_oneMoreSize_84 : decode cX11_oneMoreSize 84 = .ok (.istore 5, 2) := by decide +kernel
theorem dX11_oneMoreSize_86 : decode cX11_oneMoreSize 86 = .ok (.iinc 6 1, 3) := by decide +kernel
theorem dX11_oneMoreSize_89 : decode cX11_oneMoreSize 89 = .ok (.goto (-78), 3) := by decide +kernel
theorem dX11_oneMoreSize_92 : decode cX11_oneMoreSize 92 = .ok (.iload_n 3, 1) := by decide +kernel
theorem dX11_oneMoreSize_93 : decode cX11_oneMoreSize 93 = .ok (.ireturn, 1) := by decide +kernel
theorem dX11_tightestSource_0 : decode cX11_tightestSource 0 = .ok (.bipush (-4), 2) := by decide +kernel
theorem dX11_tightestSource_2 : decode cX11_tightestSource 2 = .ok (.istore_n 3, 1) := by decide +kernel
theorem dX11_tightestSource_3 : decode cX11_tightestSource 3 = .ok (.iconst 0, 1) := by decide +kernel
theorem dX11_tightestSource_4 : decode cX11_tightestSource 4 = .ok (.istore 4, 2) := by decide +kernel
theorem dX11_tightestSource_6 : decode cX11_tightestSource 6 = .ok (.iconst 0, 1) := by decide +kernel
theorem dX11_tightestSource_7 : decode cX11_tightestSource 7 = .ok (.istore 5, 2) := by decide +kernel
theorem dX11_tightestSource_9 : decode cX11_tightestSource 9 = .ok (.iload 5, 2) := by decide +kernel
theorem dX11_tightestSource_11 : decode cX11_tightestSource 11 = .ok (.aload_n 0, 1) := by decide +kernel
theorem dX11_tightestSource_12 : decode cX11_tightestSource 12 = .ok (.getfield 10, 3) := by decide +kernel
theorem dX11_tightestSource_15 : decode cX11_tightestSource 15 = .ok (.getfield 153, 3) := by decide +kernel
theorem dX11_tightestSource_18 : decode cX11_tightestSource 18 = .ok (.if_icmp .ge 79, 3) := by decide +kernel
theorem dX11_tightestSource_21 : decode cX11_tightestSource 21 = .ok (.aload_n 0, 1) := by decide +kernel
theorem dX11_tightestSource_22 : decode cX11_tightestSource 22 = .ok (.getfield 10, 3) := by decide +kernel
theorem dX11_tightestSource_25 : decode cX11_tightestSource 25 = .ok (.iload 5, 2) := by decide +kernel
theorem dX11_tightestSource_27 : decode cX11_tightestSource 27 = .ok (.iconst 1, 1) := by decide +kernel
theorem dX11_tightestSource_28 : decode cX11_tightestSource 28 = .ok (.invokevirtual 112, 3) := by decide +kernel
theorem dX11_tightestSource_31 : decode cX11_tightestSource 31 = .ok (.aload_n 0, 1) := by decide +kernel
theorem dX11_tightestSource_32 : decode cX11_tightestSource 32 = .ok (.getfield 10, 3) := by decide +kernel
theorem dX11_tightestSource_35 : decode cX11_tightestSource 35 = .ok (.iload 5, 2) := by decide +kernel
theorem dX11_tightestSource_37 : decode cX11_tightestSource 37 = .ok (.iconst 2, 1) := by decide +kernel
theorem dX11_tightestSource_38 : decode cX11_tightestSource 38 = .ok (.invokevirtual 112, 3) := by decide +kernel
theorem dX11_tightestSource_41 : decode cX11_tightestSource 41 = .ok (.iadd, 1) := by decide +kernel
theorem dX11_tightestSource_42 : decode cX11_tightestSource 42 = .ok (.istore 6, 2) := by decide +kernel
theorem dX11_tightestSource_44 : decode cX11_tightestSource 44 = .ok (.iload_n 2, 1) := by decide +kernel
theorem dX11_tightestSource_45 : decode cX11_tightestSource 45 = .ok (.iload 5, 2) := by decide +kernel
theorem dX11_tightestSource_47 : decode cX11_tightestSource 47 = .ok (.ishr, 1) := by decide +kernel
theorem dX11_tightestSource_48 : decode cX11_tightestSource 48 = .ok (.iconst 1, 1) := by decide +kernel
theorem dX11_tightestSource_49 : decode cX11_tightestSource 49 = .ok (.iand, 1) := by decide +kernel
theorem dX11_tightestSource_50 : decode cX11_tightestSource 50 = .ok (.ifCond .ne 7, 3) := by decide +kernel
theorem dX11_tightestSource_53 : decode cX11_tightestSource 53 = .ok (.iconst 1, 1) := by decide +kernel
theorem dX11_tightestSource_54 : decode cX11_tightestSource 54 = .ok (.goto 4, 3) := by decide +kernel
theorem dX11_tightestSource_57 : decode cX11_tightestSource 57 = .ok (.iconst 0, 1) := by decide +kernel
theorem dX11_tightestSource_58 : decode cX11_tightestSource 58 = .ok (.istore 7, 2) := by decide +kernel
theorem dX11_tightestSource_60 : decode cX11_tightestSource 60 = .ok (.iload 7, 2) := by decide +kernel
theorem dX11_tightestSource_62 : decode cX11_tightestSource 62 = .ok (.ifCond .eq 29, 3) := by decide +kernel
theorem dX11_tightestSource_65 : decode cX11_tightestSource 65 = .ok (.iload 6, 2) := by decide +kernel
theorem dX11_tightestSource_67 : decode cX11_tightestSource 67 = .ok (.iload_n 1, 1) := by decide +kernel
theorem dX11_tightestSource_68 : decode cX11_tightestSource 68 = .ok (.if_icmp .lt 23, 3) := by decide +kernel
theorem dX11_tightestSource_71 : decode cX11_tightestSource 71 = .ok (.iload_n 3, 1) := by decide +kernel
theorem dX11_tightestSource_72 : decode cX11_tightestSource 72 = .ok (.bipush (-4), 2) := by decide +kernel
theorem dX11_tightestSource_74 : decode cX11_tightestSource 74 = .ok (.if_icmp .eq 10, 3) := by decide +kernel
theorem dX11_tightestSource_77 : decode cX11_tightestSource 77 = .ok (.iload 6, 2) := by decide +kernel
theorem dX11_tightestSource_79 : decode cX11_tightestSource 79 = .ok (.iload 4, 2) := by decide +kernel
theorem dX11_tightestSource_81 : decode cX11_tightestSource 81 = .ok (.if_icmp .ge 10, 3) := by decide +kernel
theorem dX11_tightestSource_84 : decode cX11_tightestSource 84 = .ok (.iload 5, 2) := by decide +kernel
theorem dX11_tightestSource_86 : decode cX11_tightestSource 86 = .ok (.istore_n 3, 1) := by decide +kernel
theorem dX11_tightestSource_87 : decode cX11_tightestSource 87 = .ok (.iload 6, 2) := by decide +kernel
theorem dX11_tightestSource_89 : decode cX11_tightestSource 89 = .ok (.istore 4, 2) := by decide +kernel
theorem dX11_tightestSource_91 : decode cX11_tightestSource 91 = .ok (.iinc 5 1, 3) := by decide +kernel
theorem dX11_tightestSource_94 : decode cX11_tightestSource 94 = .ok (.goto (-85), 3) := by decide +kernel
theorem dX11_tightestSource_97 : decode cX11_tightestSource 97 = .ok (.iload_n 3, 1) := by decide +kernel
theorem dX11_tightestSource_98 : decode cX11_tightestSource 98 = .ok (.ireturn, 1) := by decide +kernel
theorem dX11_nextSeed_0 : decode cX11_nextSeed 0 = .ok (.iload_n 0, 1) := by decide +kernel
theorem dX11_nextSeed_1 : decode cX11_nextSeed 1 = .ok (.ldc_w 333, 3) := by decide +kernel
theorem dX11_nextSeed_4 : decode cX11_nextSeed 4 = .ok (.imul, 1) := by decide +kernel
theorem dX11_nextSeed_5 : decode cX11_nextSeed 5 = .ok (.sipush 12345, 3) := by decide +kernel
theorem dX11_nextSeed_8 : decode cX11_nextSeed 8 = .ok (.iadd, 1) := by decide +kernel
theorem dX11_nextSeed_9 : decode cX11_nextSeed 9 = .ok (.ireturn, 1) := by decide +kernel
theorem dX11_drawBelow_0 : decode cX11_drawBelow 0 = .ok (.iload_n 1, 1) := by decide +kernel
theorem dX11_drawBelow_1 : decode cX11_drawBelow 1 = .ok (.ifCond .le 16, 3) := by decide +kernel
theorem dX11_drawBelow_4 : decode cX11_drawBelow 4 = .ok (.iload_n 0, 1) := by decide +kernel
theorem dX11_drawBelow_5 : decode cX11_drawBelow 5 = .ok (.ldc_w 334, 3) := by decide +kernel
theorem dX11_drawBelow_8 : decode cX11_drawBelow 8 = .ok (.iand, 1) := by decide +kernel
theorem dX11_drawBelow_9 : decode cX11_drawBelow 9 = .ok (.bipush 16, 2) := by decide +kernel
theorem dX11_drawBelow_11 : decode cX11_drawBelow 11 = .ok (.ishr, 1) := by decide +kernel
theorem dX11_drawBelow_12 : decode cX11_drawBelow 12 = .ok (.iload_n 1, 1) := by decide +kernel
theorem dX11_drawBelow_13 : decode cX11_drawBelow 13 = .ok (.irem, 1) := by decide +kernel
theorem dX11_drawBelow_14 : decode cX11_drawBelow 14 = .ok (.goto 4, 3) := by decide +kernel
theorem dX11_drawBelow_17 : decode cX11_drawBelow 17 = .ok (.iconst 0, 1) := by decide +kernel
theorem dX11_drawBelow_18 : decode cX11_drawBelow 18 = .ok (.ireturn, 1) := by decide +kernel
theorem dX12_init_0 : decode cX12_init 0 = .ok (.aload_n 0, 1) := by decide +kernel
theorem dX12_init_1 : decode cX12_init 1 = .ok (.invokespecial 1, 3) := by decide +kernel
theorem dX12_init_4 : decode cX12_init 4 = .ok (.aload_n 0, 1) := by decide +kernel
theorem dX12_init_5 : decode cX12_init 5 = .ok (.iconst 1, 1) := by decide +kernel
theorem dX12_init_6 : decode cX12_init 6 = .ok (.putfield 7, 3) := by decide +kernel
theorem dX12_init_9 : decode cX12_init 9 = .ok (.aload_n 0, 1) := by decide +kernel
theorem dX12_init_10 : decode cX12_init 10 = .ok (.bipush 8, 2) := by decide +kernel
theorem dX12_init_12 : decode cX12_init 12 = .ok (.putfield 13, 3) := by decide +kernel
theorem dX12_init_15 : decode cX12_init 15 = .ok (.aload_n 0, 1) := by decide +kernel
theorem dX12_init_16 : decode cX12_init 16 = .ok (.bipush 6, 2) := by decide +kernel
theorem dX12_init_18 : decode cX12_init 18 = .ok (.newarray .int, 2) := by decide +kernel
theorem dX12_init_20 : decode cX12_init 20 = .ok (.putfield 16, 3) := by decide +kernel
theorem dX12_init_23 : decode cX12_init 23 = .ok (.aload_n 0, 1) := by decide +kernel
theorem dX12_init_24 : decode cX12_init 24 = .ok (.bipush 6, 2) := by decide +kernel
theorem dX12_init_26 : decode cX12_init 26 = .ok (.newarray .int, 2) := by decide +kernel
theorem dX12_init_28 : decode cX12_init 28 = .ok (.putfield 20, 3) := by decide +kernel
theorem dX12_init_31 : decode cX12_init 31 = .ok (.aload_n 0, 1) := by decide +kernel
theorem dX12_init_32 : decode cX12_init 32 = .ok (.bipush 6, 2) := by decide +kernel
theorem dX12_init_34 : decode cX12_init 34 = .ok (.newarray .int, 2) := by decide +kernel
theorem dX12_init_36 : decode cX12_init 36 = .ok (.putfield 23, 3) := by decide +kernel
theorem dX12_init_39 : decode cX12_init 39 = .ok (.aload_n 0, 1) := by decide +kernel
theorem dX12_init_40 : decode cX12_init 40 = .ok (.bipush 6, 2) := by decide +kernel
theorem dX12_init_42 : decode cX12_init 42 = .ok (.newarray .int, 2) := by decide +kernel
theorem dX12_init_44 : decode cX12_init 44 = .ok (.putfield 26, 3) := by decide +kernel
theorem dX12_init_47 : decode cX12_init 47 = .ok (.aload_n 0, 1) := by decide +kernel
theorem dX12_init_48 : decode cX12_init 48 = .ok (.bipush 29, 2) := by decide +kernel
theorem dX12_init_50 : decode cX12_init 50 = .ok (.newarray .int, 2) := by decide +kernel
theorem dX12_init_52 : decode cX12_init 52 = .ok (.putfield 29, 3) := by decide +kernel
theorem dX12_init_55 : decode cX12_init 55 = .ok (.aload_n 0, 1) := by decide +kernel
theorem dX12_init_56 : decode cX12_init 56 = .ok (.bipush 29, 2) := by decide +kernel
theorem dX12_init_58 : decode cX12_init 58 = .ok (.newarray .int, 2) := by decide +kernel
theorem dX12_init_60 : decode cX12_init 60 = .ok (.putfield 32, 3) := by decide +kernel
theorem dX12_init_63 : decode cX12_init 63 = .ok (.aload_n 0, 1) := by decide +kernel
theorem dX12_init_64 : decode cX12_init 64 = .ok (.bipush 51, 2) := by decide +kernel
theorem dX12_init_66 : decode cX12_init 66 = .ok (.newarray .int, 2) := by decide +kernel
theorem dX12_init_68 : decode cX12_init 68 = .ok (.putfield 35, 3) := by decide +kernel
theorem dX12_init_71 : decode cX12_init 71 = .ok (.aload_n 0, 1) := by decide +kernel
theorem dX12_init_72 : decode cX12_init 72 = .ok (.bipush 51, 2) := by decide +kernel
theorem dX12_init_74 : decode cX12_init 74 = .ok (.newarray .int, 2) := by decide +kernel
theorem dX12_init_76 : decode cX12_init 76 = .ok (.putfield 38, 3) := by decide +kernel
theorem dX12_init_79 : decode cX12_init 79 = .ok (.aload_n 0, 1) := by decide +kernel
theorem dX12_init_80 : decode cX12_init 80 = .ok (.bipush 51, 2) := by decide +kernel
theorem dX12_init_82 : decode cX12_init 82 = .ok (.newarray .int, 2) := by decide +kernel
theorem dX12_init_84 : decode cX12_init 84 = .ok (.putfield 41, 3) := by decide +kernel
theorem dX12_init_87 : decode cX12_init 87 = .ok (.aload_n 0, 1) := by decide +kernel
theorem dX12_init_88 : decode cX12_init 88 = .ok (.bipush 51, 2) := by decide +kernel
theorem dX12_init_90 : decode cX12_init 90 = .ok (.newarray .int, 2) := by decide +kernel
theorem dX12_init_92 : decode cX12_init 92 = .ok (.putfield 44, 3) := by decide +kernel
theorem dX12_init_95 : decode cX12_init 95 = .ok (.aload_n 0, 1) := by decide +kernel
theorem dX12_init_96 : decode cX12_init 96 = .ok (.bipush 51, 2) := by decide +kernel
theorem dX12_init_98 : decode cX12_init 98 = .ok (.newarray .int, 2) := by decide +kernel
theorem dX12_init_100 : decode cX12_init 100 = .ok (.putfield 47, 3) := by decide +kernel
theorem dX12_init_103 : decode cX12_init 103 = .ok (.aload_n 0, 1) := by decide +kernel
theorem dX12_init_104 : decode cX12_init 104 = .ok (.bipush 51, 2) := by decide +kernel
theorem dX12_init_106 : decode cX12_init 106 = .ok (.newarray .int, 2) := by decide +kernel
theorem dX12_init_108 : decode cX12_init 108 = .ok (.putfield 50, 3) := by decide +kernel
theorem dX12_init_111 : decode cX12_init 111 = .ok (.aload_n 0, 1) := by decide +kernel
theorem dX12_init_112 : decode cX12_init 112 = .ok (.bipush 6, 2) := by decide +kernel
theorem dX12_init_114 : decode cX12_init 114 = .ok (.newarray .int, 2) := by decide +kernel
theorem dX12_init_116 : decode cX12_init 116 = .ok (.putfield 53, 3) := by decide +kernel
theorem dX12_init_119 : decode cX12_init 119 = .ok (.aload_n 0, 1) := by decide +kernel
theorem dX12_init_120 : decode cX12_init 120 = .ok (.bipush 8, 2) := by decide +kernel
theorem dX12_init_122 : decode cX12_init 122 = .ok (.newarray .int, 2) := by decide +kernel
theorem dX12_init_124 : decode cX12_init 124 = .ok (.putfield 56, 3) := by decide +kernel
theorem dX12_init_127 : decode cX12_init 127 = .ok (.aload_n 0, 1) := by decide +kernel
theorem dX12_init_128 : decode cX12_init 128 = .ok (.bipush 8, 2) := by decide +kernel
theorem dX12_init_130 : decode cX12_init 130 = .ok (.newarray .int, 2) := by decide +kernel
theorem dX12_init_132 : decode cX12_init 132 = .ok (.putfield 59, 3) := by decide +kernel
theorem dX12_init_135 : decode cX12_init 135 = .ok (.aload_n 0, 1) := by decide +kernel
theorem dX12_init_136 : decode cX12_init 136 = .ok (.bipush 8, 2) := by decide +kernel
theorem dX12_init_138 : decode cX12_init 138 = .ok (.newarray .int, 2) := by decide +kernel
theorem dX12_init_140 : decode cX12_init 140 = .ok (.putfield 62, 3) := by decide +kernel
theorem dX12_init_143 : decode cX12_init 143 = .ok (.aload_n 0, 1) := by decide +kernel
theorem dX12_init_144 : decode cX12_init 144 = .ok (.bipush 8, 2) := by decide +kernel
theorem dX12_init_146 : decode cX12_init 146 = .ok (.newarray .int, 2) := by decide +kernel
theorem dX12_init_148 : decode cX12_init 148 = .ok (.putfield 65, 3) := by decide +kernel
theorem dX12_init_151 : decode cX12_init 151 = .ok (.aload_n 0, 1) := by decide +kernel
theorem dX12_init_152 : decode cX12_init 152 = .ok (.bipush 8, 2) := by decide +kernel
theorem dX12_init_154 : decode cX12_init 154 = .ok (.newarray .int, 2) := by decide +kernel
theorem dX12_init_156 : decode cX12_init 156 = .ok (.putfield 68, 3) := by decide +kernel
theorem dX12_init_159 : decode cX12_init 159 = .ok (.aload_n 0, 1) := by decide +kernel
theorem dX12_init_160 : decode cX12_init 160 = .ok (.sipush 800, 3) := by decide +kernel
theorem dX12_init_163 : decode cX12_init 163 = .ok (.newarray .long, 2) := by decide +kernel
theorem dX12_init_165 : decode cX12_init 165 = .ok (.putfield 71, 3) := by decide +kernel
theorem dX12_init_168 : decode cX12_init 168 = .ok (.aload_n 0, 1) := by decide +kernel
theorem dX12_init_169 : decode cX12_init 169 = .ok (.bipush 100, 2) := by decide +kernel
theorem dX12_init_171 : decode cX12_init 171 = .ok (.newarray .long, 2) := by decide +kernel
theorem dX12_init_173 : decode cX12_init 173 = .ok (.putfield 75, 3) := by decide +kernel
theorem dX12_init_176 : decode cX12_init 176 = .ok (.aload_n 0, 1) := by decide +kernel
theorem dX12_init_177 : decode cX12_init 177 = .ok (.iconst 0, 1) := by decide +kernel
theorem dX12_init_178 : decode cX12_init 178 = .ok (.putfield 78, 3) := by decide +kernel
theorem dX12_init_181 : decode cX12_init 181 = .ok (.return_, 1) := by decide +kernel
theorem dX12_thrown_0 : decode cX12_thrown 0 = .ok (.aload_n 0, 1) := by decide +kernel
theorem dX12_thrown_1 : decode cX12_thrown 1 = .ok (.getfield 78, 3) := by decide +kernel
theorem dX12_thrown_4 : decode cX12_thrown 4 = .ok (.ireturn, 1) := by decide +kernel
theorem dX12_in_0 : decode cX12_in 0 = .ok (.lload_n 0, 1) := by decide +kernel
theorem dX12_in_1 : decode cX12_in 1 = .ok (.lload_n 2, 1) := by decide +kernel
theorem dX12_in_2 : decode cX12_in 2 = .ok (.lcmp, 1) := by decide +kernel
theorem dX12_in_3 : decode cX12_in 3 = .ok (.ifCond .lt 14, 3) := by decide +kernel
theorem dX12_in_6 : decode cX12_in 6 = .ok (.lload_n 0, 1) := by decide +kernel
theorem dX12_in_7 : decode cX12_in 7 = .ok (.lload 4, 2) := by decide +kernel
theorem dX12_in_9 : decode cX12_in 9 = .ok (.lcmp, 1) := by decide +kernel
theorem dX12_in_10 : decode cX12_in 10 = .ok (.ifCond .gt 7, 3) := by decide +kernel
theorem dX12_in_13 : decode cX12_in 13 = .ok (.iconst 1, 1) := by decide +kernel
theorem dX12_in_14 : decode cX12_in 14 = .ok (.goto 4, 3) := by decide +kernel
theorem dX12_in_17 : decode cX12_in 17 = .ok (.iconst 0, 1) := by decide +kernel
theorem dX12_in_18 : decode cX12_in 18 = .ok (.ireturn, 1) := by decide +kernel
theorem dX12_isRing_0 : decode cX12_isRing 0 = .ok (.iload_n 1, 1) := by decide +kernel
theorem dX12_isRing_1 : decode cX12_isRing 1 = .ok (.i2l, 1) := by decide +kernel
theorem dX12_isRing_2 : decode cX12_isRing 2 = .ok (.lconst 0, 1) := by decide +kernel
theorem dX12_isRing_3 : decode cX12_isRing 3 = .ok (.aload_n 0, 1) := by decide +kernel
theorem dX12_isRing_4 : decode cX12_isRing 4 = .ok (.getfield 81, 3) := by decide +kernel
theorem dX12_isRing_7 : decode cX12_isRing 7 = .ok (.iconst 1, 1) := by decide +kernel
theorem dX12_isRing_8 : decode cX12_isRing 8 = .ok (.isub, 1) := by decide +kernel
theorem dX12_isRing_9 : decode cX12_isRing 9 = .ok (.i2l, 1) := by decide +kernel
theorem dX12_isRing_10 : decode cX12_isRing 10 = .ok (.invokestatic 84, 3) := by decide +kernel
theorem dX12_isRing_13 : decode cX12_isRing 13 = .ok (.ireturn, 1) := by decide +kernel
theorem dX12_easeOf_0 : decode cX12_easeOf 0 = .ok (.iconst 0, 1) := by decide +kernel
theorem dX12_easeOf_1 : decode cX12_easeOf 1 = .ok (.istore_n 3, 1) := by decide +kernel
theorem dX12_easeOf_2 : decode cX12_easeOf 2 = .ok (.iload_n 2, 1) := by decide +kernel
theorem dX12_easeOf_3 : decode cX12_easeOf 3 = .ok (.iconst 1, 1) := by decide +kernel
theorem dX12_easeOf_4 : decode cX12_easeOf 4 = .ok (.if_icmp .ne 10, 3) := by decide +kernel
theorem dX12_easeOf_7 : decode cX12_easeOf 7 = .ok (.aload_n 0, 1) := by decide +kernel
theorem dX12_easeOf_8 : decode cX12_easeOf 8 = .ok (.getfield 26, 3) := by decide +kernel
theorem dX12_easeOf_11 : decode cX12_easeOf 11 = .ok (.iload_n 1, 1) := by decide +kernel
theorem dX12_easeOf_12 : decode cX12_easeOf 12 = .ok (.iaload, 1) := by decide +kernel
theorem dX12_easeOf_13 : decode cX12_easeOf 13 = .ok (.istore_n 3, 1) := by decide +kernel
theorem dX12_easeOf_14 : decode cX12_easeOf 14 = .ok (.iload_n 2, 1) := by decide +kernel
theorem dX12_easeOf_15 : decode cX12_easeOf 15 = .ok (.iconst 2, 1) := by decide +kernel
theorem dX12_easeOf_16 : decode cX12_easeOf 16 = .ok (.if_icmp .ne 29, 3) := by decide +kernel
theorem dX12_easeOf_19 : decode cX12_easeOf 19 = .ok (.iload_n 1, 1) := by decide +kernel
theorem dX12_easeOf_20 : decode cX12_easeOf 20 = .ok (.ifCond .ne 16, 3) := by decide +kernel
theorem dX12_easeOf_23 : decode cX12_easeOf 23 = .ok (.aload_n 0, 1) := by decide +kernel
theorem dX12_easeOf_24 : decode cX12_easeOf 24 = .ok (.getfield 26, 3) := by decide +kernel
theorem dX12_easeOf_27 : decode cX12_easeOf 27 = .ok (.iload_n 1, 1) := by decide +kernel
theorem dX12_easeOf_28 : decode cX12_easeOf 28 = .ok (.iaload, 1) := by decide +kernel
theorem dX12_easeOf_29 : decode cX12_easeOf 29 = .ok (.iconst 2, 1) := by decide +kernel
theorem dX12_easeOf_30 : decode cX12_easeOf 30 = .ok (.idiv, 1) := by decide +kernel
theorem dX12_easeOf_31 : decode cX12_easeOf 31 = .ok (.iconst 2, 1) := by decide +kernel
theorem dX12_easeOf_32 : decode cX12_easeOf 32 = .ok (.iadd, 1) := by decide +kernel
theorem dX12_easeOf_33 : decode cX12_easeOf 33 = .ok (.goto 11, 3) := by decide +kernel
theorem dX12_easeOf_36 : decode cX12_easeOf 36 = .ok (.aload_n 0, 1) := by decide +kernel
theorem dX12_easeOf_37 : decode cX12_easeOf 37 = .ok (.getfield 26, 3) := by decide +kernel
theorem dX12_easeOf_40 : decode cX12_easeOf 40 = .ok (.iload_n 1, 1) := by decide +kernel
theorem dX12_easeOf_41 : decode cX12_easeOf 41 = .ok (.iaload, 1) := by decide +kernel
theorem dX12_easeOf_42 : decode cX12_easeOf 42 = .ok (.iconst 2, 1) := by decide +kernel
theorem dX12_easeOf_43 : decode cX12_easeOf 43 = .ok (.idiv, 1) := by decide +kernel
theorem dX12_easeOf_44 : decode cX12_easeOf 44 = .ok (.istore_n 3, 1) := by decide +kernel
theorem dX12_easeOf_45 : decode cX12_easeOf 45 = .ok (.iload_n 2, 1) := by decide +kernel
theorem dX12_easeOf_46 : decode cX12_easeOf 46 = .ok (.iconst 3, 1) := by decide +kernel
theorem dX12_easeOf_47 : decode cX12_easeOf 47 = .ok (.if_icmp .ne 15, 3) := by decide +kernel
theorem dX12_easeOf_50 : decode cX12_easeOf 50 = .ok (.iload_n 1, 1) := by decide +kernel
theorem dX12_easeOf_51 : decode cX12_easeOf 51 = .ok (.iconst 2, 1) := by decide +kernel
theorem dX12_easeOf_52 : decode cX12_easeOf 52 = .ok (.irem, 1) := by decide +kernel
theorem dX12_easeOf_53 : decode cX12_easeOf 53 = .ok (.ifCond .ne 7, 3) := by decide +kernel
theorem dX12_easeOf_56 : decode cX12_easeOf 56 = .ok (.iconst 1, 1) := by decide +kernel
theorem dX12_easeOf_57 : decode cX12_easeOf 57 = .ok (.goto 4, 3) := by decide +kernel
theorem dX12_easeOf_60 : decode cX12_easeOf 60 = .ok (.iconst 0, 1) := by decide +kernel
theorem dX12_easeOf_61 : decode cX12_easeOf 61 = .ok (.istore_n 3, 1) := by decide +kernel
theorem dX12_easeOf_62 : decode cX12_easeOf 62 = .ok (.aload_n 0, 1) := by decide +kernel
theorem dX12_easeOf_63 : decode cX12_easeOf 63 = .ok (.getfield 20, 3) := by decide +kernel
theorem dX12_easeOf_66 : decode cX12_easeOf 66 = .ok (.iload_n 1, 1) := by decide +kernel
theorem dX12_easeOf_67 : decode cX12_easeOf 67 = .ok (.iaload, 1) := by decide +kernel
theorem dX12_easeOf_68 : decode cX12_easeOf 68 = .ok (.aload_n 0, 1) := by decide +kernel
theorem dX12_easeOf_69 : decode cX12_easeOf 69 = .ok (.getfield 16, 3) := by decide +kernel
theorem dX12_easeOf_72 : decode cX12_easeOf 72 = .ok (.iload_n 1, 1) := by decide +kernel
theorem dX12_easeOf_73 : decode cX12_easeOf 73 = .ok (.iaload, 1) := by decide +kernel
theorem dX12_easeOf_74 : decode cX12_easeOf 74 = .ok (.isub, 1) := by decide +kernel
theorem dX12_easeOf_75 : decode cX12_easeOf 75 = .ok (.iload_n 3, 1) := by decide +kernel
theorem dX12_easeOf_76 : decode cX12_easeOf 76 = .ok (.isub, 1) := by decide +kernel
theorem dX12_easeOf_77 : decode cX12_easeOf 77 = .ok (.ireturn, 1) := by decide +kernel
theorem dX12_fits_0 : decode cX12_fits 0 = .ok (.aload_n 0, 1) := by decide +kernel
theorem dX12_fits_1 : decode cX12_fits 1 = .ok (.iload_n 1, 1) := by decide +kernel
theorem dX12_fits_2 : decode cX12_fits 2 = .ok (.iload_n 2, 1) := by decide +kernel
theorem dX12_fits_3 : decode cX12_fits 3 = .ok (.invokevirtual 88, 3) := by decide +kernel
theorem dX12_fits_6 : decode cX12_fits 6 = .ok (.istore_n 3, 1) := by decide +kernel
theorem dX12_fits_7 : decode cX12_fits 7 = .ok (.iload_n 3, 1) := by decide +kernel
theorem dX12_fits_8 : decode cX12_fits 8 = .ok (.aload_n 0, 1) := by decide +kernel
theorem dX12_fits_9 : decode cX12_fits 9 = .ok (.getfield 7, 3) := by decide +kernel
theorem dX12_fits_12 : decode cX12_fits 12 = .ok (.if_icmp .lt 19, 3) := by decide +kernel
theorem dX12_fits_15 : decode cX12_fits 15 = .ok (.iload_n 2, 1) := by decide +kernel
theorem dX12_fits_16 : decode cX12_fits 16 = .ok (.ifCond .gt 11, 3) := by decide +kernel
theorem dX12_fits_19 : decode cX12_fits 19 = .ok (.iload_n 3, 1) := by decide +kernel
theorem dX12_fits_20 : decode cX12_fits 20 = .ok (.aload_n 0, 1) := by decide +kernel
theorem dX12_fits_21 : decode cX12_fits 21 = .ok (.getfield 13, 3) := by decide +kernel
theorem dX12_fits_24 : decode cX12_fits 24 = .ok (.if_icmp .gt 7, 3) := by decide +kernel
theorem dX12_fits_27 : decode cX12_fits 27 = .ok (.iconst 1, 1) := by decide +kernel
theorem dX12_fits_28 : decode cX12_fits 28 = .ok (.goto 4, 3) := by decide +kernel
theorem dX12_fits_31 : decode cX12_fits 31 = .ok (.iconst 0, 1) := by decide +kernel
theorem dX12_fits_32 : decode cX12_fits 32 = .ok (.ireturn, 1) := by decide +kernel
theorem dX12_lacksNow_0 : decode cX12_lacksNow 0 = .ok (.iconst 0, 1) := by decide +kernel
theorem dX12_lacksNow_1 : decode cX12_lacksNow 1 = .ok (.istore_n 1, 1) := by decide +kernel
theorem dX12_lacksNow_2 : decode cX12_lacksNow 2 = .ok (.iconst 0, 1) := by decide +kernel
theorem dX12_lacksNow_3 : decode cX12_lacksNow 3 = .ok (.istore_n 2, 1) := by decide +kernel
theorem dX12_lacksNow_4 : decode cX12_lacksNow 4 = .ok (.iload_n 2, 1) := by decide +kernel
theorem dX12_lacksNow_5 : decode cX12_lacksNow 5 = .ok (.aload_n 0, 1) := by decide +kernel
theorem dX12_lacksNow_6 : decode cX12_lacksNow 6 = .ok (.getfield 81, 3) := by decide +kernel
theorem dX12_lacksNow_9 : decode cX12_lacksNow 9 = .ok (.if_icmp .ge 73, 3) := by decide +kernel
theorem dX12_lacksNow_12 : decode cX12_lacksNow 12 = .ok (.iconst 0, 1) := by decide +kernel
theorem dX12_lacksNow_13 : decode cX12_lacksNow 13 = .ok (.istore_n 3, 1) := by decide +kernel
theorem dX12_lacksNow_14 : decode cX12_lacksNow 14 = .ok (.iload_n 3, 1) := by decide +kernel
theorem dX12_lacksNow_15 : decode cX12_lacksNow 15 = .ok (.iconst 4, 1) := by decide +kernel
theorem dX12_lacksNow_16 : decode cX12_lacksNow 16 = .ok (.if_icmp .ge 36, 3) := by decide +kernel
theorem dX12_lacksNow_19 : decode cX12_lacksNow 19 = .ok (.aload_n 0, 1) := by decide +kernel
theorem dX12_lacksNow_20 : decode cX12_lacksNow 20 = .ok (.getfield 7, 3) := by decide +kernel
theorem dX12_lacksNow_23 : decode cX12_lacksNow 23 = .ok (.aload_n 0, 1) := by decide +kernel
theorem dX12_lacksNow_24 : decode cX12_lacksNow 24 = .ok (.iload_n 2, 1) := by decide +kernel
theorem dX12_lacksNow_25 : decode cX12_lacksNow 25 = .ok (.iload_n 3, 1) := by decide +kernel
theorem dX12_lacksNow_26 : decode cX12_lacksNow 26 = .ok (.invokevirtual 88, 3) := by decide +kernel
theorem dX12_lacksNow_29 : decode cX12_lacksNow 29 = .ok (.isub, 1) := by decide +kernel
theorem dX12_lacksNow_30 : decode cX12_lacksNow 30 = .ok (.istore 4, 2) := by decide +kernel
theorem dX12_lacksNow_32 : decode cX12_lacksNow 32 = .ok (.iload_n 1, 1) := by decide +kernel
theorem dX12_lacksNow_33 : decode cX12_lacksNow 33 = .ok (.iload 4, 2) := by decide +kernel
theorem dX12_lacksNow_35 : decode cX12_lacksNow 35 = .ok (.ifCond .le 8, 3) := by decide +kernel
theorem dX12_lacksNow_38 : decode cX12_lacksNow 38 = .ok (.iload 4, 2) := by decide +kernel
theorem dX12_lacksNow_40 : decode cX12_lacksNow 40 = .ok (.goto 4, 3) := by decide +kernel
theorem dX12_lacksNow_43 : decode cX12_lacksNow 43 = .ok (.iconst 0, 1) := by decide +kernel
theorem dX12_lacksNow_44 : decode cX12_lacksNow 44 = .ok (.iadd, 1) := by decide +kernel
theorem dX12_lacksNow_45 : decode cX12_lacksNow 45 = .ok (.istore_n 1, 1) := by decide +kernel
theorem dX12_lacksNow_46 : decode cX12_lacksNow 46 = .ok (.iinc 3 1, 3) := by decide +kernel
theorem dX12_lacksNow_49 : decode cX12_lacksNow 49 = .ok (.goto (-35), 3) := by decide +kernel
theorem dX12_lacksNow_52 : decode cX12_lacksNow 52 = .ok (.aload_n 0, 1) := by decide +kernel
theorem dX12_lacksNow_53 : decode cX12_lacksNow 53 = .ok (.iload_n 2, 1) := by decide +kernel
theorem dX12_lacksNow_54 : decode cX12_lacksNow 54 = .ok (.iconst 0, 1) := by decide +kernel
theorem dX12_lacksNow_55 : decode cX12_lacksNow 55 = .ok (.invokevirtual 88, 3) := by decide +kernel
theorem dX12_lacksNow_58 : decode cX12_lacksNow 58 = .ok (.aload_n 0, 1) := by decide +kernel
theorem dX12_lacksNow_59 : decode cX12_lacksNow 59 = .ok (.getfield 13, 3) := by decide +kernel
theorem dX12_lacksNow_62 : decode cX12_lacksNow 62 = .ok (.isub, 1) := by decide +kernel
theorem dX12_lacksNow_63 : decode cX12_lacksNow 63 = .ok (.istore_n 3, 1) := by decide +kernel
theorem dX12_lacksNow_64 : decode cX12_lacksNow 64 = .ok (.iload_n 1, 1) := by decide +kernel
theorem dX12_lacksNow_65 : decode cX12_lacksNow 65 = .ok (.iload_n 3, 1) := by decide +kernel
theorem dX12_lacksNow_66 : decode cX12_lacksNow 66 = .ok (.ifCond .le 7, 3) := by decide +kernel
theorem dX12_lacksNow_69 : decode cX12_lacksNow 69 = .ok (.iload_n 3, 1) := by decide +kernel
theorem dX12_lacksNow_70 : decode cX12_lacksNow 70 = .ok (.goto 4, 3) := by decide +kernel
theorem dX12_lacksNow_73 : decode cX12_lacksNow 73 = .ok (.iconst 0, 1) := by decide +kernel
theorem dX12_lacksNow_74 : decode cX12_lacksNow 74 = .ok (.iadd, 1) := by decide +kernel
theorem dX12_lacksNow_75 : decode cX12_lacksNow 75 = .ok (.istore_n 1, 1) := by decide +kernel
theorem dX12_lacksNow_76 : decode cX12_lacksNow 76 = .ok (.iinc 2 1, 3) := by decide +kernel
theorem dX12_lacksNow_79 : decode cX12_lacksNow 79 = .ok (.goto (-75), 3) := by decide +kernel
theorem dX12_lacksNow_82 : decode cX12_lacksNow 82 = .ok (.iload_n 1, 1) := by decide +kernel
theorem dX12_lacksNow_83 : decode cX12_lacksNow 83 = .ok (.ireturn, 1) := by decide +kernel
theorem dX12_minutesOf_0 : decode cX12_minutesOf 0 = .ok (.iload_n 0, 1) := by decide +kernel
theorem dX12_minutesOf_1 : decode cX12_minutesOf 1 = .ok (.tableswitch 74 0 6 #[43, 45, 49, 55, 61, 68, 70], 43) := by decide +kernel
theorem dX12_minutesOf_44 : decode cX12_minutesOf 44 = .ok (.iconst 1, 1) := by decide +kernel
theorem dX12_minutesOf_45 : decode cX12_minutesOf 45 = .ok (.ireturn, 1) := by decide +kernel
theorem dX12_minutesOf_46 : decode cX12_minutesOf 46 = .ok (.iconst 1, 1) := by decide +kernel
theorem dX12_minutesOf_47 : decode cX12_minutesOf 47 = .ok (.iload_n 1, 1) := by decide +kernel
theorem dX12_minutesOf_48 : decode cX12_minutesOf 48 = .ok (.iadd, 1) := by decide +kernel
theorem dX12_minutesOf_49 : decode cX12_minutesOf 49 = .ok (.ireturn, 1) := by decide +kernel
theorem dX12_minutesOf_50 : decode cX12_minutesOf 50 = .ok (.iconst 1, 1) := by decide +kernel
theorem dX12_minutesOf_51 : decode cX12_minutesOf 51 = .ok (.iconst 2, 1) := by decide +kernel
theorem dX12_minutesOf_52 : decode cX12_minutesOf 52 = .ok (.iload_n 1, 1) := by decide +kernel
theorem dX12_minutesOf_53 : decode cX12_minutesOf 53 = .ok (.imul, 1) := by decide +kernel
theorem dX12_minutesOf_54 : decode cX12_minutesOf 54 = .ok (.iadd, 1) := by decide +kernel
theorem dX12_minutesOf_55 : decode cX12_minutesOf 55 = .ok (.ireturn, 1) := by decide +kernel
theorem dX12_minutesOf_56 : decode cX12_minutesOf 56 = .ok (.iconst 3, 1) := by decide +kernel
theorem dX12_minutesOf_57 : decode cX12_minutesOf 57 = .ok (.iconst 3, 1) := by decide +kernel
theorem dX12_minutesOf_58 : decode cX12_minutesOf 58 = .ok (.iload_n 1, 1) := by decide +kernel
theorem dX12_minutesOf_59 : decode cX12_minutesOf 59 = .ok (.imul, 1) := by decide +kernel
theorem dX12_minutesOf_60 : decode cX12_minutesOf 60 = .ok (.iadd, 1) := by decide +kernel
theorem dX12_minutesOf_61 : decode cX12_minutesOf 61 = .ok (.ireturn, 1) := by decide +kernel
theorem dX12_minutesOf_62 : decode cX12_minutesOf 62 = .ok (.bipush 10, 2) := by decide +kernel
theorem dX12_minutesOf_64 : decode cX12_minutesOf 64 = .ok (.iconst 2, 1) := by decide +kernel
theorem dX12_minutesOf_65 : decode cX12_minutesOf 65 = .ok (.iload_n 1, 1) := by decide +kernel
theorem dX12_minutesOf_66 : decode cX12_minutesOf 66 = .ok (.imul, 1) := by decide +kernel
theorem dX12_minutesOf_67 : decode cX12_minutesOf 67 = .ok (.iadd, 1) := by decide +kernel
theorem dX12_minutesOf_68 : decode cX12_minutesOf 68 = .ok (.ireturn, 1) := by decide +kernel
theorem dX12_minutesOf_69 : decode cX12_minutesOf 69 = .ok (.iconst 0, 1) := by decide +kernel
theorem dX12_minutesOf_70 : decode cX12_minutesOf 70 = .ok (.ireturn, 1) := by decide +kernel
theorem dX12_minutesOf_71 : decode cX12_minutesOf 71 = .ok (.iconst 1, 1) := by decide +kernel
theorem dX12_minutesOf_72 : decode cX12_minutesOf 72 = .ok (.iload_n 1, 1) := by decide +kernel
theorem dX12_minutesOf_73 : decode cX12_minutesOf 73 = .ok (.iadd, 1) := by decide +kernel
theorem dX12_minutesOf_74 : decode cX12_minutesOf 74 = .ok (.ireturn, 1) := by decide +kernel
theorem dX12_minutesOf_75 : decode cX12_minutesOf 75 = .ok (.iconst 5, 1) := by decide +kernel
theorem dX12_minutesOf_76 : decode cX12_minutesOf 76 = .ok (.iload_n 1, 1) := by decide +kernel
theorem dX12_minutesOf_77 : decode cX12_minutesOf 77 = .ok (.iadd, 1) := by decide +kernel
theorem dX12_minutesOf_78 : decode cX12_minutesOf 78 = .ok (.ireturn, 1) := by decide +kernel
theorem dX12_mayBe_0 : decode cX12_mayBe 0 = .ok (.iload_n 1, 1) := by decide +kernel
theorem dX12_mayBe_1 : decode cX12_mayBe 1 = .ok (.tableswitch 140 1 7 #[43, 59, 75, 140, 101, 59, 114], 43) := by decide +kernel
theorem dX12_mayBe_44 : decode cX12_mayBe 44 = .ok (.aload_n 0, 1) := by decide +kernel
theorem dX12_mayBe_45 : decode cX12_mayBe 45 = .ok (.getfield 20, 3) := by decide +kernel
theorem dX12_mayBe_48 : decode cX12_mayBe 48 = .ok (.iload_n 3, 1) := by decide +kernel
theorem dX12_mayBe_49 : decode cX12_mayBe 49 = .ok (.iaload, 1) := by decide +kernel
theorem dX12_mayBe_50 : decode cX12_mayBe 50 = .ok (.iload_n 2, 1) := by decide +kernel
theorem dX12_mayBe_51 : decode cX12_mayBe 51 = .ok (.if_icmp .le 7, 3) := by decide +kernel
theorem dX12_mayBe_54 : decode cX12_mayBe 54 = .ok (.iconst 1, 1) := by decide +kernel
theorem dX12_mayBe_55 : decode cX12_mayBe 55 = .ok (.goto 4, 3) := by decide +kernel
theorem dX12_mayBe_58 : decode cX12_mayBe 58 = .ok (.iconst 0, 1) := by decide +kernel
theorem dX12_mayBe_59 : decode cX12_mayBe 59 = .ok (.ireturn, 1) := by decide +kernel
theorem dX12_mayBe_60 : decode cX12_mayBe 60 = .ok (.aload_n 0, 1) := by decide +kernel
theorem dX12_mayBe_61 : decode cX12_mayBe 61 = .ok (.getfield 23, 3) := by decide +kernel
theorem dX12_mayBe_64 : decode cX12_mayBe 64 = .ok (.iload_n 3, 1) := by decide +kernel
theorem dX12_mayBe_65 : decode cX12_mayBe 65 = .ok (.iaload, 1) := by decide +kernel
theorem dX12_mayBe_66 : decode cX12_mayBe 66 = .ok (.iload_n 2, 1) := by decide +kernel
theorem dX12_mayBe_67 : decode cX12_mayBe 67 = .ok (.if_icmp .lt 7, 3) := by decide +kernel
theorem dX12_mayBe_70 : decode cX12_mayBe 70 = .ok (.iconst 1, 1) := by decide +kernel
theorem dX12_mayBe_71 : decode cX12_mayBe 71 = .ok (.goto 4, 3) := by decide +kernel
theorem dX12_mayBe_74 : decode cX12_mayBe 74 = .ok (.iconst 0, 1) := by decide +kernel
theorem dX12_mayBe_75 : decode cX12_mayBe 75 = .ok (.ireturn, 1) := by decide +kernel
theorem dX12_mayBe_76 : decode cX12_mayBe 76 = .ok (.aload_n 0, 1) := by decide +kernel
theorem dX12_mayBe_77 : decode cX12_mayBe 77 = .ok (.getfield 20, 3) := by decide +kernel
theorem dX12_mayBe_80 : decode cX12_mayBe 80 = .ok (.iload_n 3, 1) := by decide +kernel
theorem dX12_mayBe_81 : decode cX12_mayBe 81 = .ok (.iaload, 1) := by decide +kernel
theorem dX12_mayBe_82 : decode cX12_mayBe 82 = .ok (.iload_n 2, 1) := by decide +kernel
theorem dX12_mayBe_83 : decode cX12_mayBe 83 = .ok (.if_icmp .le 17, 3) := by decide +kernel
theorem dX12_mayBe_86 : decode cX12_mayBe 86 = .ok (.iload_n 3, 1) := by decide +kernel
theorem dX12_mayBe_87 : decode cX12_mayBe 87 = .ok (.iconst 1, 1) := by decide +kernel
theorem dX12_mayBe_88 : decode cX12_mayBe 88 = .ok (.iadd, 1) := by decide +kernel
theorem dX12_mayBe_89 : decode cX12_mayBe 89 = .ok (.aload_n 0, 1) := by decide +kernel
theorem dX12_mayBe_90 : decode cX12_mayBe 90 = .ok (.getfield 81, 3) := by decide +kernel
theorem dX12_mayBe_93 : decode cX12_mayBe 93 = .ok (.if_icmp .ge 7, 3) := by decide +kernel
theorem dX12_mayBe_96 : decode cX12_mayBe 96 = .ok (.iconst 1, 1) := by decide +kernel
theorem dX12_mayBe_97 : decode cX12_mayBe 97 = .ok (.goto 4, 3) := by decide +kernel
theorem dX12_mayBe_100 : decode cX12_mayBe 100 = .ok (.iconst 0, 1) := by decide +kernel
theorem dX12_mayBe_101 : decode cX12_mayBe 101 = .ok (.ireturn, 1) := by decide +kernel
theorem dX12_mayBe_102 : decode cX12_mayBe 102 = .ok (.aload_n 0, 1) := by decide +kernel
theorem dX12_mayBe_103 : decode cX12_mayBe 103 = .ok (.getfield 92, 3) := by decide +kernel
theorem dX12_mayBe_106 : decode cX12_mayBe 106 = .ok (.ifCond .le 7, 3) := by decide +kernel
theorem dX12_mayBe_109 : decode cX12_mayBe 109 = .ok (.iconst 1, 1) := by decide +kernel
theorem dX12_mayBe_110 : decode cX12_mayBe 110 = .ok (.goto 4, 3) := by decide +kernel
theorem dX12_mayBe_113 : decode cX12_mayBe 113 = .ok (.iconst 0, 1) := by decide +kernel
theorem dX12_mayBe_114 : decode cX12_mayBe 114 = .ok (.ireturn, 1) := by decide +kernel
theorem dX12_mayBe_115 : decode cX12_mayBe 115 = .ok (.aload_n 0, 1) := by decide +kernel
theorem dX12_mayBe_116 : decode cX12_mayBe 116 = .ok (.getfield 20, 3) := by decide +kernel
theorem dX12_mayBe_119 : decode cX12_mayBe 119 = .ok (.iload_n 3, 1) := by decide +kernel
theorem dX12_mayBe_120 : decode cX12_mayBe 120 = .ok (.iaload, 1) := by decide +kernel
theorem dX12_mayBe_121 : decode cX12_mayBe 121 = .ok (.iload_n 2, 1) := by decide +kernel
theorem dX12_mayBe_122 : decode cX12_mayBe 122 = .ok (.if_icmp .le 17, 3) := by decide +kernel
theorem dX12_mayBe_125 : decode cX12_mayBe 125 = .ok (.iload_n 3, 1) := by decide +kernel
theorem dX12_mayBe_126 : decode cX12_mayBe 126 = .ok (.iconst 1, 1) := by decide +kernel
theorem dX12_mayBe_127 : decode cX12_mayBe 127 = .ok (.iadd, 1) := by decide +kernel
theorem dX12_mayBe_128 : decode cX12_mayBe 128 = .ok (.aload_n 0, 1) := by decide +kernel
theorem dX12_mayBe_129 : decode cX12_mayBe 129 = .ok (.getfield 81, 3) := by decide +kernel
theorem dX12_mayBe_132 : decode cX12_mayBe 132 = .ok (.if_icmp .ne 7, 3) := by decide +kernel
theorem dX12_mayBe_135 : decode cX12_mayBe 135 = .ok (.iconst 1, 1) := by decide +kernel
theorem dX12_mayBe_136 : decode cX12_mayBe 136 = .ok (.goto 4, 3) := by decide +kernel
theorem dX12_mayBe_139 : decode cX12_mayBe 139 = .ok (.iconst 0, 1) := by decide +kernel
theorem dX12_mayBe_140 : decode cX12_mayBe 140 = .ok (.ireturn, 1) := by decide +kernel
theorem dX12_mayBe_141 : decode cX12_mayBe 141 = .ok (.iconst 1, 1) := by decide +kernel
theorem dX12_mayBe_142 : decode cX12_mayBe 142 = .ok (.ireturn, 1) := by decide +kernel
theorem dX12_most_0 : decode cX12_most 0 = .ok (.iload_n 0, 1) := by decide +kernel
theorem dX12_most_1 : decode cX12_most 1 = .ok (.iload_n 1, 1) := by decide +kernel
theorem dX12_most_2 : decode cX12_most 2 = .ok (.if_icmp .le 7, 3) := by decide +kernel
theorem dX12_most_5 : decode cX12_most 5 = .ok (.iload_n 1, 1) := by decide +kernel
theorem dX12_most_6 : decode cX12_most 6 = .ok (.goto 4, 3) := by decide +kernel
theorem dX12_most_9 : decode cX12_most 9 = .ok (.iload_n 0, 1) := by decide +kernel
theorem dX12_most_10 : decode cX12_most 10 = .ok (.ireturn, 1) := by decide +kernel
theorem dX12_widen_0 : decode cX12_widen 0 = .ok (.aload_n 0, 1) := by decide +kernel
theorem dX12_widen_1 : decode cX12_widen 1 = .ok (.getfield 20, 3) := by decide +kernel
theorem dX12_widen_4 : decode cX12_widen 4 = .ok (.iload_n 1, 1) := by decide +kernel
theorem dX12_widen_5 : decode cX12_widen 5 = .ok (.aload_n 0, 1) := by decide +kernel
theorem dX12_widen_6 : decode cX12_widen 6 = .ok (.getfield 20, 3) := by decide +kernel
theorem dX12_widen_9 : decode cX12_widen 9 = .ok (.iload_n 1, 1) := by decide +kernel
theorem dX12_widen_10 : decode cX12_widen 10 = .ok (.iaload, 1) := by decide +kernel
theorem dX12_widen_11 : decode cX12_widen 11 = .ok (.iload_n 2, 1) := by decide +kernel
theorem dX12_widen_12 : decode cX12_widen 12 = .ok (.iadd, 1) := by decide +kernel
theorem dX12_widen_13 : decode cX12_widen 13 = .ok (.bipush 99, 2) := by decide +kernel
theorem dX12_widen_15 : decode cX12_widen 15 = .ok (.invokestatic 95, 3) := by decide +kernel
theorem dX12_widen_18 : decode cX12_widen 18 = .ok (.iastore, 1) := by decide +kernel
theorem dX12_widen_19 : decode cX12_widen 19 = .ok (.return_, 1) := by decide +kernel
theorem dX12_does_0 : decode cX12_does 0 = .ok (.iload_n 1, 1) := by decide +kernel
theorem dX12_does_1 : decode cX12_does 1 = .ok (.iconst 1, 1) := by decide +kernel
theorem dX12_does_2 : decode cX12_does 2 = .ok (.if_icmp .eq 14, 3) := by decide +kernel
theorem dX12_does_5 : decode cX12_does 5 = .ok (.iload_n 1, 1) := by decide +kernel
theorem dX12_does_6 : decode cX12_does 6 = .ok (.iconst 3, 1) := by decide +kernel
theorem dX12_does_7 : decode cX12_does 7 = .ok (.if_icmp .eq 9, 3) := by decide +kernel
theorem dX12_does_10 : decode cX12_does 10 = .ok (.iload_n 1, 1) := by decide +kernel
theorem dX12_does_11 : decode cX12_does 11 = .ok (.bipush 7, 2) := by decide +kernel
theorem dX12_does_13 : decode cX12_does 13 = .ok (.if_icmp .ne 34, 3) := by decide +kernel
theorem dX12_does_16 : decode cX12_does 16 = .ok (.aload_n 0, 1) := by decide +kernel
theorem dX12_does_17 : decode cX12_does 17 = .ok (.getfield 20, 3) := by decide +kernel
theorem dX12_does_20 : decode cX12_does 20 = .ok (.iload_n 3, 1) := by decide +kernel
theorem dX12_does_21 : decode cX12_does 21 = .ok (.dup2, 1) := by decide +kernel
theorem dX12_does_22 : decode cX12_does 22 = .ok (.iaload, 1) := by decide +kernel
theorem dX12_does_23 : decode cX12_does 23 = .ok (.iload_n 2, 1) := by decide +kernel
theorem dX12_does_24 : decode cX12_does 24 = .ok (.isub, 1) := by decide +kernel
theorem dX12_does_25 : decode cX12_does 25 = .ok (.iastore, 1) := by decide +kernel
theorem dX12_does_26 : decode cX12_does 26 = .ok (.aload_n 0, 1) := by decide +kernel
theorem dX12_does_27 : decode cX12_does 27 = .ok (.getfield 23, 3) := by decide +kernel
theorem dX12_does_30 : decode cX12_does 30 = .ok (.iload_n 3, 1) := by decide +kernel
theorem dX12_does_31 : decode cX12_does 31 = .ok (.aload_n 0, 1) := by decide +kernel
theorem dX12_does_32 : decode cX12_does 32 = .ok (.getfield 23, 3) := by decide +kernel
theorem dX12_does_35 : decode cX12_does 35 = .ok (.iload_n 3, 1) := by decide +kernel
theorem dX12_does_36 : decode cX12_does 36 = .ok (.iaload, 1) := by decide +kernel
theorem dX12_does_37 : decode cX12_does 37 = .ok (.iload_n 2, 1) := by decide +kernel
theorem dX12_does_38 : decode cX12_does 38 = .ok (.iconst 2, 1) := by decide +kernel
theorem dX12_does_39 : decode cX12_does 39 = .ok (.idiv, 1) := by decide +kernel
theorem dX12_does_40 : decode cX12_does 40 = .ok (.iadd, 1) := by decide +kernel
theorem dX12_does_41 : decode cX12_does 41 = .ok (.bipush 9, 2) := by decide +kernel
theorem dX12_does_43 : decode cX12_does 43 = .ok (.invokestatic 95, 3) := by decide +kernel
theorem dX12_does_46 : decode cX12_does 46 = .ok (.iastore, 1) := by decide +kernel
theorem dX12_does_47 : decode cX12_does 47 = .ok (.iload_n 1, 1) := by decide +kernel
theorem dX12_does_48 : decode cX12_does 48 = .ok (.iconst 2, 1) := by decide +kernel
theorem dX12_does_49 : decode cX12_does 49 = .ok (.if_icmp .eq 9, 3) := by decide +kernel
theorem dX12_does_52 : decode cX12_does 52 = .ok (.iload_n 1, 1) := by decide +kernel
theorem dX12_does_53 : decode cX12_does 53 = .ok (.bipush 6, 2) := by decide +kernel
theorem dX12_does_55 : decode cX12_does 55 = .ok (.if_icmp .ne 19, 3) := by decide +kernel
theorem dX12_does_58 : decode cX12_does 58 = .ok (.aload_n 0, 1) := by decide +kernel
theorem dX12_does_59 : decode cX12_does 59 = .ok (.iload_n 3, 1) := by decide +kernel
theorem dX12_does_60 : decode cX12_does 60 = .ok (.iload_n 2, 1) := by decide +kernel
theorem dX12_does_61 : decode cX12_does 61 = .ok (.invokevirtual 98, 3) := by decide +kernel
theorem dX12_does_64 : decode cX12_does 64 = .ok (.aload_n 0, 1) := by decide +kernel
theorem dX12_does_65 : decode cX12_does 65 = .ok (.getfield 23, 3) := by decide +kernel
theorem dX12_does_68 : decode cX12_does 68 = .ok (.iload_n 3, 1) := by decide +kernel
theorem dX12_does_69 : decode cX12_does 69 = .ok (.dup2, 1) := by decide +kernel
theorem dX12_does_70 : decode cX12_does 70 = .ok (.iaload, 1) := by decide +kernel
theorem dX12_does_71 : decode cX12_does 71 = .ok (.iload_n 2, 1) := by decide +kernel
theorem dX12_does_72 : decode cX12_does 72 = .ok (.isub, 1) := by decide +kernel
theorem dX12_does_73 : decode cX12_does 73 = .ok (.iastore, 1) := by decide +kernel
theorem dX12_does_74 : decode cX12_does 74 = .ok (.iload_n 1, 1) := by decide +kernel
theorem dX12_does_75 : decode cX12_does 75 = .ok (.iconst 3, 1) := by decide +kernel
theorem dX12_does_76 : decode cX12_does 76 = .ok (.if_icmp .ne 11, 3) := by decide +kernel
theorem dX12_does_79 : decode cX12_does 79 = .ok (.aload_n 0, 1) := by decide +kernel
theorem dX12_does_80 : decode cX12_does 80 = .ok (.iload_n 3, 1) := by decide +kernel
theorem dX12_does_81 : decode cX12_does 81 = .ok (.iconst 1, 1) := by decide +kernel
theorem dX12_does_82 : decode cX12_does 82 = .ok (.iadd, 1) := by decide +kernel
theorem dX12_does_83 : decode cX12_does 83 = .ok (.iload_n 2, 1) := by decide +kernel
theorem dX12_does_84 : decode cX12_does 84 = .ok (.invokevirtual 98, 3) := by decide +kernel
theorem dX12_does_87 : decode cX12_does 87 = .ok (.iload_n 1, 1) := by decide +kernel
theorem dX12_does_88 : decode cX12_does 88 = .ok (.iconst 4, 1) := by decide +kernel
theorem dX12_does_89 : decode cX12_does 89 = .ok (.if_icmp .ne 11, 3) := by decide +kernel
theorem dX12_does_92 : decode cX12_does 92 = .ok (.aload_n 0, 1) := by decide +kernel
theorem dX12_does_93 : decode cX12_does 93 = .ok (.iload_n 3, 1) := by decide +kernel
theorem dX12_does_94 : decode cX12_does 94 = .ok (.iconst 2, 1) := by decide +kernel
theorem dX12_does_95 : decode cX12_does 95 = .ok (.iload_n 2, 1) := by decide +kernel
theorem dX12_does_96 : decode cX12_does 96 = .ok (.imul, 1) := by decide +kernel
theorem dX12_does_97 : decode cX12_does 97 = .ok (.invokevirtual 98, 3) := by decide +kernel
theorem dX12_does_100 : decode cX12_does 100 = .ok (.aload_n 0, 1) := by decide +kernel
theorem dX12_does_101 : decode cX12_does 101 = .ok (.iload_n 1, 1) := by decide +kernel
theorem dX12_does_102 : decode cX12_does 102 = .ok (.iconst 5, 1) := by decide +kernel
theorem dX12_does_103 : decode cX12_does 103 = .ok (.if_icmp .ne 12, 3) := by decide +kernel
theorem dX12_does_106 : decode cX12_does 106 = .ok (.aload_n 0, 1) := by decide +kernel
theorem dX12_does_107 : decode cX12_does 107 = .ok (.getfield 92, 3) := by decide +kernel
theorem dX12_does_110 : decode cX12_does 110 = .ok (.iconst 1, 1) := by decide +kernel
theorem dX12_does_111 : decode cX12_does 111 = .ok (.isub, 1) := by decide +kernel
theorem dX12_does_112 : decode cX12_does 112 = .ok (.goto 27, 3) := by decide +kernel
theorem dX12_does_115 : decode cX12_does 115 = .ok (.iload_n 1, 1) := by decide +kernel
theorem dX12_does_116 : decode cX12_does 116 = .ok (.bipush 6, 2) := by decide +kernel
theorem dX12_does_118 : decode cX12_does 118 = .ok (.if_icmp .ne 17, 3) := by decide +kernel
theorem dX12_does_121 : decode cX12_does 121 = .ok (.aload_n 0, 1) := by decide +kernel
theorem dX12_does_122 : decode cX12_does 122 = .ok (.getfield 92, 3) := by decide +kernel
theorem dX12_does_125 : decode cX12_does 125 = .ok (.iload_n 2, 1) := by decide +kernel
theorem dX12_does_126 : decode cX12_does 126 = .ok (.iadd, 1) := by decide +kernel
theorem dX12_does_127 : decode cX12_does 127 = .ok (.bipush 99, 2) := by decide +kernel
theorem dX12_does_129 : decode cX12_does 129 = .ok (.invokestatic 95, 3) := by decide +kernel
theorem dX12_does_132 : decode cX12_does 132 = .ok (.goto 7, 3) := by decide +kernel
theorem dX12_does_135 : decode cX12_does 135 = .ok (.aload_n 0, 1) := by decide +kernel
theorem dX12_does_136 : decode cX12_does 136 = .ok (.getfield 92, 3) := by decide +kernel
theorem dX12_does_139 : decode cX12_does 139 = .ok (.putfield 92, 3) := by decide +kernel
theorem dX12_does_142 : decode cX12_does 142 = .ok (.iconst 0, 1) := by decide +kernel
theorem dX12_does_143 : decode cX12_does 143 = .ok (.istore 4, 2) := by decide +kernel
theorem dX12_does_145 : decode cX12_does 145 = .ok (.iload 4, 2) := by decide +kernel
theorem dX12_does_147 : decode cX12_does 147 = .ok (.iload_n 3, 1) := by decide +kernel
theorem dX12_does_148 : decode cX12_does 148 = .ok (.if_icmp .ge 41, 3) := by decide +kernel
theorem dX12_does_151 : decode cX12_does 151 = .ok (.iload_n 1, 1) := by decide +kernel
theorem dX12_does_152 : decode cX12_does 152 = .ok (.bipush 7, 2) := by decide +kernel
theorem dX12_does_154 : decode cX12_does 154 = .ok (.if_icmp .ne 35, 3) := by decide +kernel
theorem dX12_does_157 : decode cX12_does 157 = .ok (.aload_n 0, 1) := by decide +kernel
theorem dX12_does_158 : decode cX12_does 158 = .ok (.getfield 20, 3) := by decide +kernel
theorem dX12_does_161 : decode cX12_does 161 = .ok (.iload 4, 2) := by decide +kernel
theorem dX12_does_163 : decode cX12_does 163 = .ok (.dup2, 1) := by decide +kernel
theorem dX12_does_164 : decode cX12_does 164 = .ok (.iaload, 1) := by decide +kernel
theorem dX12_does_165 : decode cX12_does 165 = .ok (.aload_n 0, 1) := by decide +kernel
theorem dX12_does_166 : decode cX12_does 166 = .ok (.getfield 20, 3) := by decide +kernel
theorem dX12_does_169 : decode cX12_does 169 = .ok (.iload 4, 2) := by decide +kernel
theorem dX12_does_171 : decode cX12_does 171 = .ok (.iaload, 1) := by decide +kernel
theorem dX12_does_172 : decode cX12_does 172 = .ok (.iconst 1, 1) := by decide +kernel
theorem dX12_does_173 : decode cX12_does 173 = .ok (.if_icmp .le 7, 3) := by decide +kernel
theorem dX12_does_176 : decode cX12_does 176 = .ok (.iconst 1, 1) := by decide +kernel
theorem dX12_does_177 : decode cX12_does 177 = .ok (.goto 4, 3) := by decide +kernel
theorem dX12_does_180 : decode cX12_does 180 = .ok (.iconst 0, 1) := by decide +kernel
theorem dX12_does_181 : decode cX12_does 181 = .ok (.isub, 1) := by decide +kernel
theorem dX12_does_182 : decode cX12_does 182 = .ok (.iastore, 1) := by decide +kernel
theorem dX12_does_183 : decode cX12_does 183 = .ok (.iinc 4 1, 3) := by decide +kernel
theorem dX12_does_186 : decode cX12_does 186 = .ok (.goto (-41), 3) := by decide +kernel
theorem dX12_does_189 : decode cX12_does 189 = .ok (.aload_n 0, 1) := by decide +kernel
theorem dX12_does_190 : decode cX12_does 190 = .ok (.aload_n 0, 1) := by decide +kernel
theorem dX12_does_191 : decode cX12_does 191 = .ok (.getfield 102, 3) := by decide +kernel
theorem dX12_does_194 : decode cX12_does 194 = .ok (.iload_n 1, 1) := by decide +kernel
theorem dX12_does_195 : decode cX12_does 195 = .ok (.iload_n 2, 1) := by decide +kernel
theorem dX12_does_196 : decode cX12_does 196 = .ok (.invokestatic 105, 3) := by decide +kernel
theorem dX12_does_199 : decode cX12_does 199 = .ok (.iadd, 1) := by decide +kernel
theorem dX12_does_200 : decode cX12_does 200 = .ok (.sipush 9999, 3) := by decide +kernel
theorem dX12_does_203 : decode cX12_does 203 = .ok (.invokestatic 95, 3) := by decide +kernel
theorem dX12_does_206 : decode cX12_does 206 = .ok (.putfield 102, 3) := by decide +kernel
theorem dX12_does_209 : decode cX12_does 209 = .ok (.return_, 1) := by decide +kernel
theorem dX12_carry_0 : decode cX12_carry 0 = .ok (.aload_n 0, 1) := by decide +kernel
theorem dX12_carry_1 : decode cX12_carry 1 = .ok (.getfield 108, 3) := by decide +kernel
theorem dX12_carry_4 : decode cX12_carry 4 = .ok (.ifCond .eq 13, 3) := by decide +kernel
theorem dX12_carry_7 : decode cX12_carry 7 = .ok (.aload_n 0, 1) := by decide +kernel
theorem dX12_carry_8 : decode cX12_carry 8 = .ok (.getfield 112, 3) := by decide +kernel
theorem dX12_carry_11 : decode cX12_carry 11 = .ok (.aload_n 0, 1) := by decide +kernel
theorem dX12_carry_12 : decode cX12_carry 12 = .ok (.getfield 115, 3) := by decide +kernel
theorem dX12_carry_15 : decode cX12_carry 15 = .ok (.iload_n 1, 1) := by decide +kernel
theorem dX12_carry_16 : decode cX12_carry 16 = .ok (.iastore, 1) := by decide +kernel
theorem dX12_carry_17 : decode cX12_carry 17 = .ok (.aload_n 0, 1) := by decide +kernel
theorem dX12_carry_18 : decode cX12_carry 18 = .ok (.dup, 1) := by decide +kernel
theorem dX12_carry_19 : decode cX12_carry 19 = .ok (.getfield 115, 3) := by decide +kernel
theorem dX12_carry_22 : decode cX12_carry 22 = .ok (.iconst 1, 1) := by decide +kernel
theorem dX12_carry_23 : decode cX12_carry 23 = .ok (.iadd, 1) := by decide +kernel
theorem dX12_carry_24 : decode cX12_carry 24 = .ok (.putfield 115, 3) := by decide +kernel
theorem dX12_carry_27 : decode cX12_carry 27 = .ok (.aload_n 0, 1) := by decide +kernel
theorem dX12_carry_28 : decode cX12_carry 28 = .ok (.getfield 112, 3) := by decide +kernel
theorem dX12_carry_31 : decode cX12_carry 31 = .ok (.aload_n 0, 1) := by decide +kernel
theorem dX12_carry_32 : decode cX12_carry 32 = .ok (.getfield 115, 3) := by decide +kernel
theorem dX12_carry_35 : decode cX12_carry 35 = .ok (.iconst 1, 1) := by decide +kernel
theorem dX12_carry_36 : decode cX12_carry 36 = .ok (.isub, 1) := by decide +kernel
theorem dX12_carry_37 : decode cX12_carry 37 = .ok (.iaload, 1) := by decide +kernel
theorem dX12_carry_38 : decode cX12_carry 38 = .ok (.ireturn, 1) := by decide +kernel
theorem dX12_carryAll_0 : decode cX12_carryAll 0 = .ok (.aload_n 0, 1) := by decide +kernel
theorem dX12_carryAll_1 : decode cX12_carryAll 1 = .ok (.aload_n 1, 1) := by decide +kernel
theorem dX12_carryAll_2 : decode cX12_carryAll 2 = .ok (.putfield 112, 3) := by decide +kernel
theorem dX12_carryAll_5 : decode cX12_carryAll 5 = .ok (.aload_n 0, 1) := by decide +kernel
theorem dX12_carryAll_6 : decode cX12_carryAll 6 = .ok (.iload_n 2, 1) := by decide +kernel
theorem dX12_carryAll_7 : decode cX12_carryAll 7 = .ok (.putfield 108, 3) := by decide +kernel
theorem dX12_carryAll_10 : decode cX12_carryAll 10 = .ok (.aload_n 0, 1) := by decide +kernel
theorem dX12_carryAll_11 : decode cX12_carryAll 11 = .ok (.iconst 0, 1) := by decide +kernel
theorem dX12_carryAll_12 : decode cX12_carryAll 12 = .ok (.putfield 115, 3) := by decide +kernel
theorem dX12_carryAll_15 : decode cX12_carryAll 15 = .ok (.aload_n 0, 1) := by decide +kernel
theorem dX12_carryAll_16 : decode cX12_carryAll 16 = .ok (.aload_n 0, 1) := by decide +kernel
theorem dX12_carryAll_17 : decode cX12_carryAll 17 = .ok (.aload_n 0, 1) := by decide +kernel
theorem dX12_carryAll_18 : decode cX12_carryAll 18 = .ok (.getfield 81, 3) := by decide +kernel
theorem dX12_carryAll_21 : decode cX12_carryAll 21 = .ok (.invokevirtual 118, 3) := by decide +kernel
theorem dX12_carryAll_24 : decode cX12_carryAll 24 = .ok (.putfield 81, 3) := by decide +kernel
theorem dX12_carryAll_27 : decode cX12_carryAll 27 = .ok (.aload_n 0, 1) := by decide +kernel
theorem dX12_carryAll_28 : decode cX12_carryAll 28 = .ok (.aload_n 0, 1) := by decide +kernel
theorem dX12_carryAll_29 : decode cX12_carryAll 29 = .ok (.aload_n 0, 1) := by decide +kernel
theorem dX12_carryAll_30 : decode cX12_carryAll 30 = .ok (.getfield 92, 3) := by decide +kernel
theorem dX12_carryAll_33 : decode cX12_carryAll 33 = .ok (.invokevirtual 118, 3) := by decide +kernel
theorem dX12_carryAll_36 : decode cX12_carryAll 36 = .ok (.putfield 92, 3) := by decide +kernel
theorem dX12_carryAll_39 : decode cX12_carryAll 39 = .ok (.aload_n 0, 1) := by decide +kernel
theorem dX12_carryAll_40 : decode cX12_carryAll 40 = .ok (.aload_n 0, 1) := by decide +kernel
theorem dX12_carryAll_41 : decode cX12_carryAll 41 = .ok (.aload_n 0, 1) := by decide +kernel
theorem dX12_carryAll_42 : decode cX12_carryAll 42 = .ok (.getfield 102, 3) := by decide +kernel
theorem dX12_carryAll_45 : decode cX12_carryAll 45 = .ok (.invokevirtual 118, 3) := by decide +kernel
theorem dX12_carryAll_48 : decode cX12_carryAll 48 = .ok (.putfield 102, 3) := by decide +kernel
theorem dX12_carryAll_51 : decode cX12_carryAll 51 = .ok (.aload_n 0, 1) := by decide +kernel
theorem dX12_carryAll_52 : decode cX12_carryAll 52 = .ok (.aload_n 0, 1) := by decide +kernel
theorem dX12_carryAll_53 : decode cX12_carryAll 53 = .ok (.aload_n 0, 1) := by decide +kernel
theorem dX12_carryAll_54 : decode cX12_carryAll 54 = .ok (.getfield 7, 3) := by decide +kernel
theorem dX12_carryAll_57 : decode cX12_carryAll 57 = .ok (.invokevirtual 118, 3) := by decide +kernel
theorem dX12_carryAll_60 : decode cX12_carryAll 60 = .ok (.putfield 7, 3) := by decide +kernel
theorem dX12_carryAll_63 : decode cX12_carryAll 63 = .ok (.aload_n 0, 1) := by decide +kernel
theorem dX12_carryAll_64 : decode cX12_carryAll 64 = .ok (.aload_n 0, 1) := by decide +kernel
theorem dX12_carryAll_65 : decode cX12_carryAll 65 = .ok (.aload_n 0, 1) := by decide +kernel
theorem dX12_carryAll_66 : decode cX12_carryAll 66 = .ok (.getfield 13, 3) := by decide +kernel
theorem dX12_carryAll_69 : decode cX12_carryAll 69 = .ok (.invokevirtual 118, 3) := by decide +kernel
theorem dX12_carryAll_72 : decode cX12_carryAll 72 = .ok (.putfield 13, 3) := by decide +kernel
theorem dX12_carryAll_75 : decode cX12_carryAll 75 = .ok (.iconst 0, 1) := by decide +kernel
theorem dX12_carryAll_76 : decode cX12_carryAll 76 = .ok (.istore_n 3, 1) := by decide +kernel
theorem dX12_carryAll_77 : decode cX12_carryAll 77 = .ok (.iload_n 3, 1) := by decide +kernel
theorem dX12_carryAll_78 : decode cX12_carryAll 78 = .ok (.bipush 6, 2) := by decide +kernel
theorem dX12_carryAll_80 : decode cX12_carryAll 80 = .ok (.if_icmp .ge 73, 3) := by decide +kernel
theorem dX12_carryAll_83 : decode cX12_carryAll 83 = .ok (.aload_n 0, 1) := by decide +kernel
theorem dX12_carryAll_84 : decode cX12_carryAll 84 = .ok (.getfield 16, 3) := by decide +kernel
theorem dX12_carryAll_87 : decode cX12_carryAll 87 = .ok (.iload_n 3, 1) := by decide +kernel
theorem dX12_carryAll_88 : decode cX12_carryAll 88 = .ok (.aload_n 0, 1) := by decide +kernel
theorem dX12_carryAll_89 : decode cX12_carryAll 89 = .ok (.aload_n 0, 1) := by decide +kernel
theorem dX12_carryAll_90 : decode cX12_carryAll 90 = .ok (.getfield 16, 3) := by decide +kernel
theorem dX12_carryAll_93 : decode cX12_carryAll 93 = .ok (.iload_n 3, 1) := by decide +kernel
theorem dX12_carryAll_94 : decode cX12_carryAll 94 = .ok (.iaload, 1) := by decide +kernel
theorem dX12_carryAll_95 : decode cX12_carryAll 95 = .ok (.invokevirtual 118, 3) := by decide +kernel
theorem dX12_carryAll_98 : decode cX12_carryAll 98 = .ok (.iastore, 1) := by decide +kernel
theorem dX12_carryAll_99 : decode cX12_carryAll 99 = .ok (.aload_n 0, 1) := by decide +kernel
theorem dX12_carryAll_100 : decode cX12_carryAll 100 = .ok (.getfield 20, 3) := by decide +kernel
theorem dX12_carryAll_103 : decode cX12_carryAll 103 = .ok (.iload_n 3, 1) := by decide +kernel
theorem dX12_carryAll_104 : decode cX12_carryAll 104 = .ok (.aload_n 0, 1) := by decide +kernel
theorem dX12_carryAll_105 : decode cX12_carryAll 105 = .ok (.aload_n 0, 1) := by decide +kernel
theorem dX12_carryAll_106 : decode cX12_carryAll 106 = .ok (.getfield 20, 3) := by decide +kernel
theorem dX12_carryAll_109 : decode cX12_carryAll 109 = .ok (.iload_n 3, 1) := by decide +kernel
theorem dX12_carryAll_110 : decode cX12_carryAll 110 = .ok (.iaload, 1) := by decide +kernel
theorem dX12_carryAll_111 : decode cX12_carryAll 111 = .ok (.invokevirtual 118, 3) := by decide +kernel
theorem dX12_carryAll_114 : decode cX12_carryAll 114 = .ok (.iastore, 1) := by decide +kernel
theorem dX12_carryAll_115 : decode cX12_carryAll 115 = .ok (.aload_n 0, 1) := by decide +kernel
theorem dX12_carryAll_116 : decode cX12_carryAll 116 = .ok (.getfield 23, 3) := by decide +kernel
theorem dX12_carryAll_119 : decode cX12_carryAll 119 = .ok (.iload_n 3, 1) := by decide +kernel
theorem dX12_carryAll_120 : decode cX12_carryAll 120 = .ok (.aload_n 0, 1) := by decide +kernel
theorem dX12_carryAll_121 : decode cX12_carryAll 121 = .ok (.aload_n 0, 1) := by decide +kernel
theorem dX12_carryAll_122 : decode cX12_carryAll 122 = .ok (.getfield 23, 3) := by decide +kernel
theorem dX12_carryAll_125 : decode cX12_carryAll 125 = .ok (.iload_n 3, 1) := by decide +kernel
theorem dX12_carryAll_126 : decode cX12_carryAll 126 = .ok (.iaload, 1) := by decide +kernel
theorem dX12_carryAll_127 : decode cX12_carryAll 127 = .ok (.invokevirtual 118, 3) := by decide +kernel
theorem dX12_carryAll_130 : decode cX12_carryAll 130 = .ok (.iastore, 1) := by decide +kernel
theorem dX12_carryAll_131 : decode cX12_carryAll 131 = .ok (.aload_n 0, 1) := by decide +kernel
theorem dX12_carryAll_132 : decode cX12_carryAll 132 = .ok (.getfield 26, 3) := by decide +kernel
theorem dX12_carryAll_135 : decode cX12_carryAll 135 = .ok (.iload_n 3, 1) := by decide +kernel
theorem dX12_carryAll_136 : decode cX12_carryAll 136 = .ok (.aload_n 0, 1) := by decide +kernel
theorem dX12_carryAll_137 : decode cX12_carryAll 137 = .ok (.aload_n 0, 1) := by decide +kernel
theorem dX12_carryAll_138 : decode cX12_carryAll 138 = .ok (.getfield 26, 3) := by decide +kernel
theorem dX12_carryAll_141 : decode cX12_carryAll 141 = .ok (.iload_n 3, 1) := by decide +kernel
theorem dX12_carryAll_142 : decode cX12_carryAll 142 = .ok (.iaload, 1) := by decide +kernel
theorem dX12_carryAll_143 : decode cX12_carryAll 143 = .ok (.invokevirtual 118, 3) := by decide +kernel
theorem dX12_carryAll_146 : decode cX12_carryAll 146 = .ok (.iastore, 1) := by decide +kernel
theorem dX12_carryAll_147 : decode cX12_carryAll 147 = .ok (.iinc 3 1, 3) := by decide +kernel
theorem dX12_carryAll_150 : decode cX12_carryAll 150 = .ok (.goto (-73), 3) := by decide +kernel
theorem dX12_carryAll_153 : decode cX12_carryAll 153 = .ok (.return_, 1) := by decide +kernel
theorem dX12_open_0 : decode cX12_open 0 = .ok (.aload_n 0, 1) := by decide +kernel
theorem dX12_open_1 : decode cX12_open 1 = .ok (.aload_n 0, 1) := by decide +kernel
theorem dX12_open_2 : decode cX12_open 2 = .ok (.getfield 32, 3) := by decide +kernel
theorem dX12_open_5 : decode cX12_open 5 = .ok (.iconst 1, 1) := by decide +kernel
theorem dX12_open_6 : decode cX12_open 6 = .ok (.invokevirtual 122, 3) := by decide +kernel
theorem dX12_open_9 : decode cX12_open 9 = .ok (.return_, 1) := by decide +kernel
theorem dX12_close_0 : decode cX12_close 0 = .ok (.aload_n 0, 1) := by decide +kernel
theorem dX12_close_1 : decode cX12_close 1 = .ok (.aload_n 0, 1) := by decide +kernel
theorem dX12_close_2 : decode cX12_close 2 = .ok (.getfield 32, 3) := by decide +kernel
theorem dX12_close_5 : decode cX12_close 5 = .ok (.iconst 0, 1) := by decide +kernel
theorem dX12_close_6 : decode cX12_close 6 = .ok (.invokevirtual 122, 3) := by decide +kernel
theorem dX12_close_9 : decode cX12_close 9 = .ok (.return_, 1) := by decide +kernel
theorem dX12_image_0 : decode cX12_image 0 = .ok (.aload_n 0, 1) := by decide +kernel
theorem dX12_image_1 : decode cX12_image 1 = .ok (.iconst 0, 1) := by decide +kernel
theorem dX12_image_2 : decode cX12_image 2 = .ok (.putfield 78, 3) := by decide +kernel
theorem dX12_image_5 : decode cX12_image 5 = .ok (.aload_n 0, 1) := by decide +kernel
theorem dX12_image_6 : decode cX12_image 6 = .ok (.iconst 1, 1) := by decide +kernel
theorem dX12_image_7 : decode cX12_image 7 = .ok (.putfield 126, 3) := by decide +kernel
theorem dX12_image_10 : decode cX12_image 10 = .ok (.aload_n 0, 1) := by decide +kernel
theorem dX12_image_11 : decode cX12_image 11 = .ok (.aload_n 0, 1) := by decide +kernel
theorem dX12_image_12 : decode cX12_image 12 = .ok (.getfield 29, 3) := by decide +kernel
theorem dX12_image_15 : decode cX12_image 15 = .ok (.iconst 1, 1) := by decide +kernel
theorem dX12_image_16 : decode cX12_image 16 = .ok (.invokevirtual 122, 3) := by decide +kernel
theorem dX12_image_19 : decode cX12_image 19 = .ok (.aload_n 0, 1) := by decide +kernel
theorem dX12_image_20 : decode cX12_image 20 = .ok (.getfield 81, 3) := by decide +kernel
theorem dX12_image_23 : decode cX12_image 23 = .ok (.ireturn, 1) := by decide +kernel
theorem dX12_restore_0 : decode cX12_restore 0 = .ok (.aload_n 0, 1) := by decide +kernel
theorem dX12_restore_1 : decode cX12_restore 1 = .ok (.iconst 0, 1) := by decide +kernel
theorem dX12_restore_2 : decode cX12_restore 2 = .ok (.putfield 78, 3) := by decide +kernel
theorem dX12_restore_5 : decode cX12_restore 5 = .ok (.aload_n 0, 1) := by decide +kernel
theorem dX12_restore_6 : decode cX12_restore 6 = .ok (.getfield 126, 3) := by decide +kernel
theorem dX12_restore_9 : decode cX12_restore 9 = .ok (.ifCond .ne 6, 3) := by decide +kernel
theorem dX12_restore_12 : decode cX12_restore 12 = .ok (.bipush (-3), 2) := by decide +kernel
theorem dX12_restore_14 : decode cX12_restore 14 = .ok (.ireturn, 1) := by decide +kernel
theorem dX12_restore_15 : decode cX12_restore 15 = .ok (.aload_n 0, 1) := by decide +kernel
theorem dX12_restore_16 : decode cX12_restore 16 = .ok (.aload_n 0, 1) := by decide +kernel
theorem dX12_restore_17 : decode cX12_restore 17 = .ok (.getfield 29, 3) := by decide +kernel
theorem dX12_restore_20 : decode cX12_restore 20 = .ok (.iconst 0, 1) := by decide +kernel
theorem dX12_restore_21 : decode cX12_restore 21 = .ok (.invokevirtual 122, 3) := by decide +kernel
theorem dX12_restore_24 : decode cX12_restore 24 = .ok (.aload_n 0, 1) := by decide +kernel
theorem dX12_restore_25 : decode cX12_restore 25 = .ok (.getfield 81, 3) := by decide +kernel
theorem dX12_restore_28 : decode cX12_restore 28 = .ok (.ireturn, 1) := by decide +kernel
theorem dX12_here_0 : decode cX12_here 0 = .ok (.aload_n 0, 1) := by decide +kernel
theorem dX12_here_1 : decode cX12_here 1 = .ok (.getfield 129, 3) := by decide +kernel
theorem dX12_here_4 : decode cX12_here 4 = .ok (.aload_n 0, 1) := by decide +kernel
theorem dX12_here_5 : decode cX12_here 5 = .ok (.getfield 132, 3) := by decide +kernel
theorem dX12_here_8 : decode cX12_here 8 = .ok (.if_icmp .lt 7, 3) := by decide +kernel
theorem dX12_here_11 : decode cX12_here 11 = .ok (.iconst (-1), 1) := by decide +kernel
theorem dX12_here_12 : decode cX12_here 12 = .ok (.goto 22, 3) := by decide +kernel
theorem dX12_here_15 : decode cX12_here 15 = .ok (.aload_n 0, 1) := by decide +kernel
theorem dX12_here_16 : decode cX12_here 16 = .ok (.getfield 71, 3) := by decide +kernel
theorem dX12_here_19 : decode cX12_here 19 = .ok (.aload_n 0, 1) := by decide +kernel
theorem dX12_here_20 : decode cX12_here 20 = .ok (.getfield 135, 3) := by decide +kernel
theorem dX12_here_23 : decode cX12_here 23 = .ok (.aload_n 0, 1) := by decide +kernel
theorem dX12_here_24 : decode cX12_here 24 = .ok (.getfield 129, 3) := by decide +kernel
theorem dX12_here_27 : decode cX12_here 27 = .ok (.iadd, 1) := by decide +kernel
theorem dX12_here_28 : decode cX12_here 28 = .ok (.laload, 1) := by decide +kernel
theorem dX12_here_29 : decode cX12_here 29 = .ok (.l2i, 1) := by decide +kernel
theorem dX12_here_30 : decode cX12_here 30 = .ok (.sipush 255, 3) := by decide +kernel
theorem dX12_here_33 : decode cX12_here 33 = .ok (.iand, 1) := by decide +kernel
theorem dX12_here_34 : decode cX12_here 34 = .ok (.ireturn, 1) := by decide +kernel
theorem dX12_take_0 : decode cX12_take 0 = .ok (.aload_n 0, 1) := by decide +kernel
theorem dX12_take_1 : decode cX12_take 1 = .ok (.aload_n 0, 1) := by decide +kernel
theorem dX12_take_2 : decode cX12_take 2 = .ok (.getfield 138, 3) := by decide +kernel
theorem dX12_take_5 : decode cX12_take 5 = .ok (.ifCond .ne 11, 3) := by decide +kernel
theorem dX12_take_8 : decode cX12_take 8 = .ok (.aload_n 0, 1) := by decide +kernel
theorem dX12_take_9 : decode cX12_take 9 = .ok (.invokevirtual 141, 3) := by decide +kernel
theorem dX12_take_12 : decode cX12_take 12 = .ok (.iload_n 1, 1) := by decide +kernel
theorem dX12_take_13 : decode cX12_take 13 = .ok (.if_icmp .eq 7, 3) := by decide +kernel
theorem dX12_take_16 : decode cX12_take 16 = .ok (.iconst 1, 1) := by decide +kernel
theorem dX12_take_17 : decode cX12_take 17 = .ok (.goto 4, 3) := by decide +kernel
theorem dX12_take_20 : decode cX12_take 20 = .ok (.iconst 0, 1) := by decide +kernel
theorem dX12_take_21 : decode cX12_take 21 = .ok (.putfield 138, 3) := by decide +kernel
theorem dX12_take_24 : decode cX12_take 24 = .ok (.aload_n 0, 1) := by decide +kernel
theorem dX12_take_25 : decode cX12_take 25 = .ok (.dup, 1) := by decide +kernel
theorem dX12_take_26 : decode cX12_take 26 = .ok (.getfield 129, 3) := by decide +kernel
theorem dX12_take_29 : decode cX12_take 29 = .ok (.aload_n 0, 1) := by decide +kernel
theorem dX12_take_30 : decode cX12_take 30 = .ok (.getfield 138, 3) := by decide +kernel
theorem dX12_take_33 : decode cX12_take 33 = .ok (.ifCond .eq 7, 3) := by decide +kernel
theorem dX12_take_36 : decode cX12_take 36 = .ok (.iconst 0, 1) := by decide +kernel
theorem dX12_take_37 : decode cX12_take 37 = .ok (.goto 4, 3) := by decide +kernel
theorem dX12_take_40 : decode cX12_take 40 = .ok (.iconst 1, 1) := by decide +kernel
theorem dX12_take_41 : decode cX12_take 41 = .ok (.iadd, 1) := by decide +kernel
theorem dX12_take_42 : decode cX12_take 42 = .ok (.putfield 129, 3) := by decide +kernel
theorem dX12_take_45 : decode cX12_take 45 = .ok (.return_, 1) := by decide +kernel
theorem dX12_readDigit_0 : decode cX12_readDigit 0 = .ok (.aload_n 0, 1) := by decide +kernel
theorem dX12_readDigit_1 : decode cX12_readDigit 1 = .ok (.aload_n 0, 1) := by decide +kernel
theorem dX12_readDigit_2 : decode cX12_readDigit 2 = .ok (.getfield 138, 3) := by decide +kernel
theorem dX12_readDigit_5 : decode cX12_readDigit 5 = .ok (.ifCond .ne 20, 3) := by decide +kernel
theorem dX12_readDigit_8 : decode cX12_readDigit 8 = .ok (.aload_n 0, 1) := by decide +kernel
theorem dX12_readDigit_9 : decode cX12_readDigit 9 = .ok (.invokevirtual 141, 3) := by decide +kernel
theorem dX12_readDigit_12 : decode cX12_readDigit 12 = .ok (.i2l, 1) := by decide +kernel
theorem dX12_readDigit_13 : decode cX12_readDigit 13 = .ok (.ldc2_w 145, 3) := by decide +kernel
theorem dX12_readDigit_16 : decode cX12_readDigit 16 = .ok (.ldc2_w 147, 3) := by decide +kernel
theorem dX12_readDigit_19 : decode cX12_readDigit 19 = .ok (.invokestatic 84, 3) := by decide +kernel
theorem dX12_readDigit_22 : decode cX12_readDigit 22 = .ok (.ifCond .ne 7, 3) := by decide +kernel
theorem dX12_readDigit_25 : decode cX12_readDigit 25 = .ok (.iconst 1, 1) := by decide +kernel
theorem dX12_readDigit_26 : decode cX12_readDigit 26 = .ok (.goto 4, 3) := by decide +kernel
theorem dX12_readDigit_29 : decode cX12_readDigit 29 = .ok (.iconst 0, 1) := by decide +kernel
theorem dX12_readDigit_30 : decode cX12_readDigit 30 = .ok (.putfield 138, 3) := by decide +kernel
theorem dX12_readDigit_33 : decode cX12_readDigit 33 = .ok (.aload_n 0, 1) := by decide +kernel
theorem dX12_readDigit_34 : decode cX12_readDigit 34 = .ok (.getfield 138, 3) := by decide +kernel
theorem dX12_readDigit_37 : decode cX12_readDigit 37 = .ok (.ifCond .eq 5, 3) := by decide +kernel
theorem dX12_readDigit_40 : decode cX12_readDigit 40 = .ok (.iconst 0, 1) := by decide +kernel
theorem dX12_readDigit_41 : decode cX12_readDigit 41 = .ok (.ireturn, 1) := by decide +kernel
theorem dX12_readDigit_42 : decode cX12_readDigit 42 = .ok (.aload_n 0, 1) := by decide +kernel
theorem dX12_readDigit_43 : decode cX12_readDigit 43 = .ok (.dup, 1) := by decide +kernel
theorem dX12_readDigit_44 : decode cX12_readDigit 44 = .ok (.getfield 129, 3) := by decide +kernel
theorem dX12_readDigit_47 : decode cX12_readDigit 47 = .ok (.iconst 1, 1) := by decide +kernel
theorem dX12_readDigit_48 : decode cX12_readDigit 48 = .ok (.iadd, 1) := by decide +kernel
theorem dX12_readDigit_49 : decode cX12_readDigit 49 = .ok (.putfield 129, 3) := by decide +kernel
theorem dX12_readDigit_52 : decode cX12_readDigit 52 = .ok (.aload_n 0, 1) := by decide +kernel
theorem dX12_readDigit_53 : decode cX12_readDigit 53 = .ok (.getfield 71, 3) := by decide +kernel
theorem dX12_readDigit_56 : decode cX12_readDigit 56 = .ok (.aload_n 0, 1) := by decide +kernel
theorem dX12_readDigit_57 : decode cX12_readDigit 57 = .ok (.getfield 135, 3) := by decide +kernel
theorem dX12_readDigit_60 : decode cX12_readDigit 60 = .ok (.aload_n 0, 1) := by decide +kernel
theorem dX12_readDigit_61 : decode cX12_readDigit 61 = .ok (.getfield 129, 3) := by decide +kernel
theorem dX12_readDigit_64 : decode cX12_readDigit 64 = .ok (.iadd, 1) := by decide +kernel
theorem dX12_readDigit_65 : decode cX12_readDigit 65 = .ok (.iconst 1, 1) := by decide +kernel
theorem dX12_readDigit_66 : decode cX12_readDigit 66 = .ok (.isub, 1) := by decide +kernel
theorem dX12_readDigit_67 : decode cX12_readDigit 67 = .ok (.laload, 1) := by decide +kernel
theorem dX12_readDigit_68 : decode cX12_readDigit 68 = .ok (.l2i, 1) := by decide +kernel
theorem dX12_readDigit_69 : decode cX12_readDigit 69 = .ok (.bipush 48, 2) := by decide +kernel
theorem dX12_readDigit_71 : decode cX12_readDigit 71 = .ok (.isub, 1) := by decide +kernel
theorem dX12_readDigit_72 : decode cX12_readDigit 72 = .ok (.ireturn, 1) := by decide +kernel
theorem dX12_readNumber_0 : decode cX12_readNumber 0 = .ok (.aload_n 0, 1) := by decide +kernel
theorem dX12_readNumber_1 : decode cX12_readNumber 1 = .ok (.invokevirtual 149, 3) := by decide +kernel
theorem dX12_readNumber_4 : decode cX12_readNumber 4 = .ok (.istore_n 1, 1) := by decide +kernel
theorem dX12_readNumber_5 : decode cX12_readNumber 5 = .ok (.aload_n 0, 1) := by decide +kernel
theorem dX12_readNumber_6 : decode cX12_readNumber 6 = .ok (.getfield 138, 3) := by decide +kernel
theorem dX12_readNumber_9 : decode cX12_readNumber 9 = .ok (.ifCond .ne 36, 3) := by decide +kernel
theorem dX12_readNumber_12 : decode cX12_readNumber 12 = .ok (.iload_n 1, 1) := by decide +kernel
theorem dX12_readNumber_13 : decode cX12_readNumber 13 = .ok (.ifCond .le 32, 3) := by decide +kernel
theorem dX12_readNumber_16 : decode cX12_readNumber 16 = .ok (.aload_n 0, 1) := by decide +kernel
theorem dX12_readNumber_17 : decode cX12_readNumber 17 = .ok (.invokevirtual 141, 3) := by decide +kernel
theorem dX12_readNumber_20 : decode cX12_readNumber 20 = .ok (.i2l, 1) := by decide +kernel
theorem dX12_readNumber_21 : decode cX12_readNumber 21 = .ok (.ldc2_w 145, 3) := by decide +kernel
theorem dX12_readNumber_24 : decode cX12_readNumber 24 = .ok (.ldc2_w 147, 3) := by decide +kernel
theorem dX12_readNumber_27 : decode cX12_readNumber 27 = .ok (.invokestatic 84, 3) := by decide +kernel
theorem dX12_readNumber_30 : decode cX12_readNumber 30 = .ok (.ifCond .eq 15, 3) := by decide +kernel
theorem dX12_readNumber_33 : decode cX12_readNumber 33 = .ok (.bipush 10, 2) := by decide +kernel
theorem dX12_readNumber_35 : decode cX12_readNumber 35 = .ok (.iload_n 1, 1) := by decide +kernel
theorem dX12_readNumber_36 : decode cX12_readNumber 36 = .ok (.imul, 1) := by decide +kernel
theorem dX12_readNumber_37 : decode cX12_readNumber 37 = .ok (.aload_n 0, 1) := by decide +kernel
theorem dX12_readNumber_38 : decode cX12_readNumber 38 = .ok (.invokevirtual 149, 3) := by decide +kernel
theorem dX12_readNumber_41 : decode cX12_readNumber 41 = .ok (.iadd, 1) := by decide +kernel
theorem dX12_readNumber_42 : decode cX12_readNumber 42 = .ok (.goto 4, 3) := by decide +kernel
theorem dX12_readNumber_45 : decode cX12_readNumber 45 = .ok (.iload_n 1, 1) := by decide +kernel
theorem dX12_readNumber_46 : decode cX12_readNumber 46 = .ok (.ireturn, 1) := by decide +kernel
theorem dX12_readStatement_0 : decode cX12_readStatement 0 = .ok (.aload_n 0, 1) := by decide +kernel
theorem dX12_readStatement_1 : decode cX12_readStatement 1 = .ok (.getfield 152, 3) := by decide +kernel
theorem dX12_readStatement_4 : decode cX12_readStatement 4 = .ok (.istore_n 1, 1) := by decide +kernel
theorem dX12_readStatement_5 : decode cX12_readStatement 5 = .ok (.aload_n 0, 1) := by decide +kernel
theorem dX12_readStatement_6 : decode cX12_readStatement 6 = .ok (.invokevirtual 141, 3) := by decide +kernel
theorem dX12_readStatement_9 : decode cX12_readStatement 9 = .ok (.istore_n 2, 1) := by decide +kernel
theorem dX12_readStatement_10 : decode cX12_readStatement 10 = .ok (.aload_n 0, 1) := by decide +kernel
theorem dX12_readStatement_11 : decode cX12_readStatement 11 = .ok (.getfield 35, 3) := by decide +kernel
theorem dX12_readStatement_14 : decode cX12_readStatement 14 = .ok (.iload_n 1, 1) := by decide +kernel
theorem dX12_readStatement_15 : decode cX12_readStatement 15 = .ok (.aload_n 0, 1) := by decide +kernel
theorem dX12_readStatement_16 : decode cX12_readStatement 16 = .ok (.getfield 129, 3) := by decide +kernel
theorem dX12_readStatement_19 : decode cX12_readStatement 19 = .ok (.iastore, 1) := by decide +kernel
theorem dX12_readStatement_20 : decode cX12_readStatement 20 = .ok (.aload_n 0, 1) := by decide +kernel
theorem dX12_readStatement_21 : decode cX12_readStatement 21 = .ok (.getfield 38, 3) := by decide +kernel
theorem dX12_readStatement_24 : decode cX12_readStatement 24 = .ok (.iload_n 1, 1) := by decide +kernel
theorem dX12_readStatement_25 : decode cX12_readStatement 25 = .ok (.iload_n 2, 1) := by decide +kernel
theorem dX12_readStatement_26 : decode cX12_readStatement 26 = .ok (.iastore, 1) := by decide +kernel
theorem dX12_readStatement_27 : decode cX12_readStatement 27 = .ok (.aload_n 0, 1) := by decide +kernel
theorem dX12_readStatement_28 : decode cX12_readStatement 28 = .ok (.aload_n 0, 1) := by decide +kernel
theorem dX12_readStatement_29 : decode cX12_readStatement 29 = .ok (.getfield 138, 3) := by decide +kernel
theorem dX12_readStatement_32 : decode cX12_readStatement 32 = .ok (.ifCond .ne 27, 3) := by decide +kernel
theorem dX12_readStatement_35 : decode cX12_readStatement 35 = .ok (.iload_n 2, 1) := by decide +kernel
theorem dX12_readStatement_36 : decode cX12_readStatement 36 = .ok (.bipush 114, 2) := by decide +kernel
theorem dX12_readStatement_38 : decode cX12_readStatement 38 = .ok (.if_icmp .eq 25, 3) := by decide +kernel
theorem dX12_readStatement_41 : decode cX12_readStatement 41 = .ok (.iload_n 2, 1) := by decide +kernel
theorem dX12_readStatement_42 : decode cX12_readStatement 42 = .ok (.bipush 116, 2) := by decide +kernel
theorem dX12_readStatement_44 : decode cX12_readStatement 44 = .ok (.if_icmp .eq 19, 3) := by decide +kernel
theorem dX12_readStatement_47 : decode cX12_readStatement 47 = .ok (.iload_n 2, 1) := by decide +kernel
theorem dX12_readStatement_48 : decode cX12_readStatement 48 = .ok (.bipush 108, 2) := by decide +kernel
theorem dX12_readStatement_50 : decode cX12_readStatement 50 = .ok (.if_icmp .eq 13, 3) := by decide +kernel
theorem dX12_readStatement_53 : decode cX12_readStatement 53 = .ok (.iload_n 2, 1) := by decide +kernel
theorem dX12_readStatement_54 : decode cX12_readStatement 54 = .ok (.bipush 112, 2) := by decide +kernel
theorem dX12_readStatement_56 : decode cX12_readStatement 56 = .ok (.if_icmp .eq 7, 3) := by decide +kernel
theorem dX12_readStatement_59 : decode cX12_readStatement 59 = .ok (.iconst 1, 1) := by decide +kernel
theorem dX12_readStatement_60 : decode cX12_readStatement 60 = .ok (.goto 4, 3) := by decide +kernel
theorem dX12_readStatement_63 : decode cX12_readStatement 63 = .ok (.iconst 0, 1) := by decide +kernel
theorem dX12_readStatement_64 : decode cX12_readStatement 64 = .ok (.putfield 138, 3) := by decide +kernel
theorem dX12_readStatement_67 : decode cX12_readStatement 67 = .ok (.aload_n 0, 1) := by decide +kernel
theorem dX12_readStatement_68 : decode cX12_readStatement 68 = .ok (.dup, 1) := by decide +kernel
theorem dX12_readStatement_69 : decode cX12_readStatement 69 = .ok (.getfield 129, 3) := by decide +kernel
theorem dX12_readStatement_72 : decode cX12_readStatement 72 = .ok (.aload_n 0, 1) := by decide +kernel
theorem dX12_readStatement_73 : decode cX12_readStatement 73 = .ok (.getfield 138, 3) := by decide +kernel
theorem dX12_readStatement_76 : decode cX12_readStatement 76 = .ok (.ifCond .eq 7, 3) := by decide +kernel
theorem dX12_readStatement_79 : decode cX12_readStatement 79 = .ok (.iconst 0, 1) := by decide +kernel
theorem dX12_readStatement_80 : decode cX12_readStatement 80 = .ok (.goto 4, 3) := by decide +kernel
theorem dX12_readStatement_83 : decode cX12_readStatement 83 = .ok (.iconst 1, 1) := by decide +kernel
theorem dX12_readStatement_84 : decode cX12_readStatement 84 = .ok (.iadd, 1) := by decide +kernel
theorem dX12_readStatement_85 : decode cX12_readStatement 85 = .ok (.putfield 129, 3) := by decide +kernel
theorem dX12_readStatement_88 : decode cX12_readStatement 88 = .ok (.aload_n 0, 1) := by decide +kernel
theorem dX12_readStatement_89 : decode cX12_readStatement 89 = .ok (.getfield 41, 3) := by decide +kernel
theorem dX12_readStatement_92 : decode cX12_readStatement 92 = .ok (.iload_n 1, 1) := by decide +kernel
theorem dX12_readStatement_93 : decode cX12_readStatement 93 = .ok (.iload_n 2, 1) := by decide +kernel
theorem dX12_readStatement_94 : decode cX12_readStatement 94 = .ok (.bipush 114, 2) := by decide +kernel
theorem dX12_readStatement_96 : decode cX12_readStatement 96 = .ok (.if_icmp .eq 9, 3) := by decide +kernel
theorem dX12_readStatement_99 : decode cX12_readStatement 99 = .ok (.iload_n 2, 1) := by decide +kernel
theorem dX12_readStatement_100 : decode cX12_readStatement 100 = .ok (.bipush 108, 2) := by decide +kernel
theorem dX12_readStatement_102 : decode cX12_readStatement 102 = .ok (.if_icmp .ne 10, 3) := by decide +kernel
theorem dX12_readStatement_105 : decode cX12_readStatement 105 = .ok (.aload_n 0, 1) := by decide +kernel
theorem dX12_readStatement_106 : decode cX12_readStatement 106 = .ok (.invokevirtual 155, 3) := by decide +kernel
theorem dX12_readStatement_109 : decode cX12_readStatement 109 = .ok (.goto 7, 3) := by decide +kernel
theorem dX12_readStatement_112 : decode cX12_readStatement 112 = .ok (.aload_n 0, 1) := by decide +kernel
theorem dX12_readStatement_113 : decode cX12_readStatement 113 = .ok (.invokevirtual 149, 3) := by decide +kernel
theorem dX12_readStatement_116 : decode cX12_readStatement 116 = .ok (.iastore, 1) := by decide +kernel
theorem dX12_readStatement_117 : decode cX12_readStatement 117 = .ok (.iload_n 2, 1) := by decide +kernel
theorem dX12_readStatement_118 : decode cX12_readStatement 118 = .ok (.bipush 114, 2) := by decide +kernel
theorem dX12_readStatement_120 : decode cX12_readStatement 120 = .ok (.if_icmp .ne 45, 3) := by decide +kernel
theorem dX12_readStatement_123 : decode cX12_readStatement 123 = .ok (.aload_n 0, 1) := by decide +kernel
theorem dX12_readStatement_124 : decode cX12_readStatement 124 = .ok (.bipush 32, 2) := by decide +kernel
theorem dX12_readStatement_126 : decode cX12_readStatement 126 = .ok (.invokevirtual 158, 3) := by decide +kernel
theorem dX12_readStatement_129 : decode cX12_readStatement 129 = .ok (.aload_n 0, 1) := by decide +kernel
theorem dX12_readStatement_130 : decode cX12_readStatement 130 = .ok (.getfield 44, 3) := by decide +kernel
theorem dX12_readStatement_133 : decode cX12_readStatement 133 = .ok (.iload_n 1, 1) := by decide +kernel
theorem dX12_readStatement_134 : decode cX12_readStatement 134 = .ok (.aload_n 0, 1) := by decide +kernel
theorem dX12_readStatement_135 : decode cX12_readStatement 135 = .ok (.invokevirtual 155, 3) := by decide +kernel
theorem dX12_readStatement_138 : decode cX12_readStatement 138 = .ok (.iastore, 1) := by decide +kernel
theorem dX12_readStatement_139 : decode cX12_readStatement 139 = .ok (.aload_n 0, 1) := by decide +kernel
theorem dX12_readStatement_140 : decode cX12_readStatement 140 = .ok (.bipush 32, 2) := by decide +kernel
theorem dX12_readStatement_142 : decode cX12_readStatement 142 = .ok (.invokevirtual 158, 3) := by decide +kernel
theorem dX12_readStatement_145 : decode cX12_readStatement 145 = .ok (.aload_n 0, 1) := by decide +kernel
theorem dX12_readStatement_146 : decode cX12_readStatement 146 = .ok (.getfield 47, 3) := by decide +kernel
theorem dX12_readStatement_149 : decode cX12_readStatement 149 = .ok (.iload_n 1, 1) := by decide +kernel
theorem dX12_readStatement_150 : decode cX12_readStatement 150 = .ok (.aload_n 0, 1) := by decide +kernel
theorem dX12_readStatement_151 : decode cX12_readStatement 151 = .ok (.invokevirtual 149, 3) := by decide +kernel
theorem dX12_readStatement_154 : decode cX12_readStatement 154 = .ok (.iastore, 1) := by decide +kernel
theorem dX12_readStatement_155 : decode cX12_readStatement 155 = .ok (.aload_n 0, 1) := by decide +kernel
theorem dX12_readStatement_156 : decode cX12_readStatement 156 = .ok (.getfield 50, 3) := by decide +kernel
theorem dX12_readStatement_159 : decode cX12_readStatement 159 = .ok (.iload_n 1, 1) := by decide +kernel
theorem dX12_readStatement_160 : decode cX12_readStatement 160 = .ok (.aload_n 0, 1) := by decide +kernel
theorem dX12_readStatement_161 : decode cX12_readStatement 161 = .ok (.invokevirtual 149, 3) := by decide +kernel
theorem dX12_readStatement_164 : decode cX12_readStatement 164 = .ok (.iastore, 1) := by decide +kernel
theorem dX12_readStatement_165 : decode cX12_readStatement 165 = .ok (.iload_n 2, 1) := by decide +kernel
theorem dX12_readStatement_166 : decode cX12_readStatement 166 = .ok (.bipush 112, 2) := by decide +kernel
theorem dX12_readStatement_168 : decode cX12_readStatement 168 = .ok (.if_icmp .ne 23, 3) := by decide +kernel
theorem dX12_readStatement_171 : decode cX12_readStatement 171 = .ok (.aload_n 0, 1) := by decide +kernel
theorem dX12_readStatement_172 : decode cX12_readStatement 172 = .ok (.getfield 44, 3) := by decide +kernel
theorem dX12_readStatement_175 : decode cX12_readStatement 175 = .ok (.iload_n 1, 1) := by decide +kernel
theorem dX12_readStatement_176 : decode cX12_readStatement 176 = .ok (.aload_n 0, 1) := by decide +kernel
theorem dX12_readStatement_177 : decode cX12_readStatement 177 = .ok (.invokevirtual 149, 3) := by decide +kernel
theorem dX12_readStatement_180 : decode cX12_readStatement 180 = .ok (.iastore, 1) := by decide +kernel
theorem dX12_readStatement_181 : decode cX12_readStatement 181 = .ok (.aload_n 0, 1) := by decide +kernel
theorem dX12_readStatement_182 : decode cX12_readStatement 182 = .ok (.getfield 47, 3) := by decide +kernel
theorem dX12_readStatement_185 : decode cX12_readStatement 185 = .ok (.iload_n 1, 1) := by decide +kernel
theorem dX12_readStatement_186 : decode cX12_readStatement 186 = .ok (.aload_n 0, 1) := by decide +kernel
theorem dX12_readStatement_187 : decode cX12_readStatement 187 = .ok (.invokevirtual 149, 3) := by decide +kernel
theorem dX12_readStatement_190 : decode cX12_readStatement 190 = .ok (.iastore, 1) := by decide +kernel
theorem dX12_readStatement_191 : decode cX12_readStatement 191 = .ok (.aload_n 0, 1) := by decide +kernel
theorem dX12_readStatement_192 : decode cX12_readStatement 192 = .ok (.bipush 59, 2) := by decide +kernel
theorem dX12_readStatement_194 : decode cX12_readStatement 194 = .ok (.invokevirtual 158, 3) := by decide +kernel
theorem dX12_readStatement_197 : decode cX12_readStatement 197 = .ok (.aload_n 0, 1) := by decide +kernel
theorem dX12_readStatement_198 : decode cX12_readStatement 198 = .ok (.dup, 1) := by decide +kernel
theorem dX12_readStatement_199 : decode cX12_readStatement 199 = .ok (.getfield 152, 3) := by decide +kernel
theorem dX12_readStatement_202 : decode cX12_readStatement 202 = .ok (.iconst 1, 1) := by decide +kernel
theorem dX12_readStatement_203 : decode cX12_readStatement 203 = .ok (.iadd, 1) := by decide +kernel
theorem dX12_readStatement_204 : decode cX12_readStatement 204 = .ok (.putfield 152, 3) := by decide +kernel
theorem dX12_readStatement_207 : decode cX12_readStatement 207 = .ok (.return_, 1) := by decide +kernel
theorem dX12_ringComes_0 : decode cX12_ringComes 0 = .ok (.aload_n 0, 1) := by decide +kernel
theorem dX12_ringComes_1 : decode cX12_ringComes 1 = .ok (.getfield 41, 3) := by decide +kernel
theorem dX12_ringComes_4 : decode cX12_ringComes 4 = .ok (.iload_n 1, 1) := by decide +kernel
theorem dX12_ringComes_5 : decode cX12_ringComes 5 = .ok (.iaload, 1) := by decide +kernel
theorem dX12_ringComes_6 : decode cX12_ringComes 6 = .ok (.iconst 1, 1) := by decide +kernel
theorem dX12_ringComes_7 : decode cX12_ringComes 7 = .ok (.if_icmp .lt 22, 3) := by decide +kernel
theorem dX12_ringComes_10 : decode cX12_ringComes 10 = .ok (.aload_n 0, 1) := by decide +kernel
theorem dX12_ringComes_11 : decode cX12_ringComes 11 = .ok (.getfield 44, 3) := by decide +kernel
theorem dX12_ringComes_14 : decode cX12_ringComes 14 = .ok (.iload_n 1, 1) := by decide +kernel
theorem dX12_ringComes_15 : decode cX12_ringComes 15 = .ok (.iaload, 1) := by decide +kernel
theorem dX12_ringComes_16 : decode cX12_ringComes 16 = .ok (.iconst 1, 1) := by decide +kernel
theorem dX12_ringComes_17 : decode cX12_ringComes 17 = .ok (.if_icmp .lt 12, 3) := by decide +kernel
theorem dX12_ringComes_20 : decode cX12_ringComes 20 = .ok (.aload_n 0, 1) := by decide +kernel
theorem dX12_ringComes_21 : decode cX12_ringComes 21 = .ok (.getfield 81, 3) := by decide +kernel
theorem dX12_ringComes_24 : decode cX12_ringComes 24 = .ok (.bipush 6, 2) := by decide +kernel
theorem dX12_ringComes_26 : decode cX12_ringComes 26 = .ok (.if_icmp .ne 5, 3) := by decide +kernel
theorem dX12_ringComes_29 : decode cX12_ringComes 29 = .ok (.iconst 0, 1) := by decide +kernel
theorem dX12_ringComes_30 : decode cX12_ringComes 30 = .ok (.ireturn, 1) := by decide +kernel
theorem dX12_ringComes_31 : decode cX12_ringComes 31 = .ok (.aload_n 0, 1) := by decide +kernel
theorem dX12_ringComes_32 : decode cX12_ringComes 32 = .ok (.getfield 16, 3) := by decide +kernel
theorem dX12_ringComes_35 : decode cX12_ringComes 35 = .ok (.aload_n 0, 1) := by decide +kernel
theorem dX12_ringComes_36 : decode cX12_ringComes 36 = .ok (.getfield 81, 3) := by decide +kernel
theorem dX12_ringComes_39 : decode cX12_ringComes 39 = .ok (.aload_n 0, 1) := by decide +kernel
theorem dX12_ringComes_40 : decode cX12_ringComes 40 = .ok (.getfield 41, 3) := by decide +kernel
theorem dX12_ringComes_43 : decode cX12_ringComes 43 = .ok (.iload_n 1, 1) := by decide +kernel
theorem dX12_ringComes_44 : decode cX12_ringComes 44 = .ok (.iaload, 1) := by decide +kernel
theorem dX12_ringComes_45 : decode cX12_ringComes 45 = .ok (.iastore, 1) := by decide +kernel
theorem dX12_ringComes_46 : decode cX12_ringComes 46 = .ok (.aload_n 0, 1) := by decide +kernel
theorem dX12_ringComes_47 : decode cX12_ringComes 47 = .ok (.getfield 20, 3) := by decide +kernel
theorem dX12_ringComes_50 : decode cX12_ringComes 50 = .ok (.aload_n 0, 1) := by decide +kernel
theorem dX12_ringComes_51 : decode cX12_ringComes 51 = .ok (.getfield 81, 3) := by decide +kernel
theorem dX12_ringComes_54 : decode cX12_ringComes 54 = .ok (.aload_n 0, 1) := by decide +kernel
theorem dX12_ringComes_55 : decode cX12_ringComes 55 = .ok (.getfield 44, 3) := by decide +kernel
theorem dX12_ringComes_58 : decode cX12_ringComes 58 = .ok (.iload_n 1, 1) := by decide +kernel
theorem dX12_ringComes_59 : decode cX12_ringComes 59 = .ok (.iaload, 1) := by decide +kernel
theorem dX12_ringComes_60 : decode cX12_ringComes 60 = .ok (.iastore, 1) := by decide +kernel
theorem dX12_ringComes_61 : decode cX12_ringComes 61 = .ok (.aload_n 0, 1) := by decide +kernel
theorem dX12_ringComes_62 : decode cX12_ringComes 62 = .ok (.getfield 23, 3) := by decide +kernel
theorem dX12_ringComes_65 : decode cX12_ringComes 65 = .ok (.aload_n 0, 1) := by decide +kernel
theorem dX12_ringComes_66 : decode cX12_ringComes 66 = .ok (.getfield 81, 3) := by decide +kernel
theorem dX12_ringComes_69 : decode cX12_ringComes 69 = .ok (.aload_n 0, 1) := by decide +kernel
theorem dX12_ringComes_70 : decode cX12_ringComes 70 = .ok (.getfield 47, 3) := by decide +kernel
theorem dX12_ringComes_73 : decode cX12_ringComes 73 = .ok (.iload_n 1, 1) := by decide +kernel
theorem dX12_ringComes_74 : decode cX12_ringComes 74 = .ok (.iaload, 1) := by decide +kernel
theorem dX12_ringComes_75 : decode cX12_ringComes 75 = .ok (.iastore, 1) := by decide +kernel
theorem dX12_ringComes_76 : decode cX12_ringComes 76 = .ok (.aload_n 0, 1) := by decide +kernel
theorem dX12_ringComes_77 : decode cX12_ringComes 77 = .ok (.getfield 26, 3) := by decide +kernel
theorem dX12_ringComes_80 : decode cX12_ringComes 80 = .ok (.aload_n 0, 1) := by decide +kernel
theorem dX12_ringComes_81 : decode cX12_ringComes 81 = .ok (.getfield 81, 3) := by decide +kernel
theorem dX12_ringComes_84 : decode cX12_ringComes 84 = .ok (.aload_n 0, 1) := by decide +kernel
theorem dX12_ringComes_85 : decode cX12_ringComes 85 = .ok (.getfield 50, 3) := by decide +kernel
theorem dX12_ringComes_88 : decode cX12_ringComes 88 = .ok (.iload_n 1, 1) := by decide +kernel
theorem dX12_ringComes_89 : decode cX12_ringComes 89 = .ok (.iaload, 1) := by decide +kernel
theorem dX12_ringComes_90 : decode cX12_ringComes 90 = .ok (.iastore, 1) := by decide +kernel
theorem dX12_ringComes_91 : decode cX12_ringComes 91 = .ok (.aload_n 0, 1) := by decide +kernel
theorem dX12_ringComes_92 : decode cX12_ringComes 92 = .ok (.dup, 1) := by decide +kernel
theorem dX12_ringComes_93 : decode cX12_ringComes 93 = .ok (.getfield 81, 3) := by decide +kernel
theorem dX12_ringComes_96 : decode cX12_ringComes 96 = .ok (.iconst 1, 1) := by decide +kernel
theorem dX12_ringComes_97 : decode cX12_ringComes 97 = .ok (.iadd, 1) := by decide +kernel
theorem dX12_ringComes_98 : decode cX12_ringComes 98 = .ok (.putfield 81, 3) := by decide +kernel
theorem dX12_ringComes_101 : decode cX12_ringComes 101 = .ok (.iconst 1, 1) := by decide +kernel
theorem dX12_ringComes_102 : decode cX12_ringComes 102 = .ok (.ireturn, 1) := by decide +kernel
theorem dX12_comes_0 : decode cX12_comes 0 = .ok (.aload_n 0, 1) := by decide +kernel
theorem dX12_comes_1 : decode cX12_comes 1 = .ok (.getfield 38, 3) := by decide +kernel
theorem dX12_comes_4 : decode cX12_comes 4 = .ok (.iload_n 1, 1) := by decide +kernel
theorem dX12_comes_5 : decode cX12_comes 5 = .ok (.iaload, 1) := by decide +kernel
theorem dX12_comes_6 : decode cX12_comes 6 = .ok (.bipush 114, 2) := by decide +kernel
theorem dX12_comes_8 : decode cX12_comes 8 = .ok (.if_icmp .ne 9, 3) := by decide +kernel
theorem dX12_comes_11 : decode cX12_comes 11 = .ok (.aload_n 0, 1) := by decide +kernel
theorem dX12_comes_12 : decode cX12_comes 12 = .ok (.iload_n 1, 1) := by decide +kernel
theorem dX12_comes_13 : decode cX12_comes 13 = .ok (.invokevirtual 162, 3) := by decide +kernel
theorem dX12_comes_16 : decode cX12_comes 16 = .ok (.ireturn, 1) := by decide +kernel
theorem dX12_comes_17 : decode cX12_comes 17 = .ok (.aload_n 0, 1) := by decide +kernel
theorem dX12_comes_18 : decode cX12_comes 18 = .ok (.getfield 38, 3) := by decide +kernel
theorem dX12_comes_21 : decode cX12_comes 21 = .ok (.iload_n 1, 1) := by decide +kernel
theorem dX12_comes_22 : decode cX12_comes 22 = .ok (.iaload, 1) := by decide +kernel
theorem dX12_comes_23 : decode cX12_comes 23 = .ok (.bipush 116, 2) := by decide +kernel
theorem dX12_comes_25 : decode cX12_comes 25 = .ok (.if_icmp .ne 15, 3) := by decide +kernel
theorem dX12_comes_28 : decode cX12_comes 28 = .ok (.aload_n 0, 1) := by decide +kernel
theorem dX12_comes_29 : decode cX12_comes 29 = .ok (.aload_n 0, 1) := by decide +kernel
theorem dX12_comes_30 : decode cX12_comes 30 = .ok (.getfield 41, 3) := by decide +kernel
theorem dX12_comes_33 : decode cX12_comes 33 = .ok (.iload_n 1, 1) := by decide +kernel
theorem dX12_comes_34 : decode cX12_comes 34 = .ok (.iaload, 1) := by decide +kernel
theorem dX12_comes_35 : decode cX12_comes 35 = .ok (.putfield 7, 3) := by decide +kernel
theorem dX12_comes_38 : decode cX12_comes 38 = .ok (.iconst 1, 1) := by decide +kernel
theorem dX12_comes_39 : decode cX12_comes 39 = .ok (.ireturn, 1) := by decide +kernel
theorem dX12_comes_40 : decode cX12_comes 40 = .ok (.aload_n 0, 1) := by decide +kernel
theorem dX12_comes_41 : decode cX12_comes 41 = .ok (.getfield 38, 3) := by decide +kernel
theorem dX12_comes_44 : decode cX12_comes 44 = .ok (.iload_n 1, 1) := by decide +kernel
theorem dX12_comes_45 : decode cX12_comes 45 = .ok (.iaload, 1) := by decide +kernel
theorem dX12_comes_46 : decode cX12_comes 46 = .ok (.bipush 108, 2) := by decide +kernel
theorem dX12_comes_48 : decode cX12_comes 48 = .ok (.if_icmp .ne 30, 3) := by decide +kernel
theorem dX12_comes_51 : decode cX12_comes 51 = .ok (.aload_n 0, 1) := by decide +kernel
theorem dX12_comes_52 : decode cX12_comes 52 = .ok (.aload_n 0, 1) := by decide +kernel
theorem dX12_comes_53 : decode cX12_comes 53 = .ok (.getfield 41, 3) := by decide +kernel
theorem dX12_comes_56 : decode cX12_comes 56 = .ok (.iload_n 1, 1) := by decide +kernel
theorem dX12_comes_57 : decode cX12_comes 57 = .ok (.iaload, 1) := by decide +kernel
theorem dX12_comes_58 : decode cX12_comes 58 = .ok (.putfield 13, 3) := by decide +kernel
theorem dX12_comes_61 : decode cX12_comes 61 = .ok (.aload_n 0, 1) := by decide +kernel
theorem dX12_comes_62 : decode cX12_comes 62 = .ok (.getfield 41, 3) := by decide +kernel
theorem dX12_comes_65 : decode cX12_comes 65 = .ok (.iload_n 1, 1) := by decide +kernel
theorem dX12_comes_66 : decode cX12_comes 66 = .ok (.iaload, 1) := by decide +kernel
theorem dX12_comes_67 : decode cX12_comes 67 = .ok (.bipush 30, 2) := by decide +kernel
theorem dX12_comes_69 : decode cX12_comes 69 = .ok (.if_icmp .gt 7, 3) := by decide +kernel
theorem dX12_comes_72 : decode cX12_comes 72 = .ok (.iconst 1, 1) := by decide +kernel
theorem dX12_comes_73 : decode cX12_comes 73 = .ok (.goto 4, 3) := by decide +kernel
theorem dX12_comes_76 : decode cX12_comes 76 = .ok (.iconst 0, 1) := by decide +kernel
theorem dX12_comes_77 : decode cX12_comes 77 = .ok (.ireturn, 1) := by decide +kernel
theorem dX12_comes_78 : decode cX12_comes 78 = .ok (.aload_n 0, 1) := by decide +kernel
theorem dX12_comes_79 : decode cX12_comes 79 = .ok (.getfield 41, 3) := by decide +kernel
theorem dX12_comes_82 : decode cX12_comes 82 = .ok (.iload_n 1, 1) := by decide +kernel
theorem dX12_comes_83 : decode cX12_comes 83 = .ok (.iaload, 1) := by decide +kernel
theorem dX12_comes_84 : decode cX12_comes 84 = .ok (.bipush 8, 2) := by decide +kernel
theorem dX12_comes_86 : decode cX12_comes 86 = .ok (.if_icmp .ge 45, 3) := by decide +kernel
theorem dX12_comes_89 : decode cX12_comes 89 = .ok (.aload_n 0, 1) := by decide +kernel
theorem dX12_comes_90 : decode cX12_comes 90 = .ok (.aload_n 0, 1) := by decide +kernel
theorem dX12_comes_91 : decode cX12_comes 91 = .ok (.getfield 47, 3) := by decide +kernel
theorem dX12_comes_94 : decode cX12_comes 94 = .ok (.iload_n 1, 1) := by decide +kernel
theorem dX12_comes_95 : decode cX12_comes 95 = .ok (.iaload, 1) := by decide +kernel
theorem dX12_comes_96 : decode cX12_comes 96 = .ok (.invokevirtual 166, 3) := by decide +kernel
theorem dX12_comes_99 : decode cX12_comes 99 = .ok (.ifCond .eq 32, 3) := by decide +kernel
theorem dX12_comes_102 : decode cX12_comes 102 = .ok (.aload_n 0, 1) := by decide +kernel
theorem dX12_comes_103 : decode cX12_comes 103 = .ok (.aload_n 0, 1) := by decide +kernel
theorem dX12_comes_104 : decode cX12_comes 104 = .ok (.getfield 41, 3) := by decide +kernel
theorem dX12_comes_107 : decode cX12_comes 107 = .ok (.iload_n 1, 1) := by decide +kernel
theorem dX12_comes_108 : decode cX12_comes 108 = .ok (.iaload, 1) := by decide +kernel
theorem dX12_comes_109 : decode cX12_comes 109 = .ok (.aload_n 0, 1) := by decide +kernel
theorem dX12_comes_110 : decode cX12_comes 110 = .ok (.getfield 44, 3) := by decide +kernel
theorem dX12_comes_113 : decode cX12_comes 113 = .ok (.iload_n 1, 1) := by decide +kernel
theorem dX12_comes_114 : decode cX12_comes 114 = .ok (.iaload, 1) := by decide +kernel
theorem dX12_comes_115 : decode cX12_comes 115 = .ok (.aload_n 0, 1) := by decide +kernel
theorem dX12_comes_116 : decode cX12_comes 116 = .ok (.getfield 47, 3) := by decide +kernel
theorem dX12_comes_119 : decode cX12_comes 119 = .ok (.iload_n 1, 1) := by decide +kernel
theorem dX12_comes_120 : decode cX12_comes 120 = .ok (.iaload, 1) := by decide +kernel
theorem dX12_comes_121 : decode cX12_comes 121 = .ok (.invokevirtual 169, 3) := by decide +kernel
theorem dX12_comes_124 : decode cX12_comes 124 = .ok (.ifCond .eq 7, 3) := by decide +kernel
theorem dX12_comes_127 : decode cX12_comes 127 = .ok (.iconst 1, 1) := by decide +kernel
theorem dX12_comes_128 : decode cX12_comes 128 = .ok (.goto 4, 3) := by decide +kernel
theorem dX12_comes_131 : decode cX12_comes 131 = .ok (.iconst 0, 1) := by decide +kernel
theorem dX12_comes_132 : decode cX12_comes 132 = .ok (.istore_n 2, 1) := by decide +kernel
theorem dX12_comes_133 : decode cX12_comes 133 = .ok (.iload_n 2, 1) := by decide +kernel
theorem dX12_comes_134 : decode cX12_comes 134 = .ok (.ifCond .eq 25, 3) := by decide +kernel
theorem dX12_comes_137 : decode cX12_comes 137 = .ok (.aload_n 0, 1) := by decide +kernel
theorem dX12_comes_138 : decode cX12_comes 138 = .ok (.aload_n 0, 1) := by decide +kernel
theorem dX12_comes_139 : decode cX12_comes 139 = .ok (.getfield 41, 3) := by decide +kernel
theorem dX12_comes_142 : decode cX12_comes 142 = .ok (.iload_n 1, 1) := by decide +kernel
theorem dX12_comes_143 : decode cX12_comes 143 = .ok (.iaload, 1) := by decide +kernel
theorem dX12_comes_144 : decode cX12_comes 144 = .ok (.aload_n 0, 1) := by decide +kernel
theorem dX12_comes_145 : decode cX12_comes 145 = .ok (.getfield 44, 3) := by decide +kernel
theorem dX12_comes_148 : decode cX12_comes 148 = .ok (.iload_n 1, 1) := by decide +kernel
theorem dX12_comes_149 : decode cX12_comes 149 = .ok (.iaload, 1) := by decide +kernel
theorem dX12_comes_150 : decode cX12_comes 150 = .ok (.aload_n 0, 1) := by decide +kernel
theorem dX12_comes_151 : decode cX12_comes 151 = .ok (.getfield 47, 3) := by decide +kernel
theorem dX12_comes_154 : decode cX12_comes 154 = .ok (.iload_n 1, 1) := by decide +kernel
theorem dX12_comes_155 : decode cX12_comes 155 = .ok (.iaload, 1) := by decide +kernel
theorem dX12_comes_156 : decode cX12_comes 156 = .ok (.invokevirtual 173, 3) := by decide +kernel
theorem dX12_comes_159 : decode cX12_comes 159 = .ok (.iload_n 2, 1) := by decide +kernel
theorem dX12_comes_160 : decode cX12_comes 160 = .ok (.ireturn, 1) := by decide +kernel
theorem dX12_dress_0 : decode cX12_dress 0 = .ok (.aload_n 0, 1) := by decide +kernel
theorem dX12_dress_1 : decode cX12_dress 1 = .ok (.iconst 0, 1) := by decide +kernel
theorem dX12_dress_2 : decode cX12_dress 2 = .ok (.putfield 78, 3) := by decide +kernel
theorem dX12_dress_5 : decode cX12_dress 5 = .ok (.aload_n 0, 1) := by decide +kernel
theorem dX12_dress_6 : decode cX12_dress 6 = .ok (.iload_n 1, 1) := by decide +kernel
theorem dX12_dress_7 : decode cX12_dress 7 = .ok (.iconst 0, 1) := by decide +kernel
theorem dX12_dress_8 : decode cX12_dress 8 = .ok (.invokevirtual 177, 3) := by decide +kernel
theorem dX12_dress_11 : decode cX12_dress 11 = .ok (.istore_n 2, 1) := by decide +kernel
theorem dX12_dress_12 : decode cX12_dress 12 = .ok (.iload_n 2, 1) := by decide +kernel
theorem dX12_dress_13 : decode cX12_dress 13 = .ok (.ifCond .ge 5, 3) := by decide +kernel
theorem dX12_dress_16 : decode cX12_dress 16 = .ok (.iload_n 2, 1) := by decide +kernel
theorem dX12_dress_17 : decode cX12_dress 17 = .ok (.ireturn, 1) := by decide +kernel
theorem dX12_dress_18 : decode cX12_dress 18 = .ok (.aload_n 0, 1) := by decide +kernel
theorem dX12_dress_19 : decode cX12_dress 19 = .ok (.bipush 100, 2) := by decide +kernel
theorem dX12_dress_21 : decode cX12_dress 21 = .ok (.iload_n 1, 1) := by decide +kernel
theorem dX12_dress_22 : decode cX12_dress 22 = .ok (.imul, 1) := by decide +kernel
theorem dX12_dress_23 : decode cX12_dress 23 = .ok (.putfield 135, 3) := by decide +kernel
theorem dX12_dress_26 : decode cX12_dress 26 = .ok (.aload_n 0, 1) := by decide +kernel
theorem dX12_dress_27 : decode cX12_dress 27 = .ok (.aload_n 0, 1) := by decide +kernel
theorem dX12_dress_28 : decode cX12_dress 28 = .ok (.getfield 68, 3) := by decide +kernel
theorem dX12_dress_31 : decode cX12_dress 31 = .ok (.iload_n 1, 1) := by decide +kernel
theorem dX12_dress_32 : decode cX12_dress 32 = .ok (.iaload, 1) := by decide +kernel
theorem dX12_dress_33 : decode cX12_dress 33 = .ok (.putfield 132, 3) := by decide +kernel
theorem dX12_dress_36 : decode cX12_dress 36 = .ok (.aload_n 0, 1) := by decide +kernel
theorem dX12_dress_37 : decode cX12_dress 37 = .ok (.iconst 0, 1) := by decide +kernel
theorem dX12_dress_38 : decode cX12_dress 38 = .ok (.putfield 129, 3) := by decide +kernel
theorem dX12_dress_41 : decode cX12_dress 41 = .ok (.aload_n 0, 1) := by decide +kernel
theorem dX12_dress_42 : decode cX12_dress 42 = .ok (.iconst 0, 1) := by decide +kernel
theorem dX12_dress_43 : decode cX12_dress 43 = .ok (.putfield 138, 3) := by decide +kernel
theorem dX12_dress_46 : decode cX12_dress 46 = .ok (.aload_n 0, 1) := by decide +kernel
theorem dX12_dress_47 : decode cX12_dress 47 = .ok (.iconst 0, 1) := by decide +kernel
theorem dX12_dress_48 : decode cX12_dress 48 = .ok (.putfield 152, 3) := by decide +kernel
theorem dX12_dress_51 : decode cX12_dress 51 = .ok (.aload_n 0, 1) := by decide +kernel
theorem dX12_dress_52 : decode cX12_dress 52 = .ok (.getfield 138, 3) := by decide +kernel
theorem dX12_dress_55 : decode cX12_dress 55 = .ok (.ifCond .ne 28, 3) := by decide +kernel
theorem dX12_dress_58 : decode cX12_dress 58 = .ok (.aload_n 0, 1) := by decide +kernel
theorem dX12_dress_59 : decode cX12_dress 59 = .ok (.getfield 152, 3) := by decide +kernel
theorem dX12_dress_62 : decode cX12_dress 62 = .ok (.ifCond .eq 14, 3) := by decide +kernel
theorem dX12_dress_65 : decode cX12_dress 65 = .ok (.aload_n 0, 1) := by decide +kernel
theorem dX12_dress_66 : decode cX12_dress 66 = .ok (.getfield 129, 3) := by decide +kernel
theorem dX12_dress_69 : decode cX12_dress 69 = .ok (.aload_n 0, 1) := by decide +kernel
theorem dX12_dress_70 : decode cX12_dress 70 = .ok (.getfield 132, 3) := by decide +kernel
theorem dX12_dress_73 : decode cX12_dress 73 = .ok (.if_icmp .ge 10, 3) := by decide +kernel
theorem dX12_dress_76 : decode cX12_dress 76 = .ok (.aload_n 0, 1) := by decide +kernel
theorem dX12_dress_77 : decode cX12_dress 77 = .ok (.invokevirtual 180, 3) := by decide +kernel
theorem dX12_dress_80 : decode cX12_dress 80 = .ok (.goto (-29), 3) := by decide +kernel
theorem dX12_dress_83 : decode cX12_dress 83 = .ok (.aload_n 0, 1) := by decide +kernel
theorem dX12_dress_84 : decode cX12_dress 84 = .ok (.getfield 138, 3) := by decide +kernel
theorem dX12_dress_87 : decode cX12_dress 87 = .ok (.ifCond .eq 12, 3) := by decide +kernel
theorem dX12_dress_90 : decode cX12_dress 90 = .ok (.sipush (-1000), 3) := by decide +kernel
theorem dX12_dress_93 : decode cX12_dress 93 = .ok (.aload_n 0, 1) := by decide +kernel
theorem dX12_dress_94 : decode cX12_dress 94 = .ok (.getfield 129, 3) := by decide +kernel
theorem dX12_dress_97 : decode cX12_dress 97 = .ok (.isub, 1) := by decide +kernel
theorem dX12_dress_98 : decode cX12_dress 98 = .ok (.ireturn, 1) := by decide +kernel
theorem dX12_dress_99 : decode cX12_dress 99 = .ok (.aload_n 0, 1) := by decide +kernel
theorem dX12_dress_100 : decode cX12_dress 100 = .ok (.invokevirtual 183, 3) := by decide +kernel
theorem dX12_dress_103 : decode cX12_dress 103 = .ok (.iconst 0, 1) := by decide +kernel
theorem dX12_dress_104 : decode cX12_dress 104 = .ok (.istore_n 3, 1) := by decide +kernel
theorem dX12_dress_105 : decode cX12_dress 105 = .ok (.iload_n 3, 1) := by decide +kernel
theorem dX12_dress_106 : decode cX12_dress 106 = .ok (.aload_n 0, 1) := by decide +kernel
theorem dX12_dress_107 : decode cX12_dress 107 = .ok (.getfield 152, 3) := by decide +kernel
theorem dX12_dress_110 : decode cX12_dress 110 = .ok (.if_icmp .ge 32, 3) := by decide +kernel
theorem dX12_dress_113 : decode cX12_dress 113 = .ok (.aload_n 0, 1) := by decide +kernel
theorem dX12_dress_114 : decode cX12_dress 114 = .ok (.iload_n 3, 1) := by decide +kernel
theorem dX12_dress_115 : decode cX12_dress 115 = .ok (.invokevirtual 186, 3) := by decide +kernel
theorem dX12_dress_118 : decode cX12_dress 118 = .ok (.ifCond .ne 18, 3) := by decide +kernel
theorem dX12_dress_121 : decode cX12_dress 121 = .ok (.aload_n 0, 1) := by decide +kernel
theorem dX12_dress_122 : decode cX12_dress 122 = .ok (.invokevirtual 189, 3) := by decide +kernel
theorem dX12_dress_125 : decode cX12_dress 125 = .ok (.sipush (-2000), 3) := by decide +kernel
theorem dX12_dress_128 : decode cX12_dress 128 = .ok (.aload_n 0, 1) := by decide +kernel
theorem dX12_dress_129 : decode cX12_dress 129 = .ok (.getfield 35, 3) := by decide +kernel
theorem dX12_dress_132 : decode cX12_dress 132 = .ok (.iload_n 3, 1) := by decide +kernel
theorem dX12_dress_133 : decode cX12_dress 133 = .ok (.iaload, 1) := by decide +kernel
theorem dX12_dress_134 : decode cX12_dress 134 = .ok (.isub, 1) := by decide +kernel
theorem dX12_dress_135 : decode cX12_dress 135 = .ok (.ireturn, 1) := by decide +kernel
theorem dX12_dress_136 : decode cX12_dress 136 = .ok (.iinc 3 1, 3) := by decide +kernel
theorem dX12_dress_139 : decode cX12_dress 139 = .ok (.goto (-34), 3) := by decide +kernel
theorem dX12_dress_142 : decode cX12_dress 142 = .ok (.aload_n 0, 1) := by decide +kernel
theorem dX12_dress_143 : decode cX12_dress 143 = .ok (.getfield 152, 3) := by decide +kernel
theorem dX12_dress_146 : decode cX12_dress 146 = .ok (.ireturn, 1) := by decide +kernel
theorem dX12_ring_0 : decode cX12_ring 0 = .ok (.aload_n 0, 1) := by decide +kernel
theorem dX12_ring_1 : decode cX12_ring 1 = .ok (.iconst 0, 1) := by decide +kernel
theorem dX12_ring_2 : decode cX12_ring 2 = .ok (.putfield 78, 3) := by decide +kernel
theorem dX12_ring_5 : decode cX12_ring 5 = .ok (.aload_n 0, 1) := by decide +kernel
theorem dX12_ring_6 : decode cX12_ring 6 = .ok (.iload_n 1, 1) := by decide +kernel
theorem dX12_ring_7 : decode cX12_ring 7 = .ok (.invokevirtual 166, 3) := by decide +kernel
theorem dX12_ring_10 : decode cX12_ring 10 = .ok (.ifCond .eq 15, 3) := by decide +kernel
theorem dX12_ring_13 : decode cX12_ring 13 = .ok (.iload_n 2, 1) := by decide +kernel
theorem dX12_ring_14 : decode cX12_ring 14 = .ok (.i2l, 1) := by decide +kernel
theorem dX12_ring_15 : decode cX12_ring 15 = .ok (.lconst 0, 1) := by decide +kernel
theorem dX12_ring_16 : decode cX12_ring 16 = .ok (.ldc2_w 192, 3) := by decide +kernel
theorem dX12_ring_19 : decode cX12_ring 19 = .ok (.invokestatic 84, 3) := by decide +kernel
theorem dX12_ring_22 : decode cX12_ring 22 = .ok (.ifCond .ne 5, 3) := by decide +kernel
theorem dX12_ring_25 : decode cX12_ring 25 = .ok (.iconst (-1), 1) := by decide +kernel
theorem dX12_ring_26 : decode cX12_ring 26 = .ok (.ireturn, 1) := by decide +kernel
theorem dX12_ring_27 : decode cX12_ring 27 = .ok (.iload_n 2, 1) := by decide +kernel
theorem dX12_ring_28 : decode cX12_ring 28 = .ok (.ifCond .ne 12, 3) := by decide +kernel
theorem dX12_ring_31 : decode cX12_ring 31 = .ok (.aload_n 0, 1) := by decide +kernel
theorem dX12_ring_32 : decode cX12_ring 32 = .ok (.getfield 16, 3) := by decide +kernel
theorem dX12_ring_35 : decode cX12_ring 35 = .ok (.iload_n 1, 1) := by decide +kernel
theorem dX12_ring_36 : decode cX12_ring 36 = .ok (.iaload, 1) := by decide +kernel
theorem dX12_ring_37 : decode cX12_ring 37 = .ok (.goto 37, 3) := by decide +kernel
theorem dX12_ring_40 : decode cX12_ring 40 = .ok (.iload_n 2, 1) := by decide +kernel
theorem dX12_ring_41 : decode cX12_ring 41 = .ok (.iconst 1, 1) := by decide +kernel
theorem dX12_ring_42 : decode cX12_ring 42 = .ok (.if_icmp .ne 12, 3) := by decide +kernel
theorem dX12_ring_45 : decode cX12_ring 45 = .ok (.aload_n 0, 1) := by decide +kernel
theorem dX12_ring_46 : decode cX12_ring 46 = .ok (.getfield 20, 3) := by decide +kernel
theorem dX12_ring_49 : decode cX12_ring 49 = .ok (.iload_n 1, 1) := by decide +kernel
theorem dX12_ring_50 : decode cX12_ring 50 = .ok (.iaload, 1) := by decide +kernel
theorem dX12_ring_51 : decode cX12_ring 51 = .ok (.goto 23, 3) := by decide +kernel
theorem dX12_ring_54 : decode cX12_ring 54 = .ok (.iload_n 2, 1) := by decide +kernel
theorem dX12_ring_55 : decode cX12_ring 55 = .ok (.iconst 2, 1) := by decide +kernel
theorem dX12_ring_56 : decode cX12_ring 56 = .ok (.if_icmp .ne 12, 3) := by decide +kernel
theorem dX12_ring_59 : decode cX12_ring 59 = .ok (.aload_n 0, 1) := by decide +kernel
theorem dX12_ring_60 : decode cX12_ring 60 = .ok (.getfield 23, 3) := by decide +kernel
theorem dX12_ring_63 : decode cX12_ring 63 = .ok (.iload_n 1, 1) := by decide +kernel
theorem dX12_ring_64 : decode cX12_ring 64 = .ok (.iaload, 1) := by decide +kernel
theorem dX12_ring_65 : decode cX12_ring 65 = .ok (.goto 9, 3) := by decide +kernel
theorem dX12_ring_68 : decode cX12_ring 68 = .ok (.aload_n 0, 1) := by decide +kernel
theorem dX12_ring_69 : decode cX12_ring 69 = .ok (.getfield 26, 3) := by decide +kernel
theorem dX12_ring_72 : decode cX12_ring 72 = .ok (.iload_n 1, 1) := by decide +kernel
theorem dX12_ring_73 : decode cX12_ring 73 = .ok (.iaload, 1) := by decide +kernel
theorem dX12_ring_74 : decode cX12_ring 74 = .ok (.ireturn, 1) := by decide +kernel
theorem dX12_line_0 : decode cX12_line 0 = .ok (.aload_n 0, 1) := by decide +kernel
theorem dX12_line_1 : decode cX12_line 1 = .ok (.iconst 0, 1) := by decide +kernel
theorem dX12_line_2 : decode cX12_line 2 = .ok (.putfield 78, 3) := by decide +kernel
theorem dX12_line_5 : decode cX12_line 5 = .ok (.iload_n 1, 1) := by decide +kernel
theorem dX12_line_6 : decode cX12_line 6 = .ok (.i2l, 1) := by decide +kernel
theorem dX12_line_7 : decode cX12_line 7 = .ok (.lconst 0, 1) := by decide +kernel
theorem dX12_line_8 : decode cX12_line 8 = .ok (.lconst 1, 1) := by decide +kernel
theorem dX12_line_9 : decode cX12_line 9 = .ok (.invokestatic 84, 3) := by decide +kernel
theorem dX12_line_12 : decode cX12_line 12 = .ok (.ifCond .eq 25, 3) := by decide +kernel
theorem dX12_line_15 : decode cX12_line 15 = .ok (.iload_n 2, 1) := by decide +kernel
theorem dX12_line_16 : decode cX12_line 16 = .ok (.i2l, 1) := by decide +kernel
theorem dX12_line_17 : decode cX12_line 17 = .ok (.lconst 0, 1) := by decide +kernel
theorem dX12_line_18 : decode cX12_line 18 = .ok (.iload_n 1, 1) := by decide +kernel
theorem dX12_line_19 : decode cX12_line 19 = .ok (.ifCond .ne 9, 3) := by decide +kernel
theorem dX12_line_22 : decode cX12_line 22 = .ok (.ldc2_w 194, 3) := by decide +kernel
theorem dX12_line_25 : decode cX12_line 25 = .ok (.goto 6, 3) := by decide +kernel
theorem dX12_line_28 : decode cX12_line 28 = .ok (.ldc2_w 196, 3) := by decide +kernel
theorem dX12_line_31 : decode cX12_line 31 = .ok (.invokestatic 84, 3) := by decide +kernel
theorem dX12_line_34 : decode cX12_line 34 = .ok (.ifCond .ne 5, 3) := by decide +kernel
theorem dX12_line_37 : decode cX12_line 37 = .ok (.iconst (-1), 1) := by decide +kernel
theorem dX12_line_38 : decode cX12_line 38 = .ok (.ireturn, 1) := by decide +kernel
theorem dX12_line_39 : decode cX12_line 39 = .ok (.iload_n 1, 1) := by decide +kernel
theorem dX12_line_40 : decode cX12_line 40 = .ok (.ifCond .ne 10, 3) := by decide +kernel
theorem dX12_line_43 : decode cX12_line 43 = .ok (.aload_n 0, 1) := by decide +kernel
theorem dX12_line_44 : decode cX12_line 44 = .ok (.getfield 7, 3) := by decide +kernel
theorem dX12_line_47 : decode cX12_line 47 = .ok (.goto 7, 3) := by decide +kernel
theorem dX12_line_50 : decode cX12_line 50 = .ok (.aload_n 0, 1) := by decide +kernel
theorem dX12_line_51 : decode cX12_line 51 = .ok (.getfield 13, 3) := by decide +kernel
theorem dX12_line_54 : decode cX12_line 54 = .ok (.istore_n 3, 1) := by decide +kernel
theorem dX12_line_55 : decode cX12_line 55 = .ok (.aload_n 0, 1) := by decide +kernel
theorem dX12_line_56 : decode cX12_line 56 = .ok (.iload_n 1, 1) := by decide +kernel
theorem dX12_line_57 : decode cX12_line 57 = .ok (.ifCond .ne 7, 3) := by decide +kernel
theorem dX12_line_60 : decode cX12_line 60 = .ok (.iload_n 2, 1) := by decide +kernel
theorem dX12_line_61 : decode cX12_line 61 = .ok (.goto 7, 3) := by decide +kernel
theorem dX12_line_64 : decode cX12_line 64 = .ok (.aload_n 0, 1) := by decide +kernel
theorem dX12_line_65 : decode cX12_line 65 = .ok (.getfield 7, 3) := by decide +kernel
theorem dX12_line_68 : decode cX12_line 68 = .ok (.putfield 7, 3) := by decide +kernel
theorem dX12_line_71 : decode cX12_line 71 = .ok (.aload_n 0, 1) := by decide +kernel
theorem dX12_line_72 : decode cX12_line 72 = .ok (.iload_n 1, 1) := by decide +kernel
theorem dX12_line_73 : decode cX12_line 73 = .ok (.iconst 1, 1) := by decide +kernel
theorem dX12_line_74 : decode cX12_line 74 = .ok (.if_icmp .ne 7, 3) := by decide +kernel
theorem dX12_line_77 : decode cX12_line 77 = .ok (.iload_n 2, 1) := by decide +kernel
theorem dX12_line_78 : decode cX12_line 78 = .ok (.goto 7, 3) := by decide +kernel
theorem dX12_line_81 : decode cX12_line 81 = .ok (.aload_n 0, 1) := by decide +kernel
theorem dX12_line_82 : decode cX12_line 82 = .ok (.getfield 13, 3) := by decide +kernel
theorem dX12_line_85 : decode cX12_line 85 = .ok (.putfield 13, 3) := by decide +kernel
theorem dX12_line_88 : decode cX12_line 88 = .ok (.iload_n 3, 1) := by decide +kernel
theorem dX12_line_89 : decode cX12_line 89 = .ok (.ireturn, 1) := by decide +kernel
theorem dX12_wrongPin_0 : decode cX12_wrongPin 0 = .ok (.iload_n 1, 1) := by decide +kernel
theorem dX12_wrongPin_1 : decode cX12_wrongPin 1 = .ok (.i2l, 1) := by decide +kernel
theorem dX12_wrongPin_2 : decode cX12_wrongPin 2 = .ok (.lconst 0, 1) := by decide +kernel
theorem dX12_wrongPin_3 : decode cX12_wrongPin 3 = .ok (.ldc2_w 198, 3) := by decide +kernel
theorem dX12_wrongPin_6 : decode cX12_wrongPin 6 = .ok (.invokestatic 84, 3) := by decide +kernel
theorem dX12_wrongPin_9 : decode cX12_wrongPin 9 = .ok (.ifCond .ne 7, 3) := by decide +kernel
theorem dX12_wrongPin_12 : decode cX12_wrongPin 12 = .ok (.iconst (-1), 1) := by decide +kernel
theorem dX12_wrongPin_13 : decode cX12_wrongPin 13 = .ok (.goto 33, 3) := by decide +kernel
theorem dX12_wrongPin_16 : decode cX12_wrongPin 16 = .ok (.aload_n 0, 1) := by decide +kernel
theorem dX12_wrongPin_17 : decode cX12_wrongPin 17 = .ok (.getfield 56, 3) := by decide +kernel
theorem dX12_wrongPin_20 : decode cX12_wrongPin 20 = .ok (.iload_n 1, 1) := by decide +kernel
theorem dX12_wrongPin_21 : decode cX12_wrongPin 21 = .ok (.iaload, 1) := by decide +kernel
theorem dX12_wrongPin_22 : decode cX12_wrongPin 22 = .ok (.ifCond .ne 8, 3) := by decide +kernel
theorem dX12_wrongPin_25 : decode cX12_wrongPin 25 = .ok (.bipush (-11), 2) := by decide +kernel
theorem dX12_wrongPin_27 : decode cX12_wrongPin 27 = .ok (.goto 19, 3) := by decide +kernel
theorem dX12_wrongPin_30 : decode cX12_wrongPin 30 = .ok (.aload_n 0, 1) := by decide +kernel
theorem dX12_wrongPin_31 : decode cX12_wrongPin 31 = .ok (.getfield 56, 3) := by decide +kernel
theorem dX12_wrongPin_34 : decode cX12_wrongPin 34 = .ok (.iload_n 1, 1) := by decide +kernel
theorem dX12_wrongPin_35 : decode cX12_wrongPin 35 = .ok (.iaload, 1) := by decide +kernel
theorem dX12_wrongPin_36 : decode cX12_wrongPin 36 = .ok (.iconst 1, 1) := by decide +kernel
theorem dX12_wrongPin_37 : decode cX12_wrongPin 37 = .ok (.if_icmp .eq 8, 3) := by decide +kernel
theorem dX12_wrongPin_40 : decode cX12_wrongPin 40 = .ok (.bipush (-12), 2) := by decide +kernel
theorem dX12_wrongPin_42 : decode cX12_wrongPin 42 = .ok (.goto 4, 3) := by decide +kernel
theorem dX12_wrongPin_45 : decode cX12_wrongPin 45 = .ok (.iconst 0, 1) := by decide +kernel
theorem dX12_wrongPin_46 : decode cX12_wrongPin 46 = .ok (.ireturn, 1) := by decide +kernel
theorem dX12_may_0 : decode cX12_may 0 = .ok (.aload_n 0, 1) := by decide +kernel
theorem dX12_may_1 : decode cX12_may 1 = .ok (.iconst 0, 1) := by decide +kernel
theorem dX12_may_2 : decode cX12_may 2 = .ok (.putfield 78, 3) := by decide +kernel
theorem dX12_may_5 : decode cX12_may 5 = .ok (.aload_n 0, 1) := by decide +kernel
theorem dX12_may_6 : decode cX12_may 6 = .ok (.iload_n 2, 1) := by decide +kernel
theorem dX12_may_7 : decode cX12_may 7 = .ok (.invokevirtual 166, 3) := by decide +kernel
theorem dX12_may_10 : decode cX12_may 10 = .ok (.ifCond .eq 11, 3) := by decide +kernel
theorem dX12_may_13 : decode cX12_may 13 = .ok (.aload_n 0, 1) := by decide +kernel
theorem dX12_may_14 : decode cX12_may 14 = .ok (.iload_n 1, 1) := by decide +kernel
theorem dX12_may_15 : decode cX12_may 15 = .ok (.invokevirtual 200, 3) := by decide +kernel
theorem dX12_may_18 : decode cX12_may 18 = .ok (.goto 4, 3) := by decide +kernel
theorem dX12_may_21 : decode cX12_may 21 = .ok (.iconst (-1), 1) := by decide +kernel
theorem dX12_may_22 : decode cX12_may 22 = .ok (.istore_n 3, 1) := by decide +kernel
theorem dX12_may_23 : decode cX12_may 23 = .ok (.iload_n 3, 1) := by decide +kernel
theorem dX12_may_24 : decode cX12_may 24 = .ok (.ifCond .ge 5, 3) := by decide +kernel
theorem dX12_may_27 : decode cX12_may 27 = .ok (.iload_n 3, 1) := by decide +kernel
theorem dX12_may_28 : decode cX12_may 28 = .ok (.ireturn, 1) := by decide +kernel
theorem dX12_may_29 : decode cX12_may 29 = .ok (.aload_n 0, 1) := by decide +kernel
theorem dX12_may_30 : decode cX12_may 30 = .ok (.aload_n 0, 1) := by decide +kernel
theorem dX12_may_31 : decode cX12_may 31 = .ok (.getfield 59, 3) := by decide +kernel
theorem dX12_may_34 : decode cX12_may 34 = .ok (.iload_n 1, 1) := by decide +kernel
theorem dX12_may_35 : decode cX12_may 35 = .ok (.iaload, 1) := by decide +kernel
theorem dX12_may_36 : decode cX12_may 36 = .ok (.aload_n 0, 1) := by decide +kernel
theorem dX12_may_37 : decode cX12_may 37 = .ok (.getfield 62, 3) := by decide +kernel
theorem dX12_may_40 : decode cX12_may 40 = .ok (.iload_n 1, 1) := by decide +kernel
theorem dX12_may_41 : decode cX12_may 41 = .ok (.iaload, 1) := by decide +kernel
theorem dX12_may_42 : decode cX12_may 42 = .ok (.iload_n 2, 1) := by decide +kernel
theorem dX12_may_43 : decode cX12_may 43 = .ok (.invokevirtual 169, 3) := by decide +kernel
theorem dX12_may_46 : decode cX12_may 46 = .ok (.ifCond .eq 7, 3) := by decide +kernel
theorem dX12_may_49 : decode cX12_may 49 = .ok (.iconst 1, 1) := by decide +kernel
theorem dX12_may_50 : decode cX12_may 50 = .ok (.goto 4, 3) := by decide +kernel
theorem dX12_may_53 : decode cX12_may 53 = .ok (.iconst 0, 1) := by decide +kernel
theorem dX12_may_54 : decode cX12_may 54 = .ok (.ireturn, 1) := by decide +kernel
theorem dX12_pin_0 : decode cX12_pin 0 = .ok (.aload_n 0, 1) := by decide +kernel
theorem dX12_pin_1 : decode cX12_pin 1 = .ok (.iconst 0, 1) := by decide +kernel
theorem dX12_pin_2 : decode cX12_pin 2 = .ok (.putfield 78, 3) := by decide +kernel
theorem dX12_pin_5 : decode cX12_pin 5 = .ok (.aload_n 0, 1) := by decide +kernel
theorem dX12_pin_6 : decode cX12_pin 6 = .ok (.iload_n 2, 1) := by decide +kernel
theorem dX12_pin_7 : decode cX12_pin 7 = .ok (.invokevirtual 166, 3) := by decide +kernel
theorem dX12_pin_10 : decode cX12_pin 10 = .ok (.ifCond .eq 11, 3) := by decide +kernel
theorem dX12_pin_13 : decode cX12_pin 13 = .ok (.aload_n 0, 1) := by decide +kernel
theorem dX12_pin_14 : decode cX12_pin 14 = .ok (.iload_n 1, 1) := by decide +kernel
theorem dX12_pin_15 : decode cX12_pin 15 = .ok (.invokevirtual 200, 3) := by decide +kernel
theorem dX12_pin_18 : decode cX12_pin 18 = .ok (.goto 4, 3) := by decide +kernel
theorem dX12_pin_21 : decode cX12_pin 21 = .ok (.iconst (-1), 1) := by decide +kernel
theorem dX12_pin_22 : decode cX12_pin 22 = .ok (.istore_n 3, 1) := by decide +kernel
theorem dX12_pin_23 : decode cX12_pin 23 = .ok (.iload_n 3, 1) := by decide +kernel
theorem dX12_pin_24 : decode cX12_pin 24 = .ok (.ifCond .ge 5, 3) := by decide +kernel
theorem dX12_pin_27 : decode cX12_pin 27 = .ok (.iload_n 3, 1) := by decide +kernel
theorem dX12_pin_28 : decode cX12_pin 28 = .ok (.ireturn, 1) := by decide +kernel
theorem dX12_pin_29 : decode cX12_pin 29 = .ok (.aload_n 0, 1) := by decide +kernel
theorem dX12_pin_30 : decode cX12_pin 30 = .ok (.aload_n 0, 1) := by decide +kernel
theorem dX12_pin_31 : decode cX12_pin 31 = .ok (.getfield 59, 3) := by decide +kernel
theorem dX12_pin_34 : decode cX12_pin 34 = .ok (.iload_n 1, 1) := by decide +kernel
theorem dX12_pin_35 : decode cX12_pin 35 = .ok (.iaload, 1) := by decide +kernel
theorem dX12_pin_36 : decode cX12_pin 36 = .ok (.aload_n 0, 1) := by decide +kernel
theorem dX12_pin_37 : decode cX12_pin 37 = .ok (.getfield 62, 3) := by decide +kernel
theorem dX12_pin_40 : decode cX12_pin 40 = .ok (.iload_n 1, 1) := by decide +kernel
theorem dX12_pin_41 : decode cX12_pin 41 = .ok (.iaload, 1) := by decide +kernel
theorem dX12_pin_42 : decode cX12_pin 42 = .ok (.iload_n 2, 1) := by decide +kernel
theorem dX12_pin_43 : decode cX12_pin 43 = .ok (.invokevirtual 169, 3) := by decide +kernel
theorem dX12_pin_46 : decode cX12_pin 46 = .ok (.ifCond .ne 6, 3) := by decide +kernel
theorem dX12_pin_49 : decode cX12_pin 49 = .ok (.bipush (-3), 2) := by decide +kernel
theorem dX12_pin_51 : decode cX12_pin 51 = .ok (.ireturn, 1) := by decide +kernel
theorem dX12_pin_52 : decode cX12_pin 52 = .ok (.aload_n 0, 1) := by decide +kernel
theorem dX12_pin_53 : decode cX12_pin 53 = .ok (.aload_n 0, 1) := by decide +kernel
theorem dX12_pin_54 : decode cX12_pin 54 = .ok (.getfield 59, 3) := by decide +kernel
theorem dX12_pin_57 : decode cX12_pin 57 = .ok (.iload_n 1, 1) := by decide +kernel
theorem dX12_pin_58 : decode cX12_pin 58 = .ok (.iaload, 1) := by decide +kernel
theorem dX12_pin_59 : decode cX12_pin 59 = .ok (.aload_n 0, 1) := by decide +kernel
theorem dX12_pin_60 : decode cX12_pin 60 = .ok (.getfield 62, 3) := by decide +kernel
theorem dX12_pin_63 : decode cX12_pin 63 = .ok (.iload_n 1, 1) := by decide +kernel
theorem dX12_pin_64 : decode cX12_pin 64 = .ok (.iaload, 1) := by decide +kernel
theorem dX12_pin_65 : decode cX12_pin 65 = .ok (.iload_n 2, 1) := by decide +kernel
theorem dX12_pin_66 : decode cX12_pin 66 = .ok (.invokevirtual 173, 3) := by decide +kernel
theorem dX12_pin_69 : decode cX12_pin 69 = .ok (.aload_n 0, 1) := by decide +kernel
theorem dX12_pin_70 : decode cX12_pin 70 = .ok (.invokevirtual 203, 3) := by decide +kernel
theorem dX12_pin_73 : decode cX12_pin 73 = .ok (.ireturn, 1) := by decide +kernel
theorem dX12_ease_0 : decode cX12_ease 0 = .ok (.aload_n 0, 1) := by decide +kernel
theorem dX12_ease_1 : decode cX12_ease 1 = .ok (.iconst 0, 1) := by decide +kernel
theorem dX12_ease_2 : decode cX12_ease 2 = .ok (.putfield 78, 3) := by decide +kernel
theorem dX12_ease_5 : decode cX12_ease 5 = .ok (.aload_n 0, 1) := by decide +kernel
theorem dX12_ease_6 : decode cX12_ease 6 = .ok (.iload_n 1, 1) := by decide +kernel
theorem dX12_ease_7 : decode cX12_ease 7 = .ok (.invokevirtual 166, 3) := by decide +kernel
theorem dX12_ease_10 : decode cX12_ease 10 = .ok (.ifCond .eq 24, 3) := by decide +kernel
theorem dX12_ease_13 : decode cX12_ease 13 = .ok (.iload_n 2, 1) := by decide +kernel
theorem dX12_ease_14 : decode cX12_ease 14 = .ok (.i2l, 1) := by decide +kernel
theorem dX12_ease_15 : decode cX12_ease 15 = .ok (.lconst 0, 1) := by decide +kernel
theorem dX12_ease_16 : decode cX12_ease 16 = .ok (.ldc2_w 192, 3) := by decide +kernel
theorem dX12_ease_19 : decode cX12_ease 19 = .ok (.invokestatic 84, 3) := by decide +kernel
end
section
theorem dX12_ease_22 : decode cX12_ease 22 = .ok (.ifCond .eq 12, 3) := by decide +kernel
theorem dX12_ease_25 : decode cX12_ease 25 = .ok (.aload_n 0, 1) := by decide +kernel
theorem dX12_ease_26 : decode cX12_ease 26 = .ok (.iload_n 1, 1) := by decide +kernel
theorem dX12_ease_27 : decode cX12_ease 27 = .ok (.iload_n 2, 1) := by decide +kernel
theorem dX12_ease_28 : decode cX12_ease 28 = .ok (.invokevirtual 88, 3) := by decide +kernel
theorem dX12_ease_31 : decode cX12_ease 31 = .ok (.goto 5, 3) := by decide +kernel
theorem dX12_ease_34 : decode cX12_ease 34 = .ok (.ldc 206, 2) := by decide +kernel
theorem dX12_ease_36 : decode cX12_ease 36 = .ok (.ireturn, 1) := by decide +kernel
theorem dX12_fit_0 : decode cX12_fit 0 = .ok (.aload_n 0, 1) := by decide +kernel
theorem dX12_fit_1 : decode cX12_fit 1 = .ok (.iconst 0, 1) := by decide +kernel
theorem dX12_fit_2 : decode cX12_fit 2 = .ok (.putfield 78, 3) := by decide +kernel
theorem dX12_fit_5 : decode cX12_fit 5 = .ok (.iload_n 1, 1) := by decide +kernel
theorem dX12_fit_6 : decode cX12_fit 6 = .ok (.i2l, 1) := by decide +kernel
theorem dX12_fit_7 : decode cX12_fit 7 = .ok (.ldc2_w 207, 3) := by decide +kernel
theorem dX12_fit_10 : decode cX12_fit 10 = .ok (.ldc2_w 192, 3) := by decide +kernel
theorem dX12_fit_13 : decode cX12_fit 13 = .ok (.invokestatic 84, 3) := by decide +kernel
theorem dX12_fit_16 : decode cX12_fit 16 = .ok (.ifCond .ne 5, 3) := by decide +kernel
theorem dX12_fit_19 : decode cX12_fit 19 = .ok (.iconst (-1), 1) := by decide +kernel
theorem dX12_fit_20 : decode cX12_fit 20 = .ok (.ireturn, 1) := by decide +kernel
theorem dX12_fit_21 : decode cX12_fit 21 = .ok (.iconst 0, 1) := by decide +kernel
theorem dX12_fit_22 : decode cX12_fit 22 = .ok (.istore_n 2, 1) := by decide +kernel
theorem dX12_fit_23 : decode cX12_fit 23 = .ok (.iconst 0, 1) := by decide +kernel
theorem dX12_fit_24 : decode cX12_fit 24 = .ok (.istore_n 3, 1) := by decide +kernel
theorem dX12_fit_25 : decode cX12_fit 25 = .ok (.iload_n 3, 1) := by decide +kernel
theorem dX12_fit_26 : decode cX12_fit 26 = .ok (.aload_n 0, 1) := by decide +kernel
theorem dX12_fit_27 : decode cX12_fit 27 = .ok (.getfield 81, 3) := by decide +kernel
theorem dX12_fit_30 : decode cX12_fit 30 = .ok (.if_icmp .ge 74, 3) := by decide +kernel
theorem dX12_fit_33 : decode cX12_fit 33 = .ok (.iconst 1, 1) := by decide +kernel
theorem dX12_fit_34 : decode cX12_fit 34 = .ok (.istore 4, 2) := by decide +kernel
theorem dX12_fit_36 : decode cX12_fit 36 = .ok (.iconst 0, 1) := by decide +kernel
theorem dX12_fit_37 : decode cX12_fit 37 = .ok (.istore 5, 2) := by decide +kernel
theorem dX12_fit_39 : decode cX12_fit 39 = .ok (.iload 5, 2) := by decide +kernel
theorem dX12_fit_41 : decode cX12_fit 41 = .ok (.iconst 4, 1) := by decide +kernel
theorem dX12_fit_42 : decode cX12_fit 42 = .ok (.if_icmp .ge 41, 3) := by decide +kernel
theorem dX12_fit_45 : decode cX12_fit 45 = .ok (.iload 4, 2) := by decide +kernel
theorem dX12_fit_47 : decode cX12_fit 47 = .ok (.ifCond .eq 27, 3) := by decide +kernel
theorem dX12_fit_50 : decode cX12_fit 50 = .ok (.iload_n 1, 1) := by decide +kernel
theorem dX12_fit_51 : decode cX12_fit 51 = .ok (.ifCond .lt 9, 3) := by decide +kernel
theorem dX12_fit_54 : decode cX12_fit 54 = .ok (.iload 5, 2) := by decide +kernel
theorem dX12_fit_56 : decode cX12_fit 56 = .ok (.iload_n 1, 1) := by decide +kernel
theorem dX12_fit_57 : decode cX12_fit 57 = .ok (.if_icmp .ne 13, 3) := by decide +kernel
theorem dX12_fit_60 : decode cX12_fit 60 = .ok (.aload_n 0, 1) := by decide +kernel
theorem dX12_fit_61 : decode cX12_fit 61 = .ok (.iload_n 3, 1) := by decide +kernel
theorem dX12_fit_62 : decode cX12_fit 62 = .ok (.iload 5, 2) := by decide +kernel
theorem dX12_fit_64 : decode cX12_fit 64 = .ok (.invokevirtual 209, 3) := by decide +kernel
theorem dX12_fit_67 : decode cX12_fit 67 = .ok (.ifCond .eq 7, 3) := by decide +kernel
theorem dX12_fit_70 : decode cX12_fit 70 = .ok (.iconst 1, 1) := by decide +kernel
theorem dX12_fit_71 : decode cX12_fit 71 = .ok (.goto 4, 3) := by decide +kernel
theorem dX12_fit_74 : decode cX12_fit 74 = .ok (.iconst 0, 1) := by decide +kernel
theorem dX12_fit_75 : decode cX12_fit 75 = .ok (.istore 4, 2) := by decide +kernel
theorem dX12_fit_77 : decode cX12_fit 77 = .ok (.iinc 5 1, 3) := by decide +kernel
theorem dX12_fit_80 : decode cX12_fit 80 = .ok (.goto (-41), 3) := by decide +kernel
theorem dX12_fit_83 : decode cX12_fit 83 = .ok (.iload_n 2, 1) := by decide +kernel
theorem dX12_fit_84 : decode cX12_fit 84 = .ok (.iload 4, 2) := by decide +kernel
theorem dX12_fit_86 : decode cX12_fit 86 = .ok (.ifCond .eq 9, 3) := by decide +kernel
theorem dX12_fit_89 : decode cX12_fit 89 = .ok (.iconst 1, 1) := by decide +kernel
theorem dX12_fit_90 : decode cX12_fit 90 = .ok (.iload_n 3, 1) := by decide +kernel
theorem dX12_fit_91 : decode cX12_fit 91 = .ok (.ishl, 1) := by decide +kernel
theorem dX12_fit_92 : decode cX12_fit 92 = .ok (.goto 4, 3) := by decide +kernel
theorem dX12_fit_95 : decode cX12_fit 95 = .ok (.iconst 0, 1) := by decide +kernel
theorem dX12_fit_96 : decode cX12_fit 96 = .ok (.ior, 1) := by decide +kernel
theorem dX12_fit_97 : decode cX12_fit 97 = .ok (.istore_n 2, 1) := by decide +kernel
theorem dX12_fit_98 : decode cX12_fit 98 = .ok (.iinc 3 1, 3) := by decide +kernel
theorem dX12_fit_101 : decode cX12_fit 101 = .ok (.goto (-76), 3) := by decide +kernel
theorem dX12_fit_104 : decode cX12_fit 104 = .ok (.iload_n 2, 1) := by decide +kernel
theorem dX12_fit_105 : decode cX12_fit 105 = .ok (.ireturn, 1) := by decide +kernel
theorem dX12_lacks_0 : decode cX12_lacks 0 = .ok (.aload_n 0, 1) := by decide +kernel
theorem dX12_lacks_1 : decode cX12_lacks 1 = .ok (.iconst 0, 1) := by decide +kernel
theorem dX12_lacks_2 : decode cX12_lacks 2 = .ok (.putfield 78, 3) := by decide +kernel
theorem dX12_lacks_5 : decode cX12_lacks 5 = .ok (.aload_n 0, 1) := by decide +kernel
theorem dX12_lacks_6 : decode cX12_lacks 6 = .ok (.invokevirtual 203, 3) := by decide +kernel
theorem dX12_lacks_9 : decode cX12_lacks 9 = .ok (.ireturn, 1) := by decide +kernel
theorem dX12_bestPin_0 : decode cX12_bestPin 0 = .ok (.aload_n 0, 1) := by decide +kernel
theorem dX12_bestPin_1 : decode cX12_bestPin 1 = .ok (.iconst 0, 1) := by decide +kernel
theorem dX12_bestPin_2 : decode cX12_bestPin 2 = .ok (.putfield 78, 3) := by decide +kernel
theorem dX12_bestPin_5 : decode cX12_bestPin 5 = .ok (.iload_n 1, 1) := by decide +kernel
theorem dX12_bestPin_6 : decode cX12_bestPin 6 = .ok (.i2l, 1) := by decide +kernel
theorem dX12_bestPin_7 : decode cX12_bestPin 7 = .ok (.lconst 0, 1) := by decide +kernel
theorem dX12_bestPin_8 : decode cX12_bestPin 8 = .ok (.lconst 1, 1) := by decide +kernel
theorem dX12_bestPin_9 : decode cX12_bestPin 9 = .ok (.invokestatic 84, 3) := by decide +kernel
theorem dX12_bestPin_12 : decode cX12_bestPin 12 = .ok (.ifCond .eq 13, 3) := by decide +kernel
theorem dX12_bestPin_15 : decode cX12_bestPin 15 = .ok (.iload_n 2, 1) := by decide +kernel
theorem dX12_bestPin_16 : decode cX12_bestPin 16 = .ok (.i2l, 1) := by decide +kernel
theorem dX12_bestPin_17 : decode cX12_bestPin 17 = .ok (.lconst 0, 1) := by decide +kernel
theorem dX12_bestPin_18 : decode cX12_bestPin 18 = .ok (.lconst 1, 1) := by decide +kernel
theorem dX12_bestPin_19 : decode cX12_bestPin 19 = .ok (.invokestatic 84, 3) := by decide +kernel
theorem dX12_bestPin_22 : decode cX12_bestPin 22 = .ok (.ifCond .ne 5, 3) := by decide +kernel
theorem dX12_bestPin_25 : decode cX12_bestPin 25 = .ok (.iconst (-1), 1) := by decide +kernel
theorem dX12_bestPin_26 : decode cX12_bestPin 26 = .ok (.ireturn, 1) := by decide +kernel
theorem dX12_bestPin_27 : decode cX12_bestPin 27 = .ok (.bipush (-4), 2) := by decide +kernel
theorem dX12_bestPin_29 : decode cX12_bestPin 29 = .ok (.istore_n 3, 1) := by decide +kernel
theorem dX12_bestPin_30 : decode cX12_bestPin 30 = .ok (.aload_n 0, 1) := by decide +kernel
theorem dX12_bestPin_31 : decode cX12_bestPin 31 = .ok (.invokevirtual 203, 3) := by decide +kernel
theorem dX12_bestPin_34 : decode cX12_bestPin 34 = .ok (.istore 4, 2) := by decide +kernel
theorem dX12_bestPin_36 : decode cX12_bestPin 36 = .ok (.iconst 0, 1) := by decide +kernel
theorem dX12_bestPin_37 : decode cX12_bestPin 37 = .ok (.istore 5, 2) := by decide +kernel
theorem dX12_bestPin_39 : decode cX12_bestPin 39 = .ok (.iconst 0, 1) := by decide +kernel
theorem dX12_bestPin_40 : decode cX12_bestPin 40 = .ok (.istore 6, 2) := by decide +kernel
theorem dX12_bestPin_42 : decode cX12_bestPin 42 = .ok (.iload 6, 2) := by decide +kernel
theorem dX12_bestPin_44 : decode cX12_bestPin 44 = .ok (.bipush 100, 2) := by decide +kernel
theorem dX12_bestPin_46 : decode cX12_bestPin 46 = .ok (.aload_n 0, 1) := by decide +kernel
theorem dX12_bestPin_47 : decode cX12_bestPin 47 = .ok (.getfield 81, 3) := by decide +kernel
theorem dX12_bestPin_50 : decode cX12_bestPin 50 = .ok (.imul, 1) := by decide +kernel
theorem dX12_bestPin_51 : decode cX12_bestPin 51 = .ok (.if_icmp .ge 146, 3) := by decide +kernel
theorem dX12_bestPin_54 : decode cX12_bestPin 54 = .ok (.iload 6, 2) := by decide +kernel
theorem dX12_bestPin_56 : decode cX12_bestPin 56 = .ok (.bipush 10, 2) := by decide +kernel
theorem dX12_bestPin_58 : decode cX12_bestPin 58 = .ok (.idiv, 1) := by decide +kernel
theorem dX12_bestPin_59 : decode cX12_bestPin 59 = .ok (.bipush 10, 2) := by decide +kernel
theorem dX12_bestPin_61 : decode cX12_bestPin 61 = .ok (.irem, 1) := by decide +kernel
theorem dX12_bestPin_62 : decode cX12_bestPin 62 = .ok (.istore 7, 2) := by decide +kernel
theorem dX12_bestPin_64 : decode cX12_bestPin 64 = .ok (.iload 7, 2) := by decide +kernel
theorem dX12_bestPin_66 : decode cX12_bestPin 66 = .ok (.bipush 8, 2) := by decide +kernel
theorem dX12_bestPin_68 : decode cX12_bestPin 68 = .ok (.if_icmp .ge 37, 3) := by decide +kernel
theorem dX12_bestPin_71 : decode cX12_bestPin 71 = .ok (.iload 7, 2) := by decide +kernel
theorem dX12_bestPin_73 : decode cX12_bestPin 73 = .ok (.iconst 4, 1) := by decide +kernel
theorem dX12_bestPin_74 : decode cX12_bestPin 74 = .ok (.if_icmp .ne 8, 3) := by decide +kernel
theorem dX12_bestPin_77 : decode cX12_bestPin 77 = .ok (.iload_n 1, 1) := by decide +kernel
theorem dX12_bestPin_78 : decode cX12_bestPin 78 = .ok (.iconst 1, 1) := by decide +kernel
theorem dX12_bestPin_79 : decode cX12_bestPin 79 = .ok (.if_icmp .ne 26, 3) := by decide +kernel
theorem dX12_bestPin_82 : decode cX12_bestPin 82 = .ok (.aload_n 0, 1) := by decide +kernel
theorem dX12_bestPin_83 : decode cX12_bestPin 83 = .ok (.iload 7, 2) := by decide +kernel
theorem dX12_bestPin_85 : decode cX12_bestPin 85 = .ok (.iload 6, 2) := by decide +kernel
theorem dX12_bestPin_87 : decode cX12_bestPin 87 = .ok (.bipush 10, 2) := by decide +kernel
theorem dX12_bestPin_89 : decode cX12_bestPin 89 = .ok (.irem, 1) := by decide +kernel
theorem dX12_bestPin_90 : decode cX12_bestPin 90 = .ok (.iload 6, 2) := by decide +kernel
theorem dX12_bestPin_92 : decode cX12_bestPin 92 = .ok (.bipush 100, 2) := by decide +kernel
theorem dX12_bestPin_94 : decode cX12_bestPin 94 = .ok (.idiv, 1) := by decide +kernel
theorem dX12_bestPin_95 : decode cX12_bestPin 95 = .ok (.invokevirtual 169, 3) := by decide +kernel
theorem dX12_bestPin_98 : decode cX12_bestPin 98 = .ok (.ifCond .eq 7, 3) := by decide +kernel
theorem dX12_bestPin_101 : decode cX12_bestPin 101 = .ok (.iconst 1, 1) := by decide +kernel
theorem dX12_bestPin_102 : decode cX12_bestPin 102 = .ok (.goto 4, 3) := by decide +kernel
theorem dX12_bestPin_105 : decode cX12_bestPin 105 = .ok (.iconst 0, 1) := by decide +kernel
theorem dX12_bestPin_106 : decode cX12_bestPin 106 = .ok (.istore 8, 2) := by decide +kernel
theorem dX12_bestPin_108 : decode cX12_bestPin 108 = .ok (.iload 8, 2) := by decide +kernel
theorem dX12_bestPin_110 : decode cX12_bestPin 110 = .ok (.ifCond .eq 81, 3) := by decide +kernel
theorem dX12_bestPin_113 : decode cX12_bestPin 113 = .ok (.aload_n 0, 1) := by decide +kernel
theorem dX12_bestPin_114 : decode cX12_bestPin 114 = .ok (.invokevirtual 183, 3) := by decide +kernel
theorem dX12_bestPin_117 : decode cX12_bestPin 117 = .ok (.aload_n 0, 1) := by decide +kernel
theorem dX12_bestPin_118 : decode cX12_bestPin 118 = .ok (.iload 7, 2) := by decide +kernel
theorem dX12_bestPin_120 : decode cX12_bestPin 120 = .ok (.iload 6, 2) := by decide +kernel
theorem dX12_bestPin_122 : decode cX12_bestPin 122 = .ok (.bipush 10, 2) := by decide +kernel
theorem dX12_bestPin_124 : decode cX12_bestPin 124 = .ok (.irem, 1) := by decide +kernel
theorem dX12_bestPin_125 : decode cX12_bestPin 125 = .ok (.iload 6, 2) := by decide +kernel
theorem dX12_bestPin_127 : decode cX12_bestPin 127 = .ok (.bipush 100, 2) := by decide +kernel
theorem dX12_bestPin_129 : decode cX12_bestPin 129 = .ok (.idiv, 1) := by decide +kernel
theorem dX12_bestPin_130 : decode cX12_bestPin 130 = .ok (.invokevirtual 173, 3) := by decide +kernel
theorem dX12_bestPin_133 : decode cX12_bestPin 133 = .ok (.aload_n 0, 1) := by decide +kernel
theorem dX12_bestPin_134 : decode cX12_bestPin 134 = .ok (.invokevirtual 203, 3) := by decide +kernel
theorem dX12_bestPin_137 : decode cX12_bestPin 137 = .ok (.istore 9, 2) := by decide +kernel
theorem dX12_bestPin_139 : decode cX12_bestPin 139 = .ok (.aload_n 0, 1) := by decide +kernel
theorem dX12_bestPin_140 : decode cX12_bestPin 140 = .ok (.invokevirtual 189, 3) := by decide +kernel
theorem dX12_bestPin_143 : decode cX12_bestPin 143 = .ok (.iload 7, 2) := by decide +kernel
theorem dX12_bestPin_145 : decode cX12_bestPin 145 = .ok (.iload 6, 2) := by decide +kernel
theorem dX12_bestPin_147 : decode cX12_bestPin 147 = .ok (.bipush 10, 2) := by decide +kernel
theorem dX12_bestPin_149 : decode cX12_bestPin 149 = .ok (.irem, 1) := by decide +kernel
theorem dX12_bestPin_150 : decode cX12_bestPin 150 = .ok (.invokestatic 105, 3) := by decide +kernel
theorem dX12_bestPin_153 : decode cX12_bestPin 153 = .ok (.istore 10, 2) := by decide +kernel
theorem dX12_bestPin_155 : decode cX12_bestPin 155 = .ok (.iload 9, 2) := by decide +kernel
theorem dX12_bestPin_157 : decode cX12_bestPin 157 = .ok (.iload 4, 2) := by decide +kernel
theorem dX12_bestPin_159 : decode cX12_bestPin 159 = .ok (.if_icmp .lt 21, 3) := by decide +kernel
theorem dX12_bestPin_162 : decode cX12_bestPin 162 = .ok (.iload_n 3, 1) := by decide +kernel
theorem dX12_bestPin_163 : decode cX12_bestPin 163 = .ok (.ifCond .lt 28, 3) := by decide +kernel
theorem dX12_bestPin_166 : decode cX12_bestPin 166 = .ok (.iload 9, 2) := by decide +kernel
theorem dX12_bestPin_168 : decode cX12_bestPin 168 = .ok (.iload 4, 2) := by decide +kernel
theorem dX12_bestPin_170 : decode cX12_bestPin 170 = .ok (.if_icmp .ne 21, 3) := by decide +kernel
theorem dX12_bestPin_173 : decode cX12_bestPin 173 = .ok (.iload 10, 2) := by decide +kernel
theorem dX12_bestPin_175 : decode cX12_bestPin 175 = .ok (.iload 5, 2) := by decide +kernel
theorem dX12_bestPin_177 : decode cX12_bestPin 177 = .ok (.if_icmp .ge 14, 3) := by decide +kernel
theorem dX12_bestPin_180 : decode cX12_bestPin 180 = .ok (.iload 6, 2) := by decide +kernel
theorem dX12_bestPin_182 : decode cX12_bestPin 182 = .ok (.istore_n 3, 1) := by decide +kernel
theorem dX12_bestPin_183 : decode cX12_bestPin 183 = .ok (.iload 9, 2) := by decide +kernel
theorem dX12_bestPin_185 : decode cX12_bestPin 185 = .ok (.istore 4, 2) := by decide +kernel
theorem dX12_bestPin_187 : decode cX12_bestPin 187 = .ok (.iload 10, 2) := by decide +kernel
theorem dX12_bestPin_189 : decode cX12_bestPin 189 = .ok (.istore 5, 2) := by decide +kernel
theorem dX12_bestPin_191 : decode cX12_bestPin 191 = .ok (.iinc 6 1, 3) := by decide +kernel
theorem dX12_bestPin_194 : decode cX12_bestPin 194 = .ok (.goto (-152), 3) := by decide +kernel
theorem dX12_bestPin_197 : decode cX12_bestPin 197 = .ok (.iload_n 2, 1) := by decide +kernel
theorem dX12_bestPin_198 : decode cX12_bestPin 198 = .ok (.ifCond .ne 7, 3) := by decide +kernel
theorem dX12_bestPin_201 : decode cX12_bestPin 201 = .ok (.iload_n 3, 1) := by decide +kernel
theorem dX12_bestPin_202 : decode cX12_bestPin 202 = .ok (.goto 5, 3) := by decide +kernel
theorem dX12_bestPin_205 : decode cX12_bestPin 205 = .ok (.iload 4, 2) := by decide +kernel
theorem dX12_bestPin_207 : decode cX12_bestPin 207 = .ok (.ireturn, 1) := by decide +kernel
theorem dX12_wrongPins_0 : decode cX12_wrongPins 0 = .ok (.aload_n 0, 1) := by decide +kernel
theorem dX12_wrongPins_1 : decode cX12_wrongPins 1 = .ok (.iload_n 1, 1) := by decide +kernel
theorem dX12_wrongPins_2 : decode cX12_wrongPins 2 = .ok (.iconst 0, 1) := by decide +kernel
theorem dX12_wrongPins_3 : decode cX12_wrongPins 3 = .ok (.invokevirtual 177, 3) := by decide +kernel
theorem dX12_wrongPins_6 : decode cX12_wrongPins 6 = .ok (.istore_n 2, 1) := by decide +kernel
theorem dX12_wrongPins_7 : decode cX12_wrongPins 7 = .ok (.iload_n 2, 1) := by decide +kernel
theorem dX12_wrongPins_8 : decode cX12_wrongPins 8 = .ok (.ifCond .ge 5, 3) := by decide +kernel
theorem dX12_wrongPins_11 : decode cX12_wrongPins 11 = .ok (.iload_n 2, 1) := by decide +kernel
theorem dX12_wrongPins_12 : decode cX12_wrongPins 12 = .ok (.ireturn, 1) := by decide +kernel
theorem dX12_wrongPins_13 : decode cX12_wrongPins 13 = .ok (.aload_n 0, 1) := by decide +kernel
theorem dX12_wrongPins_14 : decode cX12_wrongPins 14 = .ok (.getfield 68, 3) := by decide +kernel
theorem dX12_wrongPins_17 : decode cX12_wrongPins 17 = .ok (.iload_n 1, 1) := by decide +kernel
theorem dX12_wrongPins_18 : decode cX12_wrongPins 18 = .ok (.iaload, 1) := by decide +kernel
theorem dX12_wrongPins_19 : decode cX12_wrongPins 19 = .ok (.iconst 3, 1) := by decide +kernel
theorem dX12_wrongPins_20 : decode cX12_wrongPins 20 = .ok (.irem, 1) := by decide +kernel
theorem dX12_wrongPins_21 : decode cX12_wrongPins 21 = .ok (.ifCond .ne 18, 3) := by decide +kernel
theorem dX12_wrongPins_24 : decode cX12_wrongPins 24 = .ok (.aload_n 0, 1) := by decide +kernel
theorem dX12_wrongPins_25 : decode cX12_wrongPins 25 = .ok (.getfield 68, 3) := by decide +kernel
theorem dX12_wrongPins_28 : decode cX12_wrongPins 28 = .ok (.iload_n 1, 1) := by decide +kernel
theorem dX12_wrongPins_29 : decode cX12_wrongPins 29 = .ok (.iaload, 1) := by decide +kernel
theorem dX12_wrongPins_30 : decode cX12_wrongPins 30 = .ok (.bipush 19, 2) := by decide +kernel
theorem dX12_wrongPins_32 : decode cX12_wrongPins 32 = .ok (.if_icmp .ge 7, 3) := by decide +kernel
theorem dX12_wrongPins_35 : decode cX12_wrongPins 35 = .ok (.iconst 1, 1) := by decide +kernel
theorem dX12_wrongPins_36 : decode cX12_wrongPins 36 = .ok (.goto 4, 3) := by decide +kernel
theorem dX12_wrongPins_39 : decode cX12_wrongPins 39 = .ok (.iconst 0, 1) := by decide +kernel
theorem dX12_wrongPins_40 : decode cX12_wrongPins 40 = .ok (.istore_n 3, 1) := by decide +kernel
theorem dX12_wrongPins_41 : decode cX12_wrongPins 41 = .ok (.iconst 0, 1) := by decide +kernel
theorem dX12_wrongPins_42 : decode cX12_wrongPins 42 = .ok (.istore 4, 2) := by decide +kernel
theorem dX12_wrongPins_44 : decode cX12_wrongPins 44 = .ok (.iload 4, 2) := by decide +kernel
theorem dX12_wrongPins_46 : decode cX12_wrongPins 46 = .ok (.aload_n 0, 1) := by decide +kernel
theorem dX12_wrongPins_47 : decode cX12_wrongPins 47 = .ok (.getfield 68, 3) := by decide +kernel
theorem dX12_wrongPins_50 : decode cX12_wrongPins 50 = .ok (.iload_n 1, 1) := by decide +kernel
theorem dX12_wrongPins_51 : decode cX12_wrongPins 51 = .ok (.iaload, 1) := by decide +kernel
theorem dX12_wrongPins_52 : decode cX12_wrongPins 52 = .ok (.if_icmp .ge 68, 3) := by decide +kernel
theorem dX12_wrongPins_55 : decode cX12_wrongPins 55 = .ok (.iload_n 3, 1) := by decide +kernel
theorem dX12_wrongPins_56 : decode cX12_wrongPins 56 = .ok (.ifCond .eq 64, 3) := by decide +kernel
theorem dX12_wrongPins_59 : decode cX12_wrongPins 59 = .ok (.aload_n 0, 1) := by decide +kernel
theorem dX12_wrongPins_60 : decode cX12_wrongPins 60 = .ok (.getfield 71, 3) := by decide +kernel
theorem dX12_wrongPins_63 : decode cX12_wrongPins 63 = .ok (.bipush 100, 2) := by decide +kernel
theorem dX12_wrongPins_65 : decode cX12_wrongPins 65 = .ok (.iload_n 1, 1) := by decide +kernel
theorem dX12_wrongPins_66 : decode cX12_wrongPins 66 = .ok (.imul, 1) := by decide +kernel
theorem dX12_wrongPins_67 : decode cX12_wrongPins 67 = .ok (.iload 4, 2) := by decide +kernel
theorem dX12_wrongPins_69 : decode cX12_wrongPins 69 = .ok (.iadd, 1) := by decide +kernel
theorem dX12_wrongPins_70 : decode cX12_wrongPins 70 = .ok (.laload, 1) := by decide +kernel
theorem dX12_wrongPins_71 : decode cX12_wrongPins 71 = .ok (.lstore 5, 2) := by decide +kernel
theorem dX12_wrongPins_73 : decode cX12_wrongPins 73 = .ok (.lload 5, 2) := by decide +kernel
theorem dX12_wrongPins_75 : decode cX12_wrongPins 75 = .ok (.lconst 0, 1) := by decide +kernel
theorem dX12_wrongPins_76 : decode cX12_wrongPins 76 = .ok (.iload 4, 2) := by decide +kernel
theorem dX12_wrongPins_78 : decode cX12_wrongPins 78 = .ok (.iconst 3, 1) := by decide +kernel
theorem dX12_wrongPins_79 : decode cX12_wrongPins 79 = .ok (.irem, 1) := by decide +kernel
theorem dX12_wrongPins_80 : decode cX12_wrongPins 80 = .ok (.ifCond .ne 9, 3) := by decide +kernel
theorem dX12_wrongPins_83 : decode cX12_wrongPins 83 = .ok (.ldc2_w 198, 3) := by decide +kernel
theorem dX12_wrongPins_86 : decode cX12_wrongPins 86 = .ok (.goto 24, 3) := by decide +kernel
theorem dX12_wrongPins_89 : decode cX12_wrongPins 89 = .ok (.iload 4, 2) := by decide +kernel
theorem dX12_wrongPins_91 : decode cX12_wrongPins 91 = .ok (.iconst 3, 1) := by decide +kernel
theorem dX12_wrongPins_92 : decode cX12_wrongPins 92 = .ok (.irem, 1) := by decide +kernel
theorem dX12_wrongPins_93 : decode cX12_wrongPins 93 = .ok (.iconst 1, 1) := by decide +kernel
theorem dX12_wrongPins_94 : decode cX12_wrongPins 94 = .ok (.if_icmp .ne 9, 3) := by decide +kernel
theorem dX12_wrongPins_97 : decode cX12_wrongPins 97 = .ok (.ldc2_w 194, 3) := by decide +kernel
theorem dX12_wrongPins_100 : decode cX12_wrongPins 100 = .ok (.goto 10, 3) := by decide +kernel
theorem dX12_wrongPins_103 : decode cX12_wrongPins 103 = .ok (.aload_n 0, 1) := by decide +kernel
theorem dX12_wrongPins_104 : decode cX12_wrongPins 104 = .ok (.getfield 81, 3) := by decide +kernel
theorem dX12_wrongPins_107 : decode cX12_wrongPins 107 = .ok (.iconst 1, 1) := by decide +kernel
theorem dX12_wrongPins_108 : decode cX12_wrongPins 108 = .ok (.isub, 1) := by decide +kernel
theorem dX12_wrongPins_109 : decode cX12_wrongPins 109 = .ok (.i2l, 1) := by decide +kernel
theorem dX12_wrongPins_110 : decode cX12_wrongPins 110 = .ok (.invokestatic 84, 3) := by decide +kernel
theorem dX12_wrongPins_113 : decode cX12_wrongPins 113 = .ok (.istore_n 3, 1) := by decide +kernel
theorem dX12_wrongPins_114 : decode cX12_wrongPins 114 = .ok (.iinc 4 1, 3) := by decide +kernel
theorem dX12_wrongPins_117 : decode cX12_wrongPins 117 = .ok (.goto (-73), 3) := by decide +kernel
theorem dX12_wrongPins_120 : decode cX12_wrongPins 120 = .ok (.iload_n 3, 1) := by decide +kernel
theorem dX12_wrongPins_121 : decode cX12_wrongPins 121 = .ok (.ifCond .eq 7, 3) := by decide +kernel
theorem dX12_wrongPins_124 : decode cX12_wrongPins 124 = .ok (.iconst 0, 1) := by decide +kernel
theorem dX12_wrongPins_125 : decode cX12_wrongPins 125 = .ok (.goto 5, 3) := by decide +kernel
theorem dX12_wrongPins_128 : decode cX12_wrongPins 128 = .ok (.bipush (-13), 2) := by decide +kernel
theorem dX12_wrongPins_130 : decode cX12_wrongPins 130 = .ok (.ireturn, 1) := by decide +kernel
theorem dX12_told_0 : decode cX12_told 0 = .ok (.aload_n 0, 1) := by decide +kernel
theorem dX12_told_1 : decode cX12_told 1 = .ok (.getfield 71, 3) := by decide +kernel
theorem dX12_told_4 : decode cX12_told 4 = .ok (.bipush 100, 2) := by decide +kernel
theorem dX12_told_6 : decode cX12_told 6 = .ok (.iload_n 1, 1) := by decide +kernel
theorem dX12_told_7 : decode cX12_told 7 = .ok (.imul, 1) := by decide +kernel
theorem dX12_told_8 : decode cX12_told 8 = .ok (.iload_n 2, 1) := by decide +kernel
theorem dX12_told_9 : decode cX12_told 9 = .ok (.iadd, 1) := by decide +kernel
theorem dX12_told_10 : decode cX12_told 10 = .ok (.laload, 1) := by decide +kernel
theorem dX12_told_11 : decode cX12_told 11 = .ok (.l2i, 1) := by decide +kernel
theorem dX12_told_12 : decode cX12_told 12 = .ok (.ireturn, 1) := by decide +kernel
theorem dX12_puts_0 : decode cX12_puts 0 = .ok (.aload_n 0, 1) := by decide +kernel
theorem dX12_puts_1 : decode cX12_puts 1 = .ok (.iload_n 1, 1) := by decide +kernel
theorem dX12_puts_2 : decode cX12_puts 2 = .ok (.iconst 3, 1) := by decide +kernel
theorem dX12_puts_3 : decode cX12_puts 3 = .ok (.iload_n 2, 1) := by decide +kernel
theorem dX12_puts_4 : decode cX12_puts 4 = .ok (.imul, 1) := by decide +kernel
theorem dX12_puts_5 : decode cX12_puts 5 = .ok (.invokevirtual 213, 3) := by decide +kernel
theorem dX12_puts_8 : decode cX12_puts 8 = .ok (.istore_n 3, 1) := by decide +kernel
theorem dX12_puts_9 : decode cX12_puts 9 = .ok (.aload_n 0, 1) := by decide +kernel
theorem dX12_puts_10 : decode cX12_puts 10 = .ok (.iload_n 1, 1) := by decide +kernel
theorem dX12_puts_11 : decode cX12_puts 11 = .ok (.iconst 3, 1) := by decide +kernel
theorem dX12_puts_12 : decode cX12_puts 12 = .ok (.iload_n 2, 1) := by decide +kernel
theorem dX12_puts_13 : decode cX12_puts 13 = .ok (.imul, 1) := by decide +kernel
theorem dX12_puts_14 : decode cX12_puts 14 = .ok (.iconst 1, 1) := by decide +kernel
theorem dX12_puts_15 : decode cX12_puts 15 = .ok (.iadd, 1) := by decide +kernel
theorem dX12_puts_16 : decode cX12_puts 16 = .ok (.invokevirtual 213, 3) := by decide +kernel
theorem dX12_puts_19 : decode cX12_puts 19 = .ok (.istore 4, 2) := by decide +kernel
theorem dX12_puts_21 : decode cX12_puts 21 = .ok (.aload_n 0, 1) := by decide +kernel
theorem dX12_puts_22 : decode cX12_puts 22 = .ok (.iload_n 1, 1) := by decide +kernel
theorem dX12_puts_23 : decode cX12_puts 23 = .ok (.iconst 3, 1) := by decide +kernel
theorem dX12_puts_24 : decode cX12_puts 24 = .ok (.iload_n 2, 1) := by decide +kernel
theorem dX12_puts_25 : decode cX12_puts 25 = .ok (.imul, 1) := by decide +kernel
theorem dX12_puts_26 : decode cX12_puts 26 = .ok (.iconst 2, 1) := by decide +kernel
theorem dX12_puts_27 : decode cX12_puts 27 = .ok (.iadd, 1) := by decide +kernel
theorem dX12_puts_28 : decode cX12_puts 28 = .ok (.invokevirtual 213, 3) := by decide +kernel
theorem dX12_puts_31 : decode cX12_puts 31 = .ok (.istore 5, 2) := by decide +kernel
theorem dX12_puts_33 : decode cX12_puts 33 = .ok (.aload_n 0, 1) := by decide +kernel
theorem dX12_puts_34 : decode cX12_puts 34 = .ok (.iload_n 3, 1) := by decide +kernel
theorem dX12_puts_35 : decode cX12_puts 35 = .ok (.iload 4, 2) := by decide +kernel
theorem dX12_puts_37 : decode cX12_puts 37 = .ok (.iload 5, 2) := by decide +kernel
theorem dX12_puts_39 : decode cX12_puts 39 = .ok (.invokevirtual 169, 3) := by decide +kernel
theorem dX12_puts_42 : decode cX12_puts 42 = .ok (.istore 6, 2) := by decide +kernel
theorem dX12_puts_44 : decode cX12_puts 44 = .ok (.iload 6, 2) := by decide +kernel
theorem dX12_puts_46 : decode cX12_puts 46 = .ok (.ifCond .eq 12, 3) := by decide +kernel
theorem dX12_puts_49 : decode cX12_puts 49 = .ok (.aload_n 0, 1) := by decide +kernel
theorem dX12_puts_50 : decode cX12_puts 50 = .ok (.iload_n 3, 1) := by decide +kernel
theorem dX12_puts_51 : decode cX12_puts 51 = .ok (.iload 4, 2) := by decide +kernel
theorem dX12_puts_53 : decode cX12_puts 53 = .ok (.iload 5, 2) := by decide +kernel
theorem dX12_puts_55 : decode cX12_puts 55 = .ok (.invokevirtual 173, 3) := by decide +kernel
theorem dX12_puts_58 : decode cX12_puts 58 = .ok (.iload 6, 2) := by decide +kernel
theorem dX12_puts_60 : decode cX12_puts 60 = .ok (.ireturn, 1) := by decide +kernel
theorem dX12_least_0 : decode cX12_least 0 = .ok (.aload_n 0, 1) := by decide +kernel
theorem dX12_least_1 : decode cX12_least 1 = .ok (.iconst 0, 1) := by decide +kernel
theorem dX12_least_2 : decode cX12_least 2 = .ok (.putfield 78, 3) := by decide +kernel
theorem dX12_least_5 : decode cX12_least 5 = .ok (.iload_n 2, 1) := by decide +kernel
theorem dX12_least_6 : decode cX12_least 6 = .ok (.i2l, 1) := by decide +kernel
theorem dX12_least_7 : decode cX12_least 7 = .ok (.lconst 0, 1) := by decide +kernel
theorem dX12_least_8 : decode cX12_least 8 = .ok (.lconst 1, 1) := by decide +kernel
theorem dX12_least_9 : decode cX12_least 9 = .ok (.invokestatic 84, 3) := by decide +kernel
theorem dX12_least_12 : decode cX12_least 12 = .ok (.ifCond .eq 11, 3) := by decide +kernel
theorem dX12_least_15 : decode cX12_least 15 = .ok (.aload_n 0, 1) := by decide +kernel
theorem dX12_least_16 : decode cX12_least 16 = .ok (.iload_n 1, 1) := by decide +kernel
theorem dX12_least_17 : decode cX12_least 17 = .ok (.invokevirtual 216, 3) := by decide +kernel
theorem dX12_least_20 : decode cX12_least 20 = .ok (.goto 4, 3) := by decide +kernel
theorem dX12_least_23 : decode cX12_least 23 = .ok (.iconst (-1), 1) := by decide +kernel
theorem dX12_least_24 : decode cX12_least 24 = .ok (.istore_n 3, 1) := by decide +kernel
theorem dX12_least_25 : decode cX12_least 25 = .ok (.iload_n 3, 1) := by decide +kernel
theorem dX12_least_26 : decode cX12_least 26 = .ok (.ifCond .ge 5, 3) := by decide +kernel
theorem dX12_least_29 : decode cX12_least 29 = .ok (.iload_n 3, 1) := by decide +kernel
theorem dX12_least_30 : decode cX12_least 30 = .ok (.ireturn, 1) := by decide +kernel
theorem dX12_least_31 : decode cX12_least 31 = .ok (.aload_n 0, 1) := by decide +kernel
theorem dX12_least_32 : decode cX12_least 32 = .ok (.getfield 68, 3) := by decide +kernel
theorem dX12_least_35 : decode cX12_least 35 = .ok (.iload_n 1, 1) := by decide +kernel
theorem dX12_least_36 : decode cX12_least 36 = .ok (.iaload, 1) := by decide +kernel
theorem dX12_least_37 : decode cX12_least 37 = .ok (.iconst 3, 1) := by decide +kernel
theorem dX12_least_38 : decode cX12_least 38 = .ok (.idiv, 1) := by decide +kernel
theorem dX12_least_39 : decode cX12_least 39 = .ok (.istore 4, 2) := by decide +kernel
theorem dX12_least_41 : decode cX12_least 41 = .ok (.iconst 0, 1) := by decide +kernel
theorem dX12_least_42 : decode cX12_least 42 = .ok (.istore 5, 2) := by decide +kernel
theorem dX12_least_44 : decode cX12_least 44 = .ok (.aload_n 0, 1) := by decide +kernel
theorem dX12_least_45 : decode cX12_least 45 = .ok (.invokevirtual 203, 3) := by decide +kernel
theorem dX12_least_48 : decode cX12_least 48 = .ok (.istore 6, 2) := by decide +kernel
theorem dX12_least_50 : decode cX12_least 50 = .ok (.iconst 0, 1) := by decide +kernel
theorem dX12_least_51 : decode cX12_least 51 = .ok (.istore 7, 2) := by decide +kernel
theorem dX12_least_53 : decode cX12_least 53 = .ok (.iconst 1, 1) := by decide +kernel
theorem dX12_least_54 : decode cX12_least 54 = .ok (.istore 8, 2) := by decide +kernel
theorem dX12_least_56 : decode cX12_least 56 = .ok (.iload 8, 2) := by decide +kernel
theorem dX12_least_58 : decode cX12_least 58 = .ok (.iconst 1, 1) := by decide +kernel
theorem dX12_least_59 : decode cX12_least 59 = .ok (.iload 4, 2) := by decide +kernel
theorem dX12_least_61 : decode cX12_least 61 = .ok (.ishl, 1) := by decide +kernel
theorem dX12_least_62 : decode cX12_least 62 = .ok (.if_icmp .ge 136, 3) := by decide +kernel
theorem dX12_least_65 : decode cX12_least 65 = .ok (.aload_n 0, 1) := by decide +kernel
theorem dX12_least_66 : decode cX12_least 66 = .ok (.invokevirtual 183, 3) := by decide +kernel
theorem dX12_least_69 : decode cX12_least 69 = .ok (.iconst 1, 1) := by decide +kernel
theorem dX12_least_70 : decode cX12_least 70 = .ok (.istore 9, 2) := by decide +kernel
theorem dX12_least_72 : decode cX12_least 72 = .ok (.iconst 0, 1) := by decide +kernel
theorem dX12_least_73 : decode cX12_least 73 = .ok (.istore 10, 2) := by decide +kernel
theorem dX12_least_75 : decode cX12_least 75 = .ok (.iconst 0, 1) := by decide +kernel
theorem dX12_least_76 : decode cX12_least 76 = .ok (.istore 11, 2) := by decide +kernel
theorem dX12_least_78 : decode cX12_least 78 = .ok (.iload 11, 2) := by decide +kernel
theorem dX12_least_80 : decode cX12_least 80 = .ok (.iload 4, 2) := by decide +kernel
theorem dX12_least_82 : decode cX12_least 82 = .ok (.if_icmp .ge 62, 3) := by decide +kernel
theorem dX12_least_85 : decode cX12_least 85 = .ok (.iload 9, 2) := by decide +kernel
theorem dX12_least_87 : decode cX12_least 87 = .ok (.ifCond .eq 57, 3) := by decide +kernel
theorem dX12_least_90 : decode cX12_least 90 = .ok (.iload 8, 2) := by decide +kernel
theorem dX12_least_92 : decode cX12_least 92 = .ok (.iload 11, 2) := by decide +kernel
theorem dX12_least_94 : decode cX12_least 94 = .ok (.ishr, 1) := by decide +kernel
theorem dX12_least_95 : decode cX12_least 95 = .ok (.iconst 1, 1) := by decide +kernel
theorem dX12_least_96 : decode cX12_least 96 = .ok (.iand, 1) := by decide +kernel
theorem dX12_least_97 : decode cX12_least 97 = .ok (.iconst 1, 1) := by decide +kernel
theorem dX12_least_98 : decode cX12_least 98 = .ok (.if_icmp .ne 40, 3) := by decide +kernel
theorem dX12_least_101 : decode cX12_least 101 = .ok (.iload 10, 2) := by decide +kernel
theorem dX12_least_103 : decode cX12_least 103 = .ok (.aload_n 0, 1) := by decide +kernel
theorem dX12_least_104 : decode cX12_least 104 = .ok (.iload_n 1, 1) := by decide +kernel
theorem dX12_least_105 : decode cX12_least 105 = .ok (.iconst 3, 1) := by decide +kernel
theorem dX12_least_106 : decode cX12_least 106 = .ok (.iload 11, 2) := by decide +kernel
theorem dX12_least_108 : decode cX12_least 108 = .ok (.imul, 1) := by decide +kernel
theorem dX12_least_109 : decode cX12_least 109 = .ok (.invokevirtual 213, 3) := by decide +kernel
theorem dX12_least_112 : decode cX12_least 112 = .ok (.aload_n 0, 1) := by decide +kernel
theorem dX12_least_113 : decode cX12_least 113 = .ok (.iload_n 1, 1) := by decide +kernel
theorem dX12_least_114 : decode cX12_least 114 = .ok (.iconst 3, 1) := by decide +kernel
theorem dX12_least_115 : decode cX12_least 115 = .ok (.iload 11, 2) := by decide +kernel
theorem dX12_least_117 : decode cX12_least 117 = .ok (.imul, 1) := by decide +kernel
theorem dX12_least_118 : decode cX12_least 118 = .ok (.iconst 1, 1) := by decide +kernel
theorem dX12_least_119 : decode cX12_least 119 = .ok (.iadd, 1) := by decide +kernel
theorem dX12_least_120 : decode cX12_least 120 = .ok (.invokevirtual 213, 3) := by decide +kernel
theorem dX12_least_123 : decode cX12_least 123 = .ok (.invokestatic 105, 3) := by decide +kernel
theorem dX12_least_126 : decode cX12_least 126 = .ok (.iadd, 1) := by decide +kernel
theorem dX12_least_127 : decode cX12_least 127 = .ok (.istore 10, 2) := by decide +kernel
theorem dX12_least_129 : decode cX12_least 129 = .ok (.aload_n 0, 1) := by decide +kernel
theorem dX12_least_130 : decode cX12_least 130 = .ok (.iload_n 1, 1) := by decide +kernel
theorem dX12_least_131 : decode cX12_least 131 = .ok (.iload 11, 2) := by decide +kernel
theorem dX12_least_133 : decode cX12_least 133 = .ok (.invokevirtual 219, 3) := by decide +kernel
theorem dX12_least_136 : decode cX12_least 136 = .ok (.istore 9, 2) := by decide +kernel
theorem dX12_least_138 : decode cX12_least 138 = .ok (.iinc 11 1, 3) := by decide +kernel
theorem dX12_least_141 : decode cX12_least 141 = .ok (.goto (-63), 3) := by decide +kernel
theorem dX12_least_144 : decode cX12_least 144 = .ok (.aload_n 0, 1) := by decide +kernel
theorem dX12_least_145 : decode cX12_least 145 = .ok (.invokevirtual 203, 3) := by decide +kernel
theorem dX12_least_148 : decode cX12_least 148 = .ok (.istore 11, 2) := by decide +kernel
theorem dX12_least_150 : decode cX12_least 150 = .ok (.aload_n 0, 1) := by decide +kernel
theorem dX12_least_151 : decode cX12_least 151 = .ok (.invokevirtual 189, 3) := by decide +kernel
theorem dX12_least_154 : decode cX12_least 154 = .ok (.iload 9, 2) := by decide +kernel
theorem dX12_least_156 : decode cX12_least 156 = .ok (.ifCond .eq 36, 3) := by decide +kernel
theorem dX12_least_159 : decode cX12_least 159 = .ok (.iload 11, 2) := by decide +kernel
theorem dX12_least_161 : decode cX12_least 161 = .ok (.iload 6, 2) := by decide +kernel
theorem dX12_least_163 : decode cX12_least 163 = .ok (.if_icmp .lt 17, 3) := by decide +kernel
theorem dX12_least_166 : decode cX12_least 166 = .ok (.iload 11, 2) := by decide +kernel
theorem dX12_least_168 : decode cX12_least 168 = .ok (.iload 6, 2) := by decide +kernel
theorem dX12_least_170 : decode cX12_least 170 = .ok (.if_icmp .ne 22, 3) := by decide +kernel
theorem dX12_least_173 : decode cX12_least 173 = .ok (.iload 10, 2) := by decide +kernel
theorem dX12_least_175 : decode cX12_least 175 = .ok (.iload 7, 2) := by decide +kernel
theorem dX12_least_177 : decode cX12_least 177 = .ok (.if_icmp .ge 15, 3) := by decide +kernel
theorem dX12_least_180 : decode cX12_least 180 = .ok (.iload 8, 2) := by decide +kernel
theorem dX12_least_182 : decode cX12_least 182 = .ok (.istore 5, 2) := by decide +kernel
theorem dX12_least_184 : decode cX12_least 184 = .ok (.iload 11, 2) := by decide +kernel
theorem dX12_least_186 : decode cX12_least 186 = .ok (.istore 6, 2) := by decide +kernel
theorem dX12_least_188 : decode cX12_least 188 = .ok (.iload 10, 2) := by decide +kernel
theorem dX12_least_190 : decode cX12_least 190 = .ok (.istore 7, 2) := by decide +kernel
theorem dX12_least_192 : decode cX12_least 192 = .ok (.iinc 8 1, 3) := by decide +kernel
theorem dX12_least_195 : decode cX12_least 195 = .ok (.goto (-139), 3) := by decide +kernel
theorem dX12_least_198 : decode cX12_least 198 = .ok (.iload_n 2, 1) := by decide +kernel
theorem dX12_least_199 : decode cX12_least 199 = .ok (.ifCond .ne 8, 3) := by decide +kernel
theorem dX12_least_202 : decode cX12_least 202 = .ok (.iload 5, 2) := by decide +kernel
theorem dX12_least_204 : decode cX12_least 204 = .ok (.goto 5, 3) := by decide +kernel
theorem dX12_least_207 : decode cX12_least 207 = .ok (.iload 6, 2) := by decide +kernel
theorem dX12_least_209 : decode cX12_least 209 = .ok (.ireturn, 1) := by decide +kernel
theorem dX12_first_0 : decode cX12_first 0 = .ok (.aload_n 0, 1) := by decide +kernel
theorem dX12_first_1 : decode cX12_first 1 = .ok (.iconst 0, 1) := by decide +kernel
theorem dX12_first_2 : decode cX12_first 2 = .ok (.putfield 78, 3) := by decide +kernel
theorem dX12_first_5 : decode cX12_first 5 = .ok (.aload_n 0, 1) := by decide +kernel
theorem dX12_first_6 : decode cX12_first 6 = .ok (.iload_n 1, 1) := by decide +kernel
theorem dX12_first_7 : decode cX12_first 7 = .ok (.invokevirtual 216, 3) := by decide +kernel
theorem dX12_first_10 : decode cX12_first 10 = .ok (.istore_n 2, 1) := by decide +kernel
theorem dX12_first_11 : decode cX12_first 11 = .ok (.iload_n 2, 1) := by decide +kernel
theorem dX12_first_12 : decode cX12_first 12 = .ok (.ifCond .ge 5, 3) := by decide +kernel
theorem dX12_first_15 : decode cX12_first 15 = .ok (.iload_n 2, 1) := by decide +kernel
theorem dX12_first_16 : decode cX12_first 16 = .ok (.ireturn, 1) := by decide +kernel
theorem dX12_first_17 : decode cX12_first 17 = .ok (.aload_n 0, 1) := by decide +kernel
theorem dX12_first_18 : decode cX12_first 18 = .ok (.invokevirtual 183, 3) := by decide +kernel
theorem dX12_first_21 : decode cX12_first 21 = .ok (.bipush (-4), 2) := by decide +kernel
theorem dX12_first_23 : decode cX12_first 23 = .ok (.istore_n 3, 1) := by decide +kernel
theorem dX12_first_24 : decode cX12_first 24 = .ok (.iconst 0, 1) := by decide +kernel
theorem dX12_first_25 : decode cX12_first 25 = .ok (.istore 4, 2) := by decide +kernel
theorem dX12_first_27 : decode cX12_first 27 = .ok (.iload 4, 2) := by decide +kernel
theorem dX12_first_29 : decode cX12_first 29 = .ok (.aload_n 0, 1) := by decide +kernel
theorem dX12_first_30 : decode cX12_first 30 = .ok (.getfield 68, 3) := by decide +kernel
theorem dX12_first_33 : decode cX12_first 33 = .ok (.iload_n 1, 1) := by decide +kernel
theorem dX12_first_34 : decode cX12_first 34 = .ok (.iaload, 1) := by decide +kernel
theorem dX12_first_35 : decode cX12_first 35 = .ok (.iconst 3, 1) := by decide +kernel
theorem dX12_first_36 : decode cX12_first 36 = .ok (.idiv, 1) := by decide +kernel
theorem dX12_first_37 : decode cX12_first 37 = .ok (.if_icmp .ge 31, 3) := by decide +kernel
theorem dX12_first_40 : decode cX12_first 40 = .ok (.iload_n 3, 1) := by decide +kernel
theorem dX12_first_41 : decode cX12_first 41 = .ok (.ifCond .ge 27, 3) := by decide +kernel
theorem dX12_first_44 : decode cX12_first 44 = .ok (.aload_n 0, 1) := by decide +kernel
theorem dX12_first_45 : decode cX12_first 45 = .ok (.iload_n 1, 1) := by decide +kernel
theorem dX12_first_46 : decode cX12_first 46 = .ok (.iload 4, 2) := by decide +kernel
theorem dX12_first_48 : decode cX12_first 48 = .ok (.invokevirtual 219, 3) := by decide +kernel
theorem dX12_first_51 : decode cX12_first 51 = .ok (.ifCond .eq 8, 3) := by decide +kernel
theorem dX12_first_54 : decode cX12_first 54 = .ok (.bipush (-4), 2) := by decide +kernel
theorem dX12_first_56 : decode cX12_first 56 = .ok (.goto 5, 3) := by decide +kernel
theorem dX12_first_59 : decode cX12_first 59 = .ok (.iload 4, 2) := by decide +kernel
theorem dX12_first_61 : decode cX12_first 61 = .ok (.istore_n 3, 1) := by decide +kernel
theorem dX12_first_62 : decode cX12_first 62 = .ok (.iinc 4 1, 3) := by decide +kernel
theorem dX12_first_65 : decode cX12_first 65 = .ok (.goto (-38), 3) := by decide +kernel
theorem dX12_first_68 : decode cX12_first 68 = .ok (.aload_n 0, 1) := by decide +kernel
theorem dX12_first_69 : decode cX12_first 69 = .ok (.invokevirtual 189, 3) := by decide +kernel
theorem dX12_first_72 : decode cX12_first 72 = .ok (.iload_n 3, 1) := by decide +kernel
theorem dX12_first_73 : decode cX12_first 73 = .ok (.ireturn, 1) := by decide +kernel
theorem dX12_power_0 : decode cX12_power 0 = .ok (.iconst 1, 1) := by decide +kernel
theorem dX12_power_1 : decode cX12_power 1 = .ok (.istore_n 2, 1) := by decide +kernel
theorem dX12_power_2 : decode cX12_power 2 = .ok (.iconst 0, 1) := by decide +kernel
theorem dX12_power_3 : decode cX12_power 3 = .ok (.istore_n 3, 1) := by decide +kernel
theorem dX12_power_4 : decode cX12_power 4 = .ok (.iload_n 3, 1) := by decide +kernel
theorem dX12_power_5 : decode cX12_power 5 = .ok (.iload_n 1, 1) := by decide +kernel
theorem dX12_power_6 : decode cX12_power 6 = .ok (.if_icmp .ge 13, 3) := by decide +kernel
theorem dX12_power_9 : decode cX12_power 9 = .ok (.iload_n 2, 1) := by decide +kernel
theorem dX12_power_10 : decode cX12_power 10 = .ok (.iload_n 1, 1) := by decide +kernel
theorem dX12_power_11 : decode cX12_power 11 = .ok (.imul, 1) := by decide +kernel
theorem dX12_power_12 : decode cX12_power 12 = .ok (.istore_n 2, 1) := by decide +kernel
theorem dX12_power_13 : decode cX12_power 13 = .ok (.iinc 3 1, 3) := by decide +kernel
theorem dX12_power_16 : decode cX12_power 16 = .ok (.goto (-12), 3) := by decide +kernel
theorem dX12_power_19 : decode cX12_power 19 = .ok (.iload_n 2, 1) := by decide +kernel
theorem dX12_power_20 : decode cX12_power 20 = .ok (.ireturn, 1) := by decide +kernel
theorem dX12_orders_0 : decode cX12_orders 0 = .ok (.aload_n 0, 1) := by decide +kernel
theorem dX12_orders_1 : decode cX12_orders 1 = .ok (.iconst 0, 1) := by decide +kernel
theorem dX12_orders_2 : decode cX12_orders 2 = .ok (.putfield 78, 3) := by decide +kernel
theorem dX12_orders_5 : decode cX12_orders 5 = .ok (.iload_n 2, 1) := by decide +kernel
theorem dX12_orders_6 : decode cX12_orders 6 = .ok (.i2l, 1) := by decide +kernel
theorem dX12_orders_7 : decode cX12_orders 7 = .ok (.lconst 0, 1) := by decide +kernel
theorem dX12_orders_8 : decode cX12_orders 8 = .ok (.lconst 1, 1) := by decide +kernel
theorem dX12_orders_9 : decode cX12_orders 9 = .ok (.invokestatic 84, 3) := by decide +kernel
theorem dX12_orders_12 : decode cX12_orders 12 = .ok (.ifCond .eq 11, 3) := by decide +kernel
theorem dX12_orders_15 : decode cX12_orders 15 = .ok (.aload_n 0, 1) := by decide +kernel
theorem dX12_orders_16 : decode cX12_orders 16 = .ok (.iload_n 1, 1) := by decide +kernel
theorem dX12_orders_17 : decode cX12_orders 17 = .ok (.invokevirtual 216, 3) := by decide +kernel
theorem dX12_orders_20 : decode cX12_orders 20 = .ok (.goto 4, 3) := by decide +kernel
theorem dX12_orders_23 : decode cX12_orders 23 = .ok (.iconst (-1), 1) := by decide +kernel
theorem dX12_orders_24 : decode cX12_orders 24 = .ok (.istore_n 3, 1) := by decide +kernel
theorem dX12_orders_25 : decode cX12_orders 25 = .ok (.iload_n 3, 1) := by decide +kernel
theorem dX12_orders_26 : decode cX12_orders 26 = .ok (.ifCond .ge 5, 3) := by decide +kernel
theorem dX12_orders_29 : decode cX12_orders 29 = .ok (.iload_n 3, 1) := by decide +kernel
theorem dX12_orders_30 : decode cX12_orders 30 = .ok (.ireturn, 1) := by decide +kernel
theorem dX12_orders_31 : decode cX12_orders 31 = .ok (.aload_n 0, 1) := by decide +kernel
theorem dX12_orders_32 : decode cX12_orders 32 = .ok (.getfield 68, 3) := by decide +kernel
theorem dX12_orders_35 : decode cX12_orders 35 = .ok (.iload_n 1, 1) := by decide +kernel
theorem dX12_orders_36 : decode cX12_orders 36 = .ok (.iaload, 1) := by decide +kernel
theorem dX12_orders_37 : decode cX12_orders 37 = .ok (.iconst 3, 1) := by decide +kernel
theorem dX12_orders_38 : decode cX12_orders 38 = .ok (.idiv, 1) := by decide +kernel
theorem dX12_orders_39 : decode cX12_orders 39 = .ok (.istore 4, 2) := by decide +kernel
theorem dX12_orders_41 : decode cX12_orders 41 = .ok (.iload 4, 2) := by decide +kernel
theorem dX12_orders_43 : decode cX12_orders 43 = .ok (.iconst 5, 1) := by decide +kernel
theorem dX12_orders_44 : decode cX12_orders 44 = .ok (.if_icmp .le 6, 3) := by decide +kernel
theorem dX12_orders_47 : decode cX12_orders 47 = .ok (.bipush (-2), 2) := by decide +kernel
theorem dX12_orders_49 : decode cX12_orders 49 = .ok (.ireturn, 1) := by decide +kernel
theorem dX12_orders_50 : decode cX12_orders 50 = .ok (.iconst 0, 1) := by decide +kernel
theorem dX12_orders_51 : decode cX12_orders 51 = .ok (.istore 5, 2) := by decide +kernel
theorem dX12_orders_53 : decode cX12_orders 53 = .ok (.bipush (-4), 2) := by decide +kernel
theorem dX12_orders_55 : decode cX12_orders 55 = .ok (.istore 6, 2) := by decide +kernel
theorem dX12_orders_57 : decode cX12_orders 57 = .ok (.iconst 0, 1) := by decide +kernel
theorem dX12_orders_58 : decode cX12_orders 58 = .ok (.istore 7, 2) := by decide +kernel
theorem dX12_orders_60 : decode cX12_orders 60 = .ok (.iload 7, 2) := by decide +kernel
theorem dX12_orders_62 : decode cX12_orders 62 = .ok (.aload_n 0, 1) := by decide +kernel
theorem dX12_orders_63 : decode cX12_orders 63 = .ok (.iload 4, 2) := by decide +kernel
theorem dX12_orders_65 : decode cX12_orders 65 = .ok (.invokevirtual 222, 3) := by decide +kernel
theorem dX12_orders_68 : decode cX12_orders 68 = .ok (.if_icmp .ge 133, 3) := by decide +kernel
theorem dX12_orders_71 : decode cX12_orders 71 = .ok (.aload_n 0, 1) := by decide +kernel
theorem dX12_orders_72 : decode cX12_orders 72 = .ok (.invokevirtual 183, 3) := by decide +kernel
theorem dX12_orders_75 : decode cX12_orders 75 = .ok (.iconst 0, 1) := by decide +kernel
theorem dX12_orders_76 : decode cX12_orders 76 = .ok (.istore 8, 2) := by decide +kernel
theorem dX12_orders_78 : decode cX12_orders 78 = .ok (.iload 7, 2) := by decide +kernel
theorem dX12_orders_80 : decode cX12_orders 80 = .ok (.istore 9, 2) := by decide +kernel
theorem dX12_orders_82 : decode cX12_orders 82 = .ok (.iconst 1, 1) := by decide +kernel
theorem dX12_orders_83 : decode cX12_orders 83 = .ok (.istore 10, 2) := by decide +kernel
theorem dX12_orders_85 : decode cX12_orders 85 = .ok (.iconst 0, 1) := by decide +kernel
theorem dX12_orders_86 : decode cX12_orders 86 = .ok (.istore 11, 2) := by decide +kernel
theorem dX12_orders_88 : decode cX12_orders 88 = .ok (.iload 11, 2) := by decide +kernel
theorem dX12_orders_90 : decode cX12_orders 90 = .ok (.iload 4, 2) := by decide +kernel
theorem dX12_orders_92 : decode cX12_orders 92 = .ok (.if_icmp .ge 64, 3) := by decide +kernel
theorem dX12_orders_95 : decode cX12_orders 95 = .ok (.iload 10, 2) := by decide +kernel
theorem dX12_orders_97 : decode cX12_orders 97 = .ok (.ifCond .eq 59, 3) := by decide +kernel
theorem dX12_orders_100 : decode cX12_orders 100 = .ok (.iload 9, 2) := by decide +kernel
theorem dX12_orders_102 : decode cX12_orders 102 = .ok (.iload 4, 2) := by decide +kernel
theorem dX12_orders_104 : decode cX12_orders 104 = .ok (.irem, 1) := by decide +kernel
theorem dX12_orders_105 : decode cX12_orders 105 = .ok (.istore 12, 2) := by decide +kernel
theorem dX12_orders_107 : decode cX12_orders 107 = .ok (.iload 9, 2) := by decide +kernel
theorem dX12_orders_109 : decode cX12_orders 109 = .ok (.iload 4, 2) := by decide +kernel
theorem dX12_orders_111 : decode cX12_orders 111 = .ok (.idiv, 1) := by decide +kernel
theorem dX12_orders_112 : decode cX12_orders 112 = .ok (.istore 9, 2) := by decide +kernel
theorem dX12_orders_114 : decode cX12_orders 114 = .ok (.iload 8, 2) := by decide +kernel
theorem dX12_orders_116 : decode cX12_orders 116 = .ok (.iload 12, 2) := by decide +kernel
theorem dX12_orders_118 : decode cX12_orders 118 = .ok (.ishr, 1) := by decide +kernel
theorem dX12_orders_119 : decode cX12_orders 119 = .ok (.iconst 1, 1) := by decide +kernel
theorem dX12_orders_120 : decode cX12_orders 120 = .ok (.iand, 1) := by decide +kernel
theorem dX12_orders_121 : decode cX12_orders 121 = .ok (.ifCond .ne 17, 3) := by decide +kernel
theorem dX12_orders_124 : decode cX12_orders 124 = .ok (.aload_n 0, 1) := by decide +kernel
theorem dX12_orders_125 : decode cX12_orders 125 = .ok (.iload_n 1, 1) := by decide +kernel
theorem dX12_orders_126 : decode cX12_orders 126 = .ok (.iload 12, 2) := by decide +kernel
theorem dX12_orders_128 : decode cX12_orders 128 = .ok (.invokevirtual 219, 3) := by decide +kernel
theorem dX12_orders_131 : decode cX12_orders 131 = .ok (.ifCond .eq 7, 3) := by decide +kernel
theorem dX12_orders_134 : decode cX12_orders 134 = .ok (.iconst 1, 1) := by decide +kernel
theorem dX12_orders_135 : decode cX12_orders 135 = .ok (.goto 4, 3) := by decide +kernel
theorem dX12_orders_138 : decode cX12_orders 138 = .ok (.iconst 0, 1) := by decide +kernel
theorem dX12_orders_139 : decode cX12_orders 139 = .ok (.istore 10, 2) := by decide +kernel
theorem dX12_orders_141 : decode cX12_orders 141 = .ok (.iload 8, 2) := by decide +kernel
theorem dX12_orders_143 : decode cX12_orders 143 = .ok (.iconst 1, 1) := by decide +kernel
theorem dX12_orders_144 : decode cX12_orders 144 = .ok (.iload 12, 2) := by decide +kernel
theorem dX12_orders_146 : decode cX12_orders 146 = .ok (.ishl, 1) := by decide +kernel
theorem dX12_orders_147 : decode cX12_orders 147 = .ok (.ior, 1) := by decide +kernel
theorem dX12_orders_148 : decode cX12_orders 148 = .ok (.istore 8, 2) := by decide +kernel
theorem dX12_orders_150 : decode cX12_orders 150 = .ok (.iinc 11 1, 3) := by decide +kernel
theorem dX12_orders_153 : decode cX12_orders 153 = .ok (.goto (-65), 3) := by decide +kernel
theorem dX12_orders_156 : decode cX12_orders 156 = .ok (.aload_n 0, 1) := by decide +kernel
theorem dX12_orders_157 : decode cX12_orders 157 = .ok (.invokevirtual 203, 3) := by decide +kernel
theorem dX12_orders_160 : decode cX12_orders 160 = .ok (.istore 11, 2) := by decide +kernel
theorem dX12_orders_162 : decode cX12_orders 162 = .ok (.aload_n 0, 1) := by decide +kernel
theorem dX12_orders_163 : decode cX12_orders 163 = .ok (.invokevirtual 189, 3) := by decide +kernel
theorem dX12_orders_166 : decode cX12_orders 166 = .ok (.iload 10, 2) := by decide +kernel
theorem dX12_orders_168 : decode cX12_orders 168 = .ok (.ifCond .eq 27, 3) := by decide +kernel
theorem dX12_orders_171 : decode cX12_orders 171 = .ok (.iinc 5 1, 3) := by decide +kernel
theorem dX12_orders_174 : decode cX12_orders 174 = .ok (.iload 6, 2) := by decide +kernel
theorem dX12_orders_176 : decode cX12_orders 176 = .ok (.ifCond .lt 10, 3) := by decide +kernel
theorem dX12_orders_179 : decode cX12_orders 179 = .ok (.iload 11, 2) := by decide +kernel
theorem dX12_orders_181 : decode cX12_orders 181 = .ok (.iload 6, 2) := by decide +kernel
theorem dX12_orders_183 : decode cX12_orders 183 = .ok (.if_icmp .ge 8, 3) := by decide +kernel
theorem dX12_orders_186 : decode cX12_orders 186 = .ok (.iload 11, 2) := by decide +kernel
theorem dX12_orders_188 : decode cX12_orders 188 = .ok (.goto 5, 3) := by decide +kernel
theorem dX12_orders_191 : decode cX12_orders 191 = .ok (.iload 6, 2) := by decide +kernel
theorem dX12_orders_193 : decode cX12_orders 193 = .ok (.istore 6, 2) := by decide +kernel
theorem dX12_orders_195 : decode cX12_orders 195 = .ok (.iinc 7 1, 3) := by decide +kernel
theorem dX12_orders_198 : decode cX12_orders 198 = .ok (.goto (-138), 3) := by decide +kernel
theorem dX12_orders_201 : decode cX12_orders 201 = .ok (.iload_n 2, 1) := by decide +kernel
theorem dX12_orders_202 : decode cX12_orders 202 = .ok (.ifCond .ne 8, 3) := by decide +kernel
theorem dX12_orders_205 : decode cX12_orders 205 = .ok (.iload 5, 2) := by decide +kernel
theorem dX12_orders_207 : decode cX12_orders 207 = .ok (.goto 5, 3) := by decide +kernel
theorem dX12_orders_210 : decode cX12_orders 210 = .ok (.iload 6, 2) := by decide +kernel
theorem dX12_orders_212 : decode cX12_orders 212 = .ok (.ireturn, 1) := by decide +kernel
theorem dX12_hem_0 : decode cX12_hem 0 = .ok (.aload_n 0, 1) := by decide +kernel
theorem dX12_hem_1 : decode cX12_hem 1 = .ok (.iconst 0, 1) := by decide +kernel
theorem dX12_hem_2 : decode cX12_hem 2 = .ok (.putfield 78, 3) := by decide +kernel
theorem dX12_hem_5 : decode cX12_hem 5 = .ok (.iload_n 1, 1) := by decide +kernel
theorem dX12_hem_6 : decode cX12_hem 6 = .ok (.i2l, 1) := by decide +kernel
theorem dX12_hem_7 : decode cX12_hem 7 = .ok (.lconst 1, 1) := by decide +kernel
theorem dX12_hem_8 : decode cX12_hem 8 = .ok (.ldc2_w 225, 3) := by decide +kernel
theorem dX12_hem_11 : decode cX12_hem 11 = .ok (.invokestatic 84, 3) := by decide +kernel
theorem dX12_hem_14 : decode cX12_hem 14 = .ok (.ifCond .eq 27, 3) := by decide +kernel
theorem dX12_hem_17 : decode cX12_hem 17 = .ok (.iload_n 2, 1) := by decide +kernel
theorem dX12_hem_18 : decode cX12_hem 18 = .ok (.i2l, 1) := by decide +kernel
theorem dX12_hem_19 : decode cX12_hem 19 = .ok (.lconst 0, 1) := by decide +kernel
theorem dX12_hem_20 : decode cX12_hem 20 = .ok (.ldc2_w 225, 3) := by decide +kernel
theorem dX12_hem_23 : decode cX12_hem 23 = .ok (.invokestatic 84, 3) := by decide +kernel
theorem dX12_hem_26 : decode cX12_hem 26 = .ok (.ifCond .eq 15, 3) := by decide +kernel
theorem dX12_hem_29 : decode cX12_hem 29 = .ok (.iload_n 3, 1) := by decide +kernel
theorem dX12_hem_30 : decode cX12_hem 30 = .ok (.i2l, 1) := by decide +kernel
theorem dX12_hem_31 : decode cX12_hem 31 = .ok (.lconst 0, 1) := by decide +kernel
theorem dX12_hem_32 : decode cX12_hem 32 = .ok (.ldc2_w 227, 3) := by decide +kernel
theorem dX12_hem_35 : decode cX12_hem 35 = .ok (.invokestatic 84, 3) := by decide +kernel
theorem dX12_hem_38 : decode cX12_hem 38 = .ok (.ifCond .ne 5, 3) := by decide +kernel
theorem dX12_hem_41 : decode cX12_hem 41 = .ok (.iconst (-1), 1) := by decide +kernel
theorem dX12_hem_42 : decode cX12_hem 42 = .ok (.ireturn, 1) := by decide +kernel
theorem dX12_hem_43 : decode cX12_hem 43 = .ok (.iload_n 1, 1) := by decide +kernel
theorem dX12_hem_44 : decode cX12_hem 44 = .ok (.istore 4, 2) := by decide +kernel
theorem dX12_hem_46 : decode cX12_hem 46 = .ok (.iconst 0, 1) := by decide +kernel
theorem dX12_hem_47 : decode cX12_hem 47 = .ok (.istore 5, 2) := by decide +kernel
theorem dX12_hem_49 : decode cX12_hem 49 = .ok (.iload 5, 2) := by decide +kernel
theorem dX12_hem_51 : decode cX12_hem 51 = .ok (.iload_n 3, 1) := by decide +kernel
theorem dX12_hem_52 : decode cX12_hem 52 = .ok (.if_icmp .ge 26, 3) := by decide +kernel
theorem dX12_hem_55 : decode cX12_hem 55 = .ok (.iload 4, 2) := by decide +kernel
theorem dX12_hem_57 : decode cX12_hem 57 = .ok (.iload_n 2, 1) := by decide +kernel
theorem dX12_hem_58 : decode cX12_hem 58 = .ok (.iload 4, 2) := by decide +kernel
theorem dX12_hem_60 : decode cX12_hem 60 = .ok (.imul, 1) := by decide +kernel
theorem dX12_hem_61 : decode cX12_hem 61 = .ok (.bipush 100, 2) := by decide +kernel
theorem dX12_hem_63 : decode cX12_hem 63 = .ok (.idiv, 1) := by decide +kernel
theorem dX12_hem_64 : decode cX12_hem 64 = .ok (.iadd, 1) := by decide +kernel
theorem dX12_hem_65 : decode cX12_hem 65 = .ok (.bipush 99, 2) := by decide +kernel
theorem dX12_hem_67 : decode cX12_hem 67 = .ok (.invokestatic 95, 3) := by decide +kernel
theorem dX12_hem_70 : decode cX12_hem 70 = .ok (.istore 4, 2) := by decide +kernel
theorem dX12_hem_72 : decode cX12_hem 72 = .ok (.iinc 5 1, 3) := by decide +kernel
theorem dX12_hem_75 : decode cX12_hem 75 = .ok (.goto (-26), 3) := by decide +kernel
theorem dX12_hem_78 : decode cX12_hem 78 = .ok (.iload 4, 2) := by decide +kernel
theorem dX12_hem_80 : decode cX12_hem 80 = .ok (.ireturn, 1) := by decide +kernel
theorem dX12_darts_0 : decode cX12_darts 0 = .ok (.aload_n 0, 1) := by decide +kernel
theorem dX12_darts_1 : decode cX12_darts 1 = .ok (.iconst 0, 1) := by decide +kernel
theorem dX12_darts_2 : decode cX12_darts 2 = .ok (.putfield 78, 3) := by decide +kernel
theorem dX12_darts_5 : decode cX12_darts 5 = .ok (.iload_n 1, 1) := by decide +kernel
theorem dX12_darts_6 : decode cX12_darts 6 = .ok (.i2l, 1) := by decide +kernel
theorem dX12_darts_7 : decode cX12_darts 7 = .ok (.lconst 0, 1) := by decide +kernel
theorem dX12_darts_8 : decode cX12_darts 8 = .ok (.ldc2_w 225, 3) := by decide +kernel
theorem dX12_darts_11 : decode cX12_darts 11 = .ok (.invokestatic 84, 3) := by decide +kernel
theorem dX12_darts_14 : decode cX12_darts 14 = .ok (.ifCond .eq 40, 3) := by decide +kernel
theorem dX12_darts_17 : decode cX12_darts 17 = .ok (.iload_n 2, 1) := by decide +kernel
theorem dX12_darts_18 : decode cX12_darts 18 = .ok (.i2l, 1) := by decide +kernel
theorem dX12_darts_19 : decode cX12_darts 19 = .ok (.lconst 1, 1) := by decide +kernel
theorem dX12_darts_20 : decode cX12_darts 20 = .ok (.ldc2_w 225, 3) := by decide +kernel
theorem dX12_darts_23 : decode cX12_darts 23 = .ok (.invokestatic 84, 3) := by decide +kernel
theorem dX12_darts_26 : decode cX12_darts 26 = .ok (.ifCond .eq 28, 3) := by decide +kernel
theorem dX12_darts_29 : decode cX12_darts 29 = .ok (.iload_n 3, 1) := by decide +kernel
theorem dX12_darts_30 : decode cX12_darts 30 = .ok (.i2l, 1) := by decide +kernel
theorem dX12_darts_31 : decode cX12_darts 31 = .ok (.lconst 0, 1) := by decide +kernel
theorem dX12_darts_32 : decode cX12_darts 32 = .ok (.ldc2_w 225, 3) := by decide +kernel
theorem dX12_darts_35 : decode cX12_darts 35 = .ok (.invokestatic 84, 3) := by decide +kernel
theorem dX12_darts_38 : decode cX12_darts 38 = .ok (.ifCond .eq 16, 3) := by decide +kernel
theorem dX12_darts_41 : decode cX12_darts 41 = .ok (.iload 4, 2) := by decide +kernel
theorem dX12_darts_43 : decode cX12_darts 43 = .ok (.i2l, 1) := by decide +kernel
theorem dX12_darts_44 : decode cX12_darts 44 = .ok (.lconst 1, 1) := by decide +kernel
theorem dX12_darts_45 : decode cX12_darts 45 = .ok (.ldc2_w 225, 3) := by decide +kernel
theorem dX12_darts_48 : decode cX12_darts 48 = .ok (.invokestatic 84, 3) := by decide +kernel
theorem dX12_darts_51 : decode cX12_darts 51 = .ok (.ifCond .ne 5, 3) := by decide +kernel
theorem dX12_darts_54 : decode cX12_darts 54 = .ok (.iconst (-1), 1) := by decide +kernel
theorem dX12_darts_55 : decode cX12_darts 55 = .ok (.ireturn, 1) := by decide +kernel
theorem dX12_darts_56 : decode cX12_darts 56 = .ok (.iload_n 1, 1) := by decide +kernel
theorem dX12_darts_57 : decode cX12_darts 57 = .ok (.iload 4, 2) := by decide +kernel
theorem dX12_darts_59 : decode cX12_darts 59 = .ok (.imul, 1) := by decide +kernel
theorem dX12_darts_60 : decode cX12_darts 60 = .ok (.iload_n 3, 1) := by decide +kernel
theorem dX12_darts_61 : decode cX12_darts 61 = .ok (.iload_n 2, 1) := by decide +kernel
theorem dX12_darts_62 : decode cX12_darts 62 = .ok (.imul, 1) := by decide +kernel
theorem dX12_darts_63 : decode cX12_darts 63 = .ok (.if_icmp .ne 7, 3) := by decide +kernel
theorem dX12_darts_66 : decode cX12_darts 66 = .ok (.iconst 1, 1) := by decide +kernel
theorem dX12_darts_67 : decode cX12_darts 67 = .ok (.goto 4, 3) := by decide +kernel
theorem dX12_darts_70 : decode cX12_darts 70 = .ok (.iconst 0, 1) := by decide +kernel
theorem dX12_darts_71 : decode cX12_darts 71 = .ok (.ireturn, 1) := by decide +kernel
theorem dX12_stripes_0 : decode cX12_stripes 0 = .ok (.aload_n 0, 1) := by decide +kernel
theorem dX12_stripes_1 : decode cX12_stripes 1 = .ok (.iconst 0, 1) := by decide +kernel
theorem dX12_stripes_2 : decode cX12_stripes 2 = .ok (.putfield 78, 3) := by decide +kernel
theorem dX12_stripes_5 : decode cX12_stripes 5 = .ok (.iload_n 1, 1) := by decide +kernel
theorem dX12_stripes_6 : decode cX12_stripes 6 = .ok (.i2l, 1) := by decide +kernel
theorem dX12_stripes_7 : decode cX12_stripes 7 = .ok (.lconst 1, 1) := by decide +kernel
theorem dX12_stripes_8 : decode cX12_stripes 8 = .ok (.ldc2_w 229, 3) := by decide +kernel
theorem dX12_stripes_11 : decode cX12_stripes 11 = .ok (.invokestatic 84, 3) := by decide +kernel
theorem dX12_stripes_14 : decode cX12_stripes 14 = .ok (.ifCond .eq 42, 3) := by decide +kernel
theorem dX12_stripes_17 : decode cX12_stripes 17 = .ok (.iload_n 3, 1) := by decide +kernel
theorem dX12_stripes_18 : decode cX12_stripes 18 = .ok (.i2l, 1) := by decide +kernel
theorem dX12_stripes_19 : decode cX12_stripes 19 = .ok (.lconst 1, 1) := by decide +kernel
theorem dX12_stripes_20 : decode cX12_stripes 20 = .ok (.ldc2_w 229, 3) := by decide +kernel
theorem dX12_stripes_23 : decode cX12_stripes 23 = .ok (.invokestatic 84, 3) := by decide +kernel
theorem dX12_stripes_26 : decode cX12_stripes 26 = .ok (.ifCond .eq 30, 3) := by decide +kernel
theorem dX12_stripes_29 : decode cX12_stripes 29 = .ok (.iload_n 2, 1) := by decide +kernel
theorem dX12_stripes_30 : decode cX12_stripes 30 = .ok (.i2l, 1) := by decide +kernel
theorem dX12_stripes_31 : decode cX12_stripes 31 = .ok (.lconst 0, 1) := by decide +kernel
theorem dX12_stripes_32 : decode cX12_stripes 32 = .ok (.iload_n 1, 1) := by decide +kernel
theorem dX12_stripes_33 : decode cX12_stripes 33 = .ok (.iconst 1, 1) := by decide +kernel
theorem dX12_stripes_34 : decode cX12_stripes 34 = .ok (.isub, 1) := by decide +kernel
theorem dX12_stripes_35 : decode cX12_stripes 35 = .ok (.i2l, 1) := by decide +kernel
theorem dX12_stripes_36 : decode cX12_stripes 36 = .ok (.invokestatic 84, 3) := by decide +kernel
theorem dX12_stripes_39 : decode cX12_stripes 39 = .ok (.ifCond .eq 17, 3) := by decide +kernel
theorem dX12_stripes_42 : decode cX12_stripes 42 = .ok (.iload 4, 2) := by decide +kernel
theorem dX12_stripes_44 : decode cX12_stripes 44 = .ok (.i2l, 1) := by decide +kernel
theorem dX12_stripes_45 : decode cX12_stripes 45 = .ok (.lconst 0, 1) := by decide +kernel
theorem dX12_stripes_46 : decode cX12_stripes 46 = .ok (.iload_n 3, 1) := by decide +kernel
theorem dX12_stripes_47 : decode cX12_stripes 47 = .ok (.iconst 1, 1) := by decide +kernel
theorem dX12_stripes_48 : decode cX12_stripes 48 = .ok (.isub, 1) := by decide +kernel
theorem dX12_stripes_49 : decode cX12_stripes 49 = .ok (.i2l, 1) := by decide +kernel
theorem dX12_stripes_50 : decode cX12_stripes 50 = .ok (.invokestatic 84, 3) := by decide +kernel
theorem dX12_stripes_53 : decode cX12_stripes 53 = .ok (.ifCond .ne 5, 3) := by decide +kernel
theorem dX12_stripes_56 : decode cX12_stripes 56 = .ok (.iconst (-1), 1) := by decide +kernel
theorem dX12_stripes_57 : decode cX12_stripes 57 = .ok (.ireturn, 1) := by decide +kernel
theorem dX12_stripes_58 : decode cX12_stripes 58 = .ok (.iconst 0, 1) := by decide +kernel
theorem dX12_stripes_59 : decode cX12_stripes 59 = .ok (.istore 5, 2) := by decide +kernel
theorem dX12_stripes_61 : decode cX12_stripes 61 = .ok (.iload 5, 2) := by decide +kernel
theorem dX12_stripes_63 : decode cX12_stripes 63 = .ok (.iload_n 1, 1) := by decide +kernel
theorem dX12_stripes_64 : decode cX12_stripes 64 = .ok (.iload_n 3, 1) := by decide +kernel
theorem dX12_stripes_65 : decode cX12_stripes 65 = .ok (.imul, 1) := by decide +kernel
theorem dX12_stripes_66 : decode cX12_stripes 66 = .ok (.if_icmp .ge 29, 3) := by decide +kernel
theorem dX12_stripes_69 : decode cX12_stripes 69 = .ok (.iload 5, 2) := by decide +kernel
theorem dX12_stripes_71 : decode cX12_stripes 71 = .ok (.iload_n 1, 1) := by decide +kernel
theorem dX12_stripes_72 : decode cX12_stripes 72 = .ok (.irem, 1) := by decide +kernel
theorem dX12_stripes_73 : decode cX12_stripes 73 = .ok (.iload_n 2, 1) := by decide +kernel
theorem dX12_stripes_74 : decode cX12_stripes 74 = .ok (.if_icmp .ne 15, 3) := by decide +kernel
theorem dX12_stripes_77 : decode cX12_stripes 77 = .ok (.iload 5, 2) := by decide +kernel
theorem dX12_stripes_79 : decode cX12_stripes 79 = .ok (.iload_n 3, 1) := by decide +kernel
theorem dX12_stripes_80 : decode cX12_stripes 80 = .ok (.irem, 1) := by decide +kernel
theorem dX12_stripes_81 : decode cX12_stripes 81 = .ok (.iload 4, 2) := by decide +kernel
theorem dX12_stripes_83 : decode cX12_stripes 83 = .ok (.if_icmp .ne 6, 3) := by decide +kernel
theorem dX12_stripes_86 : decode cX12_stripes 86 = .ok (.iload 5, 2) := by decide +kernel
theorem dX12_stripes_88 : decode cX12_stripes 88 = .ok (.ireturn, 1) := by decide +kernel
theorem dX12_stripes_89 : decode cX12_stripes 89 = .ok (.iinc 5 1, 3) := by decide +kernel
theorem dX12_stripes_92 : decode cX12_stripes 92 = .ok (.goto (-31), 3) := by decide +kernel
theorem dX12_stripes_95 : decode cX12_stripes 95 = .ok (.bipush (-4), 2) := by decide +kernel
theorem dX12_stripes_97 : decode cX12_stripes 97 = .ok (.ireturn, 1) := by decide +kernel
theorem dX12_measures_0 : decode cX12_measures 0 = .ok (.aload_n 0, 1) := by decide +kernel
theorem dX12_measures_1 : decode cX12_measures 1 = .ok (.iconst 0, 1) := by decide +kernel
theorem dX12_measures_2 : decode cX12_measures 2 = .ok (.putfield 78, 3) := by decide +kernel
theorem dX12_measures_5 : decode cX12_measures 5 = .ok (.iload_n 2, 1) := by decide +kernel
theorem dX12_measures_6 : decode cX12_measures 6 = .ok (.i2l, 1) := by decide +kernel
theorem dX12_measures_7 : decode cX12_measures 7 = .ok (.lconst 0, 1) := by decide +kernel
theorem dX12_measures_8 : decode cX12_measures 8 = .ok (.lconst 1, 1) := by decide +kernel
theorem dX12_measures_9 : decode cX12_measures 9 = .ok (.invokestatic 84, 3) := by decide +kernel
theorem dX12_measures_12 : decode cX12_measures 12 = .ok (.ifCond .eq 12, 3) := by decide +kernel
theorem dX12_measures_15 : decode cX12_measures 15 = .ok (.aload_n 0, 1) := by decide +kernel
theorem dX12_measures_16 : decode cX12_measures 16 = .ok (.iload_n 1, 1) := by decide +kernel
theorem dX12_measures_17 : decode cX12_measures 17 = .ok (.iconst 1, 1) := by decide +kernel
theorem dX12_measures_18 : decode cX12_measures 18 = .ok (.invokevirtual 177, 3) := by decide +kernel
theorem dX12_measures_21 : decode cX12_measures 21 = .ok (.goto 4, 3) := by decide +kernel
theorem dX12_measures_24 : decode cX12_measures 24 = .ok (.iconst (-1), 1) := by decide +kernel
theorem dX12_measures_25 : decode cX12_measures 25 = .ok (.istore_n 3, 1) := by decide +kernel
theorem dX12_measures_26 : decode cX12_measures 26 = .ok (.iload_n 3, 1) := by decide +kernel
theorem dX12_measures_27 : decode cX12_measures 27 = .ok (.ifCond .ge 5, 3) := by decide +kernel
theorem dX12_measures_30 : decode cX12_measures 30 = .ok (.iload_n 3, 1) := by decide +kernel
theorem dX12_measures_31 : decode cX12_measures 31 = .ok (.ireturn, 1) := by decide +kernel
theorem dX12_measures_32 : decode cX12_measures 32 = .ok (.aload_n 0, 1) := by decide +kernel
theorem dX12_measures_33 : decode cX12_measures 33 = .ok (.getfield 68, 3) := by decide +kernel
theorem dX12_measures_36 : decode cX12_measures 36 = .ok (.iload_n 1, 1) := by decide +kernel
theorem dX12_measures_37 : decode cX12_measures 37 = .ok (.iaload, 1) := by decide +kernel
theorem dX12_measures_38 : decode cX12_measures 38 = .ok (.iconst 3, 1) := by decide +kernel
theorem dX12_measures_39 : decode cX12_measures 39 = .ok (.irem, 1) := by decide +kernel
theorem dX12_measures_40 : decode cX12_measures 40 = .ok (.ifCond .eq 6, 3) := by decide +kernel
theorem dX12_measures_43 : decode cX12_measures 43 = .ok (.bipush (-13), 2) := by decide +kernel
theorem dX12_measures_45 : decode cX12_measures 45 = .ok (.ireturn, 1) := by decide +kernel
theorem dX12_measures_46 : decode cX12_measures 46 = .ok (.bipush (-4), 2) := by decide +kernel
theorem dX12_measures_48 : decode cX12_measures 48 = .ok (.istore 4, 2) := by decide +kernel
theorem dX12_measures_50 : decode cX12_measures 50 = .ok (.iconst 0, 1) := by decide +kernel
theorem dX12_measures_51 : decode cX12_measures 51 = .ok (.istore 5, 2) := by decide +kernel
theorem dX12_measures_53 : decode cX12_measures 53 = .ok (.iload 5, 2) := by decide +kernel
theorem dX12_measures_55 : decode cX12_measures 55 = .ok (.bipush 6, 2) := by decide +kernel
theorem dX12_measures_57 : decode cX12_measures 57 = .ok (.if_icmp .ge 17, 3) := by decide +kernel
theorem dX12_measures_60 : decode cX12_measures 60 = .ok (.aload_n 0, 1) := by decide +kernel
theorem dX12_measures_61 : decode cX12_measures 61 = .ok (.getfield 53, 3) := by decide +kernel
theorem dX12_measures_64 : decode cX12_measures 64 = .ok (.iload 5, 2) := by decide +kernel
theorem dX12_measures_66 : decode cX12_measures 66 = .ok (.iconst 0, 1) := by decide +kernel
theorem dX12_measures_67 : decode cX12_measures 67 = .ok (.iastore, 1) := by decide +kernel
theorem dX12_measures_68 : decode cX12_measures 68 = .ok (.iinc 5 1, 3) := by decide +kernel
theorem dX12_measures_71 : decode cX12_measures 71 = .ok (.goto (-18), 3) := by decide +kernel
theorem dX12_measures_74 : decode cX12_measures 74 = .ok (.iconst 0, 1) := by decide +kernel
theorem dX12_measures_75 : decode cX12_measures 75 = .ok (.istore 5, 2) := by decide +kernel
theorem dX12_measures_77 : decode cX12_measures 77 = .ok (.iload 5, 2) := by decide +kernel
theorem dX12_measures_79 : decode cX12_measures 79 = .ok (.aload_n 0, 1) := by decide +kernel
theorem dX12_measures_80 : decode cX12_measures 80 = .ok (.getfield 68, 3) := by decide +kernel
theorem dX12_measures_83 : decode cX12_measures 83 = .ok (.iload_n 1, 1) := by decide +kernel
theorem dX12_measures_84 : decode cX12_measures 84 = .ok (.iaload, 1) := by decide +kernel
theorem dX12_measures_85 : decode cX12_measures 85 = .ok (.if_icmp .ge 120, 3) := by decide +kernel
theorem dX12_measures_88 : decode cX12_measures 88 = .ok (.aload_n 0, 1) := by decide +kernel
theorem dX12_measures_89 : decode cX12_measures 89 = .ok (.iload_n 1, 1) := by decide +kernel
theorem dX12_measures_90 : decode cX12_measures 90 = .ok (.iload 5, 2) := by decide +kernel
theorem dX12_measures_92 : decode cX12_measures 92 = .ok (.invokevirtual 213, 3) := by decide +kernel
theorem dX12_measures_95 : decode cX12_measures 95 = .ok (.istore 6, 2) := by decide +kernel
theorem dX12_measures_97 : decode cX12_measures 97 = .ok (.aload_n 0, 1) := by decide +kernel
theorem dX12_measures_98 : decode cX12_measures 98 = .ok (.iload_n 1, 1) := by decide +kernel
theorem dX12_measures_99 : decode cX12_measures 99 = .ok (.iload 5, 2) := by decide +kernel
theorem dX12_measures_101 : decode cX12_measures 101 = .ok (.iconst 1, 1) := by decide +kernel
theorem dX12_measures_102 : decode cX12_measures 102 = .ok (.iadd, 1) := by decide +kernel
theorem dX12_measures_103 : decode cX12_measures 103 = .ok (.invokevirtual 213, 3) := by decide +kernel
theorem dX12_measures_106 : decode cX12_measures 106 = .ok (.istore 7, 2) := by decide +kernel
theorem dX12_measures_108 : decode cX12_measures 108 = .ok (.aload_n 0, 1) := by decide +kernel
theorem dX12_measures_109 : decode cX12_measures 109 = .ok (.iload 6, 2) := by decide +kernel
theorem dX12_measures_111 : decode cX12_measures 111 = .ok (.invokevirtual 166, 3) := by decide +kernel
theorem dX12_measures_114 : decode cX12_measures 114 = .ok (.ifCond .eq 19, 3) := by decide +kernel
theorem dX12_measures_117 : decode cX12_measures 117 = .ok (.aload_n 0, 1) := by decide +kernel
theorem dX12_measures_118 : decode cX12_measures 118 = .ok (.iload 7, 2) := by decide +kernel
theorem dX12_measures_120 : decode cX12_measures 120 = .ok (.invokevirtual 166, 3) := by decide +kernel
theorem dX12_measures_123 : decode cX12_measures 123 = .ok (.ifCond .eq 10, 3) := by decide +kernel
theorem dX12_measures_126 : decode cX12_measures 126 = .ok (.iload 6, 2) := by decide +kernel
theorem dX12_measures_128 : decode cX12_measures 128 = .ok (.iload 7, 2) := by decide +kernel
theorem dX12_measures_130 : decode cX12_measures 130 = .ok (.if_icmp .ne 6, 3) := by decide +kernel
theorem dX12_measures_133 : decode cX12_measures 133 = .ok (.bipush (-13), 2) := by decide +kernel
theorem dX12_measures_135 : decode cX12_measures 135 = .ok (.ireturn, 1) := by decide +kernel
theorem dX12_measures_136 : decode cX12_measures 136 = .ok (.aload_n 0, 1) := by decide +kernel
theorem dX12_measures_137 : decode cX12_measures 137 = .ok (.getfield 16, 3) := by decide +kernel
theorem dX12_measures_140 : decode cX12_measures 140 = .ok (.iload 6, 2) := by decide +kernel
theorem dX12_measures_142 : decode cX12_measures 142 = .ok (.iaload, 1) := by decide +kernel
theorem dX12_measures_143 : decode cX12_measures 143 = .ok (.aload_n 0, 1) := by decide +kernel
theorem dX12_measures_144 : decode cX12_measures 144 = .ok (.getfield 16, 3) := by decide +kernel
theorem dX12_measures_147 : decode cX12_measures 147 = .ok (.iload 7, 2) := by decide +kernel
theorem dX12_measures_149 : decode cX12_measures 149 = .ok (.iaload, 1) := by decide +kernel
theorem dX12_measures_150 : decode cX12_measures 150 = .ok (.isub, 1) := by decide +kernel
theorem dX12_measures_151 : decode cX12_measures 151 = .ok (.aload_n 0, 1) := by decide +kernel
theorem dX12_measures_152 : decode cX12_measures 152 = .ok (.iload_n 1, 1) := by decide +kernel
theorem dX12_measures_153 : decode cX12_measures 153 = .ok (.iload 5, 2) := by decide +kernel
theorem dX12_measures_155 : decode cX12_measures 155 = .ok (.iconst 2, 1) := by decide +kernel
theorem dX12_measures_156 : decode cX12_measures 156 = .ok (.iadd, 1) := by decide +kernel
theorem dX12_measures_157 : decode cX12_measures 157 = .ok (.invokevirtual 213, 3) := by decide +kernel
theorem dX12_measures_160 : decode cX12_measures 160 = .ok (.if_icmp .eq 39, 3) := by decide +kernel
theorem dX12_measures_163 : decode cX12_measures 163 = .ok (.iload 4, 2) := by decide +kernel
theorem dX12_measures_165 : decode cX12_measures 165 = .ok (.ifCond .ge 8, 3) := by decide +kernel
theorem dX12_measures_168 : decode cX12_measures 168 = .ok (.iload 5, 2) := by decide +kernel
theorem dX12_measures_170 : decode cX12_measures 170 = .ok (.goto 5, 3) := by decide +kernel
theorem dX12_measures_173 : decode cX12_measures 173 = .ok (.iload 4, 2) := by decide +kernel
theorem dX12_measures_175 : decode cX12_measures 175 = .ok (.istore 4, 2) := by decide +kernel
theorem dX12_measures_177 : decode cX12_measures 177 = .ok (.aload_n 0, 1) := by decide +kernel
theorem dX12_measures_178 : decode cX12_measures 178 = .ok (.getfield 53, 3) := by decide +kernel
theorem dX12_measures_181 : decode cX12_measures 181 = .ok (.iload 6, 2) := by decide +kernel
theorem dX12_measures_183 : decode cX12_measures 183 = .ok (.dup2, 1) := by decide +kernel
theorem dX12_measures_184 : decode cX12_measures 184 = .ok (.iaload, 1) := by decide +kernel
theorem dX12_measures_185 : decode cX12_measures 185 = .ok (.iconst 1, 1) := by decide +kernel
theorem dX12_measures_186 : decode cX12_measures 186 = .ok (.iadd, 1) := by decide +kernel
theorem dX12_measures_187 : decode cX12_measures 187 = .ok (.iastore, 1) := by decide +kernel
theorem dX12_measures_188 : decode cX12_measures 188 = .ok (.aload_n 0, 1) := by decide +kernel
theorem dX12_measures_189 : decode cX12_measures 189 = .ok (.getfield 53, 3) := by decide +kernel
theorem dX12_measures_192 : decode cX12_measures 192 = .ok (.iload 7, 2) := by decide +kernel
theorem dX12_measures_194 : decode cX12_measures 194 = .ok (.dup2, 1) := by decide +kernel
theorem dX12_measures_195 : decode cX12_measures 195 = .ok (.iaload, 1) := by decide +kernel
theorem dX12_measures_196 : decode cX12_measures 196 = .ok (.iconst 1, 1) := by decide +kernel
theorem dX12_measures_197 : decode cX12_measures 197 = .ok (.iadd, 1) := by decide +kernel
theorem dX12_measures_198 : decode cX12_measures 198 = .ok (.iastore, 1) := by decide +kernel
theorem dX12_measures_199 : decode cX12_measures 199 = .ok (.iinc 5 3, 3) := by decide +kernel
theorem dX12_measures_202 : decode cX12_measures 202 = .ok (.goto (-125), 3) := by decide +kernel
theorem dX12_measures_205 : decode cX12_measures 205 = .ok (.bipush (-4), 2) := by decide +kernel
theorem dX12_measures_207 : decode cX12_measures 207 = .ok (.istore 5, 2) := by decide +kernel
theorem dX12_measures_209 : decode cX12_measures 209 = .ok (.iconst 0, 1) := by decide +kernel
theorem dX12_measures_210 : decode cX12_measures 210 = .ok (.istore 6, 2) := by decide +kernel
theorem dX12_measures_212 : decode cX12_measures 212 = .ok (.iload 6, 2) := by decide +kernel
theorem dX12_measures_214 : decode cX12_measures 214 = .ok (.aload_n 0, 1) := by decide +kernel
theorem dX12_measures_215 : decode cX12_measures 215 = .ok (.getfield 81, 3) := by decide +kernel
theorem dX12_measures_218 : decode cX12_measures 218 = .ok (.if_icmp .ge 50, 3) := by decide +kernel
theorem dX12_measures_221 : decode cX12_measures 221 = .ok (.aload_n 0, 1) := by decide +kernel
theorem dX12_measures_222 : decode cX12_measures 222 = .ok (.getfield 53, 3) := by decide +kernel
theorem dX12_measures_225 : decode cX12_measures 225 = .ok (.iload 6, 2) := by decide +kernel
theorem dX12_measures_227 : decode cX12_measures 227 = .ok (.iaload, 1) := by decide +kernel
theorem dX12_measures_228 : decode cX12_measures 228 = .ok (.ifCond .le 30, 3) := by decide +kernel
theorem dX12_measures_231 : decode cX12_measures 231 = .ok (.iload 5, 2) := by decide +kernel
theorem dX12_measures_233 : decode cX12_measures 233 = .ok (.ifCond .lt 20, 3) := by decide +kernel
theorem dX12_measures_236 : decode cX12_measures 236 = .ok (.aload_n 0, 1) := by decide +kernel
theorem dX12_measures_237 : decode cX12_measures 237 = .ok (.getfield 53, 3) := by decide +kernel
theorem dX12_measures_240 : decode cX12_measures 240 = .ok (.iload 6, 2) := by decide +kernel
theorem dX12_measures_242 : decode cX12_measures 242 = .ok (.iaload, 1) := by decide +kernel
theorem dX12_measures_243 : decode cX12_measures 243 = .ok (.aload_n 0, 1) := by decide +kernel
theorem dX12_measures_244 : decode cX12_measures 244 = .ok (.getfield 53, 3) := by decide +kernel
theorem dX12_measures_247 : decode cX12_measures 247 = .ok (.iload 5, 2) := by decide +kernel
theorem dX12_measures_249 : decode cX12_measures 249 = .ok (.iaload, 1) := by decide +kernel
theorem dX12_measures_250 : decode cX12_measures 250 = .ok (.if_icmp .le 8, 3) := by decide +kernel
theorem dX12_measures_253 : decode cX12_measures 253 = .ok (.iload 6, 2) := by decide +kernel
theorem dX12_measures_255 : decode cX12_measures 255 = .ok (.goto 5, 3) := by decide +kernel
theorem dX12_measures_258 : decode cX12_measures 258 = .ok (.iload 5, 2) := by decide +kernel
theorem dX12_measures_260 : decode cX12_measures 260 = .ok (.istore 5, 2) := by decide +kernel
theorem dX12_measures_262 : decode cX12_measures 262 = .ok (.iinc 6 1, 3) := by decide +kernel
theorem dX12_measures_265 : decode cX12_measures 265 = .ok (.goto (-53), 3) := by decide +kernel
theorem dX12_measures_268 : decode cX12_measures 268 = .ok (.iload_n 2, 1) := by decide +kernel
theorem dX12_measures_269 : decode cX12_measures 269 = .ok (.ifCond .ne 8, 3) := by decide +kernel
theorem dX12_measures_272 : decode cX12_measures 272 = .ok (.iload 4, 2) := by decide +kernel
theorem dX12_measures_274 : decode cX12_measures 274 = .ok (.goto 5, 3) := by decide +kernel
theorem dX12_measures_277 : decode cX12_measures 277 = .ok (.iload 5, 2) := by decide +kernel
theorem dX12_measures_279 : decode cX12_measures 279 = .ok (.ireturn, 1) := by decide +kernel
theorem dX12_wrongList_0 : decode cX12_wrongList 0 = .ok (.aload_n 0, 1) := by decide +kernel
theorem dX12_wrongList_1 : decode cX12_wrongList 1 = .ok (.iload_n 1, 1) := by decide +kernel
theorem dX12_wrongList_2 : decode cX12_wrongList 2 = .ok (.iconst 0, 1) := by decide +kernel
theorem dX12_wrongList_3 : decode cX12_wrongList 3 = .ok (.invokevirtual 177, 3) := by decide +kernel
theorem dX12_wrongList_6 : decode cX12_wrongList 6 = .ok (.istore_n 3, 1) := by decide +kernel
theorem dX12_wrongList_7 : decode cX12_wrongList 7 = .ok (.iload_n 3, 1) := by decide +kernel
theorem dX12_wrongList_8 : decode cX12_wrongList 8 = .ok (.ifCond .ge 5, 3) := by decide +kernel
theorem dX12_wrongList_11 : decode cX12_wrongList 11 = .ok (.iload_n 3, 1) := by decide +kernel
theorem dX12_wrongList_12 : decode cX12_wrongList 12 = .ok (.ireturn, 1) := by decide +kernel
theorem dX12_wrongList_13 : decode cX12_wrongList 13 = .ok (.aload_n 0, 1) := by decide +kernel
theorem dX12_wrongList_14 : decode cX12_wrongList 14 = .ok (.getfield 68, 3) := by decide +kernel
theorem dX12_wrongList_17 : decode cX12_wrongList 17 = .ok (.iload_n 1, 1) := by decide +kernel
theorem dX12_wrongList_18 : decode cX12_wrongList 18 = .ok (.iaload, 1) := by decide +kernel
theorem dX12_wrongList_19 : decode cX12_wrongList 19 = .ok (.i2l, 1) := by decide +kernel
theorem dX12_wrongList_20 : decode cX12_wrongList 20 = .ok (.lconst 1, 1) := by decide +kernel
theorem dX12_wrongList_21 : decode cX12_wrongList 21 = .ok (.iload_n 2, 1) := by decide +kernel
theorem dX12_wrongList_22 : decode cX12_wrongList 22 = .ok (.i2l, 1) := by decide +kernel
theorem dX12_wrongList_23 : decode cX12_wrongList 23 = .ok (.invokestatic 84, 3) := by decide +kernel
theorem dX12_wrongList_26 : decode cX12_wrongList 26 = .ok (.istore 4, 2) := by decide +kernel
theorem dX12_wrongList_28 : decode cX12_wrongList 28 = .ok (.iconst 0, 1) := by decide +kernel
theorem dX12_wrongList_29 : decode cX12_wrongList 29 = .ok (.istore 5, 2) := by decide +kernel
theorem dX12_wrongList_31 : decode cX12_wrongList 31 = .ok (.iload 5, 2) := by decide +kernel
theorem dX12_wrongList_33 : decode cX12_wrongList 33 = .ok (.aload_n 0, 1) := by decide +kernel
theorem dX12_wrongList_34 : decode cX12_wrongList 34 = .ok (.getfield 68, 3) := by decide +kernel
theorem dX12_wrongList_37 : decode cX12_wrongList 37 = .ok (.iload_n 1, 1) := by decide +kernel
theorem dX12_wrongList_38 : decode cX12_wrongList 38 = .ok (.iaload, 1) := by decide +kernel
theorem dX12_wrongList_39 : decode cX12_wrongList 39 = .ok (.if_icmp .ge 35, 3) := by decide +kernel
theorem dX12_wrongList_42 : decode cX12_wrongList 42 = .ok (.iload 4, 2) := by decide +kernel
theorem dX12_wrongList_44 : decode cX12_wrongList 44 = .ok (.ifCond .eq 30, 3) := by decide +kernel
theorem dX12_wrongList_47 : decode cX12_wrongList 47 = .ok (.aload_n 0, 1) := by decide +kernel
theorem dX12_wrongList_48 : decode cX12_wrongList 48 = .ok (.getfield 71, 3) := by decide +kernel
theorem dX12_wrongList_51 : decode cX12_wrongList 51 = .ok (.bipush 100, 2) := by decide +kernel
theorem dX12_wrongList_53 : decode cX12_wrongList 53 = .ok (.iload_n 1, 1) := by decide +kernel
theorem dX12_wrongList_54 : decode cX12_wrongList 54 = .ok (.imul, 1) := by decide +kernel
theorem dX12_wrongList_55 : decode cX12_wrongList 55 = .ok (.iload 5, 2) := by decide +kernel
theorem dX12_wrongList_57 : decode cX12_wrongList 57 = .ok (.iadd, 1) := by decide +kernel
theorem dX12_wrongList_58 : decode cX12_wrongList 58 = .ok (.laload, 1) := by decide +kernel
theorem dX12_wrongList_59 : decode cX12_wrongList 59 = .ok (.lconst 1, 1) := by decide +kernel
theorem dX12_wrongList_60 : decode cX12_wrongList 60 = .ok (.ldc2_w 225, 3) := by decide +kernel
theorem dX12_wrongList_63 : decode cX12_wrongList 63 = .ok (.invokestatic 84, 3) := by decide +kernel
theorem dX12_wrongList_66 : decode cX12_wrongList 66 = .ok (.istore 4, 2) := by decide +kernel
theorem dX12_wrongList_68 : decode cX12_wrongList 68 = .ok (.iinc 5 1, 3) := by decide +kernel
theorem dX12_wrongList_71 : decode cX12_wrongList 71 = .ok (.goto (-40), 3) := by decide +kernel
theorem dX12_wrongList_74 : decode cX12_wrongList 74 = .ok (.iload 4, 2) := by decide +kernel
theorem dX12_wrongList_76 : decode cX12_wrongList 76 = .ok (.ifCond .eq 7, 3) := by decide +kernel
theorem dX12_wrongList_79 : decode cX12_wrongList 79 = .ok (.iconst 0, 1) := by decide +kernel
theorem dX12_wrongList_80 : decode cX12_wrongList 80 = .ok (.goto 5, 3) := by decide +kernel
theorem dX12_wrongList_83 : decode cX12_wrongList 83 = .ok (.bipush (-13), 2) := by decide +kernel
theorem dX12_wrongList_85 : decode cX12_wrongList 85 = .ok (.ireturn, 1) := by decide +kernel
theorem dX12_dressGirls_0 : decode cX12_dressGirls 0 = .ok (.aload_n 0, 1) := by decide +kernel
theorem dX12_dressGirls_1 : decode cX12_dressGirls 1 = .ok (.iconst 0, 1) := by decide +kernel
theorem dX12_dressGirls_2 : decode cX12_dressGirls 2 = .ok (.putfield 231, 3) := by decide +kernel
theorem dX12_dressGirls_5 : decode cX12_dressGirls 5 = .ok (.aload_n 0, 1) := by decide +kernel
theorem dX12_dressGirls_6 : decode cX12_dressGirls 6 = .ok (.iconst 0, 1) := by decide +kernel
theorem dX12_dressGirls_7 : decode cX12_dressGirls 7 = .ok (.putfield 234, 3) := by decide +kernel
theorem dX12_dressGirls_10 : decode cX12_dressGirls 10 = .ok (.iconst 0, 1) := by decide +kernel
theorem dX12_dressGirls_11 : decode cX12_dressGirls 11 = .ok (.istore 4, 2) := by decide +kernel
theorem dX12_dressGirls_13 : decode cX12_dressGirls 13 = .ok (.iload 4, 2) := by decide +kernel
theorem dX12_dressGirls_15 : decode cX12_dressGirls 15 = .ok (.aload_n 0, 1) := by decide +kernel
theorem dX12_dressGirls_16 : decode cX12_dressGirls 16 = .ok (.getfield 68, 3) := by decide +kernel
theorem dX12_dressGirls_19 : decode cX12_dressGirls 19 = .ok (.iload_n 2, 1) := by decide +kernel
theorem dX12_dressGirls_20 : decode cX12_dressGirls 20 = .ok (.iaload, 1) := by decide +kernel
theorem dX12_dressGirls_21 : decode cX12_dressGirls 21 = .ok (.if_icmp .ge 138, 3) := by decide +kernel
theorem dX12_dressGirls_24 : decode cX12_dressGirls 24 = .ok (.aload_n 0, 1) := by decide +kernel
theorem dX12_dressGirls_25 : decode cX12_dressGirls 25 = .ok (.iload_n 2, 1) := by decide +kernel
theorem dX12_dressGirls_26 : decode cX12_dressGirls 26 = .ok (.iload 4, 2) := by decide +kernel
theorem dX12_dressGirls_28 : decode cX12_dressGirls 28 = .ok (.invokevirtual 213, 3) := by decide +kernel
theorem dX12_dressGirls_31 : decode cX12_dressGirls 31 = .ok (.aload_n 0, 1) := by decide +kernel
theorem dX12_dressGirls_32 : decode cX12_dressGirls 32 = .ok (.getfield 7, 3) := by decide +kernel
theorem dX12_dressGirls_35 : decode cX12_dressGirls 35 = .ok (.iadd, 1) := by decide +kernel
theorem dX12_dressGirls_36 : decode cX12_dressGirls 36 = .ok (.istore 5, 2) := by decide +kernel
theorem dX12_dressGirls_38 : decode cX12_dressGirls 38 = .ok (.iload_n 3, 1) := by decide +kernel
theorem dX12_dressGirls_39 : decode cX12_dressGirls 39 = .ok (.iload 5, 2) := by decide +kernel
theorem dX12_dressGirls_41 : decode cX12_dressGirls 41 = .ok (.if_icmp .lt 7, 3) := by decide +kernel
theorem dX12_dressGirls_44 : decode cX12_dressGirls 44 = .ok (.iload_n 3, 1) := by decide +kernel
theorem dX12_dressGirls_45 : decode cX12_dressGirls 45 = .ok (.goto 6, 3) := by decide +kernel
theorem dX12_dressGirls_48 : decode cX12_dressGirls 48 = .ok (.sipush 1000, 3) := by decide +kernel
theorem dX12_dressGirls_51 : decode cX12_dressGirls 51 = .ok (.istore 6, 2) := by decide +kernel
theorem dX12_dressGirls_53 : decode cX12_dressGirls 53 = .ok (.iconst 0, 1) := by decide +kernel
theorem dX12_dressGirls_54 : decode cX12_dressGirls 54 = .ok (.istore 7, 2) := by decide +kernel
theorem dX12_dressGirls_56 : decode cX12_dressGirls 56 = .ok (.iload 7, 2) := by decide +kernel
theorem dX12_dressGirls_58 : decode cX12_dressGirls 58 = .ok (.aload_n 0, 1) := by decide +kernel
theorem dX12_dressGirls_59 : decode cX12_dressGirls 59 = .ok (.getfield 68, 3) := by decide +kernel
theorem dX12_dressGirls_62 : decode cX12_dressGirls 62 = .ok (.iload_n 1, 1) := by decide +kernel
theorem dX12_dressGirls_63 : decode cX12_dressGirls 63 = .ok (.iaload, 1) := by decide +kernel
theorem dX12_dressGirls_64 : decode cX12_dressGirls 64 = .ok (.if_icmp .ge 41, 3) := by decide +kernel
theorem dX12_dressGirls_67 : decode cX12_dressGirls 67 = .ok (.aload_n 0, 1) := by decide +kernel
theorem dX12_dressGirls_68 : decode cX12_dressGirls 68 = .ok (.iload_n 1, 1) := by decide +kernel
theorem dX12_dressGirls_69 : decode cX12_dressGirls 69 = .ok (.iload 7, 2) := by decide +kernel
theorem dX12_dressGirls_71 : decode cX12_dressGirls 71 = .ok (.invokevirtual 213, 3) := by decide +kernel
theorem dX12_dressGirls_74 : decode cX12_dressGirls 74 = .ok (.istore 8, 2) := by decide +kernel
theorem dX12_dressGirls_76 : decode cX12_dressGirls 76 = .ok (.iload 8, 2) := by decide +kernel
theorem dX12_dressGirls_78 : decode cX12_dressGirls 78 = .ok (.iload 5, 2) := by decide +kernel
theorem dX12_dressGirls_80 : decode cX12_dressGirls 80 = .ok (.if_icmp .lt 15, 3) := by decide +kernel
theorem dX12_dressGirls_83 : decode cX12_dressGirls 83 = .ok (.iload 8, 2) := by decide +kernel
theorem dX12_dressGirls_85 : decode cX12_dressGirls 85 = .ok (.iload 6, 2) := by decide +kernel
theorem dX12_dressGirls_87 : decode cX12_dressGirls 87 = .ok (.if_icmp .ge 8, 3) := by decide +kernel
theorem dX12_dressGirls_90 : decode cX12_dressGirls 90 = .ok (.iload 8, 2) := by decide +kernel
theorem dX12_dressGirls_92 : decode cX12_dressGirls 92 = .ok (.goto 5, 3) := by decide +kernel
theorem dX12_dressGirls_95 : decode cX12_dressGirls 95 = .ok (.iload 6, 2) := by decide +kernel
theorem dX12_dressGirls_97 : decode cX12_dressGirls 97 = .ok (.istore 6, 2) := by decide +kernel
theorem dX12_dressGirls_99 : decode cX12_dressGirls 99 = .ok (.iinc 7 1, 3) := by decide +kernel
theorem dX12_dressGirls_102 : decode cX12_dressGirls 102 = .ok (.goto (-46), 3) := by decide +kernel
theorem dX12_dressGirls_105 : decode cX12_dressGirls 105 = .ok (.aload_n 0, 1) := by decide +kernel
theorem dX12_dressGirls_106 : decode cX12_dressGirls 106 = .ok (.dup, 1) := by decide +kernel
theorem dX12_dressGirls_107 : decode cX12_dressGirls 107 = .ok (.getfield 231, 3) := by decide +kernel
theorem dX12_dressGirls_110 : decode cX12_dressGirls 110 = .ok (.iload 6, 2) := by decide +kernel
theorem dX12_dressGirls_112 : decode cX12_dressGirls 112 = .ok (.sipush 1000, 3) := by decide +kernel
theorem dX12_dressGirls_115 : decode cX12_dressGirls 115 = .ok (.if_icmp .ne 7, 3) := by decide +kernel
theorem dX12_dressGirls_118 : decode cX12_dressGirls 118 = .ok (.iconst 1, 1) := by decide +kernel
theorem dX12_dressGirls_119 : decode cX12_dressGirls 119 = .ok (.goto 4, 3) := by decide +kernel
theorem dX12_dressGirls_122 : decode cX12_dressGirls 122 = .ok (.iconst 0, 1) := by decide +kernel
theorem dX12_dressGirls_123 : decode cX12_dressGirls 123 = .ok (.iadd, 1) := by decide +kernel
theorem dX12_dressGirls_124 : decode cX12_dressGirls 124 = .ok (.putfield 231, 3) := by decide +kernel
theorem dX12_dressGirls_127 : decode cX12_dressGirls 127 = .ok (.aload_n 0, 1) := by decide +kernel
theorem dX12_dressGirls_128 : decode cX12_dressGirls 128 = .ok (.dup, 1) := by decide +kernel
theorem dX12_dressGirls_129 : decode cX12_dressGirls 129 = .ok (.getfield 234, 3) := by decide +kernel
theorem dX12_dressGirls_132 : decode cX12_dressGirls 132 = .ok (.iload 6, 2) := by decide +kernel
theorem dX12_dressGirls_134 : decode cX12_dressGirls 134 = .ok (.sipush 1000, 3) := by decide +kernel
theorem dX12_dressGirls_137 : decode cX12_dressGirls 137 = .ok (.if_icmp .ne 7, 3) := by decide +kernel
theorem dX12_dressGirls_140 : decode cX12_dressGirls 140 = .ok (.iconst 0, 1) := by decide +kernel
theorem dX12_dressGirls_141 : decode cX12_dressGirls 141 = .ok (.goto 8, 3) := by decide +kernel
theorem dX12_dressGirls_144 : decode cX12_dressGirls 144 = .ok (.iload 6, 2) := by decide +kernel
theorem dX12_dressGirls_146 : decode cX12_dressGirls 146 = .ok (.iload 5, 2) := by decide +kernel
theorem dX12_dressGirls_148 : decode cX12_dressGirls 148 = .ok (.isub, 1) := by decide +kernel
theorem dX12_dressGirls_149 : decode cX12_dressGirls 149 = .ok (.iadd, 1) := by decide +kernel
theorem dX12_dressGirls_150 : decode cX12_dressGirls 150 = .ok (.putfield 234, 3) := by decide +kernel
theorem dX12_dressGirls_153 : decode cX12_dressGirls 153 = .ok (.iinc 4 1, 3) := by decide +kernel
theorem dX12_dressGirls_156 : decode cX12_dressGirls 156 = .ok (.goto (-143), 3) := by decide +kernel
theorem dX12_dressGirls_159 : decode cX12_dressGirls 159 = .ok (.return_, 1) := by decide +kernel
theorem dX12_sizes_0 : decode cX12_sizes 0 = .ok (.aload_n 0, 1) := by decide +kernel
theorem dX12_sizes_1 : decode cX12_sizes 1 = .ok (.iconst 0, 1) := by decide +kernel
theorem dX12_sizes_2 : decode cX12_sizes 2 = .ok (.putfield 78, 3) := by decide +kernel
theorem dX12_sizes_5 : decode cX12_sizes 5 = .ok (.iload_n 1, 1) := by decide +kernel
theorem dX12_sizes_6 : decode cX12_sizes 6 = .ok (.i2l, 1) := by decide +kernel
theorem dX12_sizes_7 : decode cX12_sizes 7 = .ok (.lconst 0, 1) := by decide +kernel
theorem dX12_sizes_8 : decode cX12_sizes 8 = .ok (.ldc2_w 198, 3) := by decide +kernel
theorem dX12_sizes_11 : decode cX12_sizes 11 = .ok (.invokestatic 84, 3) := by decide +kernel
theorem dX12_sizes_14 : decode cX12_sizes 14 = .ok (.ifCond .eq 27, 3) := by decide +kernel
theorem dX12_sizes_17 : decode cX12_sizes 17 = .ok (.iload_n 2, 1) := by decide +kernel
theorem dX12_sizes_18 : decode cX12_sizes 18 = .ok (.i2l, 1) := by decide +kernel
theorem dX12_sizes_19 : decode cX12_sizes 19 = .ok (.lconst 0, 1) := by decide +kernel
theorem dX12_sizes_20 : decode cX12_sizes 20 = .ok (.ldc2_w 198, 3) := by decide +kernel
theorem dX12_sizes_23 : decode cX12_sizes 23 = .ok (.invokestatic 84, 3) := by decide +kernel
theorem dX12_sizes_26 : decode cX12_sizes 26 = .ok (.ifCond .eq 15, 3) := by decide +kernel
theorem dX12_sizes_29 : decode cX12_sizes 29 = .ok (.iload_n 3, 1) := by decide +kernel
theorem dX12_sizes_30 : decode cX12_sizes 30 = .ok (.i2l, 1) := by decide +kernel
theorem dX12_sizes_31 : decode cX12_sizes 31 = .ok (.lconst 0, 1) := by decide +kernel
theorem dX12_sizes_32 : decode cX12_sizes 32 = .ok (.ldc2_w 237, 3) := by decide +kernel
theorem dX12_sizes_35 : decode cX12_sizes 35 = .ok (.invokestatic 84, 3) := by decide +kernel
theorem dX12_sizes_38 : decode cX12_sizes 38 = .ok (.ifCond .ne 7, 3) := by decide +kernel
theorem dX12_sizes_41 : decode cX12_sizes 41 = .ok (.iconst (-1), 1) := by decide +kernel
theorem dX12_sizes_42 : decode cX12_sizes 42 = .ok (.goto 10, 3) := by decide +kernel
theorem dX12_sizes_45 : decode cX12_sizes 45 = .ok (.aload_n 0, 1) := by decide +kernel
theorem dX12_sizes_46 : decode cX12_sizes 46 = .ok (.iload_n 1, 1) := by decide +kernel
theorem dX12_sizes_47 : decode cX12_sizes 47 = .ok (.bipush 6, 2) := by decide +kernel
theorem dX12_sizes_49 : decode cX12_sizes 49 = .ok (.invokevirtual 239, 3) := by decide +kernel
theorem dX12_sizes_52 : decode cX12_sizes 52 = .ok (.istore 4, 2) := by decide +kernel
theorem dX12_sizes_54 : decode cX12_sizes 54 = .ok (.iload 4, 2) := by decide +kernel
theorem dX12_sizes_56 : decode cX12_sizes 56 = .ok (.ifCond .ge 8, 3) := by decide +kernel
theorem dX12_sizes_59 : decode cX12_sizes 59 = .ok (.iload 4, 2) := by decide +kernel
theorem dX12_sizes_61 : decode cX12_sizes 61 = .ok (.goto 10, 3) := by decide +kernel
theorem dX12_sizes_64 : decode cX12_sizes 64 = .ok (.aload_n 0, 1) := by decide +kernel
theorem dX12_sizes_65 : decode cX12_sizes 65 = .ok (.iload_n 2, 1) := by decide +kernel
theorem dX12_sizes_66 : decode cX12_sizes 66 = .ok (.bipush 20, 2) := by decide +kernel
theorem dX12_sizes_68 : decode cX12_sizes 68 = .ok (.invokevirtual 239, 3) := by decide +kernel
theorem dX12_sizes_71 : decode cX12_sizes 71 = .ok (.istore 4, 2) := by decide +kernel
theorem dX12_sizes_73 : decode cX12_sizes 73 = .ok (.iload 4, 2) := by decide +kernel
theorem dX12_sizes_75 : decode cX12_sizes 75 = .ok (.ifCond .ge 6, 3) := by decide +kernel
theorem dX12_sizes_78 : decode cX12_sizes 78 = .ok (.iload 4, 2) := by decide +kernel
theorem dX12_sizes_80 : decode cX12_sizes 80 = .ok (.ireturn, 1) := by decide +kernel
theorem dX12_sizes_81 : decode cX12_sizes 81 = .ok (.iconst 0, 1) := by decide +kernel
theorem dX12_sizes_82 : decode cX12_sizes 82 = .ok (.istore 5, 2) := by decide +kernel
theorem dX12_sizes_84 : decode cX12_sizes 84 = .ok (.iconst 0, 1) := by decide +kernel
theorem dX12_sizes_85 : decode cX12_sizes 85 = .ok (.istore 6, 2) := by decide +kernel
theorem dX12_sizes_87 : decode cX12_sizes 87 = .ok (.iconst 0, 1) := by decide +kernel
theorem dX12_sizes_88 : decode cX12_sizes 88 = .ok (.istore 7, 2) := by decide +kernel
theorem dX12_sizes_90 : decode cX12_sizes 90 = .ok (.iconst 1, 1) := by decide +kernel
theorem dX12_sizes_91 : decode cX12_sizes 91 = .ok (.istore 8, 2) := by decide +kernel
theorem dX12_sizes_93 : decode cX12_sizes 93 = .ok (.iload 8, 2) := by decide +kernel
theorem dX12_sizes_95 : decode cX12_sizes 95 = .ok (.bipush 100, 2) := by decide +kernel
theorem dX12_sizes_97 : decode cX12_sizes 97 = .ok (.if_icmp .ge 65, 3) := by decide +kernel
theorem dX12_sizes_100 : decode cX12_sizes 100 = .ok (.aload_n 0, 1) := by decide +kernel
theorem dX12_sizes_101 : decode cX12_sizes 101 = .ok (.iload_n 1, 1) := by decide +kernel
theorem dX12_sizes_102 : decode cX12_sizes 102 = .ok (.iload_n 2, 1) := by decide +kernel
theorem dX12_sizes_103 : decode cX12_sizes 103 = .ok (.iload 8, 2) := by decide +kernel
theorem dX12_sizes_105 : decode cX12_sizes 105 = .ok (.invokevirtual 242, 3) := by decide +kernel
theorem dX12_sizes_108 : decode cX12_sizes 108 = .ok (.iload 5, 2) := by decide +kernel
theorem dX12_sizes_110 : decode cX12_sizes 110 = .ok (.ifCond .eq 30, 3) := by decide +kernel
theorem dX12_sizes_113 : decode cX12_sizes 113 = .ok (.aload_n 0, 1) := by decide +kernel
theorem dX12_sizes_114 : decode cX12_sizes 114 = .ok (.getfield 231, 3) := by decide +kernel
theorem dX12_sizes_117 : decode cX12_sizes 117 = .ok (.iload 6, 2) := by decide +kernel
theorem dX12_sizes_119 : decode cX12_sizes 119 = .ok (.if_icmp .lt 21, 3) := by decide +kernel
theorem dX12_sizes_122 : decode cX12_sizes 122 = .ok (.aload_n 0, 1) := by decide +kernel
theorem dX12_sizes_123 : decode cX12_sizes 123 = .ok (.getfield 231, 3) := by decide +kernel
theorem dX12_sizes_126 : decode cX12_sizes 126 = .ok (.iload 6, 2) := by decide +kernel
theorem dX12_sizes_128 : decode cX12_sizes 128 = .ok (.if_icmp .ne 28, 3) := by decide +kernel
theorem dX12_sizes_131 : decode cX12_sizes 131 = .ok (.aload_n 0, 1) := by decide +kernel
theorem dX12_sizes_132 : decode cX12_sizes 132 = .ok (.getfield 234, 3) := by decide +kernel
theorem dX12_sizes_135 : decode cX12_sizes 135 = .ok (.iload 7, 2) := by decide +kernel
theorem dX12_sizes_137 : decode cX12_sizes 137 = .ok (.if_icmp .ge 19, 3) := by decide +kernel
theorem dX12_sizes_140 : decode cX12_sizes 140 = .ok (.iload 8, 2) := by decide +kernel
theorem dX12_sizes_142 : decode cX12_sizes 142 = .ok (.istore 5, 2) := by decide +kernel
theorem dX12_sizes_144 : decode cX12_sizes 144 = .ok (.aload_n 0, 1) := by decide +kernel
theorem dX12_sizes_145 : decode cX12_sizes 145 = .ok (.getfield 231, 3) := by decide +kernel
theorem dX12_sizes_148 : decode cX12_sizes 148 = .ok (.istore 6, 2) := by decide +kernel
theorem dX12_sizes_150 : decode cX12_sizes 150 = .ok (.aload_n 0, 1) := by decide +kernel
theorem dX12_sizes_151 : decode cX12_sizes 151 = .ok (.getfield 234, 3) := by decide +kernel
theorem dX12_sizes_154 : decode cX12_sizes 154 = .ok (.istore 7, 2) := by decide +kernel
theorem dX12_sizes_156 : decode cX12_sizes 156 = .ok (.iinc 8 1, 3) := by decide +kernel
theorem dX12_sizes_159 : decode cX12_sizes 159 = .ok (.goto (-66), 3) := by decide +kernel
theorem dX12_sizes_162 : decode cX12_sizes 162 = .ok (.aload_n 0, 1) := by decide +kernel
theorem dX12_sizes_163 : decode cX12_sizes 163 = .ok (.iload_n 1, 1) := by decide +kernel
theorem dX12_sizes_164 : decode cX12_sizes 164 = .ok (.iload_n 2, 1) := by decide +kernel
theorem dX12_sizes_165 : decode cX12_sizes 165 = .ok (.iconst 0, 1) := by decide +kernel
theorem dX12_sizes_166 : decode cX12_sizes 166 = .ok (.invokevirtual 242, 3) := by decide +kernel
theorem dX12_sizes_169 : decode cX12_sizes 169 = .ok (.iload_n 3, 1) := by decide +kernel
theorem dX12_sizes_170 : decode cX12_sizes 170 = .ok (.ifCond .ne 10, 3) := by decide +kernel
theorem dX12_sizes_173 : decode cX12_sizes 173 = .ok (.aload_n 0, 1) := by decide +kernel
theorem dX12_sizes_174 : decode cX12_sizes 174 = .ok (.getfield 231, 3) := by decide +kernel
theorem dX12_sizes_177 : decode cX12_sizes 177 = .ok (.goto 17, 3) := by decide +kernel
theorem dX12_sizes_180 : decode cX12_sizes 180 = .ok (.iload_n 3, 1) := by decide +kernel
theorem dX12_sizes_181 : decode cX12_sizes 181 = .ok (.iconst 1, 1) := by decide +kernel
theorem dX12_sizes_182 : decode cX12_sizes 182 = .ok (.if_icmp .ne 10, 3) := by decide +kernel
theorem dX12_sizes_185 : decode cX12_sizes 185 = .ok (.aload_n 0, 1) := by decide +kernel
theorem dX12_sizes_186 : decode cX12_sizes 186 = .ok (.getfield 234, 3) := by decide +kernel
theorem dX12_sizes_189 : decode cX12_sizes 189 = .ok (.goto 5, 3) := by decide +kernel
theorem dX12_sizes_192 : decode cX12_sizes 192 = .ok (.iload 5, 2) := by decide +kernel
theorem dX12_sizes_194 : decode cX12_sizes 194 = .ok (.ireturn, 1) := by decide +kernel
theorem dX12_old_0 : decode cX12_old 0 = .ok (.aload_n 0, 1) := by decide +kernel
theorem dX12_old_1 : decode cX12_old 1 = .ok (.iconst 0, 1) := by decide +kernel
theorem dX12_old_2 : decode cX12_old 2 = .ok (.putfield 78, 3) := by decide +kernel
theorem dX12_old_5 : decode cX12_old 5 = .ok (.aload_n 0, 1) := by decide +kernel
theorem dX12_old_6 : decode cX12_old 6 = .ok (.iload_n 1, 1) := by decide +kernel
theorem dX12_old_7 : decode cX12_old 7 = .ok (.bipush 6, 2) := by decide +kernel
theorem dX12_old_9 : decode cX12_old 9 = .ok (.invokevirtual 239, 3) := by decide +kernel
theorem dX12_old_12 : decode cX12_old 12 = .ok (.istore_n 2, 1) := by decide +kernel
theorem dX12_old_13 : decode cX12_old 13 = .ok (.iload_n 2, 1) := by decide +kernel
theorem dX12_old_14 : decode cX12_old 14 = .ok (.ifCond .ge 5, 3) := by decide +kernel
theorem dX12_old_17 : decode cX12_old 17 = .ok (.iload_n 2, 1) := by decide +kernel
theorem dX12_old_18 : decode cX12_old 18 = .ok (.ireturn, 1) := by decide +kernel
theorem dX12_old_19 : decode cX12_old 19 = .ok (.iconst 0, 1) := by decide +kernel
theorem dX12_old_20 : decode cX12_old 20 = .ok (.istore_n 3, 1) := by decide +kernel
theorem dX12_old_21 : decode cX12_old 21 = .ok (.iconst 0, 1) := by decide +kernel
theorem dX12_old_22 : decode cX12_old 22 = .ok (.istore 4, 2) := by decide +kernel
theorem dX12_old_24 : decode cX12_old 24 = .ok (.iconst 0, 1) := by decide +kernel
theorem dX12_old_25 : decode cX12_old 25 = .ok (.istore 5, 2) := by decide +kernel
theorem dX12_old_27 : decode cX12_old 27 = .ok (.iconst 0, 1) := by decide +kernel
theorem dX12_old_28 : decode cX12_old 28 = .ok (.istore 6, 2) := by decide +kernel
theorem dX12_old_30 : decode cX12_old 30 = .ok (.iload 6, 2) := by decide +kernel
theorem dX12_old_32 : decode cX12_old 32 = .ok (.aload_n 0, 1) := by decide +kernel
theorem dX12_old_33 : decode cX12_old 33 = .ok (.getfield 68, 3) := by decide +kernel
theorem dX12_old_36 : decode cX12_old 36 = .ok (.iload_n 1, 1) := by decide +kernel
theorem dX12_old_37 : decode cX12_old 37 = .ok (.iaload, 1) := by decide +kernel
theorem dX12_old_38 : decode cX12_old 38 = .ok (.if_icmp .ge 230, 3) := by decide +kernel
theorem dX12_old_41 : decode cX12_old 41 = .ok (.iconst (-1), 1) := by decide +kernel
theorem dX12_old_42 : decode cX12_old 42 = .ok (.istore 7, 2) := by decide +kernel
theorem dX12_old_44 : decode cX12_old 44 = .ok (.iconst 0, 1) := by decide +kernel
theorem dX12_old_45 : decode cX12_old 45 = .ok (.istore 8, 2) := by decide +kernel
theorem dX12_old_47 : decode cX12_old 47 = .ok (.iload 8, 2) := by decide +kernel
theorem dX12_old_49 : decode cX12_old 49 = .ok (.aload_n 0, 1) := by decide +kernel
theorem dX12_old_50 : decode cX12_old 50 = .ok (.getfield 68, 3) := by decide +kernel
theorem dX12_old_53 : decode cX12_old 53 = .ok (.iload_n 1, 1) := by decide +kernel
theorem dX12_old_54 : decode cX12_old 54 = .ok (.iaload, 1) := by decide +kernel
theorem dX12_old_55 : decode cX12_old 55 = .ok (.if_icmp .ge 62, 3) := by decide +kernel
theorem dX12_old_58 : decode cX12_old 58 = .ok (.iload 4, 2) := by decide +kernel
theorem dX12_old_60 : decode cX12_old 60 = .ok (.iload 8, 2) := by decide +kernel
theorem dX12_old_62 : decode cX12_old 62 = .ok (.ishr, 1) := by decide +kernel
theorem dX12_old_63 : decode cX12_old 63 = .ok (.iconst 1, 1) := by decide +kernel
theorem dX12_old_64 : decode cX12_old 64 = .ok (.iand, 1) := by decide +kernel
theorem dX12_old_65 : decode cX12_old 65 = .ok (.ifCond .ne 29, 3) := by decide +kernel
theorem dX12_old_68 : decode cX12_old 68 = .ok (.iload 7, 2) := by decide +kernel
theorem dX12_old_70 : decode cX12_old 70 = .ok (.ifCond .lt 20, 3) := by decide +kernel
theorem dX12_old_73 : decode cX12_old 73 = .ok (.aload_n 0, 1) := by decide +kernel
theorem dX12_old_74 : decode cX12_old 74 = .ok (.iload_n 1, 1) := by decide +kernel
theorem dX12_old_75 : decode cX12_old 75 = .ok (.iload 8, 2) := by decide +kernel
theorem dX12_old_77 : decode cX12_old 77 = .ok (.invokevirtual 213, 3) := by decide +kernel
theorem dX12_old_80 : decode cX12_old 80 = .ok (.aload_n 0, 1) := by decide +kernel
theorem dX12_old_81 : decode cX12_old 81 = .ok (.iload_n 1, 1) := by decide +kernel
theorem dX12_old_82 : decode cX12_old 82 = .ok (.iload 7, 2) := by decide +kernel
theorem dX12_old_84 : decode cX12_old 84 = .ok (.invokevirtual 213, 3) := by decide +kernel
theorem dX12_old_87 : decode cX12_old 87 = .ok (.if_icmp .ge 7, 3) := by decide +kernel
theorem dX12_old_90 : decode cX12_old 90 = .ok (.iconst 1, 1) := by decide +kernel
theorem dX12_old_91 : decode cX12_old 91 = .ok (.goto 4, 3) := by decide +kernel
theorem dX12_old_94 : decode cX12_old 94 = .ok (.iconst 0, 1) := by decide +kernel
theorem dX12_old_95 : decode cX12_old 95 = .ok (.istore 9, 2) := by decide +kernel
theorem dX12_old_97 : decode cX12_old 97 = .ok (.iload 9, 2) := by decide +kernel
theorem dX12_old_99 : decode cX12_old 99 = .ok (.ifCond .eq 8, 3) := by decide +kernel
theorem dX12_old_102 : decode cX12_old 102 = .ok (.iload 8, 2) := by decide +kernel
theorem dX12_old_104 : decode cX12_old 104 = .ok (.goto 5, 3) := by decide +kernel
theorem dX12_old_107 : decode cX12_old 107 = .ok (.iload 7, 2) := by decide +kernel
theorem dX12_old_109 : decode cX12_old 109 = .ok (.istore 7, 2) := by decide +kernel
theorem dX12_old_111 : decode cX12_old 111 = .ok (.iinc 8 1, 3) := by decide +kernel
theorem dX12_old_114 : decode cX12_old 114 = .ok (.goto (-67), 3) := by decide +kernel
theorem dX12_old_117 : decode cX12_old 117 = .ok (.iload 4, 2) := by decide +kernel
theorem dX12_old_119 : decode cX12_old 119 = .ok (.iconst 1, 1) := by decide +kernel
theorem dX12_old_120 : decode cX12_old 120 = .ok (.iload 7, 2) := by decide +kernel
theorem dX12_old_122 : decode cX12_old 122 = .ok (.ishl, 1) := by decide +kernel
theorem dX12_old_123 : decode cX12_old 123 = .ok (.ior, 1) := by decide +kernel
theorem dX12_old_124 : decode cX12_old 124 = .ok (.istore 4, 2) := by decide +kernel
theorem dX12_old_126 : decode cX12_old 126 = .ok (.iconst (-1), 1) := by decide +kernel
theorem dX12_old_127 : decode cX12_old 127 = .ok (.istore 8, 2) := by decide +kernel
theorem dX12_old_129 : decode cX12_old 129 = .ok (.iconst 0, 1) := by decide +kernel
theorem dX12_old_130 : decode cX12_old 130 = .ok (.istore 9, 2) := by decide +kernel
theorem dX12_old_132 : decode cX12_old 132 = .ok (.iload 9, 2) := by decide +kernel
theorem dX12_old_134 : decode cX12_old 134 = .ok (.aload_n 0, 1) := by decide +kernel
theorem dX12_old_135 : decode cX12_old 135 = .ok (.getfield 81, 3) := by decide +kernel
theorem dX12_old_138 : decode cX12_old 138 = .ok (.if_icmp .ge 93, 3) := by decide +kernel
theorem dX12_old_141 : decode cX12_old 141 = .ok (.aload_n 0, 1) := by decide +kernel
theorem dX12_old_142 : decode cX12_old 142 = .ok (.getfield 20, 3) := by decide +kernel
theorem dX12_old_145 : decode cX12_old 145 = .ok (.iload 9, 2) := by decide +kernel
theorem dX12_old_147 : decode cX12_old 147 = .ok (.iaload, 1) := by decide +kernel
theorem dX12_old_148 : decode cX12_old 148 = .ok (.aload_n 0, 1) := by decide +kernel
theorem dX12_old_149 : decode cX12_old 149 = .ok (.getfield 23, 3) := by decide +kernel
theorem dX12_old_152 : decode cX12_old 152 = .ok (.iload 9, 2) := by decide +kernel
theorem dX12_old_154 : decode cX12_old 154 = .ok (.iaload, 1) := by decide +kernel
theorem dX12_old_155 : decode cX12_old 155 = .ok (.iadd, 1) := by decide +kernel
theorem dX12_old_156 : decode cX12_old 156 = .ok (.istore 10, 2) := by decide +kernel
theorem dX12_old_158 : decode cX12_old 158 = .ok (.iload_n 3, 1) := by decide +kernel
theorem dX12_old_159 : decode cX12_old 159 = .ok (.iload 9, 2) := by decide +kernel
theorem dX12_old_161 : decode cX12_old 161 = .ok (.ishr, 1) := by decide +kernel
theorem dX12_old_162 : decode cX12_old 162 = .ok (.iconst 1, 1) := by decide +kernel
theorem dX12_old_163 : decode cX12_old 163 = .ok (.iand, 1) := by decide +kernel
theorem dX12_old_164 : decode cX12_old 164 = .ok (.ifCond .ne 19, 3) := by decide +kernel
theorem dX12_old_167 : decode cX12_old 167 = .ok (.iload 10, 2) := by decide +kernel
theorem dX12_old_169 : decode cX12_old 169 = .ok (.aload_n 0, 1) := by decide +kernel
theorem dX12_old_170 : decode cX12_old 170 = .ok (.iload_n 1, 1) := by decide +kernel
theorem dX12_old_171 : decode cX12_old 171 = .ok (.iload 7, 2) := by decide +kernel
theorem dX12_old_173 : decode cX12_old 173 = .ok (.invokevirtual 213, 3) := by decide +kernel
theorem dX12_old_176 : decode cX12_old 176 = .ok (.if_icmp .lt 7, 3) := by decide +kernel
theorem dX12_old_179 : decode cX12_old 179 = .ok (.iconst 1, 1) := by decide +kernel
theorem dX12_old_180 : decode cX12_old 180 = .ok (.goto 4, 3) := by decide +kernel
theorem dX12_old_183 : decode cX12_old 183 = .ok (.iconst 0, 1) := by decide +kernel
theorem dX12_old_184 : decode cX12_old 184 = .ok (.istore 11, 2) := by decide +kernel
theorem dX12_old_186 : decode cX12_old 186 = .ok (.iload 11, 2) := by decide +kernel
theorem dX12_old_188 : decode cX12_old 188 = .ok (.ifCond .eq 33, 3) := by decide +kernel
theorem dX12_old_191 : decode cX12_old 191 = .ok (.iload 8, 2) := by decide +kernel
theorem dX12_old_193 : decode cX12_old 193 = .ok (.ifCond .lt 23, 3) := by decide +kernel
theorem dX12_old_196 : decode cX12_old 196 = .ok (.iload 10, 2) := by decide +kernel
theorem dX12_old_198 : decode cX12_old 198 = .ok (.aload_n 0, 1) := by decide +kernel
theorem dX12_old_199 : decode cX12_old 199 = .ok (.getfield 20, 3) := by decide +kernel
theorem dX12_old_202 : decode cX12_old 202 = .ok (.iload 8, 2) := by decide +kernel
theorem dX12_old_204 : decode cX12_old 204 = .ok (.iaload, 1) := by decide +kernel
theorem dX12_old_205 : decode cX12_old 205 = .ok (.aload_n 0, 1) := by decide +kernel
theorem dX12_old_206 : decode cX12_old 206 = .ok (.getfield 23, 3) := by decide +kernel
theorem dX12_old_209 : decode cX12_old 209 = .ok (.iload 8, 2) := by decide +kernel
theorem dX12_old_211 : decode cX12_old 211 = .ok (.iaload, 1) := by decide +kernel
theorem dX12_old_212 : decode cX12_old 212 = .ok (.iadd, 1) := by decide +kernel
theorem dX12_old_213 : decode cX12_old 213 = .ok (.if_icmp .ge 8, 3) := by decide +kernel
theorem dX12_old_216 : decode cX12_old 216 = .ok (.iload 9, 2) := by decide +kernel
theorem dX12_old_218 : decode cX12_old 218 = .ok (.goto 5, 3) := by decide +kernel
theorem dX12_old_221 : decode cX12_old 221 = .ok (.iload 8, 2) := by decide +kernel
theorem dX12_old_223 : decode cX12_old 223 = .ok (.istore 8, 2) := by decide +kernel
theorem dX12_old_225 : decode cX12_old 225 = .ok (.iinc 9 1, 3) := by decide +kernel
theorem dX12_old_228 : decode cX12_old 228 = .ok (.goto (-96), 3) := by decide +kernel
theorem dX12_old_231 : decode cX12_old 231 = .ok (.iload_n 3, 1) := by decide +kernel
theorem dX12_old_232 : decode cX12_old 232 = .ok (.iload 8, 2) := by decide +kernel
theorem dX12_old_234 : decode cX12_old 234 = .ok (.ifCond .ge 7, 3) := by decide +kernel
theorem dX12_old_237 : decode cX12_old 237 = .ok (.iconst 0, 1) := by decide +kernel
theorem dX12_old_238 : decode cX12_old 238 = .ok (.goto 7, 3) := by decide +kernel
theorem dX12_old_241 : decode cX12_old 241 = .ok (.iconst 1, 1) := by decide +kernel
theorem dX12_old_242 : decode cX12_old 242 = .ok (.iload 8, 2) := by decide +kernel
theorem dX12_old_244 : decode cX12_old 244 = .ok (.ishl, 1) := by decide +kernel
theorem dX12_old_245 : decode cX12_old 245 = .ok (.ior, 1) := by decide +kernel
theorem dX12_old_246 : decode cX12_old 246 = .ok (.istore_n 3, 1) := by decide +kernel
theorem dX12_old_247 : decode cX12_old 247 = .ok (.iload 5, 2) := by decide +kernel
theorem dX12_old_249 : decode cX12_old 249 = .ok (.iload 8, 2) := by decide +kernel
theorem dX12_old_251 : decode cX12_old 251 = .ok (.ifCond .ge 7, 3) := by decide +kernel
theorem dX12_old_254 : decode cX12_old 254 = .ok (.iconst 0, 1) := by decide +kernel
theorem dX12_old_255 : decode cX12_old 255 = .ok (.goto 4, 3) := by decide +kernel
theorem dX12_old_258 : decode cX12_old 258 = .ok (.iconst 1, 1) := by decide +kernel
theorem dX12_old_259 : decode cX12_old 259 = .ok (.iadd, 1) := by decide +kernel
theorem dX12_old_260 : decode cX12_old 260 = .ok (.istore 5, 2) := by decide +kernel
theorem dX12_old_262 : decode cX12_old 262 = .ok (.iinc 6 1, 3) := by decide +kernel
theorem dX12_old_265 : decode cX12_old 265 = .ok (.goto (-235), 3) := by decide +kernel
theorem dX12_old_268 : decode cX12_old 268 = .ok (.iload 5, 2) := by decide +kernel
theorem dX12_old_270 : decode cX12_old 270 = .ok (.ireturn, 1) := by decide +kernel
theorem dX12_shape_0 : decode cX12_shape 0 = .ok (.aload_n 0, 1) := by decide +kernel
theorem dX12_shape_1 : decode cX12_shape 1 = .ok (.iconst 0, 1) := by decide +kernel
theorem dX12_shape_2 : decode cX12_shape 2 = .ok (.putfield 78, 3) := by decide +kernel
theorem dX12_shape_5 : decode cX12_shape 5 = .ok (.aload_n 0, 1) := by decide +kernel
theorem dX12_shape_6 : decode cX12_shape 6 = .ok (.iload_n 1, 1) := by decide +kernel
theorem dX12_shape_7 : decode cX12_shape 7 = .ok (.invokevirtual 166, 3) := by decide +kernel
theorem dX12_shape_10 : decode cX12_shape 10 = .ok (.ifCond .eq 38, 3) := by decide +kernel
theorem dX12_shape_13 : decode cX12_shape 13 = .ok (.iload_n 2, 1) := by decide +kernel
theorem dX12_shape_14 : decode cX12_shape 14 = .ok (.i2l, 1) := by decide +kernel
theorem dX12_shape_15 : decode cX12_shape 15 = .ok (.lconst 0, 1) := by decide +kernel
theorem dX12_shape_16 : decode cX12_shape 16 = .ok (.ldc2_w 194, 3) := by decide +kernel
theorem dX12_shape_19 : decode cX12_shape 19 = .ok (.invokestatic 84, 3) := by decide +kernel
theorem dX12_shape_22 : decode cX12_shape 22 = .ok (.ifCond .eq 26, 3) := by decide +kernel
theorem dX12_shape_25 : decode cX12_shape 25 = .ok (.aload_n 0, 1) := by decide +kernel
theorem dX12_shape_26 : decode cX12_shape 26 = .ok (.getfield 20, 3) := by decide +kernel
theorem dX12_shape_29 : decode cX12_shape 29 = .ok (.iload_n 1, 1) := by decide +kernel
theorem dX12_shape_30 : decode cX12_shape 30 = .ok (.iaload, 1) := by decide +kernel
theorem dX12_shape_31 : decode cX12_shape 31 = .ok (.iload_n 2, 1) := by decide +kernel
theorem dX12_shape_32 : decode cX12_shape 32 = .ok (.iadd, 1) := by decide +kernel
theorem dX12_shape_33 : decode cX12_shape 33 = .ok (.aload_n 0, 1) := by decide +kernel
theorem dX12_shape_34 : decode cX12_shape 34 = .ok (.getfield 7, 3) := by decide +kernel
theorem dX12_shape_37 : decode cX12_shape 37 = .ok (.isub, 1) := by decide +kernel
theorem dX12_shape_38 : decode cX12_shape 38 = .ok (.aload_n 0, 1) := by decide +kernel
theorem dX12_shape_39 : decode cX12_shape 39 = .ok (.getfield 16, 3) := by decide +kernel
theorem dX12_shape_42 : decode cX12_shape 42 = .ok (.iload_n 1, 1) := by decide +kernel
theorem dX12_shape_43 : decode cX12_shape 43 = .ok (.iaload, 1) := by decide +kernel
theorem dX12_shape_44 : decode cX12_shape 44 = .ok (.isub, 1) := by decide +kernel
theorem dX12_shape_45 : decode cX12_shape 45 = .ok (.goto 5, 3) := by decide +kernel
theorem dX12_shape_48 : decode cX12_shape 48 = .ok (.ldc 206, 2) := by decide +kernel
theorem dX12_shape_50 : decode cX12_shape 50 = .ok (.ireturn, 1) := by decide +kernel
theorem dX12_draw_0 : decode cX12_draw 0 = .ok (.aload_n 0, 1) := by decide +kernel
theorem dX12_draw_1 : decode cX12_draw 1 = .ok (.aload_n 0, 1) := by decide +kernel
theorem dX12_draw_2 : decode cX12_draw 2 = .ok (.getfield 245, 3) := by decide +kernel
theorem dX12_draw_5 : decode cX12_draw 5 = .ok (.ldc 248, 2) := by decide +kernel
theorem dX12_draw_7 : decode cX12_draw 7 = .ok (.imul, 1) := by decide +kernel
theorem dX12_draw_8 : decode cX12_draw 8 = .ok (.sipush 12345, 3) := by decide +kernel
theorem dX12_draw_11 : decode cX12_draw 11 = .ok (.iadd, 1) := by decide +kernel
theorem dX12_draw_12 : decode cX12_draw 12 = .ok (.putfield 245, 3) := by decide +kernel
theorem dX12_draw_15 : decode cX12_draw 15 = .ok (.aload_n 0, 1) := by decide +kernel
theorem dX12_draw_16 : decode cX12_draw 16 = .ok (.getfield 245, 3) := by decide +kernel
theorem dX12_draw_19 : decode cX12_draw 19 = .ok (.ldc 249, 2) := by decide +kernel
theorem dX12_draw_21 : decode cX12_draw 21 = .ok (.iand, 1) := by decide +kernel
theorem dX12_draw_22 : decode cX12_draw 22 = .ok (.ldc 250, 2) := by decide +kernel
theorem dX12_draw_24 : decode cX12_draw 24 = .ok (.idiv, 1) := by decide +kernel
theorem dX12_draw_25 : decode cX12_draw 25 = .ok (.iload_n 1, 1) := by decide +kernel
theorem dX12_draw_26 : decode cX12_draw 26 = .ok (.irem, 1) := by decide +kernel
theorem dX12_draw_27 : decode cX12_draw 27 = .ok (.ireturn, 1) := by decide +kernel
theorem dX12_seeded_0 : decode cX12_seeded 0 = .ok (.aload_n 0, 1) := by decide +kernel
theorem dX12_seeded_1 : decode cX12_seeded 1 = .ok (.iconst 0, 1) := by decide +kernel
theorem dX12_seeded_2 : decode cX12_seeded 2 = .ok (.putfield 78, 3) := by decide +kernel
theorem dX12_seeded_5 : decode cX12_seeded 5 = .ok (.iload_n 1, 1) := by decide +kernel
theorem dX12_seeded_6 : decode cX12_seeded 6 = .ok (.i2l, 1) := by decide +kernel
theorem dX12_seeded_7 : decode cX12_seeded 7 = .ok (.lconst 1, 1) := by decide +kernel
theorem dX12_seeded_8 : decode cX12_seeded 8 = .ok (.ldc2_w 196, 3) := by decide +kernel
theorem dX12_seeded_11 : decode cX12_seeded 11 = .ok (.invokestatic 84, 3) := by decide +kernel
theorem dX12_seeded_14 : decode cX12_seeded 14 = .ok (.ifCond .eq 13, 3) := by decide +kernel
theorem dX12_seeded_17 : decode cX12_seeded 17 = .ok (.iload_n 3, 1) := by decide +kernel
theorem dX12_seeded_18 : decode cX12_seeded 18 = .ok (.i2l, 1) := by decide +kernel
theorem dX12_seeded_19 : decode cX12_seeded 19 = .ok (.lconst 0, 1) := by decide +kernel
theorem dX12_seeded_20 : decode cX12_seeded 20 = .ok (.lconst 1, 1) := by decide +kernel
theorem dX12_seeded_21 : decode cX12_seeded 21 = .ok (.invokestatic 84, 3) := by decide +kernel
theorem dX12_seeded_24 : decode cX12_seeded 24 = .ok (.ifCond .ne 5, 3) := by decide +kernel
theorem dX12_seeded_27 : decode cX12_seeded 27 = .ok (.iconst (-1), 1) := by decide +kernel
theorem dX12_seeded_28 : decode cX12_seeded 28 = .ok (.ireturn, 1) := by decide +kernel
theorem dX12_seeded_29 : decode cX12_seeded 29 = .ok (.aload_n 0, 1) := by decide +kernel
theorem dX12_seeded_30 : decode cX12_seeded 30 = .ok (.getfield 81, 3) := by decide +kernel
theorem dX12_seeded_33 : decode cX12_seeded 33 = .ok (.ifCond .ne 6, 3) := by decide +kernel
theorem dX12_seeded_36 : decode cX12_seeded 36 = .ok (.bipush (-3), 2) := by decide +kernel
theorem dX12_seeded_38 : decode cX12_seeded 38 = .ok (.ireturn, 1) := by decide +kernel
theorem dX12_seeded_39 : decode cX12_seeded 39 = .ok (.aload_n 0, 1) := by decide +kernel
theorem dX12_seeded_40 : decode cX12_seeded 40 = .ok (.invokevirtual 183, 3) := by decide +kernel
theorem dX12_seeded_43 : decode cX12_seeded 43 = .ok (.aload_n 0, 1) := by decide +kernel
theorem dX12_seeded_44 : decode cX12_seeded 44 = .ok (.iload_n 2, 1) := by decide +kernel
theorem dX12_seeded_45 : decode cX12_seeded 45 = .ok (.putfield 245, 3) := by decide +kernel
theorem dX12_seeded_48 : decode cX12_seeded 48 = .ok (.iconst 0, 1) := by decide +kernel
theorem dX12_seeded_49 : decode cX12_seeded 49 = .ok (.istore 4, 2) := by decide +kernel
theorem dX12_seeded_51 : decode cX12_seeded 51 = .ok (.iconst 0, 1) := by decide +kernel
theorem dX12_seeded_52 : decode cX12_seeded 52 = .ok (.istore 5, 2) := by decide +kernel
theorem dX12_seeded_54 : decode cX12_seeded 54 = .ok (.iload 5, 2) := by decide +kernel
theorem dX12_seeded_56 : decode cX12_seeded 56 = .ok (.iload_n 1, 1) := by decide +kernel
theorem dX12_seeded_57 : decode cX12_seeded 57 = .ok (.if_icmp .ge 61, 3) := by decide +kernel
theorem dX12_seeded_60 : decode cX12_seeded 60 = .ok (.aload_n 0, 1) := by decide +kernel
theorem dX12_seeded_61 : decode cX12_seeded 61 = .ok (.aload_n 0, 1) := by decide +kernel
theorem dX12_seeded_62 : decode cX12_seeded 62 = .ok (.getfield 81, 3) := by decide +kernel
theorem dX12_seeded_65 : decode cX12_seeded 65 = .ok (.invokevirtual 251, 3) := by decide +kernel
theorem dX12_seeded_68 : decode cX12_seeded 68 = .ok (.istore 6, 2) := by decide +kernel
theorem dX12_seeded_70 : decode cX12_seeded 70 = .ok (.aload_n 0, 1) := by decide +kernel
theorem dX12_seeded_71 : decode cX12_seeded 71 = .ok (.bipush 8, 2) := by decide +kernel
theorem dX12_seeded_73 : decode cX12_seeded 73 = .ok (.invokevirtual 251, 3) := by decide +kernel
theorem dX12_seeded_76 : decode cX12_seeded 76 = .ok (.istore 7, 2) := by decide +kernel
theorem dX12_seeded_78 : decode cX12_seeded 78 = .ok (.aload_n 0, 1) := by decide +kernel
theorem dX12_seeded_79 : decode cX12_seeded 79 = .ok (.bipush 10, 2) := by decide +kernel
theorem dX12_seeded_81 : decode cX12_seeded 81 = .ok (.invokevirtual 251, 3) := by decide +kernel
theorem dX12_seeded_84 : decode cX12_seeded 84 = .ok (.istore 8, 2) := by decide +kernel
theorem dX12_seeded_86 : decode cX12_seeded 86 = .ok (.aload_n 0, 1) := by decide +kernel
theorem dX12_seeded_87 : decode cX12_seeded 87 = .ok (.iload 7, 2) := by decide +kernel
theorem dX12_seeded_89 : decode cX12_seeded 89 = .ok (.iload 8, 2) := by decide +kernel
theorem dX12_seeded_91 : decode cX12_seeded 91 = .ok (.iload 6, 2) := by decide +kernel
theorem dX12_seeded_93 : decode cX12_seeded 93 = .ok (.invokevirtual 169, 3) := by decide +kernel
theorem dX12_seeded_96 : decode cX12_seeded 96 = .ok (.ifCond .eq 16, 3) := by decide +kernel
theorem dX12_seeded_99 : decode cX12_seeded 99 = .ok (.aload_n 0, 1) := by decide +kernel
theorem dX12_seeded_100 : decode cX12_seeded 100 = .ok (.iload 7, 2) := by decide +kernel
theorem dX12_seeded_102 : decode cX12_seeded 102 = .ok (.iload 8, 2) := by decide +kernel
theorem dX12_seeded_104 : decode cX12_seeded 104 = .ok (.iload 6, 2) := by decide +kernel
theorem dX12_seeded_106 : decode cX12_seeded 106 = .ok (.invokevirtual 173, 3) := by decide +kernel
theorem dX12_seeded_109 : decode cX12_seeded 109 = .ok (.iinc 4 1, 3) := by decide +kernel
theorem dX12_seeded_112 : decode cX12_seeded 112 = .ok (.iinc 5 1, 3) := by decide +kernel
theorem dX12_seeded_115 : decode cX12_seeded 115 = .ok (.goto (-61), 3) := by decide +kernel
theorem dX12_seeded_118 : decode cX12_seeded 118 = .ok (.aload_n 0, 1) := by decide +kernel
theorem dX12_seeded_119 : decode cX12_seeded 119 = .ok (.invokevirtual 203, 3) := by decide +kernel
theorem dX12_seeded_122 : decode cX12_seeded 122 = .ok (.istore 5, 2) := by decide +kernel
theorem dX12_seeded_124 : decode cX12_seeded 124 = .ok (.aload_n 0, 1) := by decide +kernel
theorem dX12_seeded_125 : decode cX12_seeded 125 = .ok (.invokevirtual 189, 3) := by decide +kernel
theorem dX12_seeded_128 : decode cX12_seeded 128 = .ok (.iload_n 3, 1) := by decide +kernel
theorem dX12_seeded_129 : decode cX12_seeded 129 = .ok (.ifCond .ne 8, 3) := by decide +kernel
theorem dX12_seeded_132 : decode cX12_seeded 132 = .ok (.iload 5, 2) := by decide +kernel
theorem dX12_seeded_134 : decode cX12_seeded 134 = .ok (.goto 5, 3) := by decide +kernel
theorem dX12_seeded_137 : decode cX12_seeded 137 = .ok (.iload 4, 2) := by decide +kernel
theorem dX12_seeded_139 : decode cX12_seeded 139 = .ok (.ireturn, 1) := by decide +kernel
theorem dX12_skippedIn_0 : decode cX12_skippedIn 0 = .ok (.aload_n 0, 1) := by decide +kernel
theorem dX12_skippedIn_1 : decode cX12_skippedIn 1 = .ok (.getfield 65, 3) := by decide +kernel
theorem dX12_skippedIn_4 : decode cX12_skippedIn 4 = .ok (.iload_n 1, 1) := by decide +kernel
theorem dX12_skippedIn_5 : decode cX12_skippedIn 5 = .ok (.iaload, 1) := by decide +kernel
theorem dX12_skippedIn_6 : decode cX12_skippedIn 6 = .ok (.ifCond .ne 9, 3) := by decide +kernel
theorem dX12_skippedIn_9 : decode cX12_skippedIn 9 = .ok (.ldc2_w 254, 3) := by decide +kernel
theorem dX12_skippedIn_12 : decode cX12_skippedIn 12 = .ok (.goto 22, 3) := by decide +kernel
theorem dX12_skippedIn_15 : decode cX12_skippedIn 15 = .ok (.aload_n 0, 1) := by decide +kernel
theorem dX12_skippedIn_16 : decode cX12_skippedIn 16 = .ok (.getfield 65, 3) := by decide +kernel
theorem dX12_skippedIn_19 : decode cX12_skippedIn 19 = .ok (.iload_n 1, 1) := by decide +kernel
theorem dX12_skippedIn_20 : decode cX12_skippedIn 20 = .ok (.iaload, 1) := by decide +kernel
theorem dX12_skippedIn_21 : decode cX12_skippedIn 21 = .ok (.iconst 1, 1) := by decide +kernel
theorem dX12_skippedIn_22 : decode cX12_skippedIn 22 = .ok (.if_icmp .ne 9, 3) := by decide +kernel
theorem dX12_skippedIn_25 : decode cX12_skippedIn 25 = .ok (.ldc2_w 256, 3) := by decide +kernel
theorem dX12_skippedIn_28 : decode cX12_skippedIn 28 = .ok (.goto 6, 3) := by decide +kernel
theorem dX12_skippedIn_31 : decode cX12_skippedIn 31 = .ok (.ldc2_w 258, 3) := by decide +kernel
theorem dX12_skippedIn_34 : decode cX12_skippedIn 34 = .ok (.lreturn, 1) := by decide +kernel
theorem dX12_judge_0 : decode cX12_judge 0 = .ok (.aload_n 0, 1) := by decide +kernel
theorem dX12_judge_1 : decode cX12_judge 1 = .ok (.iconst 0, 1) := by decide +kernel
theorem dX12_judge_2 : decode cX12_judge 2 = .ok (.putfield 78, 3) := by decide +kernel
theorem dX12_judge_5 : decode cX12_judge 5 = .ok (.iload_n 1, 1) := by decide +kernel
theorem dX12_judge_6 : decode cX12_judge 6 = .ok (.i2l, 1) := by decide +kernel
theorem dX12_judge_7 : decode cX12_judge 7 = .ok (.lconst 0, 1) := by decide +kernel
theorem dX12_judge_8 : decode cX12_judge 8 = .ok (.ldc2_w 192, 3) := by decide +kernel
theorem dX12_judge_11 : decode cX12_judge 11 = .ok (.invokestatic 84, 3) := by decide +kernel
theorem dX12_judge_14 : decode cX12_judge 14 = .ok (.ifCond .eq 11, 3) := by decide +kernel
theorem dX12_judge_17 : decode cX12_judge 17 = .ok (.aload_n 0, 1) := by decide +kernel
theorem dX12_judge_18 : decode cX12_judge 18 = .ok (.iload_n 2, 1) := by decide +kernel
theorem dX12_judge_19 : decode cX12_judge 19 = .ok (.invokevirtual 260, 3) := by decide +kernel
theorem dX12_judge_22 : decode cX12_judge 22 = .ok (.goto 4, 3) := by decide +kernel
theorem dX12_judge_25 : decode cX12_judge 25 = .ok (.iconst (-1), 1) := by decide +kernel
theorem dX12_judge_26 : decode cX12_judge 26 = .ok (.istore_n 3, 1) := by decide +kernel
theorem dX12_judge_27 : decode cX12_judge 27 = .ok (.iload_n 3, 1) := by decide +kernel
theorem dX12_judge_28 : decode cX12_judge 28 = .ok (.ifCond .ge 5, 3) := by decide +kernel
theorem dX12_judge_31 : decode cX12_judge 31 = .ok (.iload_n 3, 1) := by decide +kernel
theorem dX12_judge_32 : decode cX12_judge 32 = .ok (.ireturn, 1) := by decide +kernel
theorem dX12_judge_33 : decode cX12_judge 33 = .ok (.iconst 0, 1) := by decide +kernel
theorem dX12_judge_34 : decode cX12_judge 34 = .ok (.istore 4, 2) := by decide +kernel
theorem dX12_judge_36 : decode cX12_judge 36 = .ok (.iload 4, 2) := by decide +kernel
theorem dX12_judge_38 : decode cX12_judge 38 = .ok (.aload_n 0, 1) := by decide +kernel
theorem dX12_judge_39 : decode cX12_judge 39 = .ok (.getfield 81, 3) := by decide +kernel
theorem dX12_judge_42 : decode cX12_judge 42 = .ok (.if_icmp .ge 62, 3) := by decide +kernel
theorem dX12_judge_45 : decode cX12_judge 45 = .ok (.iload 4, 2) := by decide +kernel
theorem dX12_judge_47 : decode cX12_judge 47 = .ok (.aload_n 0, 1) := by decide +kernel
theorem dX12_judge_48 : decode cX12_judge 48 = .ok (.getfield 68, 3) := by decide +kernel
theorem dX12_judge_51 : decode cX12_judge 51 = .ok (.iload_n 2, 1) := by decide +kernel
theorem dX12_judge_52 : decode cX12_judge 52 = .ok (.iaload, 1) := by decide +kernel
theorem dX12_judge_53 : decode cX12_judge 53 = .ok (.if_icmp .ge 51, 3) := by decide +kernel
theorem dX12_judge_56 : decode cX12_judge 56 = .ok (.aload_n 0, 1) := by decide +kernel
theorem dX12_judge_57 : decode cX12_judge 57 = .ok (.getfield 71, 3) := by decide +kernel
theorem dX12_judge_60 : decode cX12_judge 60 = .ok (.bipush 100, 2) := by decide +kernel
theorem dX12_judge_62 : decode cX12_judge 62 = .ok (.iload_n 2, 1) := by decide +kernel
theorem dX12_judge_63 : decode cX12_judge 63 = .ok (.imul, 1) := by decide +kernel
theorem dX12_judge_64 : decode cX12_judge 64 = .ok (.iload 4, 2) := by decide +kernel
theorem dX12_judge_66 : decode cX12_judge 66 = .ok (.iadd, 1) := by decide +kernel
theorem dX12_judge_67 : decode cX12_judge 67 = .ok (.laload, 1) := by decide +kernel
theorem dX12_judge_68 : decode cX12_judge 68 = .ok (.lstore 5, 2) := by decide +kernel
theorem dX12_judge_70 : decode cX12_judge 70 = .ok (.lload 5, 2) := by decide +kernel
theorem dX12_judge_72 : decode cX12_judge 72 = .ok (.aload_n 0, 1) := by decide +kernel
theorem dX12_judge_73 : decode cX12_judge 73 = .ok (.iload_n 2, 1) := by decide +kernel
theorem dX12_judge_74 : decode cX12_judge 74 = .ok (.invokevirtual 263, 3) := by decide +kernel
theorem dX12_judge_77 : decode cX12_judge 77 = .ok (.lcmp, 1) := by decide +kernel
theorem dX12_judge_78 : decode cX12_judge 78 = .ok (.ifCond .eq 20, 3) := by decide +kernel
theorem dX12_judge_81 : decode cX12_judge 81 = .ok (.lload 5, 2) := by decide +kernel
theorem dX12_judge_83 : decode cX12_judge 83 = .ok (.aload_n 0, 1) := by decide +kernel
theorem dX12_judge_84 : decode cX12_judge 84 = .ok (.iload 4, 2) := by decide +kernel
theorem dX12_judge_86 : decode cX12_judge 86 = .ok (.iload_n 1, 1) := by decide +kernel
theorem dX12_judge_87 : decode cX12_judge 87 = .ok (.invokevirtual 88, 3) := by decide +kernel
theorem dX12_judge_90 : decode cX12_judge 90 = .ok (.i2l, 1) := by decide +kernel
theorem dX12_judge_91 : decode cX12_judge 91 = .ok (.lcmp, 1) := by decide +kernel
theorem dX12_judge_92 : decode cX12_judge 92 = .ok (.ifCond .eq 6, 3) := by decide +kernel
theorem dX12_judge_95 : decode cX12_judge 95 = .ok (.iload 4, 2) := by decide +kernel
theorem dX12_judge_97 : decode cX12_judge 97 = .ok (.ireturn, 1) := by decide +kernel
theorem dX12_judge_98 : decode cX12_judge 98 = .ok (.iinc 4 1, 3) := by decide +kernel
theorem dX12_judge_101 : decode cX12_judge 101 = .ok (.goto (-65), 3) := by decide +kernel
theorem dX12_judge_104 : decode cX12_judge 104 = .ok (.aload_n 0, 1) := by decide +kernel
theorem dX12_judge_105 : decode cX12_judge 105 = .ok (.getfield 68, 3) := by decide +kernel
theorem dX12_judge_108 : decode cX12_judge 108 = .ok (.iload_n 2, 1) := by decide +kernel
theorem dX12_judge_109 : decode cX12_judge 109 = .ok (.iaload, 1) := by decide +kernel
theorem dX12_judge_110 : decode cX12_judge 110 = .ok (.aload_n 0, 1) := by decide +kernel
theorem dX12_judge_111 : decode cX12_judge 111 = .ok (.getfield 81, 3) := by decide +kernel
theorem dX12_judge_114 : decode cX12_judge 114 = .ok (.if_icmp .ge 12, 3) := by decide +kernel
theorem dX12_judge_117 : decode cX12_judge 117 = .ok (.aload_n 0, 1) := by decide +kernel
theorem dX12_judge_118 : decode cX12_judge 118 = .ok (.getfield 68, 3) := by decide +kernel
theorem dX12_judge_121 : decode cX12_judge 121 = .ok (.iload_n 2, 1) := by decide +kernel
theorem dX12_judge_122 : decode cX12_judge 122 = .ok (.iaload, 1) := by decide +kernel
theorem dX12_judge_123 : decode cX12_judge 123 = .ok (.goto 25, 3) := by decide +kernel
theorem dX12_judge_126 : decode cX12_judge 126 = .ok (.aload_n 0, 1) := by decide +kernel
theorem dX12_judge_127 : decode cX12_judge 127 = .ok (.getfield 68, 3) := by decide +kernel
theorem dX12_judge_130 : decode cX12_judge 130 = .ok (.iload_n 2, 1) := by decide +kernel
theorem dX12_judge_131 : decode cX12_judge 131 = .ok (.iaload, 1) := by decide +kernel
theorem dX12_judge_132 : decode cX12_judge 132 = .ok (.aload_n 0, 1) := by decide +kernel
theorem dX12_judge_133 : decode cX12_judge 133 = .ok (.getfield 81, 3) := by decide +kernel
theorem dX12_judge_136 : decode cX12_judge 136 = .ok (.if_icmp .le 10, 3) := by decide +kernel
theorem dX12_judge_139 : decode cX12_judge 139 = .ok (.aload_n 0, 1) := by decide +kernel
theorem dX12_judge_140 : decode cX12_judge 140 = .ok (.getfield 81, 3) := by decide +kernel
theorem dX12_judge_143 : decode cX12_judge 143 = .ok (.goto 5, 3) := by decide +kernel
theorem dX12_judge_146 : decode cX12_judge 146 = .ok (.bipush (-4), 2) := by decide +kernel
theorem dX12_judge_148 : decode cX12_judge 148 = .ok (.ireturn, 1) := by decide +kernel
theorem dX12_count_0 : decode cX12_count 0 = .ok (.aload_n 0, 1) := by decide +kernel
theorem dX12_count_1 : decode cX12_count 1 = .ok (.iconst 0, 1) := by decide +kernel
theorem dX12_count_2 : decode cX12_count 2 = .ok (.putfield 78, 3) := by decide +kernel
theorem dX12_count_5 : decode cX12_count 5 = .ok (.iconst 0, 1) := by decide +kernel
theorem dX12_count_6 : decode cX12_count 6 = .ok (.istore_n 2, 1) := by decide +kernel
theorem dX12_count_7 : decode cX12_count 7 = .ok (.iconst 0, 1) := by decide +kernel
theorem dX12_count_8 : decode cX12_count 8 = .ok (.istore_n 3, 1) := by decide +kernel
theorem dX12_count_9 : decode cX12_count 9 = .ok (.iconst 0, 1) := by decide +kernel
theorem dX12_count_10 : decode cX12_count 10 = .ok (.istore 4, 2) := by decide +kernel
theorem dX12_count_12 : decode cX12_count 12 = .ok (.iload 4, 2) := by decide +kernel
theorem dX12_count_14 : decode cX12_count 14 = .ok (.aload_n 0, 1) := by decide +kernel
theorem dX12_count_15 : decode cX12_count 15 = .ok (.getfield 81, 3) := by decide +kernel
theorem dX12_count_18 : decode cX12_count 18 = .ok (.if_icmp .ge 29, 3) := by decide +kernel
theorem dX12_count_21 : decode cX12_count 21 = .ok (.iload_n 2, 1) := by decide +kernel
theorem dX12_count_22 : decode cX12_count 22 = .ok (.aload_n 0, 1) := by decide +kernel
theorem dX12_count_23 : decode cX12_count 23 = .ok (.getfield 23, 3) := by decide +kernel
theorem dX12_count_26 : decode cX12_count 26 = .ok (.iload 4, 2) := by decide +kernel
theorem dX12_count_28 : decode cX12_count 28 = .ok (.iaload, 1) := by decide +kernel
theorem dX12_count_29 : decode cX12_count 29 = .ok (.iadd, 1) := by decide +kernel
theorem dX12_count_30 : decode cX12_count 30 = .ok (.istore_n 2, 1) := by decide +kernel
theorem dX12_count_31 : decode cX12_count 31 = .ok (.iload_n 3, 1) := by decide +kernel
theorem dX12_count_32 : decode cX12_count 32 = .ok (.aload_n 0, 1) := by decide +kernel
theorem dX12_count_33 : decode cX12_count 33 = .ok (.getfield 20, 3) := by decide +kernel
theorem dX12_count_36 : decode cX12_count 36 = .ok (.iload 4, 2) := by decide +kernel
theorem dX12_count_38 : decode cX12_count 38 = .ok (.iaload, 1) := by decide +kernel
theorem dX12_count_39 : decode cX12_count 39 = .ok (.iadd, 1) := by decide +kernel
theorem dX12_count_40 : decode cX12_count 40 = .ok (.istore_n 3, 1) := by decide +kernel
theorem dX12_count_41 : decode cX12_count 41 = .ok (.iinc 4 1, 3) := by decide +kernel
theorem dX12_count_44 : decode cX12_count 44 = .ok (.goto (-32), 3) := by decide +kernel
theorem dX12_count_47 : decode cX12_count 47 = .ok (.iload_n 1, 1) := by decide +kernel
theorem dX12_count_48 : decode cX12_count 48 = .ok (.tableswitch 73 0 6 #[44, 49, 54, 59, 64, 69, 71], 44) := by decide +kernel
theorem dX12_count_92 : decode cX12_count 92 = .ok (.aload_n 0, 1) := by decide +kernel
theorem dX12_count_93 : decode cX12_count 93 = .ok (.getfield 81, 3) := by decide +kernel
theorem dX12_count_96 : decode cX12_count 96 = .ok (.ireturn, 1) := by decide +kernel
theorem dX12_count_97 : decode cX12_count 97 = .ok (.aload_n 0, 1) := by decide +kernel
theorem dX12_count_98 : decode cX12_count 98 = .ok (.getfield 92, 3) := by decide +kernel
theorem dX12_count_101 : decode cX12_count 101 = .ok (.ireturn, 1) := by decide +kernel
theorem dX12_count_102 : decode cX12_count 102 = .ok (.aload_n 0, 1) := by decide +kernel
theorem dX12_count_103 : decode cX12_count 103 = .ok (.getfield 102, 3) := by decide +kernel
theorem dX12_count_106 : decode cX12_count 106 = .ok (.ireturn, 1) := by decide +kernel
theorem dX12_count_107 : decode cX12_count 107 = .ok (.aload_n 0, 1) := by decide +kernel
theorem dX12_count_108 : decode cX12_count 108 = .ok (.getfield 7, 3) := by decide +kernel
theorem dX12_count_111 : decode cX12_count 111 = .ok (.ireturn, 1) := by decide +kernel
theorem dX12_count_112 : decode cX12_count 112 = .ok (.aload_n 0, 1) := by decide +kernel
theorem dX12_count_113 : decode cX12_count 113 = .ok (.getfield 13, 3) := by decide +kernel
theorem dX12_count_116 : decode cX12_count 116 = .ok (.ireturn, 1) := by decide +kernel
theorem dX12_count_117 : decode cX12_count 117 = .ok (.iload_n 2, 1) := by decide +kernel
theorem dX12_count_118 : decode cX12_count 118 = .ok (.ireturn, 1) := by decide +kernel
theorem dX12_count_119 : decode cX12_count 119 = .ok (.iload_n 3, 1) := by decide +kernel
theorem dX12_count_120 : decode cX12_count 120 = .ok (.ireturn, 1) := by decide +kernel
theorem dX12_count_121 : decode cX12_count 121 = .ok (.iconst (-1), 1) := by decide +kernel
theorem dX12_count_122 : decode cX12_count 122 = .ok (.ireturn, 1) := by decide +kernel
theorem dX12_wrongSort_0 : decode cX12_wrongSort 0 = .ok (.aload_n 0, 1) := by decide +kernel
theorem dX12_wrongSort_1 : decode cX12_wrongSort 1 = .ok (.iload_n 1, 1) := by decide +kernel
theorem dX12_wrongSort_2 : decode cX12_wrongSort 2 = .ok (.invokevirtual 260, 3) := by decide +kernel
theorem dX12_wrongSort_5 : decode cX12_wrongSort 5 = .ok (.ifCond .ge 11, 3) := by decide +kernel
theorem dX12_wrongSort_8 : decode cX12_wrongSort 8 = .ok (.aload_n 0, 1) := by decide +kernel
theorem dX12_wrongSort_9 : decode cX12_wrongSort 9 = .ok (.iload_n 1, 1) := by decide +kernel
theorem dX12_wrongSort_10 : decode cX12_wrongSort 10 = .ok (.invokevirtual 260, 3) := by decide +kernel
theorem dX12_wrongSort_13 : decode cX12_wrongSort 13 = .ok (.goto 19, 3) := by decide +kernel
theorem dX12_wrongSort_16 : decode cX12_wrongSort 16 = .ok (.aload_n 0, 1) := by decide +kernel
theorem dX12_wrongSort_17 : decode cX12_wrongSort 17 = .ok (.getfield 65, 3) := by decide +kernel
theorem dX12_wrongSort_20 : decode cX12_wrongSort 20 = .ok (.iload_n 1, 1) := by decide +kernel
theorem dX12_wrongSort_21 : decode cX12_wrongSort 21 = .ok (.iaload, 1) := by decide +kernel
theorem dX12_wrongSort_22 : decode cX12_wrongSort 22 = .ok (.iload_n 2, 1) := by decide +kernel
theorem dX12_wrongSort_23 : decode cX12_wrongSort 23 = .ok (.if_icmp .eq 8, 3) := by decide +kernel
theorem dX12_wrongSort_26 : decode cX12_wrongSort 26 = .ok (.bipush (-12), 2) := by decide +kernel
theorem dX12_wrongSort_28 : decode cX12_wrongSort 28 = .ok (.goto 4, 3) := by decide +kernel
theorem dX12_wrongSort_31 : decode cX12_wrongSort 31 = .ok (.iconst 0, 1) := by decide +kernel
theorem dX12_wrongSort_32 : decode cX12_wrongSort 32 = .ok (.ireturn, 1) := by decide +kernel
theorem dX12_keep_0 : decode cX12_keep 0 = .ok (.aload_n 0, 1) := by decide +kernel
theorem dX12_keep_1 : decode cX12_keep 1 = .ok (.iconst 0, 1) := by decide +kernel
theorem dX12_keep_2 : decode cX12_keep 2 = .ok (.putfield 78, 3) := by decide +kernel
theorem dX12_keep_5 : decode cX12_keep 5 = .ok (.iload_n 1, 1) := by decide +kernel
theorem dX12_keep_6 : decode cX12_keep 6 = .ok (.i2l, 1) := by decide +kernel
theorem dX12_keep_7 : decode cX12_keep 7 = .ok (.lconst 0, 1) := by decide +kernel
theorem dX12_keep_8 : decode cX12_keep 8 = .ok (.ldc2_w 198, 3) := by decide +kernel
theorem dX12_keep_11 : decode cX12_keep 11 = .ok (.invokestatic 84, 3) := by decide +kernel
theorem dX12_keep_14 : decode cX12_keep 14 = .ok (.ifCond .eq 43, 3) := by decide +kernel
theorem dX12_keep_17 : decode cX12_keep 17 = .ok (.iload_n 2, 1) := by decide +kernel
theorem dX12_keep_18 : decode cX12_keep 18 = .ok (.i2l, 1) := by decide +kernel
theorem dX12_keep_19 : decode cX12_keep 19 = .ok (.lconst 0, 1) := by decide +kernel
theorem dX12_keep_20 : decode cX12_keep 20 = .ok (.lconst 1, 1) := by decide +kernel
theorem dX12_keep_21 : decode cX12_keep 21 = .ok (.invokestatic 84, 3) := by decide +kernel
theorem dX12_keep_24 : decode cX12_keep 24 = .ok (.ifCond .eq 33, 3) := by decide +kernel
theorem dX12_keep_27 : decode cX12_keep 27 = .ok (.iload_n 2, 1) := by decide +kernel
theorem dX12_keep_28 : decode cX12_keep 28 = .ok (.iconst 1, 1) := by decide +kernel
theorem dX12_keep_29 : decode cX12_keep 29 = .ok (.if_icmp .ne 30, 3) := by decide +kernel
theorem dX12_keep_32 : decode cX12_keep 32 = .ok (.iload_n 3, 1) := by decide +kernel
theorem dX12_keep_33 : decode cX12_keep 33 = .ok (.i2l, 1) := by decide +kernel
theorem dX12_keep_34 : decode cX12_keep 34 = .ok (.lconst 0, 1) := by decide +kernel
theorem dX12_keep_35 : decode cX12_keep 35 = .ok (.ldc2_w 198, 3) := by decide +kernel
theorem dX12_keep_38 : decode cX12_keep 38 = .ok (.invokestatic 84, 3) := by decide +kernel
theorem dX12_keep_41 : decode cX12_keep 41 = .ok (.ifCond .eq 16, 3) := by decide +kernel
theorem dX12_keep_44 : decode cX12_keep 44 = .ok (.iload 4, 2) := by decide +kernel
theorem dX12_keep_46 : decode cX12_keep 46 = .ok (.i2l, 1) := by decide +kernel
theorem dX12_keep_47 : decode cX12_keep 47 = .ok (.lconst 0, 1) := by decide +kernel
theorem dX12_keep_48 : decode cX12_keep 48 = .ok (.ldc2_w 194, 3) := by decide +kernel
theorem dX12_keep_51 : decode cX12_keep 51 = .ok (.invokestatic 84, 3) := by decide +kernel
theorem dX12_keep_54 : decode cX12_keep 54 = .ok (.ifCond .ne 5, 3) := by decide +kernel
theorem dX12_keep_57 : decode cX12_keep 57 = .ok (.iconst (-1), 1) := by decide +kernel
theorem dX12_keep_58 : decode cX12_keep 58 = .ok (.ireturn, 1) := by decide +kernel
theorem dX12_keep_59 : decode cX12_keep 59 = .ok (.aload_n 0, 1) := by decide +kernel
theorem dX12_keep_60 : decode cX12_keep 60 = .ok (.getfield 56, 3) := by decide +kernel
theorem dX12_keep_63 : decode cX12_keep 63 = .ok (.iload_n 1, 1) := by decide +kernel
theorem dX12_keep_64 : decode cX12_keep 64 = .ok (.iload_n 2, 1) := by decide +kernel
theorem dX12_keep_65 : decode cX12_keep 65 = .ok (.iastore, 1) := by decide +kernel
theorem dX12_keep_66 : decode cX12_keep 66 = .ok (.aload_n 0, 1) := by decide +kernel
theorem dX12_keep_67 : decode cX12_keep 67 = .ok (.getfield 59, 3) := by decide +kernel
theorem dX12_keep_70 : decode cX12_keep 70 = .ok (.iload_n 1, 1) := by decide +kernel
theorem dX12_keep_71 : decode cX12_keep 71 = .ok (.iload_n 2, 1) := by decide +kernel
theorem dX12_keep_72 : decode cX12_keep 72 = .ok (.iconst 1, 1) := by decide +kernel
theorem dX12_keep_73 : decode cX12_keep 73 = .ok (.if_icmp .ne 7, 3) := by decide +kernel
theorem dX12_keep_76 : decode cX12_keep 76 = .ok (.iload_n 3, 1) := by decide +kernel
theorem dX12_keep_77 : decode cX12_keep 77 = .ok (.goto 4, 3) := by decide +kernel
theorem dX12_keep_80 : decode cX12_keep 80 = .ok (.iconst 0, 1) := by decide +kernel
theorem dX12_keep_81 : decode cX12_keep 81 = .ok (.iastore, 1) := by decide +kernel
theorem dX12_keep_82 : decode cX12_keep 82 = .ok (.aload_n 0, 1) := by decide +kernel
theorem dX12_keep_83 : decode cX12_keep 83 = .ok (.getfield 62, 3) := by decide +kernel
theorem dX12_keep_86 : decode cX12_keep 86 = .ok (.iload_n 1, 1) := by decide +kernel
theorem dX12_keep_87 : decode cX12_keep 87 = .ok (.iload_n 2, 1) := by decide +kernel
theorem dX12_keep_88 : decode cX12_keep 88 = .ok (.iconst 1, 1) := by decide +kernel
theorem dX12_keep_89 : decode cX12_keep 89 = .ok (.if_icmp .ne 8, 3) := by decide +kernel
theorem dX12_keep_92 : decode cX12_keep 92 = .ok (.iload 4, 2) := by decide +kernel
theorem dX12_keep_94 : decode cX12_keep 94 = .ok (.goto 4, 3) := by decide +kernel
theorem dX12_keep_97 : decode cX12_keep 97 = .ok (.iconst 0, 1) := by decide +kernel
theorem dX12_keep_98 : decode cX12_keep 98 = .ok (.iastore, 1) := by decide +kernel
theorem dX12_keep_99 : decode cX12_keep 99 = .ok (.iconst 0, 1) := by decide +kernel
theorem dX12_keep_100 : decode cX12_keep 100 = .ok (.ireturn, 1) := by decide +kernel
theorem dX12_wrongRow_0 : decode cX12_wrongRow 0 = .ok (.iload_n 1, 1) := by decide +kernel
theorem dX12_wrongRow_1 : decode cX12_wrongRow 1 = .ok (.i2l, 1) := by decide +kernel
theorem dX12_wrongRow_2 : decode cX12_wrongRow 2 = .ok (.lconst 0, 1) := by decide +kernel
theorem dX12_wrongRow_3 : decode cX12_wrongRow 3 = .ok (.ldc2_w 198, 3) := by decide +kernel
theorem dX12_wrongRow_6 : decode cX12_wrongRow 6 = .ok (.invokestatic 84, 3) := by decide +kernel
theorem dX12_wrongRow_9 : decode cX12_wrongRow 9 = .ok (.ifCond .ne 7, 3) := by decide +kernel
theorem dX12_wrongRow_12 : decode cX12_wrongRow 12 = .ok (.iconst (-1), 1) := by decide +kernel
theorem dX12_wrongRow_13 : decode cX12_wrongRow 13 = .ok (.goto 33, 3) := by decide +kernel
theorem dX12_wrongRow_16 : decode cX12_wrongRow 16 = .ok (.aload_n 0, 1) := by decide +kernel
theorem dX12_wrongRow_17 : decode cX12_wrongRow 17 = .ok (.getfield 56, 3) := by decide +kernel
theorem dX12_wrongRow_20 : decode cX12_wrongRow 20 = .ok (.iload_n 1, 1) := by decide +kernel
theorem dX12_wrongRow_21 : decode cX12_wrongRow 21 = .ok (.iaload, 1) := by decide +kernel
theorem dX12_wrongRow_22 : decode cX12_wrongRow 22 = .ok (.ifCond .ne 8, 3) := by decide +kernel
theorem dX12_wrongRow_25 : decode cX12_wrongRow 25 = .ok (.bipush (-11), 2) := by decide +kernel
theorem dX12_wrongRow_27 : decode cX12_wrongRow 27 = .ok (.goto 19, 3) := by decide +kernel
theorem dX12_wrongRow_30 : decode cX12_wrongRow 30 = .ok (.aload_n 0, 1) := by decide +kernel
theorem dX12_wrongRow_31 : decode cX12_wrongRow 31 = .ok (.getfield 56, 3) := by decide +kernel
theorem dX12_wrongRow_34 : decode cX12_wrongRow 34 = .ok (.iload_n 1, 1) := by decide +kernel
theorem dX12_wrongRow_35 : decode cX12_wrongRow 35 = .ok (.iaload, 1) := by decide +kernel
theorem dX12_wrongRow_36 : decode cX12_wrongRow 36 = .ok (.iconst 2, 1) := by decide +kernel
theorem dX12_wrongRow_37 : decode cX12_wrongRow 37 = .ok (.if_icmp .eq 8, 3) := by decide +kernel
theorem dX12_wrongRow_40 : decode cX12_wrongRow 40 = .ok (.bipush (-12), 2) := by decide +kernel
theorem dX12_wrongRow_42 : decode cX12_wrongRow 42 = .ok (.goto 4, 3) := by decide +kernel
theorem dX12_wrongRow_45 : decode cX12_wrongRow 45 = .ok (.iconst 0, 1) := by decide +kernel
theorem dX12_wrongRow_46 : decode cX12_wrongRow 46 = .ok (.ireturn, 1) := by decide +kernel
theorem dX12_narrowed_0 : decode cX12_narrowed 0 = .ok (.iload_n 1, 1) := by decide +kernel
theorem dX12_narrowed_1 : decode cX12_narrowed 1 = .ok (.ifCond .ne 9, 3) := by decide +kernel
theorem dX12_narrowed_4 : decode cX12_narrowed 4 = .ok (.iload_n 0, 1) := by decide +kernel
theorem dX12_narrowed_5 : decode cX12_narrowed 5 = .ok (.i2b, 1) := by decide +kernel
theorem dX12_narrowed_6 : decode cX12_narrowed 6 = .ok (.i2l, 1) := by decide +kernel
theorem dX12_narrowed_7 : decode cX12_narrowed 7 = .ok (.goto 16, 3) := by decide +kernel
theorem dX12_narrowed_10 : decode cX12_narrowed 10 = .ok (.iload_n 1, 1) := by decide +kernel
theorem dX12_narrowed_11 : decode cX12_narrowed 11 = .ok (.iconst 1, 1) := by decide +kernel
theorem dX12_narrowed_12 : decode cX12_narrowed 12 = .ok (.if_icmp .ne 9, 3) := by decide +kernel
theorem dX12_narrowed_15 : decode cX12_narrowed 15 = .ok (.iload_n 0, 1) := by decide +kernel
theorem dX12_narrowed_16 : decode cX12_narrowed 16 = .ok (.i2s, 1) := by decide +kernel
theorem dX12_narrowed_17 : decode cX12_narrowed 17 = .ok (.i2l, 1) := by decide +kernel
theorem dX12_narrowed_18 : decode cX12_narrowed 18 = .ok (.goto 5, 3) := by decide +kernel
theorem dX12_narrowed_21 : decode cX12_narrowed 21 = .ok (.iload_n 0, 1) := by decide +kernel
theorem dX12_narrowed_22 : decode cX12_narrowed 22 = .ok (.i2l, 1) := by decide +kernel
theorem dX12_narrowed_23 : decode cX12_narrowed 23 = .ok (.lreturn, 1) := by decide +kernel
theorem dX12_row_0 : decode cX12_row 0 = .ok (.aload_n 0, 1) := by decide +kernel
theorem dX12_row_1 : decode cX12_row 1 = .ok (.iconst 0, 1) := by decide +kernel
theorem dX12_row_2 : decode cX12_row 2 = .ok (.putfield 78, 3) := by decide +kernel
theorem dX12_row_5 : decode cX12_row 5 = .ok (.iload_n 1, 1) := by decide +kernel
theorem dX12_row_6 : decode cX12_row 6 = .ok (.i2l, 1) := by decide +kernel
theorem dX12_row_7 : decode cX12_row 7 = .ok (.lconst 0, 1) := by decide +kernel
theorem dX12_row_8 : decode cX12_row 8 = .ok (.ldc2_w 198, 3) := by decide +kernel
theorem dX12_row_11 : decode cX12_row 11 = .ok (.invokestatic 84, 3) := by decide +kernel
theorem dX12_row_14 : decode cX12_row 14 = .ok (.ifCond .eq 21, 3) := by decide +kernel
theorem dX12_row_17 : decode cX12_row 17 = .ok (.iload_n 2, 1) := by decide +kernel
theorem dX12_row_18 : decode cX12_row 18 = .ok (.i2l, 1) := by decide +kernel
theorem dX12_row_19 : decode cX12_row 19 = .ok (.lconst 0, 1) := by decide +kernel
theorem dX12_row_20 : decode cX12_row 20 = .ok (.ldc2_w 237, 3) := by decide +kernel
theorem dX12_row_23 : decode cX12_row 23 = .ok (.invokestatic 84, 3) := by decide +kernel
theorem dX12_row_26 : decode cX12_row 26 = .ok (.ifCond .eq 9, 3) := by decide +kernel
theorem dX12_row_29 : decode cX12_row 29 = .ok (.iload_n 3, 1) := by decide +kernel
theorem dX12_row_30 : decode cX12_row 30 = .ok (.bipush 100, 2) := by decide +kernel
theorem dX12_row_32 : decode cX12_row 32 = .ok (.if_icmp .le 5, 3) := by decide +kernel
theorem dX12_row_35 : decode cX12_row 35 = .ok (.iconst (-1), 1) := by decide +kernel
theorem dX12_row_36 : decode cX12_row 36 = .ok (.ireturn, 1) := by decide +kernel
theorem dX12_row_37 : decode cX12_row 37 = .ok (.iload_n 3, 1) := by decide +kernel
theorem dX12_row_38 : decode cX12_row 38 = .ok (.ifCond .ge 6, 3) := by decide +kernel
theorem dX12_row_41 : decode cX12_row 41 = .ok (.bipush (-14), 2) := by decide +kernel
theorem dX12_row_43 : decode cX12_row 43 = .ok (.ireturn, 1) := by decide +kernel
theorem dX12_row_44 : decode cX12_row 44 = .ok (.aload_n 0, 1) := by decide +kernel
theorem dX12_row_45 : decode cX12_row 45 = .ok (.getfield 56, 3) := by decide +kernel
theorem dX12_row_48 : decode cX12_row 48 = .ok (.iload_n 1, 1) := by decide +kernel
theorem dX12_row_49 : decode cX12_row 49 = .ok (.iconst 2, 1) := by decide +kernel
theorem dX12_row_50 : decode cX12_row 50 = .ok (.iastore, 1) := by decide +kernel
theorem dX12_row_51 : decode cX12_row 51 = .ok (.aload_n 0, 1) := by decide +kernel
theorem dX12_row_52 : decode cX12_row 52 = .ok (.getfield 65, 3) := by decide +kernel
theorem dX12_row_55 : decode cX12_row 55 = .ok (.iload_n 1, 1) := by decide +kernel
theorem dX12_row_56 : decode cX12_row 56 = .ok (.iload_n 2, 1) := by decide +kernel
theorem dX12_row_57 : decode cX12_row 57 = .ok (.iastore, 1) := by decide +kernel
theorem dX12_row_58 : decode cX12_row 58 = .ok (.aload_n 0, 1) := by decide +kernel
theorem dX12_row_59 : decode cX12_row 59 = .ok (.getfield 68, 3) := by decide +kernel
theorem dX12_row_62 : decode cX12_row 62 = .ok (.iload_n 1, 1) := by decide +kernel
theorem dX12_row_63 : decode cX12_row 63 = .ok (.iload_n 3, 1) := by decide +kernel
theorem dX12_row_64 : decode cX12_row 64 = .ok (.iastore, 1) := by decide +kernel
theorem dX12_row_65 : decode cX12_row 65 = .ok (.iconst 0, 1) := by decide +kernel
theorem dX12_row_66 : decode cX12_row 66 = .ok (.istore 4, 2) := by decide +kernel
theorem dX12_row_68 : decode cX12_row 68 = .ok (.iload 4, 2) := by decide +kernel
theorem dX12_row_70 : decode cX12_row 70 = .ok (.bipush 100, 2) := by decide +kernel
theorem dX12_row_72 : decode cX12_row 72 = .ok (.if_icmp .ge 22, 3) := by decide +kernel
theorem dX12_row_75 : decode cX12_row 75 = .ok (.aload_n 0, 1) := by decide +kernel
theorem dX12_row_76 : decode cX12_row 76 = .ok (.getfield 71, 3) := by decide +kernel
theorem dX12_row_79 : decode cX12_row 79 = .ok (.bipush 100, 2) := by decide +kernel
theorem dX12_row_81 : decode cX12_row 81 = .ok (.iload_n 1, 1) := by decide +kernel
theorem dX12_row_82 : decode cX12_row 82 = .ok (.imul, 1) := by decide +kernel
theorem dX12_row_83 : decode cX12_row 83 = .ok (.iload 4, 2) := by decide +kernel
theorem dX12_row_85 : decode cX12_row 85 = .ok (.iadd, 1) := by decide +kernel
theorem dX12_row_86 : decode cX12_row 86 = .ok (.lconst 0, 1) := by decide +kernel
theorem dX12_row_87 : decode cX12_row 87 = .ok (.lastore, 1) := by decide +kernel
theorem dX12_row_88 : decode cX12_row 88 = .ok (.iinc 4 1, 3) := by decide +kernel
theorem dX12_row_91 : decode cX12_row 91 = .ok (.goto (-23), 3) := by decide +kernel
theorem dX12_row_94 : decode cX12_row 94 = .ok (.iconst 0, 1) := by decide +kernel
theorem dX12_row_95 : decode cX12_row 95 = .ok (.ireturn, 1) := by decide +kernel
theorem dX12_put_0 : decode cX12_put 0 = .ok (.aload_n 0, 1) := by decide +kernel
theorem dX12_put_1 : decode cX12_put 1 = .ok (.iconst 0, 1) := by decide +kernel
theorem dX12_put_2 : decode cX12_put 2 = .ok (.putfield 78, 3) := by decide +kernel
theorem dX12_put_5 : decode cX12_put 5 = .ok (.aload_n 0, 1) := by decide +kernel
theorem dX12_put_6 : decode cX12_put 6 = .ok (.iload_n 1, 1) := by decide +kernel
theorem dX12_put_7 : decode cX12_put 7 = .ok (.invokevirtual 260, 3) := by decide +kernel
theorem dX12_put_10 : decode cX12_put 10 = .ok (.istore 4, 2) := by decide +kernel
theorem dX12_put_12 : decode cX12_put 12 = .ok (.iload 4, 2) := by decide +kernel
theorem dX12_put_14 : decode cX12_put 14 = .ok (.ifCond .ge 6, 3) := by decide +kernel
theorem dX12_put_17 : decode cX12_put 17 = .ok (.iload 4, 2) := by decide +kernel
theorem dX12_put_19 : decode cX12_put 19 = .ok (.ireturn, 1) := by decide +kernel
theorem dX12_put_20 : decode cX12_put 20 = .ok (.iload_n 2, 1) := by decide +kernel
theorem dX12_put_21 : decode cX12_put 21 = .ok (.i2l, 1) := by decide +kernel
theorem dX12_put_22 : decode cX12_put 22 = .ok (.lconst 0, 1) := by decide +kernel
theorem dX12_put_23 : decode cX12_put 23 = .ok (.aload_n 0, 1) := by decide +kernel
theorem dX12_put_24 : decode cX12_put 24 = .ok (.getfield 68, 3) := by decide +kernel
theorem dX12_put_27 : decode cX12_put 27 = .ok (.iload_n 1, 1) := by decide +kernel
theorem dX12_put_28 : decode cX12_put 28 = .ok (.iaload, 1) := by decide +kernel
theorem dX12_put_29 : decode cX12_put 29 = .ok (.iconst 1, 1) := by decide +kernel
theorem dX12_put_30 : decode cX12_put 30 = .ok (.isub, 1) := by decide +kernel
theorem dX12_put_31 : decode cX12_put 31 = .ok (.i2l, 1) := by decide +kernel
theorem dX12_put_32 : decode cX12_put 32 = .ok (.invokestatic 84, 3) := by decide +kernel
theorem dX12_put_35 : decode cX12_put 35 = .ok (.ifCond .ne 6, 3) := by decide +kernel
theorem dX12_put_38 : decode cX12_put 38 = .ok (.bipush (-13), 2) := by decide +kernel
theorem dX12_put_40 : decode cX12_put 40 = .ok (.ireturn, 1) := by decide +kernel
theorem dX12_put_41 : decode cX12_put 41 = .ok (.aload_n 0, 1) := by decide +kernel
theorem dX12_put_42 : decode cX12_put 42 = .ok (.getfield 71, 3) := by decide +kernel
theorem dX12_put_45 : decode cX12_put 45 = .ok (.bipush 100, 2) := by decide +kernel
theorem dX12_put_47 : decode cX12_put 47 = .ok (.iload_n 1, 1) := by decide +kernel
theorem dX12_put_48 : decode cX12_put 48 = .ok (.imul, 1) := by decide +kernel
theorem dX12_put_49 : decode cX12_put 49 = .ok (.iload_n 2, 1) := by decide +kernel
theorem dX12_put_50 : decode cX12_put 50 = .ok (.iadd, 1) := by decide +kernel
theorem dX12_put_51 : decode cX12_put 51 = .ok (.iload_n 3, 1) := by decide +kernel
theorem dX12_put_52 : decode cX12_put 52 = .ok (.aload_n 0, 1) := by decide +kernel
theorem dX12_put_53 : decode cX12_put 53 = .ok (.getfield 65, 3) := by decide +kernel
theorem dX12_put_56 : decode cX12_put 56 = .ok (.iload_n 1, 1) := by decide +kernel
theorem dX12_put_57 : decode cX12_put 57 = .ok (.iaload, 1) := by decide +kernel
theorem dX12_put_58 : decode cX12_put 58 = .ok (.invokestatic 267, 3) := by decide +kernel
theorem dX12_put_61 : decode cX12_put 61 = .ok (.lastore, 1) := by decide +kernel
theorem dX12_put_62 : decode cX12_put 62 = .ok (.iconst 0, 1) := by decide +kernel
theorem dX12_put_63 : decode cX12_put 63 = .ok (.ireturn, 1) := by decide +kernel
theorem dX12_element_0 : decode cX12_element 0 = .ok (.aload_n 0, 1) := by decide +kernel
theorem dX12_element_1 : decode cX12_element 1 = .ok (.iload_n 1, 1) := by decide +kernel
theorem dX12_element_2 : decode cX12_element 2 = .ok (.invokevirtual 260, 3) := by decide +kernel
theorem dX12_element_5 : decode cX12_element 5 = .ok (.istore_n 3, 1) := by decide +kernel
theorem dX12_element_6 : decode cX12_element 6 = .ok (.aload_n 0, 1) := by decide +kernel
theorem dX12_element_7 : decode cX12_element 7 = .ok (.iload_n 3, 1) := by decide +kernel
theorem dX12_element_8 : decode cX12_element 8 = .ok (.iconst (-1), 1) := by decide +kernel
theorem dX12_element_9 : decode cX12_element 9 = .ok (.if_icmp .ne 7, 3) := by decide +kernel
theorem dX12_element_12 : decode cX12_element 12 = .ok (.iconst 1, 1) := by decide +kernel
theorem dX12_element_13 : decode cX12_element 13 = .ok (.goto 30, 3) := by decide +kernel
theorem dX12_element_16 : decode cX12_element 16 = .ok (.iload_n 3, 1) := by decide +kernel
theorem dX12_element_17 : decode cX12_element 17 = .ok (.ifCond .lt 21, 3) := by decide +kernel
theorem dX12_element_20 : decode cX12_element 20 = .ok (.iload_n 2, 1) := by decide +kernel
theorem dX12_element_21 : decode cX12_element 21 = .ok (.i2l, 1) := by decide +kernel
theorem dX12_element_22 : decode cX12_element 22 = .ok (.lconst 0, 1) := by decide +kernel
theorem dX12_element_23 : decode cX12_element 23 = .ok (.aload_n 0, 1) := by decide +kernel
theorem dX12_element_24 : decode cX12_element 24 = .ok (.getfield 68, 3) := by decide +kernel
theorem dX12_element_27 : decode cX12_element 27 = .ok (.iload_n 1, 1) := by decide +kernel
theorem dX12_element_28 : decode cX12_element 28 = .ok (.iaload, 1) := by decide +kernel
theorem dX12_element_29 : decode cX12_element 29 = .ok (.iconst 1, 1) := by decide +kernel
theorem dX12_element_30 : decode cX12_element 30 = .ok (.isub, 1) := by decide +kernel
theorem dX12_element_31 : decode cX12_element 31 = .ok (.i2l, 1) := by decide +kernel
theorem dX12_element_32 : decode cX12_element 32 = .ok (.invokestatic 84, 3) := by decide +kernel
theorem dX12_element_35 : decode cX12_element 35 = .ok (.ifCond .ne 7, 3) := by decide +kernel
theorem dX12_element_38 : decode cX12_element 38 = .ok (.iconst 2, 1) := by decide +kernel
theorem dX12_element_39 : decode cX12_element 39 = .ok (.goto 4, 3) := by decide +kernel
theorem dX12_element_42 : decode cX12_element 42 = .ok (.iconst 0, 1) := by decide +kernel
theorem dX12_element_43 : decode cX12_element 43 = .ok (.putfield 78, 3) := by decide +kernel
theorem dX12_element_46 : decode cX12_element 46 = .ok (.aload_n 0, 1) := by decide +kernel
theorem dX12_element_47 : decode cX12_element 47 = .ok (.getfield 78, 3) := by decide +kernel
theorem dX12_element_50 : decode cX12_element 50 = .ok (.ifCond .le 7, 3) := by decide +kernel
theorem dX12_element_53 : decode cX12_element 53 = .ok (.lconst 0, 1) := by decide +kernel
theorem dX12_element_54 : decode cX12_element 54 = .ok (.goto 14, 3) := by decide +kernel
theorem dX12_element_57 : decode cX12_element 57 = .ok (.aload_n 0, 1) := by decide +kernel
theorem dX12_element_58 : decode cX12_element 58 = .ok (.getfield 71, 3) := by decide +kernel
theorem dX12_element_61 : decode cX12_element 61 = .ok (.bipush 100, 2) := by decide +kernel
theorem dX12_element_63 : decode cX12_element 63 = .ok (.iload_n 1, 1) := by decide +kernel
theorem dX12_element_64 : decode cX12_element 64 = .ok (.imul, 1) := by decide +kernel
theorem dX12_element_65 : decode cX12_element 65 = .ok (.iload_n 2, 1) := by decide +kernel
theorem dX12_element_66 : decode cX12_element 66 = .ok (.iadd, 1) := by decide +kernel
theorem dX12_element_67 : decode cX12_element 67 = .ok (.laload, 1) := by decide +kernel
theorem dX12_element_68 : decode cX12_element 68 = .ok (.lreturn, 1) := by decide +kernel
theorem dX12_copy_0 : decode cX12_copy 0 = .ok (.aload_n 0, 1) := by decide +kernel
theorem dX12_copy_1 : decode cX12_copy 1 = .ok (.iconst 0, 1) := by decide +kernel
theorem dX12_copy_2 : decode cX12_copy 2 = .ok (.putfield 78, 3) := by decide +kernel
theorem dX12_copy_5 : decode cX12_copy 5 = .ok (.iload_n 1, 1) := by decide +kernel
theorem dX12_copy_6 : decode cX12_copy 6 = .ok (.i2l, 1) := by decide +kernel
theorem dX12_copy_7 : decode cX12_copy 7 = .ok (.lconst 0, 1) := by decide +kernel
theorem dX12_copy_8 : decode cX12_copy 8 = .ok (.ldc2_w 198, 3) := by decide +kernel
theorem dX12_copy_11 : decode cX12_copy 11 = .ok (.invokestatic 84, 3) := by decide +kernel
theorem dX12_copy_14 : decode cX12_copy 14 = .ok (.ifCond .eq 15, 3) := by decide +kernel
theorem dX12_copy_17 : decode cX12_copy 17 = .ok (.iload_n 3, 1) := by decide +kernel
theorem dX12_copy_18 : decode cX12_copy 18 = .ok (.i2l, 1) := by decide +kernel
theorem dX12_copy_19 : decode cX12_copy 19 = .ok (.lconst 0, 1) := by decide +kernel
theorem dX12_copy_20 : decode cX12_copy 20 = .ok (.ldc2_w 198, 3) := by decide +kernel
theorem dX12_copy_23 : decode cX12_copy 23 = .ok (.invokestatic 84, 3) := by decide +kernel
theorem dX12_copy_26 : decode cX12_copy 26 = .ok (.ifCond .ne 5, 3) := by decide +kernel
theorem dX12_copy_29 : decode cX12_copy 29 = .ok (.iconst (-1), 1) := by decide +kernel
theorem dX12_copy_30 : decode cX12_copy 30 = .ok (.ireturn, 1) := by decide +kernel
theorem dX12_copy_31 : decode cX12_copy 31 = .ok (.aload_n 0, 1) := by decide +kernel
theorem dX12_copy_32 : decode cX12_copy 32 = .ok (.getfield 56, 3) := by decide +kernel
theorem dX12_copy_35 : decode cX12_copy 35 = .ok (.iload_n 1, 1) := by decide +kernel
theorem dX12_copy_36 : decode cX12_copy 36 = .ok (.iaload, 1) := by decide +kernel
theorem dX12_copy_37 : decode cX12_copy 37 = .ok (.ifCond .eq 12, 3) := by decide +kernel
theorem dX12_copy_40 : decode cX12_copy 40 = .ok (.aload_n 0, 1) := by decide +kernel
theorem dX12_copy_41 : decode cX12_copy 41 = .ok (.getfield 56, 3) := by decide +kernel
theorem dX12_copy_44 : decode cX12_copy 44 = .ok (.iload_n 3, 1) := by decide +kernel
theorem dX12_copy_45 : decode cX12_copy 45 = .ok (.iaload, 1) := by decide +kernel
theorem dX12_copy_46 : decode cX12_copy 46 = .ok (.ifCond .ne 6, 3) := by decide +kernel
theorem dX12_copy_49 : decode cX12_copy 49 = .ok (.bipush (-11), 2) := by decide +kernel
theorem dX12_copy_51 : decode cX12_copy 51 = .ok (.ireturn, 1) := by decide +kernel
theorem dX12_copy_52 : decode cX12_copy 52 = .ok (.aload_n 0, 1) := by decide +kernel
theorem dX12_copy_53 : decode cX12_copy 53 = .ok (.getfield 56, 3) := by decide +kernel
theorem dX12_copy_56 : decode cX12_copy 56 = .ok (.iload_n 1, 1) := by decide +kernel
theorem dX12_copy_57 : decode cX12_copy 57 = .ok (.iaload, 1) := by decide +kernel
theorem dX12_copy_58 : decode cX12_copy 58 = .ok (.iconst 2, 1) := by decide +kernel
theorem dX12_copy_59 : decode cX12_copy 59 = .ok (.if_icmp .ne 28, 3) := by decide +kernel
theorem dX12_copy_62 : decode cX12_copy 62 = .ok (.aload_n 0, 1) := by decide +kernel
theorem dX12_copy_63 : decode cX12_copy 63 = .ok (.getfield 56, 3) := by decide +kernel
theorem dX12_copy_66 : decode cX12_copy 66 = .ok (.iload_n 3, 1) := by decide +kernel
theorem dX12_copy_67 : decode cX12_copy 67 = .ok (.iaload, 1) := by decide +kernel
theorem dX12_copy_68 : decode cX12_copy 68 = .ok (.iconst 2, 1) := by decide +kernel
theorem dX12_copy_69 : decode cX12_copy 69 = .ok (.if_icmp .ne 18, 3) := by decide +kernel
theorem dX12_copy_72 : decode cX12_copy 72 = .ok (.aload_n 0, 1) := by decide +kernel
theorem dX12_copy_73 : decode cX12_copy 73 = .ok (.getfield 65, 3) := by decide +kernel
theorem dX12_copy_76 : decode cX12_copy 76 = .ok (.iload_n 1, 1) := by decide +kernel
theorem dX12_copy_77 : decode cX12_copy 77 = .ok (.iaload, 1) := by decide +kernel
theorem dX12_copy_78 : decode cX12_copy 78 = .ok (.aload_n 0, 1) := by decide +kernel
theorem dX12_copy_79 : decode cX12_copy 79 = .ok (.getfield 65, 3) := by decide +kernel
theorem dX12_copy_82 : decode cX12_copy 82 = .ok (.iload_n 3, 1) := by decide +kernel
theorem dX12_copy_83 : decode cX12_copy 83 = .ok (.iaload, 1) := by decide +kernel
theorem dX12_copy_84 : decode cX12_copy 84 = .ok (.if_icmp .eq 6, 3) := by decide +kernel
theorem dX12_copy_87 : decode cX12_copy 87 = .ok (.bipush (-12), 2) := by decide +kernel
theorem dX12_copy_89 : decode cX12_copy 89 = .ok (.ireturn, 1) := by decide +kernel
theorem dX12_copy_90 : decode cX12_copy 90 = .ok (.iload 5, 2) := by decide +kernel
theorem dX12_copy_92 : decode cX12_copy 92 = .ok (.ifCond .lt 39, 3) := by decide +kernel
theorem dX12_copy_95 : decode cX12_copy 95 = .ok (.iload_n 2, 1) := by decide +kernel
theorem dX12_copy_96 : decode cX12_copy 96 = .ok (.ifCond .lt 35, 3) := by decide +kernel
theorem dX12_copy_99 : decode cX12_copy 99 = .ok (.iload 4, 2) := by decide +kernel
theorem dX12_copy_101 : decode cX12_copy 101 = .ok (.ifCond .lt 30, 3) := by decide +kernel
theorem dX12_copy_104 : decode cX12_copy 104 = .ok (.iload_n 2, 1) := by decide +kernel
theorem dX12_copy_105 : decode cX12_copy 105 = .ok (.aload_n 0, 1) := by decide +kernel
theorem dX12_copy_106 : decode cX12_copy 106 = .ok (.getfield 68, 3) := by decide +kernel
theorem dX12_copy_109 : decode cX12_copy 109 = .ok (.iload_n 1, 1) := by decide +kernel
theorem dX12_copy_110 : decode cX12_copy 110 = .ok (.iaload, 1) := by decide +kernel
theorem dX12_copy_111 : decode cX12_copy 111 = .ok (.iload 5, 2) := by decide +kernel
theorem dX12_copy_113 : decode cX12_copy 113 = .ok (.isub, 1) := by decide +kernel
theorem dX12_copy_114 : decode cX12_copy 114 = .ok (.if_icmp .gt 17, 3) := by decide +kernel
theorem dX12_copy_117 : decode cX12_copy 117 = .ok (.iload 4, 2) := by decide +kernel
theorem dX12_copy_119 : decode cX12_copy 119 = .ok (.aload_n 0, 1) := by decide +kernel
theorem dX12_copy_120 : decode cX12_copy 120 = .ok (.getfield 68, 3) := by decide +kernel
theorem dX12_copy_123 : decode cX12_copy 123 = .ok (.iload_n 3, 1) := by decide +kernel
theorem dX12_copy_124 : decode cX12_copy 124 = .ok (.iaload, 1) := by decide +kernel
theorem dX12_copy_125 : decode cX12_copy 125 = .ok (.iload 5, 2) := by decide +kernel
theorem dX12_copy_127 : decode cX12_copy 127 = .ok (.isub, 1) := by decide +kernel
theorem dX12_copy_128 : decode cX12_copy 128 = .ok (.if_icmp .le 6, 3) := by decide +kernel
theorem dX12_copy_131 : decode cX12_copy 131 = .ok (.bipush (-13), 2) := by decide +kernel
theorem dX12_copy_133 : decode cX12_copy 133 = .ok (.ireturn, 1) := by decide +kernel
theorem dX12_copy_134 : decode cX12_copy 134 = .ok (.iconst 0, 1) := by decide +kernel
theorem dX12_copy_135 : decode cX12_copy 135 = .ok (.istore 6, 2) := by decide +kernel
theorem dX12_copy_137 : decode cX12_copy 137 = .ok (.iload 6, 2) := by decide +kernel
theorem dX12_copy_139 : decode cX12_copy 139 = .ok (.iload 5, 2) := by decide +kernel
theorem dX12_copy_141 : decode cX12_copy 141 = .ok (.if_icmp .ge 30, 3) := by decide +kernel
theorem dX12_copy_144 : decode cX12_copy 144 = .ok (.aload_n 0, 1) := by decide +kernel
theorem dX12_copy_145 : decode cX12_copy 145 = .ok (.getfield 75, 3) := by decide +kernel
theorem dX12_copy_148 : decode cX12_copy 148 = .ok (.iload 6, 2) := by decide +kernel
theorem dX12_copy_150 : decode cX12_copy 150 = .ok (.aload_n 0, 1) := by decide +kernel
theorem dX12_copy_151 : decode cX12_copy 151 = .ok (.getfield 71, 3) := by decide +kernel
theorem dX12_copy_154 : decode cX12_copy 154 = .ok (.bipush 100, 2) := by decide +kernel
theorem dX12_copy_156 : decode cX12_copy 156 = .ok (.iload_n 1, 1) := by decide +kernel
theorem dX12_copy_157 : decode cX12_copy 157 = .ok (.imul, 1) := by decide +kernel
theorem dX12_copy_158 : decode cX12_copy 158 = .ok (.iload_n 2, 1) := by decide +kernel
theorem dX12_copy_159 : decode cX12_copy 159 = .ok (.iadd, 1) := by decide +kernel
theorem dX12_copy_160 : decode cX12_copy 160 = .ok (.iload 6, 2) := by decide +kernel
theorem dX12_copy_162 : decode cX12_copy 162 = .ok (.iadd, 1) := by decide +kernel
theorem dX12_copy_163 : decode cX12_copy 163 = .ok (.laload, 1) := by decide +kernel
theorem dX12_copy_164 : decode cX12_copy 164 = .ok (.lastore, 1) := by decide +kernel
theorem dX12_copy_165 : decode cX12_copy 165 = .ok (.iinc 6 1, 3) := by decide +kernel
theorem dX12_copy_168 : decode cX12_copy 168 = .ok (.goto (-31), 3) := by decide +kernel
theorem dX12_copy_171 : decode cX12_copy 171 = .ok (.iconst 0, 1) := by decide +kernel
theorem dX12_copy_172 : decode cX12_copy 172 = .ok (.istore 6, 2) := by decide +kernel
theorem dX12_copy_174 : decode cX12_copy 174 = .ok (.iload 6, 2) := by decide +kernel
theorem dX12_copy_176 : decode cX12_copy 176 = .ok (.iload 5, 2) := by decide +kernel
theorem dX12_copy_178 : decode cX12_copy 178 = .ok (.if_icmp .ge 31, 3) := by decide +kernel
theorem dX12_copy_181 : decode cX12_copy 181 = .ok (.aload_n 0, 1) := by decide +kernel
theorem dX12_copy_182 : decode cX12_copy 182 = .ok (.getfield 71, 3) := by decide +kernel
theorem dX12_copy_185 : decode cX12_copy 185 = .ok (.bipush 100, 2) := by decide +kernel
theorem dX12_copy_187 : decode cX12_copy 187 = .ok (.iload_n 3, 1) := by decide +kernel
theorem dX12_copy_188 : decode cX12_copy 188 = .ok (.imul, 1) := by decide +kernel
theorem dX12_copy_189 : decode cX12_copy 189 = .ok (.iload 4, 2) := by decide +kernel
theorem dX12_copy_191 : decode cX12_copy 191 = .ok (.iadd, 1) := by decide +kernel
theorem dX12_copy_192 : decode cX12_copy 192 = .ok (.iload 6, 2) := by decide +kernel
theorem dX12_copy_194 : decode cX12_copy 194 = .ok (.iadd, 1) := by decide +kernel
theorem dX12_copy_195 : decode cX12_copy 195 = .ok (.aload_n 0, 1) := by decide +kernel
theorem dX12_copy_196 : decode cX12_copy 196 = .ok (.getfield 75, 3) := by decide +kernel
theorem dX12_copy_199 : decode cX12_copy 199 = .ok (.iload 6, 2) := by decide +kernel
theorem dX12_copy_201 : decode cX12_copy 201 = .ok (.laload, 1) := by decide +kernel
theorem dX12_copy_202 : decode cX12_copy 202 = .ok (.lastore, 1) := by decide +kernel
theorem dX12_copy_203 : decode cX12_copy 203 = .ok (.iinc 6 1, 3) := by decide +kernel
theorem dX12_copy_206 : decode cX12_copy 206 = .ok (.goto (-32), 3) := by decide +kernel
theorem dX12_copy_209 : decode cX12_copy 209 = .ok (.iload 5, 2) := by decide +kernel
theorem dX12_copy_211 : decode cX12_copy 211 = .ok (.ireturn, 1) := by decide +kernel
theorem dX12_minutes_0 : decode cX12_minutes 0 = .ok (.aload_n 0, 1) := by decide +kernel
theorem dX12_minutes_1 : decode cX12_minutes 1 = .ok (.iconst 0, 1) := by decide +kernel
theorem dX12_minutes_2 : decode cX12_minutes 2 = .ok (.putfield 78, 3) := by decide +kernel
theorem dX12_minutes_5 : decode cX12_minutes 5 = .ok (.aload_n 0, 1) := by decide +kernel
theorem dX12_minutes_6 : decode cX12_minutes 6 = .ok (.iload_n 1, 1) := by decide +kernel
theorem dX12_minutes_7 : decode cX12_minutes 7 = .ok (.invokevirtual 200, 3) := by decide +kernel
theorem dX12_minutes_10 : decode cX12_minutes 10 = .ok (.ifCond .ge 11, 3) := by decide +kernel
theorem dX12_minutes_13 : decode cX12_minutes 13 = .ok (.aload_n 0, 1) := by decide +kernel
theorem dX12_minutes_14 : decode cX12_minutes 14 = .ok (.iload_n 1, 1) := by decide +kernel
theorem dX12_minutes_15 : decode cX12_minutes 15 = .ok (.invokevirtual 200, 3) := by decide +kernel
theorem dX12_minutes_18 : decode cX12_minutes 18 = .ok (.goto 18, 3) := by decide +kernel
theorem dX12_minutes_21 : decode cX12_minutes 21 = .ok (.aload_n 0, 1) := by decide +kernel
theorem dX12_minutes_22 : decode cX12_minutes 22 = .ok (.getfield 59, 3) := by decide +kernel
theorem dX12_minutes_25 : decode cX12_minutes 25 = .ok (.iload_n 1, 1) := by decide +kernel
theorem dX12_minutes_26 : decode cX12_minutes 26 = .ok (.iaload, 1) := by decide +kernel
theorem dX12_minutes_27 : decode cX12_minutes 27 = .ok (.aload_n 0, 1) := by decide +kernel
theorem dX12_minutes_28 : decode cX12_minutes 28 = .ok (.getfield 62, 3) := by decide +kernel
theorem dX12_minutes_31 : decode cX12_minutes 31 = .ok (.iload_n 1, 1) := by decide +kernel
theorem dX12_minutes_32 : decode cX12_minutes 32 = .ok (.iaload, 1) := by decide +kernel
theorem dX12_minutes_33 : decode cX12_minutes 33 = .ok (.invokestatic 105, 3) := by decide +kernel
theorem dX12_minutes_36 : decode cX12_minutes 36 = .ok (.ireturn, 1) := by decide +kernel
theorem dX12_toss_0 : decode cX12_toss 0 = .ok (.aload_n 0, 1) := by decide +kernel
theorem dX12_toss_1 : decode cX12_toss 1 = .ok (.iconst 0, 1) := by decide +kernel
theorem dX12_toss_2 : decode cX12_toss 2 = .ok (.putfield 78, 3) := by decide +kernel
theorem dX12_toss_5 : decode cX12_toss 5 = .ok (.aload_n 0, 1) := by decide +kernel
theorem dX12_toss_6 : decode cX12_toss 6 = .ok (.iload_n 1, 1) := by decide +kernel
theorem dX12_toss_7 : decode cX12_toss 7 = .ok (.invokevirtual 200, 3) := by decide +kernel
theorem dX12_toss_10 : decode cX12_toss 10 = .ok (.ifCond .ge 9, 3) := by decide +kernel
theorem dX12_toss_13 : decode cX12_toss 13 = .ok (.aload_n 0, 1) := by decide +kernel
theorem dX12_toss_14 : decode cX12_toss 14 = .ok (.iload_n 1, 1) := by decide +kernel
theorem dX12_toss_15 : decode cX12_toss 15 = .ok (.invokevirtual 200, 3) := by decide +kernel
theorem dX12_toss_18 : decode cX12_toss 18 = .ok (.ireturn, 1) := by decide +kernel
theorem dX12_toss_19 : decode cX12_toss 19 = .ok (.aload_n 0, 1) := by decide +kernel
theorem dX12_toss_20 : decode cX12_toss 20 = .ok (.getfield 59, 3) := by decide +kernel
theorem dX12_toss_23 : decode cX12_toss 23 = .ok (.iload_n 1, 1) := by decide +kernel
theorem dX12_toss_24 : decode cX12_toss 24 = .ok (.iaload, 1) := by decide +kernel
theorem dX12_toss_25 : decode cX12_toss 25 = .ok (.istore_n 2, 1) := by decide +kernel
theorem dX12_toss_26 : decode cX12_toss 26 = .ok (.aload_n 0, 1) := by decide +kernel
theorem dX12_toss_27 : decode cX12_toss 27 = .ok (.getfield 62, 3) := by decide +kernel
theorem dX12_toss_30 : decode cX12_toss 30 = .ok (.iload_n 1, 1) := by decide +kernel
theorem dX12_toss_31 : decode cX12_toss 31 = .ok (.iaload, 1) := by decide +kernel
theorem dX12_toss_32 : decode cX12_toss 32 = .ok (.istore_n 3, 1) := by decide +kernel
theorem dX12_toss_33 : decode cX12_toss 33 = .ok (.iload_n 2, 1) := by decide +kernel
theorem dX12_toss_34 : decode cX12_toss 34 = .ok (.iconst 5, 1) := by decide +kernel
theorem dX12_toss_35 : decode cX12_toss 35 = .ok (.if_icmp .eq 7, 3) := by decide +kernel
theorem dX12_toss_38 : decode cX12_toss 38 = .ok (.iload_n 3, 1) := by decide +kernel
theorem dX12_toss_39 : decode cX12_toss 39 = .ok (.ifCond .ne 6, 3) := by decide +kernel
theorem dX12_toss_42 : decode cX12_toss 42 = .ok (.bipush (-15), 2) := by decide +kernel
theorem dX12_toss_44 : decode cX12_toss 44 = .ok (.ireturn, 1) := by decide +kernel
theorem dX12_toss_45 : decode cX12_toss 45 = .ok (.iload_n 2, 1) := by decide +kernel
theorem dX12_toss_46 : decode cX12_toss 46 = .ok (.iconst 3, 1) := by decide +kernel
theorem dX12_toss_47 : decode cX12_toss 47 = .ok (.if_icmp .ne 10, 3) := by decide +kernel
theorem dX12_toss_50 : decode cX12_toss 50 = .ok (.bipush 100, 2) := by decide +kernel
theorem dX12_toss_52 : decode cX12_toss 52 = .ok (.iload_n 3, 1) := by decide +kernel
theorem dX12_toss_53 : decode cX12_toss 53 = .ok (.iadd, 1) := by decide +kernel
theorem dX12_toss_54 : decode cX12_toss 54 = .ok (.goto 21, 3) := by decide +kernel
theorem dX12_toss_57 : decode cX12_toss 57 = .ok (.iload_n 2, 1) := by decide +kernel
theorem dX12_toss_58 : decode cX12_toss 58 = .ok (.iconst 4, 1) := by decide +kernel
theorem dX12_toss_59 : decode cX12_toss 59 = .ok (.if_icmp .ne 15, 3) := by decide +kernel
theorem dX12_toss_62 : decode cX12_toss 62 = .ok (.sipush 200, 3) := by decide +kernel
theorem dX12_toss_65 : decode cX12_toss 65 = .ok (.iload_n 2, 1) := by decide +kernel
theorem dX12_toss_66 : decode cX12_toss 66 = .ok (.iload_n 3, 1) := by decide +kernel
theorem dX12_toss_67 : decode cX12_toss 67 = .ok (.invokestatic 105, 3) := by decide +kernel
theorem dX12_toss_70 : decode cX12_toss 70 = .ok (.iadd, 1) := by decide +kernel
theorem dX12_toss_71 : decode cX12_toss 71 = .ok (.goto 4, 3) := by decide +kernel
theorem dX12_toss_74 : decode cX12_toss 74 = .ok (.iload_n 3, 1) := by decide +kernel
theorem dX12_toss_75 : decode cX12_toss 75 = .ok (.ireturn, 1) := by decide +kernel
theorem dJ9_max_7cf53_0 : decode cJ9_max_7cf53 0 = .ok (.iload_n 0, 1) := by decide +kernel
theorem dJ9_max_7cf53_1 : decode cJ9_max_7cf53 1 = .ok (.iload_n 1, 1) := by decide +kernel
theorem dJ9_max_7cf53_2 : decode cJ9_max_7cf53 2 = .ok (.if_icmp .lt 7, 3) := by decide +kernel
theorem dJ9_max_7cf53_5 : decode cJ9_max_7cf53 5 = .ok (.iload_n 0, 1) := by decide +kernel
theorem dJ9_max_7cf53_6 : decode cJ9_max_7cf53 6 = .ok (.goto 4, 3) := by decide +kernel
theorem dJ9_max_7cf53_9 : decode cJ9_max_7cf53 9 = .ok (.iload_n 1, 1) := by decide +kernel
theorem dJ9_max_7cf53_10 : decode cJ9_max_7cf53 10 = .ok (.ireturn, 1) := by decide +kernel
theorem dJ9_min_7cf53_0 : decode cJ9_min_7cf53 0 = .ok (.iload_n 0, 1) := by decide +kernel
theorem dJ9_min_7cf53_1 : decode cJ9_min_7cf53 1 = .ok (.iload_n 1, 1) := by decide +kernel
theorem dJ9_min_7cf53_2 : decode cJ9_min_7cf53 2 = .ok (.if_icmp .gt 7, 3) := by decide +kernel
theorem dJ9_min_7cf53_5 : decode cJ9_min_7cf53 5 = .ok (.iload_n 0, 1) := by decide +kernel
theorem dJ9_min_7cf53_6 : decode cJ9_min_7cf53 6 = .ok (.goto 4, 3) := by decide +kernel
theorem dJ9_min_7cf53_9 : decode cJ9_min_7cf53 9 = .ok (.iload_n 1, 1) := by decide +kernel
theorem dJ9_min_7cf53_10 : decode cJ9_min_7cf53 10 = .ok (.ireturn, 1) := by decide +kernel
theorem dJ0_length_8abf5_0 : decode cJ0_length_8abf5 0 = .ok (.aload_n 0, 1) := by decide +kernel
theorem dJ0_length_8abf5_1 : decode cJ0_length_8abf5 1 = .ok (.getfield 9, 3) := by decide +kernel
theorem dJ0_length_8abf5_4 : decode cJ0_length_8abf5 4 = .ok (.arraylength, 1) := by decide +kernel
theorem dJ0_length_8abf5_5 : decode cJ0_length_8abf5 5 = .ok (.aload_n 0, 1) := by decide +kernel
theorem dJ0_length_8abf5_6 : decode cJ0_length_8abf5 6 = .ok (.invokevirtual 335, 3) := by decide +kernel
theorem dJ0_length_8abf5_9 : decode cJ0_length_8abf5 9 = .ok (.ishr, 1) := by decide +kernel
theorem dJ0_length_8abf5_10 : decode cJ0_length_8abf5 10 = .ok (.ireturn, 1) := by decide +kernel
theorem dJ0_isEmpty_aae02_0 : decode cJ0_isEmpty_aae02 0 = .ok (.aload_n 0, 1) := by decide +kernel
theorem dJ0_isEmpty_aae02_1 : decode cJ0_isEmpty_aae02 1 = .ok (.getfield 9, 3) := by decide +kernel
theorem dJ0_isEmpty_aae02_4 : decode cJ0_isEmpty_aae02 4 = .ok (.arraylength, 1) := by decide +kernel
theorem dJ0_isEmpty_aae02_5 : decode cJ0_isEmpty_aae02 5 = .ok (.ifCond .ne 7, 3) := by decide +kernel
theorem dJ0_isEmpty_aae02_8 : decode cJ0_isEmpty_aae02 8 = .ok (.iconst 1, 1) := by decide +kernel
theorem dJ0_isEmpty_aae02_9 : decode cJ0_isEmpty_aae02 9 = .ok (.goto 4, 3) := by decide +kernel
theorem dJ0_isEmpty_aae02_12 : decode cJ0_isEmpty_aae02 12 = .ok (.iconst 0, 1) := by decide +kernel
theorem dJ0_isEmpty_aae02_13 : decode cJ0_isEmpty_aae02 13 = .ok (.ireturn, 1) := by decide +kernel
theorem dJ0_charAt_5068e_0 : decode cJ0_charAt_5068e 0 = .ok (.aload_n 0, 1) := by decide +kernel
theorem dJ0_charAt_5068e_1 : decode cJ0_charAt_5068e 1 = .ok (.invokevirtual 492, 3) := by decide +kernel
theorem dJ0_charAt_5068e_4 : decode cJ0_charAt_5068e 4 = .ok (.ifCond .eq 12, 3) := by decide +kernel
theorem dJ0_charAt_5068e_7 : decode cJ0_charAt_5068e 7 = .ok (.aload_n 0, 1) := by decide +kernel
theorem dJ0_charAt_5068e_8 : decode cJ0_charAt_5068e 8 = .ok (.getfield 9, 3) := by decide +kernel
theorem dJ0_charAt_5068e_11 : decode cJ0_charAt_5068e 11 = .ok (.iload_n 1, 1) := by decide +kernel
theorem dJ0_charAt_5068e_12 : decode cJ0_charAt_5068e 12 = .ok (.invokestatic 495, 3) := by decide +kernel
theorem dJ0_charAt_5068e_15 : decode cJ0_charAt_5068e 15 = .ok (.ireturn, 1) := by decide +kernel
theorem dJ0_charAt_5068e_16 : decode cJ0_charAt_5068e 16 = .ok (.aload_n 0, 1) := by decide +kernel
theorem dJ0_charAt_5068e_17 : decode cJ0_charAt_5068e 17 = .ok (.getfield 9, 3) := by decide +kernel
theorem dJ0_charAt_5068e_20 : decode cJ0_charAt_5068e 20 = .ok (.iload_n 1, 1) := by decide +kernel
theorem dJ0_charAt_5068e_21 : decode cJ0_charAt_5068e 21 = .ok (.invokestatic 498, 3) := by decide +kernel
theorem dJ0_charAt_5068e_24 : decode cJ0_charAt_5068e 24 = .ok (.ireturn, 1) := by decide +kernel
theorem dJ0_coder_7d493_0 : decode cJ0_coder_7d493 0 = .ok (.getstatic 38, 3) := by decide +kernel
theorem dJ0_coder_7d493_3 : decode cJ0_coder_7d493 3 = .ok (.ifCond .eq 10, 3) := by decide +kernel
theorem dJ0_coder_7d493_6 : decode cJ0_coder_7d493 6 = .ok (.aload_n 0, 1) := by decide +kernel
theorem dJ0_coder_7d493_7 : decode cJ0_coder_7d493 7 = .ok (.getfield 15, 3) := by decide +kernel
theorem dJ0_coder_7d493_10 : decode cJ0_coder_7d493 10 = .ok (.goto 4, 3) := by decide +kernel
theorem dJ0_coder_7d493_13 : decode cJ0_coder_7d493 13 = .ok (.iconst 1, 1) := by decide +kernel
theorem dJ0_coder_7d493_14 : decode cJ0_coder_7d493 14 = .ok (.ireturn, 1) := by decide +kernel
theorem dJ0_isLatin1_aae02_0 : decode cJ0_isLatin1_aae02 0 = .ok (.getstatic 38, 3) := by decide +kernel
theorem dJ0_isLatin1_aae02_3 : decode cJ0_isLatin1_aae02 3 = .ok (.ifCond .eq 14, 3) := by decide +kernel
theorem dJ0_isLatin1_aae02_6 : decode cJ0_isLatin1_aae02 6 = .ok (.aload_n 0, 1) := by decide +kernel
theorem dJ0_isLatin1_aae02_7 : decode cJ0_isLatin1_aae02 7 = .ok (.getfield 15, 3) := by decide +kernel
theorem dJ0_isLatin1_aae02_10 : decode cJ0_isLatin1_aae02 10 = .ok (.ifCond .ne 7, 3) := by decide +kernel
theorem dJ0_isLatin1_aae02_13 : decode cJ0_isLatin1_aae02 13 = .ok (.iconst 1, 1) := by decide +kernel
theorem dJ0_isLatin1_aae02_14 : decode cJ0_isLatin1_aae02 14 = .ok (.goto 4, 3) := by decide +kernel
theorem dJ0_isLatin1_aae02_17 : decode cJ0_isLatin1_aae02 17 = .ok (.iconst 0, 1) := by decide +kernel
theorem dJ0_isLatin1_aae02_18 : decode cJ0_isLatin1_aae02 18 = .ok (.ireturn, 1) := by decide +kernel
theorem dJ0_checkIndex_df160_0 : decode cJ0_checkIndex_df160 0 = .ok (.iload_n 0, 1) := by decide +kernel
theorem dJ0_checkIndex_df160_1 : decode cJ0_checkIndex_df160 1 = .ok (.iload_n 1, 1) := by decide +kernel
theorem dJ0_checkIndex_df160_2 : decode cJ0_checkIndex_df160 2 = .ok (.getstatic 1053, 3) := by decide +kernel
theorem dJ0_checkIndex_df160_5 : decode cJ0_checkIndex_df160 5 = .ok (.invokestatic 1059, 3) := by decide +kernel
theorem dJ0_checkIndex_df160_8 : decode cJ0_checkIndex_df160 8 = .ok (.pop, 1) := by decide +kernel
theorem dJ0_checkIndex_df160_9 : decode cJ0_checkIndex_df160 9 = .ok (.return_, 1) := by decide +kernel
theorem dJ1_charAt_3b067_0 : decode cJ1_charAt_3b067 0 = .ok (.iload_n 1, 1) := by decide +kernel
theorem dJ1_charAt_3b067_1 : decode cJ1_charAt_3b067 1 = .ok (.aload_n 0, 1) := by decide +kernel
theorem dJ1_charAt_3b067_2 : decode cJ1_charAt_3b067 2 = .ok (.arraylength, 1) := by decide +kernel
theorem dJ1_charAt_3b067_3 : decode cJ1_charAt_3b067 3 = .ok (.invokestatic 9, 3) := by decide +kernel
theorem dJ1_charAt_3b067_6 : decode cJ1_charAt_3b067 6 = .ok (.aload_n 0, 1) := by decide +kernel
theorem dJ1_charAt_3b067_7 : decode cJ1_charAt_3b067 7 = .ok (.iload_n 1, 1) := by decide +kernel
theorem dJ1_charAt_3b067_8 : decode cJ1_charAt_3b067 8 = .ok (.baload, 1) := by decide +kernel
theorem dJ1_charAt_3b067_9 : decode cJ1_charAt_3b067 9 = .ok (.sipush 255, 3) := by decide +kernel
theorem dJ1_charAt_3b067_12 : decode cJ1_charAt_3b067 12 = .ok (.iand, 1) := by decide +kernel
theorem dJ1_charAt_3b067_13 : decode cJ1_charAt_3b067 13 = .ok (.i2c, 1) := by decide +kernel
theorem dJ1_charAt_3b067_14 : decode cJ1_charAt_3b067 14 = .ok (.ireturn, 1) := by decide +kernel
theorem dJ2_getChar_3b067_0 : decode cJ2_getChar_3b067 0 = .ok (.getstatic 44, 3) := by decide +kernel
theorem dJ2_getChar_3b067_3 : decode cJ2_getChar_3b067 3 = .ok (.ifCond .ne 25, 3) := by decide +kernel
theorem dJ2_getChar_3b067_6 : decode cJ2_getChar_3b067 6 = .ok (.iload_n 1, 1) := by decide +kernel
theorem dJ2_getChar_3b067_7 : decode cJ2_getChar_3b067 7 = .ok (.ifCond .lt 11, 3) := by decide +kernel
theorem dJ2_getChar_3b067_10 : decode cJ2_getChar_3b067 10 = .ok (.iload_n 1, 1) := by decide +kernel
theorem dJ2_getChar_3b067_11 : decode cJ2_getChar_3b067 11 = .ok (.aload_n 0, 1) := by decide +kernel
theorem dJ2_getChar_3b067_12 : decode cJ2_getChar_3b067 12 = .ok (.invokestatic 48, 3) := by decide +kernel
theorem dJ2_getChar_3b067_15 : decode cJ2_getChar_3b067 15 = .ok (.if_icmp .lt 13, 3) := by decide +kernel
theorem dJ2_getChar_3b067_18 : decode cJ2_getChar_3b067 18 = .ok (.new 52, 3) := by decide +kernel
theorem dJ2_getChar_3b067_21 : decode cJ2_getChar_3b067 21 = .ok (.dup, 1) := by decide +kernel
theorem dJ2_getChar_3b067_22 : decode cJ2_getChar_3b067 22 = .ok (.ldc 54, 2) := by decide +kernel
theorem dJ2_getChar_3b067_24 : decode cJ2_getChar_3b067 24 = .ok (.invokespecial 56, 3) := by decide +kernel
theorem dJ2_getChar_3b067_27 : decode cJ2_getChar_3b067 27 = .ok (.athrow, 1) := by decide +kernel
theorem dJ2_getChar_3b067_28 : decode cJ2_getChar_3b067 28 = .ok (.iload_n 1, 1) := by decide +kernel
theorem dJ2_getChar_3b067_29 : decode cJ2_getChar_3b067 29 = .ok (.iconst 1, 1) := by decide +kernel
theorem dJ2_getChar_3b067_30 : decode cJ2_getChar_3b067 30 = .ok (.ishl, 1) := by decide +kernel
theorem dJ2_getChar_3b067_31 : decode cJ2_getChar_3b067 31 = .ok (.istore_n 1, 1) := by decide +kernel
theorem dJ2_getChar_3b067_32 : decode cJ2_getChar_3b067 32 = .ok (.aload_n 0, 1) := by decide +kernel
theorem dJ2_getChar_3b067_33 : decode cJ2_getChar_3b067 33 = .ok (.iload_n 1, 1) := by decide +kernel
theorem dJ2_getChar_3b067_34 : decode cJ2_getChar_3b067 34 = .ok (.iinc 1 1, 3) := by decide +kernel
theorem dJ2_getChar_3b067_37 : decode cJ2_getChar_3b067 37 = .ok (.baload, 1) := by decide +kernel
theorem dJ2_getChar_3b067_38 : decode cJ2_getChar_3b067 38 = .ok (.sipush 255, 3) := by decide +kernel
theorem dJ2_getChar_3b067_41 : decode cJ2_getChar_3b067 41 = .ok (.iand, 1) := by decide +kernel
theorem dJ2_getChar_3b067_42 : decode cJ2_getChar_3b067 42 = .ok (.getstatic 59, 3) := by decide +kernel
theorem dJ2_getChar_3b067_45 : decode cJ2_getChar_3b067 45 = .ok (.ishl, 1) := by decide +kernel
theorem dJ2_getChar_3b067_46 : decode cJ2_getChar_3b067 46 = .ok (.aload_n 0, 1) := by decide +kernel
theorem dJ2_getChar_3b067_47 : decode cJ2_getChar_3b067 47 = .ok (.iload_n 1, 1) := by decide +kernel
theorem dJ2_getChar_3b067_48 : decode cJ2_getChar_3b067 48 = .ok (.baload, 1) := by decide +kernel
theorem dJ2_getChar_3b067_49 : decode cJ2_getChar_3b067 49 = .ok (.sipush 255, 3) := by decide +kernel
theorem dJ2_getChar_3b067_52 : decode cJ2_getChar_3b067 52 = .ok (.iand, 1) := by decide +kernel
theorem dJ2_getChar_3b067_53 : decode cJ2_getChar_3b067 53 = .ok (.getstatic 63, 3) := by decide +kernel
theorem dJ2_getChar_3b067_56 : decode cJ2_getChar_3b067 56 = .ok (.ishl, 1) := by decide +kernel
theorem dJ2_getChar_3b067_57 : decode cJ2_getChar_3b067 57 = .ok (.ior, 1) := by decide +kernel
theorem dJ2_getChar_3b067_58 : decode cJ2_getChar_3b067 58 = .ok (.i2c, 1) := by decide +kernel
theorem dJ2_getChar_3b067_59 : decode cJ2_getChar_3b067 59 = .ok (.ireturn, 1) := by decide +kernel
theorem dJ2_length_9d52b_0 : decode cJ2_length_9d52b 0 = .ok (.aload_n 0, 1) := by decide +kernel
theorem dJ2_length_9d52b_1 : decode cJ2_length_9d52b 1 = .ok (.arraylength, 1) := by decide +kernel
theorem dJ2_length_9d52b_2 : decode cJ2_length_9d52b 2 = .ok (.iconst 1, 1) := by decide +kernel
theorem dJ2_length_9d52b_3 : decode cJ2_length_9d52b 3 = .ok (.ishr, 1) := by decide +kernel
theorem dJ2_length_9d52b_4 : decode cJ2_length_9d52b 4 = .ok (.ireturn, 1) := by decide +kernel
theorem dJ2_charAt_3b067_0 : decode cJ2_charAt_3b067 0 = .ok (.iload_n 1, 1) := by decide +kernel
theorem dJ2_charAt_3b067_1 : decode cJ2_charAt_3b067 1 = .ok (.aload_n 0, 1) := by decide +kernel
theorem dJ2_charAt_3b067_2 : decode cJ2_charAt_3b067 2 = .ok (.invokestatic 67, 3) := by decide +kernel
theorem dJ2_charAt_3b067_5 : decode cJ2_charAt_3b067 5 = .ok (.aload_n 0, 1) := by decide +kernel
theorem dJ2_charAt_3b067_6 : decode cJ2_charAt_3b067 6 = .ok (.iload_n 1, 1) := by decide +kernel
theorem dJ2_charAt_3b067_7 : decode cJ2_charAt_3b067 7 = .ok (.invokestatic 71, 3) := by decide +kernel
theorem dJ2_charAt_3b067_10 : decode cJ2_charAt_3b067 10 = .ok (.ireturn, 1) := by decide +kernel
theorem dJ2_checkIndex_2214a_0 : decode cJ2_checkIndex_2214a 0 = .ok (.iload_n 0, 1) := by decide +kernel
theorem dJ2_checkIndex_2214a_1 : decode cJ2_checkIndex_2214a 1 = .ok (.aload_n 1, 1) := by decide +kernel
theorem dJ2_checkIndex_2214a_2 : decode cJ2_checkIndex_2214a 2 = .ok (.invokestatic 48, 3) := by decide +kernel
theorem dJ2_checkIndex_2214a_5 : decode cJ2_checkIndex_2214a 5 = .ok (.invokestatic 414, 3) := by decide +kernel
theorem dJ2_checkIndex_2214a_8 : decode cJ2_checkIndex_2214a 8 = .ok (.return_, 1) := by decide +kernel
theorem dJ3_checkIndex_8e157_0 : decode cJ3_checkIndex_8e157 0 = .ok (.iload_n 0, 1) := by decide +kernel
theorem dJ3_checkIndex_8e157_1 : decode cJ3_checkIndex_8e157 1 = .ok (.ifCond .lt 8, 3) := by decide +kernel
theorem dJ3_checkIndex_8e157_4 : decode cJ3_checkIndex_8e157 4 = .ok (.iload_n 0, 1) := by decide +kernel
theorem dJ3_checkIndex_8e157_5 : decode cJ3_checkIndex_8e157 5 = .ok (.iload_n 1, 1) := by decide +kernel
theorem dJ3_checkIndex_8e157_6 : decode cJ3_checkIndex_8e157 6 = .ok (.if_icmp .lt 10, 3) := by decide +kernel
theorem dJ3_checkIndex_8e157_9 : decode cJ3_checkIndex_8e157 9 = .ok (.aload_n 2, 1) := by decide +kernel
theorem dJ3_checkIndex_8e157_10 : decode cJ3_checkIndex_8e157 10 = .ok (.iload_n 0, 1) := by decide +kernel
theorem dJ3_checkIndex_8e157_11 : decode cJ3_checkIndex_8e157 11 = .ok (.iload_n 1, 1) := by decide +kernel
theorem dJ3_checkIndex_8e157_12 : decode cJ3_checkIndex_8e157 12 = .ok (.invokestatic 95, 3) := by decide +kernel
theorem dJ3_checkIndex_8e157_15 : decode cJ3_checkIndex_8e157 15 = .ok (.athrow, 1) := by decide +kernel
theorem dJ3_checkIndex_8e157_16 : decode cJ3_checkIndex_8e157 16 = .ok (.iload_n 0, 1) := by decide +kernel
theorem dJ3_checkIndex_8e157_17 : decode cJ3_checkIndex_8e157 17 = .ok (.ireturn, 1) := by decide +kernel
end
section
theorem dL_element_0 : decode cL_element 0 = .ok (.aload_n 3, 1) := by decide +kernel
theorem dL_element_1 : decode cL_element 1 = .ok (.iconst 0, 1) := by decide +kernel
theorem dL_element_2 : decode cL_element 2 = .ok (.aload_n 0, 1) := by decide +kernel
theorem dL_element_3 : decode cL_element 3 = .ok (.iload_n 1, 1) := by decide +kernel
theorem dL_element_4 : decode cL_element 4 = .ok (.iload_n 2, 1) := by decide +kernel
theorem dL_element_5 : decode cL_element 5 = .ok (.invokevirtual 7, 3) := by decide +kernel
theorem dL_element_8 : decode cL_element 8 = .ok (.lastore, 1) := by decide +kernel
theorem dL_element_9 : decode cL_element 9 = .ok (.goto 11, 3) := by decide +kernel
theorem dL_element_12 : decode cL_element 12 = .ok (.astore 4, 2) := by decide +kernel
theorem dL_element_14 : decode cL_element 14 = .ok (.iconst 1, 1) := by decide +kernel
theorem dL_element_15 : decode cL_element 15 = .ok (.ireturn, 1) := by decide +kernel
theorem dL_element_16 : decode cL_element 16 = .ok (.astore 4, 2) := by decide +kernel
theorem dL_element_18 : decode cL_element 18 = .ok (.iconst 2, 1) := by decide +kernel
theorem dL_element_19 : decode cL_element 19 = .ok (.ireturn, 1) := by decide +kernel
theorem dL_element_20 : decode cL_element 20 = .ok (.iconst 0, 1) := by decide +kernel
theorem dL_element_21 : decode cL_element 21 = .ok (.ireturn, 1) := by decide +kernel
theorem dL_law_0 : decode cL_law 0 = .ok (.new 8, 3) := by decide +kernel
theorem dL_law_3 : decode cL_law 3 = .ok (.dup, 1) := by decide +kernel
theorem dL_law_4 : decode cL_law 4 = .ok (.invokespecial 17, 3) := by decide +kernel
theorem dL_law_7 : decode cL_law 7 = .ok (.astore_n 1, 1) := by decide +kernel
theorem dL_law_8 : decode cL_law 8 = .ok (.new 18, 3) := by decide +kernel
theorem dL_law_11 : decode cL_law 11 = .ok (.dup, 1) := by decide +kernel
theorem dL_law_12 : decode cL_law 12 = .ok (.invokespecial 20, 3) := by decide +kernel
theorem dL_law_15 : decode cL_law 15 = .ok (.astore_n 2, 1) := by decide +kernel
theorem dL_law_16 : decode cL_law 16 = .ok (.iconst 1, 1) := by decide +kernel
theorem dL_law_17 : decode cL_law 17 = .ok (.newarray .long, 2) := by decide +kernel
theorem dL_law_19 : decode cL_law 19 = .ok (.astore_n 3, 1) := by decide +kernel
theorem dL_law_20 : decode cL_law 20 = .ok (.iconst 0, 1) := by decide +kernel
theorem dL_law_21 : decode cL_law 21 = .ok (.istore 4, 2) := by decide +kernel
theorem dL_law_23 : decode cL_law 23 = .ok (.iload 4, 2) := by decide +kernel
theorem dL_law_25 : decode cL_law 25 = .ok (.aload_n 0, 1) := by decide +kernel
theorem dL_law_26 : decode cL_law 26 = .ok (.arraylength, 1) := by decide +kernel
theorem dL_law_27 : decode cL_law 27 = .ok (.bipush 6, 2) := by decide +kernel
theorem dL_law_29 : decode cL_law 29 = .ok (.isub, 1) := by decide +kernel
theorem dL_law_30 : decode cL_law 30 = .ok (.if_icmp .gt 1345, 3) := by decide +kernel
theorem dL_law_33 : decode cL_law 33 = .ok (.aload_n 0, 1) := by decide +kernel
theorem dL_law_34 : decode cL_law 34 = .ok (.iload 4, 2) := by decide +kernel
theorem dL_law_36 : decode cL_law 36 = .ok (.iaload, 1) := by decide +kernel
theorem dL_law_37 : decode cL_law 37 = .ok (.bipush 31, 2) := by decide +kernel
theorem dL_law_39 : decode cL_law 39 = .ok (.iand, 1) := by decide +kernel
theorem dL_law_40 : decode cL_law 40 = .ok (.tableswitch 1329 0 30 #[140, 165, 202, 239, 276, 313, 350, 375, 388, 425, 462, 487, 524, 573, 634, 695, 732, 781, 806, 843, 892, 929, 942, 955, 980, 1041, 1090, 1139, 1206, 1279, 1304], 140) := by decide +kernel
theorem dL_law_180 : decode cL_law 180 = .ok (.aload_n 1, 1) := by decide +kernel
theorem dL_law_181 : decode cL_law 181 = .ok (.aload_n 0, 1) := by decide +kernel
theorem dL_law_182 : decode cL_law 182 = .ok (.iload 4, 2) := by decide +kernel
theorem dL_law_184 : decode cL_law 184 = .ok (.iconst 1, 1) := by decide +kernel
theorem dL_law_185 : decode cL_law 185 = .ok (.iadd, 1) := by decide +kernel
theorem dL_law_186 : decode cL_law 186 = .ok (.iaload, 1) := by decide +kernel
theorem dL_law_187 : decode cL_law 187 = .ok (.invokevirtual 21, 3) := by decide +kernel
theorem dL_law_190 : decode cL_law 190 = .ok (.aload_n 2, 1) := by decide +kernel
theorem dL_law_191 : decode cL_law 191 = .ok (.aload_n 0, 1) := by decide +kernel
theorem dL_law_192 : decode cL_law 192 = .ok (.iload 4, 2) := by decide +kernel
theorem dL_law_194 : decode cL_law 194 = .ok (.iconst 1, 1) := by decide +kernel
theorem dL_law_195 : decode cL_law 195 = .ok (.iadd, 1) := by decide +kernel
theorem dL_law_196 : decode cL_law 196 = .ok (.iaload, 1) := by decide +kernel
theorem dL_law_197 : decode cL_law 197 = .ok (.invokevirtual 25, 3) := by decide +kernel
theorem dL_law_200 : decode cL_law 200 = .ok (.if_icmp .eq 1169, 3) := by decide +kernel
theorem dL_law_203 : decode cL_law 203 = .ok (.iconst 0, 1) := by decide +kernel
theorem dL_law_204 : decode cL_law 204 = .ok (.ireturn, 1) := by decide +kernel
theorem dL_law_205 : decode cL_law 205 = .ok (.aload_n 1, 1) := by decide +kernel
theorem dL_law_206 : decode cL_law 206 = .ok (.aload_n 0, 1) := by decide +kernel
theorem dL_law_207 : decode cL_law 207 = .ok (.iload 4, 2) := by decide +kernel
theorem dL_law_209 : decode cL_law 209 = .ok (.iconst 1, 1) := by decide +kernel
theorem dL_law_210 : decode cL_law 210 = .ok (.iadd, 1) := by decide +kernel
theorem dL_law_211 : decode cL_law 211 = .ok (.iaload, 1) := by decide +kernel
theorem dL_law_212 : decode cL_law 212 = .ok (.aload_n 0, 1) := by decide +kernel
theorem dL_law_213 : decode cL_law 213 = .ok (.iload 4, 2) := by decide +kernel
theorem dL_law_215 : decode cL_law 215 = .ok (.iconst 2, 1) := by decide +kernel
theorem dL_law_216 : decode cL_law 216 = .ok (.iadd, 1) := by decide +kernel
theorem dL_law_217 : decode cL_law 217 = .ok (.iaload, 1) := by decide +kernel
theorem dL_law_218 : decode cL_law 218 = .ok (.invokevirtual 26, 3) := by decide +kernel
theorem dL_law_221 : decode cL_law 221 = .ok (.aload_n 2, 1) := by decide +kernel
theorem dL_law_222 : decode cL_law 222 = .ok (.aload_n 0, 1) := by decide +kernel
theorem dL_law_223 : decode cL_law 223 = .ok (.iload 4, 2) := by decide +kernel
theorem dL_law_225 : decode cL_law 225 = .ok (.iconst 1, 1) := by decide +kernel
theorem dL_law_226 : decode cL_law 226 = .ok (.iadd, 1) := by decide +kernel
theorem dL_law_227 : decode cL_law 227 = .ok (.iaload, 1) := by decide +kernel
theorem dL_law_228 : decode cL_law 228 = .ok (.aload_n 0, 1) := by decide +kernel
theorem dL_law_229 : decode cL_law 229 = .ok (.iload 4, 2) := by decide +kernel
theorem dL_law_231 : decode cL_law 231 = .ok (.iconst 2, 1) := by decide +kernel
theorem dL_law_232 : decode cL_law 232 = .ok (.iadd, 1) := by decide +kernel
theorem dL_law_233 : decode cL_law 233 = .ok (.iaload, 1) := by decide +kernel
theorem dL_law_234 : decode cL_law 234 = .ok (.invokevirtual 30, 3) := by decide +kernel
theorem dL_law_237 : decode cL_law 237 = .ok (.if_icmp .eq 1132, 3) := by decide +kernel
theorem dL_law_240 : decode cL_law 240 = .ok (.iconst 0, 1) := by decide +kernel
theorem dL_law_241 : decode cL_law 241 = .ok (.ireturn, 1) := by decide +kernel
theorem dL_law_242 : decode cL_law 242 = .ok (.aload_n 1, 1) := by decide +kernel
theorem dL_law_243 : decode cL_law 243 = .ok (.aload_n 0, 1) := by decide +kernel
theorem dL_law_244 : decode cL_law 244 = .ok (.iload 4, 2) := by decide +kernel
theorem dL_law_246 : decode cL_law 246 = .ok (.iconst 1, 1) := by decide +kernel
theorem dL_law_247 : decode cL_law 247 = .ok (.iadd, 1) := by decide +kernel
theorem dL_law_248 : decode cL_law 248 = .ok (.iaload, 1) := by decide +kernel
theorem dL_law_249 : decode cL_law 249 = .ok (.aload_n 0, 1) := by decide +kernel
theorem dL_law_250 : decode cL_law 250 = .ok (.iload 4, 2) := by decide +kernel
theorem dL_law_252 : decode cL_law 252 = .ok (.iconst 2, 1) := by decide +kernel
theorem dL_law_253 : decode cL_law 253 = .ok (.iadd, 1) := by decide +kernel
theorem dL_law_254 : decode cL_law 254 = .ok (.iaload, 1) := by decide +kernel
theorem dL_law_255 : decode cL_law 255 = .ok (.invokevirtual 31, 3) := by decide +kernel
theorem dL_law_258 : decode cL_law 258 = .ok (.aload_n 2, 1) := by decide +kernel
theorem dL_law_259 : decode cL_law 259 = .ok (.aload_n 0, 1) := by decide +kernel
theorem dL_law_260 : decode cL_law 260 = .ok (.iload 4, 2) := by decide +kernel
theorem dL_law_262 : decode cL_law 262 = .ok (.iconst 1, 1) := by decide +kernel
theorem dL_law_263 : decode cL_law 263 = .ok (.iadd, 1) := by decide +kernel
theorem dL_law_264 : decode cL_law 264 = .ok (.iaload, 1) := by decide +kernel
theorem dL_law_265 : decode cL_law 265 = .ok (.aload_n 0, 1) := by decide +kernel
theorem dL_law_266 : decode cL_law 266 = .ok (.iload 4, 2) := by decide +kernel
theorem dL_law_268 : decode cL_law 268 = .ok (.iconst 2, 1) := by decide +kernel
theorem dL_law_269 : decode cL_law 269 = .ok (.iadd, 1) := by decide +kernel
theorem dL_law_270 : decode cL_law 270 = .ok (.iaload, 1) := by decide +kernel
theorem dL_law_271 : decode cL_law 271 = .ok (.invokevirtual 34, 3) := by decide +kernel
theorem dL_law_274 : decode cL_law 274 = .ok (.if_icmp .eq 1095, 3) := by decide +kernel
theorem dL_law_277 : decode cL_law 277 = .ok (.iconst 0, 1) := by decide +kernel
theorem dL_law_278 : decode cL_law 278 = .ok (.ireturn, 1) := by decide +kernel
theorem dL_law_279 : decode cL_law 279 = .ok (.aload_n 1, 1) := by decide +kernel
theorem dL_law_280 : decode cL_law 280 = .ok (.aload_n 0, 1) := by decide +kernel
theorem dL_law_281 : decode cL_law 281 = .ok (.iload 4, 2) := by decide +kernel
theorem dL_law_283 : decode cL_law 283 = .ok (.iconst 1, 1) := by decide +kernel
theorem dL_law_284 : decode cL_law 284 = .ok (.iadd, 1) := by decide +kernel
theorem dL_law_285 : decode cL_law 285 = .ok (.iaload, 1) := by decide +kernel
theorem dL_law_286 : decode cL_law 286 = .ok (.aload_n 0, 1) := by decide +kernel
theorem dL_law_287 : decode cL_law 287 = .ok (.iload 4, 2) := by decide +kernel
theorem dL_law_289 : decode cL_law 289 = .ok (.iconst 2, 1) := by decide +kernel
theorem dL_law_290 : decode cL_law 290 = .ok (.iadd, 1) := by decide +kernel
theorem dL_law_291 : decode cL_law 291 = .ok (.iaload, 1) := by decide +kernel
theorem dL_law_292 : decode cL_law 292 = .ok (.invokevirtual 35, 3) := by decide +kernel
theorem dL_law_295 : decode cL_law 295 = .ok (.aload_n 2, 1) := by decide +kernel
theorem dL_law_296 : decode cL_law 296 = .ok (.aload_n 0, 1) := by decide +kernel
theorem dL_law_297 : decode cL_law 297 = .ok (.iload 4, 2) := by decide +kernel
theorem dL_law_299 : decode cL_law 299 = .ok (.iconst 1, 1) := by decide +kernel
theorem dL_law_300 : decode cL_law 300 = .ok (.iadd, 1) := by decide +kernel
theorem dL_law_301 : decode cL_law 301 = .ok (.iaload, 1) := by decide +kernel
theorem dL_law_302 : decode cL_law 302 = .ok (.aload_n 0, 1) := by decide +kernel
theorem dL_law_303 : decode cL_law 303 = .ok (.iload 4, 2) := by decide +kernel
theorem dL_law_305 : decode cL_law 305 = .ok (.iconst 2, 1) := by decide +kernel
theorem dL_law_306 : decode cL_law 306 = .ok (.iadd, 1) := by decide +kernel
theorem dL_law_307 : decode cL_law 307 = .ok (.iaload, 1) := by decide +kernel
theorem dL_law_308 : decode cL_law 308 = .ok (.invokevirtual 38, 3) := by decide +kernel
theorem dL_law_311 : decode cL_law 311 = .ok (.if_icmp .eq 1058, 3) := by decide +kernel
theorem dL_law_314 : decode cL_law 314 = .ok (.iconst 0, 1) := by decide +kernel
theorem dL_law_315 : decode cL_law 315 = .ok (.ireturn, 1) := by decide +kernel
theorem dL_law_316 : decode cL_law 316 = .ok (.aload_n 1, 1) := by decide +kernel
theorem dL_law_317 : decode cL_law 317 = .ok (.aload_n 0, 1) := by decide +kernel
theorem dL_law_318 : decode cL_law 318 = .ok (.iload 4, 2) := by decide +kernel
theorem dL_law_320 : decode cL_law 320 = .ok (.iconst 1, 1) := by decide +kernel
theorem dL_law_321 : decode cL_law 321 = .ok (.iadd, 1) := by decide +kernel
theorem dL_law_322 : decode cL_law 322 = .ok (.iaload, 1) := by decide +kernel
theorem dL_law_323 : decode cL_law 323 = .ok (.aload_n 0, 1) := by decide +kernel
theorem dL_law_324 : decode cL_law 324 = .ok (.iload 4, 2) := by decide +kernel
theorem dL_law_326 : decode cL_law 326 = .ok (.iconst 2, 1) := by decide +kernel
theorem dL_law_327 : decode cL_law 327 = .ok (.iadd, 1) := by decide +kernel
theorem dL_law_328 : decode cL_law 328 = .ok (.iaload, 1) := by decide +kernel
theorem dL_law_329 : decode cL_law 329 = .ok (.invokevirtual 39, 3) := by decide +kernel
theorem dL_law_332 : decode cL_law 332 = .ok (.aload_n 2, 1) := by decide +kernel
theorem dL_law_333 : decode cL_law 333 = .ok (.aload_n 0, 1) := by decide +kernel
theorem dL_law_334 : decode cL_law 334 = .ok (.iload 4, 2) := by decide +kernel
theorem dL_law_336 : decode cL_law 336 = .ok (.iconst 1, 1) := by decide +kernel
theorem dL_law_337 : decode cL_law 337 = .ok (.iadd, 1) := by decide +kernel
theorem dL_law_338 : decode cL_law 338 = .ok (.iaload, 1) := by decide +kernel
theorem dL_law_339 : decode cL_law 339 = .ok (.aload_n 0, 1) := by decide +kernel
theorem dL_law_340 : decode cL_law 340 = .ok (.iload 4, 2) := by decide +kernel
theorem dL_law_342 : decode cL_law 342 = .ok (.iconst 2, 1) := by decide +kernel
theorem dL_law_343 : decode cL_law 343 = .ok (.iadd, 1) := by decide +kernel
theorem dL_law_344 : decode cL_law 344 = .ok (.iaload, 1) := by decide +kernel
theorem dL_law_345 : decode cL_law 345 = .ok (.invokevirtual 42, 3) := by decide +kernel
theorem dL_law_348 : decode cL_law 348 = .ok (.if_icmp .eq 1021, 3) := by decide +kernel
theorem dL_law_351 : decode cL_law 351 = .ok (.iconst 0, 1) := by decide +kernel
theorem dL_law_352 : decode cL_law 352 = .ok (.ireturn, 1) := by decide +kernel
theorem dL_law_353 : decode cL_law 353 = .ok (.aload_n 1, 1) := by decide +kernel
theorem dL_law_354 : decode cL_law 354 = .ok (.aload_n 0, 1) := by decide +kernel
theorem dL_law_355 : decode cL_law 355 = .ok (.iload 4, 2) := by decide +kernel
theorem dL_law_357 : decode cL_law 357 = .ok (.iconst 1, 1) := by decide +kernel
theorem dL_law_358 : decode cL_law 358 = .ok (.iadd, 1) := by decide +kernel
theorem dL_law_359 : decode cL_law 359 = .ok (.iaload, 1) := by decide +kernel
theorem dL_law_360 : decode cL_law 360 = .ok (.aload_n 0, 1) := by decide +kernel
theorem dL_law_361 : decode cL_law 361 = .ok (.iload 4, 2) := by decide +kernel
theorem dL_law_363 : decode cL_law 363 = .ok (.iconst 2, 1) := by decide +kernel
theorem dL_law_364 : decode cL_law 364 = .ok (.iadd, 1) := by decide +kernel
theorem dL_law_365 : decode cL_law 365 = .ok (.iaload, 1) := by decide +kernel
theorem dL_law_366 : decode cL_law 366 = .ok (.invokevirtual 43, 3) := by decide +kernel
theorem dL_law_369 : decode cL_law 369 = .ok (.aload_n 2, 1) := by decide +kernel
theorem dL_law_370 : decode cL_law 370 = .ok (.aload_n 0, 1) := by decide +kernel
theorem dL_law_371 : decode cL_law 371 = .ok (.iload 4, 2) := by decide +kernel
theorem dL_law_373 : decode cL_law 373 = .ok (.iconst 1, 1) := by decide +kernel
theorem dL_law_374 : decode cL_law 374 = .ok (.iadd, 1) := by decide +kernel
theorem dL_law_375 : decode cL_law 375 = .ok (.iaload, 1) := by decide +kernel
theorem dL_law_376 : decode cL_law 376 = .ok (.aload_n 0, 1) := by decide +kernel
theorem dL_law_377 : decode cL_law 377 = .ok (.iload 4, 2) := by decide +kernel
theorem dL_law_379 : decode cL_law 379 = .ok (.iconst 2, 1) := by decide +kernel
theorem dL_law_380 : decode cL_law 380 = .ok (.iadd, 1) := by decide +kernel
theorem dL_law_381 : decode cL_law 381 = .ok (.iaload, 1) := by decide +kernel
theorem dL_law_382 : decode cL_law 382 = .ok (.invokevirtual 46, 3) := by decide +kernel
theorem dL_law_385 : decode cL_law 385 = .ok (.if_icmp .eq 984, 3) := by decide +kernel
theorem dL_law_388 : decode cL_law 388 = .ok (.iconst 0, 1) := by decide +kernel
theorem dL_law_389 : decode cL_law 389 = .ok (.ireturn, 1) := by decide +kernel
theorem dL_law_390 : decode cL_law 390 = .ok (.aload_n 1, 1) := by decide +kernel
theorem dL_law_391 : decode cL_law 391 = .ok (.aload_n 0, 1) := by decide +kernel
theorem dL_law_392 : decode cL_law 392 = .ok (.iload 4, 2) := by decide +kernel
theorem dL_law_394 : decode cL_law 394 = .ok (.iconst 1, 1) := by decide +kernel
theorem dL_law_395 : decode cL_law 395 = .ok (.iadd, 1) := by decide +kernel
theorem dL_law_396 : decode cL_law 396 = .ok (.iaload, 1) := by decide +kernel
theorem dL_law_397 : decode cL_law 397 = .ok (.invokevirtual 47, 3) := by decide +kernel
theorem dL_law_400 : decode cL_law 400 = .ok (.aload_n 2, 1) := by decide +kernel
theorem dL_law_401 : decode cL_law 401 = .ok (.aload_n 0, 1) := by decide +kernel
theorem dL_law_402 : decode cL_law 402 = .ok (.iload 4, 2) := by decide +kernel
theorem dL_law_404 : decode cL_law 404 = .ok (.iconst 1, 1) := by decide +kernel
theorem dL_law_405 : decode cL_law 405 = .ok (.iadd, 1) := by decide +kernel
theorem dL_law_406 : decode cL_law 406 = .ok (.iaload, 1) := by decide +kernel
theorem dL_law_407 : decode cL_law 407 = .ok (.invokevirtual 50, 3) := by decide +kernel
theorem dL_law_410 : decode cL_law 410 = .ok (.if_icmp .eq 959, 3) := by decide +kernel
theorem dL_law_413 : decode cL_law 413 = .ok (.iconst 0, 1) := by decide +kernel
theorem dL_law_414 : decode cL_law 414 = .ok (.ireturn, 1) := by decide +kernel
theorem dL_law_415 : decode cL_law 415 = .ok (.aload_n 1, 1) := by decide +kernel
theorem dL_law_416 : decode cL_law 416 = .ok (.invokevirtual 51, 3) := by decide +kernel
theorem dL_law_419 : decode cL_law 419 = .ok (.aload_n 2, 1) := by decide +kernel
theorem dL_law_420 : decode cL_law 420 = .ok (.invokevirtual 55, 3) := by decide +kernel
theorem dL_law_423 : decode cL_law 423 = .ok (.if_icmp .eq 946, 3) := by decide +kernel
theorem dL_law_426 : decode cL_law 426 = .ok (.iconst 0, 1) := by decide +kernel
theorem dL_law_427 : decode cL_law 427 = .ok (.ireturn, 1) := by decide +kernel
theorem dL_law_428 : decode cL_law 428 = .ok (.aload_n 1, 1) := by decide +kernel
theorem dL_law_429 : decode cL_law 429 = .ok (.aload_n 0, 1) := by decide +kernel
theorem dL_law_430 : decode cL_law 430 = .ok (.iload 4, 2) := by decide +kernel
theorem dL_law_432 : decode cL_law 432 = .ok (.iconst 1, 1) := by decide +kernel
theorem dL_law_433 : decode cL_law 433 = .ok (.iadd, 1) := by decide +kernel
theorem dL_law_434 : decode cL_law 434 = .ok (.iaload, 1) := by decide +kernel
theorem dL_law_435 : decode cL_law 435 = .ok (.aload_n 0, 1) := by decide +kernel
theorem dL_law_436 : decode cL_law 436 = .ok (.iload 4, 2) := by decide +kernel
theorem dL_law_438 : decode cL_law 438 = .ok (.iconst 2, 1) := by decide +kernel
theorem dL_law_439 : decode cL_law 439 = .ok (.iadd, 1) := by decide +kernel
theorem dL_law_440 : decode cL_law 440 = .ok (.iaload, 1) := by decide +kernel
theorem dL_law_441 : decode cL_law 441 = .ok (.invokevirtual 56, 3) := by decide +kernel
theorem dL_law_444 : decode cL_law 444 = .ok (.aload_n 2, 1) := by decide +kernel
theorem dL_law_445 : decode cL_law 445 = .ok (.aload_n 0, 1) := by decide +kernel
theorem dL_law_446 : decode cL_law 446 = .ok (.iload 4, 2) := by decide +kernel
theorem dL_law_448 : decode cL_law 448 = .ok (.iconst 1, 1) := by decide +kernel
theorem dL_law_449 : decode cL_law 449 = .ok (.iadd, 1) := by decide +kernel
theorem dL_law_450 : decode cL_law 450 = .ok (.iaload, 1) := by decide +kernel
theorem dL_law_451 : decode cL_law 451 = .ok (.aload_n 0, 1) := by decide +kernel
theorem dL_law_452 : decode cL_law 452 = .ok (.iload 4, 2) := by decide +kernel
theorem dL_law_454 : decode cL_law 454 = .ok (.iconst 2, 1) := by decide +kernel
theorem dL_law_455 : decode cL_law 455 = .ok (.iadd, 1) := by decide +kernel
theorem dL_law_456 : decode cL_law 456 = .ok (.iaload, 1) := by decide +kernel
theorem dL_law_457 : decode cL_law 457 = .ok (.invokevirtual 59, 3) := by decide +kernel
theorem dL_law_460 : decode cL_law 460 = .ok (.if_icmp .eq 909, 3) := by decide +kernel
theorem dL_law_463 : decode cL_law 463 = .ok (.iconst 0, 1) := by decide +kernel
theorem dL_law_464 : decode cL_law 464 = .ok (.ireturn, 1) := by decide +kernel
theorem dL_law_465 : decode cL_law 465 = .ok (.aload_n 1, 1) := by decide +kernel
theorem dL_law_466 : decode cL_law 466 = .ok (.aload_n 0, 1) := by decide +kernel
theorem dL_law_467 : decode cL_law 467 = .ok (.iload 4, 2) := by decide +kernel
theorem dL_law_469 : decode cL_law 469 = .ok (.iconst 1, 1) := by decide +kernel
theorem dL_law_470 : decode cL_law 470 = .ok (.iadd, 1) := by decide +kernel
theorem dL_law_471 : decode cL_law 471 = .ok (.iaload, 1) := by decide +kernel
theorem dL_law_472 : decode cL_law 472 = .ok (.aload_n 0, 1) := by decide +kernel
theorem dL_law_473 : decode cL_law 473 = .ok (.iload 4, 2) := by decide +kernel
theorem dL_law_475 : decode cL_law 475 = .ok (.iconst 2, 1) := by decide +kernel
theorem dL_law_476 : decode cL_law 476 = .ok (.iadd, 1) := by decide +kernel
theorem dL_law_477 : decode cL_law 477 = .ok (.iaload, 1) := by decide +kernel
theorem dL_law_478 : decode cL_law 478 = .ok (.invokevirtual 60, 3) := by decide +kernel
theorem dL_law_481 : decode cL_law 481 = .ok (.aload_n 2, 1) := by decide +kernel
theorem dL_law_482 : decode cL_law 482 = .ok (.aload_n 0, 1) := by decide +kernel
theorem dL_law_483 : decode cL_law 483 = .ok (.iload 4, 2) := by decide +kernel
theorem dL_law_485 : decode cL_law 485 = .ok (.iconst 1, 1) := by decide +kernel
theorem dL_law_486 : decode cL_law 486 = .ok (.iadd, 1) := by decide +kernel
theorem dL_law_487 : decode cL_law 487 = .ok (.iaload, 1) := by decide +kernel
theorem dL_law_488 : decode cL_law 488 = .ok (.aload_n 0, 1) := by decide +kernel
theorem dL_law_489 : decode cL_law 489 = .ok (.iload 4, 2) := by decide +kernel
theorem dL_law_491 : decode cL_law 491 = .ok (.iconst 2, 1) := by decide +kernel
theorem dL_law_492 : decode cL_law 492 = .ok (.iadd, 1) := by decide +kernel
theorem dL_law_493 : decode cL_law 493 = .ok (.iaload, 1) := by decide +kernel
theorem dL_law_494 : decode cL_law 494 = .ok (.invokevirtual 63, 3) := by decide +kernel
theorem dL_law_497 : decode cL_law 497 = .ok (.if_icmp .eq 872, 3) := by decide +kernel
theorem dL_law_500 : decode cL_law 500 = .ok (.iconst 0, 1) := by decide +kernel
theorem dL_law_501 : decode cL_law 501 = .ok (.ireturn, 1) := by decide +kernel
theorem dL_law_502 : decode cL_law 502 = .ok (.aload_n 1, 1) := by decide +kernel
theorem dL_law_503 : decode cL_law 503 = .ok (.aload_n 0, 1) := by decide +kernel
theorem dL_law_504 : decode cL_law 504 = .ok (.iload 4, 2) := by decide +kernel
theorem dL_law_506 : decode cL_law 506 = .ok (.iconst 1, 1) := by decide +kernel
theorem dL_law_507 : decode cL_law 507 = .ok (.iadd, 1) := by decide +kernel
theorem dL_law_508 : decode cL_law 508 = .ok (.iaload, 1) := by decide +kernel
theorem dL_law_509 : decode cL_law 509 = .ok (.invokevirtual 64, 3) := by decide +kernel
theorem dL_law_512 : decode cL_law 512 = .ok (.aload_n 2, 1) := by decide +kernel
theorem dL_law_513 : decode cL_law 513 = .ok (.aload_n 0, 1) := by decide +kernel
theorem dL_law_514 : decode cL_law 514 = .ok (.iload 4, 2) := by decide +kernel
theorem dL_law_516 : decode cL_law 516 = .ok (.iconst 1, 1) := by decide +kernel
theorem dL_law_517 : decode cL_law 517 = .ok (.iadd, 1) := by decide +kernel
theorem dL_law_518 : decode cL_law 518 = .ok (.iaload, 1) := by decide +kernel
theorem dL_law_519 : decode cL_law 519 = .ok (.invokevirtual 67, 3) := by decide +kernel
theorem dL_law_522 : decode cL_law 522 = .ok (.if_icmp .eq 847, 3) := by decide +kernel
theorem dL_law_525 : decode cL_law 525 = .ok (.iconst 0, 1) := by decide +kernel
theorem dL_law_526 : decode cL_law 526 = .ok (.ireturn, 1) := by decide +kernel
theorem dL_law_527 : decode cL_law 527 = .ok (.aload_n 1, 1) := by decide +kernel
theorem dL_law_528 : decode cL_law 528 = .ok (.aload_n 0, 1) := by decide +kernel
theorem dL_law_529 : decode cL_law 529 = .ok (.iload 4, 2) := by decide +kernel
theorem dL_law_531 : decode cL_law 531 = .ok (.iconst 1, 1) := by decide +kernel
theorem dL_law_532 : decode cL_law 532 = .ok (.iadd, 1) := by decide +kernel
theorem dL_law_533 : decode cL_law 533 = .ok (.iaload, 1) := by decide +kernel
theorem dL_law_534 : decode cL_law 534 = .ok (.aload_n 0, 1) := by decide +kernel
theorem dL_law_535 : decode cL_law 535 = .ok (.iload 4, 2) := by decide +kernel
theorem dL_law_537 : decode cL_law 537 = .ok (.iconst 2, 1) := by decide +kernel
theorem dL_law_538 : decode cL_law 538 = .ok (.iadd, 1) := by decide +kernel
theorem dL_law_539 : decode cL_law 539 = .ok (.iaload, 1) := by decide +kernel
theorem dL_law_540 : decode cL_law 540 = .ok (.invokevirtual 68, 3) := by decide +kernel
theorem dL_law_543 : decode cL_law 543 = .ok (.aload_n 2, 1) := by decide +kernel
theorem dL_law_544 : decode cL_law 544 = .ok (.aload_n 0, 1) := by decide +kernel
theorem dL_law_545 : decode cL_law 545 = .ok (.iload 4, 2) := by decide +kernel
theorem dL_law_547 : decode cL_law 547 = .ok (.iconst 1, 1) := by decide +kernel
theorem dL_law_548 : decode cL_law 548 = .ok (.iadd, 1) := by decide +kernel
theorem dL_law_549 : decode cL_law 549 = .ok (.iaload, 1) := by decide +kernel
theorem dL_law_550 : decode cL_law 550 = .ok (.aload_n 0, 1) := by decide +kernel
theorem dL_law_551 : decode cL_law 551 = .ok (.iload 4, 2) := by decide +kernel
theorem dL_law_553 : decode cL_law 553 = .ok (.iconst 2, 1) := by decide +kernel
theorem dL_law_554 : decode cL_law 554 = .ok (.iadd, 1) := by decide +kernel
theorem dL_law_555 : decode cL_law 555 = .ok (.iaload, 1) := by decide +kernel
theorem dL_law_556 : decode cL_law 556 = .ok (.invokevirtual 71, 3) := by decide +kernel
theorem dL_law_559 : decode cL_law 559 = .ok (.if_icmp .eq 810, 3) := by decide +kernel
theorem dL_law_562 : decode cL_law 562 = .ok (.iconst 0, 1) := by decide +kernel
theorem dL_law_563 : decode cL_law 563 = .ok (.ireturn, 1) := by decide +kernel
theorem dL_law_564 : decode cL_law 564 = .ok (.aload_n 1, 1) := by decide +kernel
theorem dL_law_565 : decode cL_law 565 = .ok (.aload_n 0, 1) := by decide +kernel
theorem dL_law_566 : decode cL_law 566 = .ok (.iload 4, 2) := by decide +kernel
theorem dL_law_568 : decode cL_law 568 = .ok (.iconst 1, 1) := by decide +kernel
theorem dL_law_569 : decode cL_law 569 = .ok (.iadd, 1) := by decide +kernel
theorem dL_law_570 : decode cL_law 570 = .ok (.iaload, 1) := by decide +kernel
theorem dL_law_571 : decode cL_law 571 = .ok (.aload_n 0, 1) := by decide +kernel
theorem dL_law_572 : decode cL_law 572 = .ok (.iload 4, 2) := by decide +kernel
theorem dL_law_574 : decode cL_law 574 = .ok (.iconst 2, 1) := by decide +kernel
theorem dL_law_575 : decode cL_law 575 = .ok (.iadd, 1) := by decide +kernel
theorem dL_law_576 : decode cL_law 576 = .ok (.iaload, 1) := by decide +kernel
theorem dL_law_577 : decode cL_law 577 = .ok (.aload_n 0, 1) := by decide +kernel
theorem dL_law_578 : decode cL_law 578 = .ok (.iload 4, 2) := by decide +kernel
theorem dL_law_580 : decode cL_law 580 = .ok (.iconst 3, 1) := by decide +kernel
theorem dL_law_581 : decode cL_law 581 = .ok (.iadd, 1) := by decide +kernel
theorem dL_law_582 : decode cL_law 582 = .ok (.iaload, 1) := by decide +kernel
theorem dL_law_583 : decode cL_law 583 = .ok (.invokevirtual 72, 3) := by decide +kernel
theorem dL_law_586 : decode cL_law 586 = .ok (.aload_n 2, 1) := by decide +kernel
theorem dL_law_587 : decode cL_law 587 = .ok (.aload_n 0, 1) := by decide +kernel
theorem dL_law_588 : decode cL_law 588 = .ok (.iload 4, 2) := by decide +kernel
theorem dL_law_590 : decode cL_law 590 = .ok (.iconst 1, 1) := by decide +kernel
theorem dL_law_591 : decode cL_law 591 = .ok (.iadd, 1) := by decide +kernel
theorem dL_law_592 : decode cL_law 592 = .ok (.iaload, 1) := by decide +kernel
theorem dL_law_593 : decode cL_law 593 = .ok (.aload_n 0, 1) := by decide +kernel
theorem dL_law_594 : decode cL_law 594 = .ok (.iload 4, 2) := by decide +kernel
theorem dL_law_596 : decode cL_law 596 = .ok (.iconst 2, 1) := by decide +kernel
theorem dL_law_597 : decode cL_law 597 = .ok (.iadd, 1) := by decide +kernel
theorem dL_law_598 : decode cL_law 598 = .ok (.iaload, 1) := by decide +kernel
theorem dL_law_599 : decode cL_law 599 = .ok (.aload_n 0, 1) := by decide +kernel
theorem dL_law_600 : decode cL_law 600 = .ok (.iload 4, 2) := by decide +kernel
theorem dL_law_602 : decode cL_law 602 = .ok (.iconst 3, 1) := by decide +kernel
theorem dL_law_603 : decode cL_law 603 = .ok (.iadd, 1) := by decide +kernel
theorem dL_law_604 : decode cL_law 604 = .ok (.iaload, 1) := by decide +kernel
theorem dL_law_605 : decode cL_law 605 = .ok (.invokevirtual 76, 3) := by decide +kernel
theorem dL_law_608 : decode cL_law 608 = .ok (.if_icmp .eq 761, 3) := by decide +kernel
theorem dL_law_611 : decode cL_law 611 = .ok (.iconst 0, 1) := by decide +kernel
theorem dL_law_612 : decode cL_law 612 = .ok (.ireturn, 1) := by decide +kernel
theorem dL_law_613 : decode cL_law 613 = .ok (.aload_n 1, 1) := by decide +kernel
theorem dL_law_614 : decode cL_law 614 = .ok (.aload_n 0, 1) := by decide +kernel
theorem dL_law_615 : decode cL_law 615 = .ok (.iload 4, 2) := by decide +kernel
theorem dL_law_617 : decode cL_law 617 = .ok (.iconst 1, 1) := by decide +kernel
theorem dL_law_618 : decode cL_law 618 = .ok (.iadd, 1) := by decide +kernel
theorem dL_law_619 : decode cL_law 619 = .ok (.iaload, 1) := by decide +kernel
theorem dL_law_620 : decode cL_law 620 = .ok (.aload_n 0, 1) := by decide +kernel
theorem dL_law_621 : decode cL_law 621 = .ok (.iload 4, 2) := by decide +kernel
theorem dL_law_623 : decode cL_law 623 = .ok (.iconst 2, 1) := by decide +kernel
theorem dL_law_624 : decode cL_law 624 = .ok (.iadd, 1) := by decide +kernel
theorem dL_law_625 : decode cL_law 625 = .ok (.iaload, 1) := by decide +kernel
theorem dL_law_626 : decode cL_law 626 = .ok (.aload_n 0, 1) := by decide +kernel
theorem dL_law_627 : decode cL_law 627 = .ok (.iload 4, 2) := by decide +kernel
theorem dL_law_629 : decode cL_law 629 = .ok (.iconst 3, 1) := by decide +kernel
theorem dL_law_630 : decode cL_law 630 = .ok (.iadd, 1) := by decide +kernel
theorem dL_law_631 : decode cL_law 631 = .ok (.iaload, 1) := by decide +kernel
theorem dL_law_632 : decode cL_law 632 = .ok (.aload_n 0, 1) := by decide +kernel
theorem dL_law_633 : decode cL_law 633 = .ok (.iload 4, 2) := by decide +kernel
theorem dL_law_635 : decode cL_law 635 = .ok (.iconst 4, 1) := by decide +kernel
theorem dL_law_636 : decode cL_law 636 = .ok (.iadd, 1) := by decide +kernel
theorem dL_law_637 : decode cL_law 637 = .ok (.iaload, 1) := by decide +kernel
theorem dL_law_638 : decode cL_law 638 = .ok (.invokevirtual 77, 3) := by decide +kernel
theorem dL_law_641 : decode cL_law 641 = .ok (.aload_n 2, 1) := by decide +kernel
theorem dL_law_642 : decode cL_law 642 = .ok (.aload_n 0, 1) := by decide +kernel
theorem dL_law_643 : decode cL_law 643 = .ok (.iload 4, 2) := by decide +kernel
theorem dL_law_645 : decode cL_law 645 = .ok (.iconst 1, 1) := by decide +kernel
theorem dL_law_646 : decode cL_law 646 = .ok (.iadd, 1) := by decide +kernel
theorem dL_law_647 : decode cL_law 647 = .ok (.iaload, 1) := by decide +kernel
theorem dL_law_648 : decode cL_law 648 = .ok (.aload_n 0, 1) := by decide +kernel
theorem dL_law_649 : decode cL_law 649 = .ok (.iload 4, 2) := by decide +kernel
theorem dL_law_651 : decode cL_law 651 = .ok (.iconst 2, 1) := by decide +kernel
theorem dL_law_652 : decode cL_law 652 = .ok (.iadd, 1) := by decide +kernel
theorem dL_law_653 : decode cL_law 653 = .ok (.iaload, 1) := by decide +kernel
theorem dL_law_654 : decode cL_law 654 = .ok (.aload_n 0, 1) := by decide +kernel
theorem dL_law_655 : decode cL_law 655 = .ok (.iload 4, 2) := by decide +kernel
theorem dL_law_657 : decode cL_law 657 = .ok (.iconst 3, 1) := by decide +kernel
theorem dL_law_658 : decode cL_law 658 = .ok (.iadd, 1) := by decide +kernel
theorem dL_law_659 : decode cL_law 659 = .ok (.iaload, 1) := by decide +kernel
theorem dL_law_660 : decode cL_law 660 = .ok (.aload_n 0, 1) := by decide +kernel
theorem dL_law_661 : decode cL_law 661 = .ok (.iload 4, 2) := by decide +kernel
theorem dL_law_663 : decode cL_law 663 = .ok (.iconst 4, 1) := by decide +kernel
theorem dL_law_664 : decode cL_law 664 = .ok (.iadd, 1) := by decide +kernel
theorem dL_law_665 : decode cL_law 665 = .ok (.iaload, 1) := by decide +kernel
theorem dL_law_666 : decode cL_law 666 = .ok (.invokevirtual 81, 3) := by decide +kernel
theorem dL_law_669 : decode cL_law 669 = .ok (.if_icmp .eq 700, 3) := by decide +kernel
theorem dL_law_672 : decode cL_law 672 = .ok (.iconst 0, 1) := by decide +kernel
theorem dL_law_673 : decode cL_law 673 = .ok (.ireturn, 1) := by decide +kernel
theorem dL_law_674 : decode cL_law 674 = .ok (.aload_n 1, 1) := by decide +kernel
theorem dL_law_675 : decode cL_law 675 = .ok (.aload_n 0, 1) := by decide +kernel
theorem dL_law_676 : decode cL_law 676 = .ok (.iload 4, 2) := by decide +kernel
theorem dL_law_678 : decode cL_law 678 = .ok (.iconst 1, 1) := by decide +kernel
theorem dL_law_679 : decode cL_law 679 = .ok (.iadd, 1) := by decide +kernel
theorem dL_law_680 : decode cL_law 680 = .ok (.iaload, 1) := by decide +kernel
theorem dL_law_681 : decode cL_law 681 = .ok (.aload_n 0, 1) := by decide +kernel
theorem dL_law_682 : decode cL_law 682 = .ok (.iload 4, 2) := by decide +kernel
theorem dL_law_684 : decode cL_law 684 = .ok (.iconst 2, 1) := by decide +kernel
theorem dL_law_685 : decode cL_law 685 = .ok (.iadd, 1) := by decide +kernel
theorem dL_law_686 : decode cL_law 686 = .ok (.iaload, 1) := by decide +kernel
theorem dL_law_687 : decode cL_law 687 = .ok (.aload_n 0, 1) := by decide +kernel
theorem dL_law_688 : decode cL_law 688 = .ok (.iload 4, 2) := by decide +kernel
theorem dL_law_690 : decode cL_law 690 = .ok (.iconst 3, 1) := by decide +kernel
theorem dL_law_691 : decode cL_law 691 = .ok (.iadd, 1) := by decide +kernel
theorem dL_law_692 : decode cL_law 692 = .ok (.iaload, 1) := by decide +kernel
theorem dL_law_693 : decode cL_law 693 = .ok (.aload_n 0, 1) := by decide +kernel
theorem dL_law_694 : decode cL_law 694 = .ok (.iload 4, 2) := by decide +kernel
theorem dL_law_696 : decode cL_law 696 = .ok (.iconst 4, 1) := by decide +kernel
theorem dL_law_697 : decode cL_law 697 = .ok (.iadd, 1) := by decide +kernel
theorem dL_law_698 : decode cL_law 698 = .ok (.iaload, 1) := by decide +kernel
theorem dL_law_699 : decode cL_law 699 = .ok (.invokevirtual 82, 3) := by decide +kernel
theorem dL_law_702 : decode cL_law 702 = .ok (.aload_n 2, 1) := by decide +kernel
theorem dL_law_703 : decode cL_law 703 = .ok (.aload_n 0, 1) := by decide +kernel
theorem dL_law_704 : decode cL_law 704 = .ok (.iload 4, 2) := by decide +kernel
theorem dL_law_706 : decode cL_law 706 = .ok (.iconst 1, 1) := by decide +kernel
theorem dL_law_707 : decode cL_law 707 = .ok (.iadd, 1) := by decide +kernel
theorem dL_law_708 : decode cL_law 708 = .ok (.iaload, 1) := by decide +kernel
theorem dL_law_709 : decode cL_law 709 = .ok (.aload_n 0, 1) := by decide +kernel
theorem dL_law_710 : decode cL_law 710 = .ok (.iload 4, 2) := by decide +kernel
theorem dL_law_712 : decode cL_law 712 = .ok (.iconst 2, 1) := by decide +kernel
theorem dL_law_713 : decode cL_law 713 = .ok (.iadd, 1) := by decide +kernel
theorem dL_law_714 : decode cL_law 714 = .ok (.iaload, 1) := by decide +kernel
theorem dL_law_715 : decode cL_law 715 = .ok (.aload_n 0, 1) := by decide +kernel
theorem dL_law_716 : decode cL_law 716 = .ok (.iload 4, 2) := by decide +kernel
theorem dL_law_718 : decode cL_law 718 = .ok (.iconst 3, 1) := by decide +kernel
theorem dL_law_719 : decode cL_law 719 = .ok (.iadd, 1) := by decide +kernel
theorem dL_law_720 : decode cL_law 720 = .ok (.iaload, 1) := by decide +kernel
theorem dL_law_721 : decode cL_law 721 = .ok (.aload_n 0, 1) := by decide +kernel
theorem dL_law_722 : decode cL_law 722 = .ok (.iload 4, 2) := by decide +kernel
theorem dL_law_724 : decode cL_law 724 = .ok (.iconst 4, 1) := by decide +kernel
theorem dL_law_725 : decode cL_law 725 = .ok (.iadd, 1) := by decide +kernel
theorem dL_law_726 : decode cL_law 726 = .ok (.iaload, 1) := by decide +kernel
theorem dL_law_727 : decode cL_law 727 = .ok (.invokevirtual 85, 3) := by decide +kernel
theorem dL_law_730 : decode cL_law 730 = .ok (.if_icmp .eq 639, 3) := by decide +kernel
theorem dL_law_733 : decode cL_law 733 = .ok (.iconst 0, 1) := by decide +kernel
theorem dL_law_734 : decode cL_law 734 = .ok (.ireturn, 1) := by decide +kernel
theorem dL_law_735 : decode cL_law 735 = .ok (.aload_n 1, 1) := by decide +kernel
theorem dL_law_736 : decode cL_law 736 = .ok (.aload_n 0, 1) := by decide +kernel
theorem dL_law_737 : decode cL_law 737 = .ok (.iload 4, 2) := by decide +kernel
theorem dL_law_739 : decode cL_law 739 = .ok (.iconst 1, 1) := by decide +kernel
theorem dL_law_740 : decode cL_law 740 = .ok (.iadd, 1) := by decide +kernel
theorem dL_law_741 : decode cL_law 741 = .ok (.iaload, 1) := by decide +kernel
theorem dL_law_742 : decode cL_law 742 = .ok (.aload_n 0, 1) := by decide +kernel
theorem dL_law_743 : decode cL_law 743 = .ok (.iload 4, 2) := by decide +kernel
theorem dL_law_745 : decode cL_law 745 = .ok (.iconst 2, 1) := by decide +kernel
theorem dL_law_746 : decode cL_law 746 = .ok (.iadd, 1) := by decide +kernel
theorem dL_law_747 : decode cL_law 747 = .ok (.iaload, 1) := by decide +kernel
theorem dL_law_748 : decode cL_law 748 = .ok (.invokevirtual 86, 3) := by decide +kernel
theorem dL_law_751 : decode cL_law 751 = .ok (.aload_n 2, 1) := by decide +kernel
theorem dL_law_752 : decode cL_law 752 = .ok (.aload_n 0, 1) := by decide +kernel
theorem dL_law_753 : decode cL_law 753 = .ok (.iload 4, 2) := by decide +kernel
theorem dL_law_755 : decode cL_law 755 = .ok (.iconst 1, 1) := by decide +kernel
theorem dL_law_756 : decode cL_law 756 = .ok (.iadd, 1) := by decide +kernel
theorem dL_law_757 : decode cL_law 757 = .ok (.iaload, 1) := by decide +kernel
theorem dL_law_758 : decode cL_law 758 = .ok (.aload_n 0, 1) := by decide +kernel
theorem dL_law_759 : decode cL_law 759 = .ok (.iload 4, 2) := by decide +kernel
theorem dL_law_761 : decode cL_law 761 = .ok (.iconst 2, 1) := by decide +kernel
theorem dL_law_762 : decode cL_law 762 = .ok (.iadd, 1) := by decide +kernel
theorem dL_law_763 : decode cL_law 763 = .ok (.iaload, 1) := by decide +kernel
theorem dL_law_764 : decode cL_law 764 = .ok (.invokevirtual 89, 3) := by decide +kernel
theorem dL_law_767 : decode cL_law 767 = .ok (.if_icmp .eq 602, 3) := by decide +kernel
theorem dL_law_770 : decode cL_law 770 = .ok (.iconst 0, 1) := by decide +kernel
theorem dL_law_771 : decode cL_law 771 = .ok (.ireturn, 1) := by decide +kernel
theorem dL_law_772 : decode cL_law 772 = .ok (.aload_n 1, 1) := by decide +kernel
theorem dL_law_773 : decode cL_law 773 = .ok (.aload_n 0, 1) := by decide +kernel
theorem dL_law_774 : decode cL_law 774 = .ok (.iload 4, 2) := by decide +kernel
theorem dL_law_776 : decode cL_law 776 = .ok (.iconst 1, 1) := by decide +kernel
theorem dL_law_777 : decode cL_law 777 = .ok (.iadd, 1) := by decide +kernel
theorem dL_law_778 : decode cL_law 778 = .ok (.iaload, 1) := by decide +kernel
theorem dL_law_779 : decode cL_law 779 = .ok (.aload_n 0, 1) := by decide +kernel
theorem dL_law_780 : decode cL_law 780 = .ok (.iload 4, 2) := by decide +kernel
theorem dL_law_782 : decode cL_law 782 = .ok (.iconst 2, 1) := by decide +kernel
theorem dL_law_783 : decode cL_law 783 = .ok (.iadd, 1) := by decide +kernel
theorem dL_law_784 : decode cL_law 784 = .ok (.iaload, 1) := by decide +kernel
theorem dL_law_785 : decode cL_law 785 = .ok (.aload_n 0, 1) := by decide +kernel
theorem dL_law_786 : decode cL_law 786 = .ok (.iload 4, 2) := by decide +kernel
theorem dL_law_788 : decode cL_law 788 = .ok (.iconst 3, 1) := by decide +kernel
theorem dL_law_789 : decode cL_law 789 = .ok (.iadd, 1) := by decide +kernel
theorem dL_law_790 : decode cL_law 790 = .ok (.iaload, 1) := by decide +kernel
theorem dL_law_791 : decode cL_law 791 = .ok (.invokevirtual 90, 3) := by decide +kernel
theorem dL_law_794 : decode cL_law 794 = .ok (.aload_n 2, 1) := by decide +kernel
theorem dL_law_795 : decode cL_law 795 = .ok (.aload_n 0, 1) := by decide +kernel
theorem dL_law_796 : decode cL_law 796 = .ok (.iload 4, 2) := by decide +kernel
theorem dL_law_798 : decode cL_law 798 = .ok (.iconst 1, 1) := by decide +kernel
theorem dL_law_799 : decode cL_law 799 = .ok (.iadd, 1) := by decide +kernel
theorem dL_law_800 : decode cL_law 800 = .ok (.iaload, 1) := by decide +kernel
theorem dL_law_801 : decode cL_law 801 = .ok (.aload_n 0, 1) := by decide +kernel
theorem dL_law_802 : decode cL_law 802 = .ok (.iload 4, 2) := by decide +kernel
theorem dL_law_804 : decode cL_law 804 = .ok (.iconst 2, 1) := by decide +kernel
theorem dL_law_805 : decode cL_law 805 = .ok (.iadd, 1) := by decide +kernel
theorem dL_law_806 : decode cL_law 806 = .ok (.iaload, 1) := by decide +kernel
theorem dL_law_807 : decode cL_law 807 = .ok (.aload_n 0, 1) := by decide +kernel
theorem dL_law_808 : decode cL_law 808 = .ok (.iload 4, 2) := by decide +kernel
theorem dL_law_810 : decode cL_law 810 = .ok (.iconst 3, 1) := by decide +kernel
theorem dL_law_811 : decode cL_law 811 = .ok (.iadd, 1) := by decide +kernel
theorem dL_law_812 : decode cL_law 812 = .ok (.iaload, 1) := by decide +kernel
theorem dL_law_813 : decode cL_law 813 = .ok (.invokevirtual 93, 3) := by decide +kernel
theorem dL_law_816 : decode cL_law 816 = .ok (.if_icmp .eq 553, 3) := by decide +kernel
theorem dL_law_819 : decode cL_law 819 = .ok (.iconst 0, 1) := by decide +kernel
theorem dL_law_820 : decode cL_law 820 = .ok (.ireturn, 1) := by decide +kernel
theorem dL_law_821 : decode cL_law 821 = .ok (.aload_n 1, 1) := by decide +kernel
theorem dL_law_822 : decode cL_law 822 = .ok (.aload_n 0, 1) := by decide +kernel
theorem dL_law_823 : decode cL_law 823 = .ok (.iload 4, 2) := by decide +kernel
theorem dL_law_825 : decode cL_law 825 = .ok (.iconst 1, 1) := by decide +kernel
theorem dL_law_826 : decode cL_law 826 = .ok (.iadd, 1) := by decide +kernel
theorem dL_law_827 : decode cL_law 827 = .ok (.iaload, 1) := by decide +kernel
theorem dL_law_828 : decode cL_law 828 = .ok (.invokevirtual 94, 3) := by decide +kernel
theorem dL_law_831 : decode cL_law 831 = .ok (.aload_n 2, 1) := by decide +kernel
theorem dL_law_832 : decode cL_law 832 = .ok (.aload_n 0, 1) := by decide +kernel
theorem dL_law_833 : decode cL_law 833 = .ok (.iload 4, 2) := by decide +kernel
theorem dL_law_835 : decode cL_law 835 = .ok (.iconst 1, 1) := by decide +kernel
theorem dL_law_836 : decode cL_law 836 = .ok (.iadd, 1) := by decide +kernel
theorem dL_law_837 : decode cL_law 837 = .ok (.iaload, 1) := by decide +kernel
theorem dL_law_838 : decode cL_law 838 = .ok (.invokevirtual 97, 3) := by decide +kernel
theorem dL_law_841 : decode cL_law 841 = .ok (.if_icmp .eq 528, 3) := by decide +kernel
theorem dL_law_844 : decode cL_law 844 = .ok (.iconst 0, 1) := by decide +kernel
theorem dL_law_845 : decode cL_law 845 = .ok (.ireturn, 1) := by decide +kernel
theorem dL_law_846 : decode cL_law 846 = .ok (.aload_n 1, 1) := by decide +kernel
theorem dL_law_847 : decode cL_law 847 = .ok (.aload_n 0, 1) := by decide +kernel
theorem dL_law_848 : decode cL_law 848 = .ok (.iload 4, 2) := by decide +kernel
theorem dL_law_850 : decode cL_law 850 = .ok (.iconst 1, 1) := by decide +kernel
theorem dL_law_851 : decode cL_law 851 = .ok (.iadd, 1) := by decide +kernel
theorem dL_law_852 : decode cL_law 852 = .ok (.iaload, 1) := by decide +kernel
theorem dL_law_853 : decode cL_law 853 = .ok (.aload_n 0, 1) := by decide +kernel
theorem dL_law_854 : decode cL_law 854 = .ok (.iload 4, 2) := by decide +kernel
theorem dL_law_856 : decode cL_law 856 = .ok (.iconst 2, 1) := by decide +kernel
theorem dL_law_857 : decode cL_law 857 = .ok (.iadd, 1) := by decide +kernel
theorem dL_law_858 : decode cL_law 858 = .ok (.iaload, 1) := by decide +kernel
theorem dL_law_859 : decode cL_law 859 = .ok (.invokevirtual 98, 3) := by decide +kernel
theorem dL_law_862 : decode cL_law 862 = .ok (.aload_n 2, 1) := by decide +kernel
theorem dL_law_863 : decode cL_law 863 = .ok (.aload_n 0, 1) := by decide +kernel
theorem dL_law_864 : decode cL_law 864 = .ok (.iload 4, 2) := by decide +kernel
theorem dL_law_866 : decode cL_law 866 = .ok (.iconst 1, 1) := by decide +kernel
theorem dL_law_867 : decode cL_law 867 = .ok (.iadd, 1) := by decide +kernel
theorem dL_law_868 : decode cL_law 868 = .ok (.iaload, 1) := by decide +kernel
theorem dL_law_869 : decode cL_law 869 = .ok (.aload_n 0, 1) := by decide +kernel
theorem dL_law_870 : decode cL_law 870 = .ok (.iload 4, 2) := by decide +kernel
theorem dL_law_872 : decode cL_law 872 = .ok (.iconst 2, 1) := by decide +kernel
theorem dL_law_873 : decode cL_law 873 = .ok (.iadd, 1) := by decide +kernel
theorem dL_law_874 : decode cL_law 874 = .ok (.iaload, 1) := by decide +kernel
theorem dL_law_875 : decode cL_law 875 = .ok (.invokevirtual 101, 3) := by decide +kernel
theorem dL_law_878 : decode cL_law 878 = .ok (.if_icmp .eq 491, 3) := by decide +kernel
theorem dL_law_881 : decode cL_law 881 = .ok (.iconst 0, 1) := by decide +kernel
theorem dL_law_882 : decode cL_law 882 = .ok (.ireturn, 1) := by decide +kernel
theorem dL_law_883 : decode cL_law 883 = .ok (.aload_n 1, 1) := by decide +kernel
theorem dL_law_884 : decode cL_law 884 = .ok (.aload_n 0, 1) := by decide +kernel
theorem dL_law_885 : decode cL_law 885 = .ok (.iload 4, 2) := by decide +kernel
theorem dL_law_887 : decode cL_law 887 = .ok (.iconst 1, 1) := by decide +kernel
theorem dL_law_888 : decode cL_law 888 = .ok (.iadd, 1) := by decide +kernel
theorem dL_law_889 : decode cL_law 889 = .ok (.iaload, 1) := by decide +kernel
theorem dL_law_890 : decode cL_law 890 = .ok (.aload_n 0, 1) := by decide +kernel
theorem dL_law_891 : decode cL_law 891 = .ok (.iload 4, 2) := by decide +kernel
theorem dL_law_893 : decode cL_law 893 = .ok (.iconst 2, 1) := by decide +kernel
theorem dL_law_894 : decode cL_law 894 = .ok (.iadd, 1) := by decide +kernel
theorem dL_law_895 : decode cL_law 895 = .ok (.iaload, 1) := by decide +kernel
theorem dL_law_896 : decode cL_law 896 = .ok (.aload_n 0, 1) := by decide +kernel
theorem dL_law_897 : decode cL_law 897 = .ok (.iload 4, 2) := by decide +kernel
theorem dL_law_899 : decode cL_law 899 = .ok (.iconst 3, 1) := by decide +kernel
theorem dL_law_900 : decode cL_law 900 = .ok (.iadd, 1) := by decide +kernel
theorem dL_law_901 : decode cL_law 901 = .ok (.iaload, 1) := by decide +kernel
theorem dL_law_902 : decode cL_law 902 = .ok (.invokevirtual 102, 3) := by decide +kernel
theorem dL_law_905 : decode cL_law 905 = .ok (.aload_n 2, 1) := by decide +kernel
theorem dL_law_906 : decode cL_law 906 = .ok (.aload_n 0, 1) := by decide +kernel
theorem dL_law_907 : decode cL_law 907 = .ok (.iload 4, 2) := by decide +kernel
theorem dL_law_909 : decode cL_law 909 = .ok (.iconst 1, 1) := by decide +kernel
theorem dL_law_910 : decode cL_law 910 = .ok (.iadd, 1) := by decide +kernel
theorem dL_law_911 : decode cL_law 911 = .ok (.iaload, 1) := by decide +kernel
theorem dL_law_912 : decode cL_law 912 = .ok (.aload_n 0, 1) := by decide +kernel
theorem dL_law_913 : decode cL_law 913 = .ok (.iload 4, 2) := by decide +kernel
theorem dL_law_915 : decode cL_law 915 = .ok (.iconst 2, 1) := by decide +kernel
theorem dL_law_916 : decode cL_law 916 = .ok (.iadd, 1) := by decide +kernel
theorem dL_law_917 : decode cL_law 917 = .ok (.iaload, 1) := by decide +kernel
theorem dL_law_918 : decode cL_law 918 = .ok (.aload_n 0, 1) := by decide +kernel
theorem dL_law_919 : decode cL_law 919 = .ok (.iload 4, 2) := by decide +kernel
theorem dL_law_921 : decode cL_law 921 = .ok (.iconst 3, 1) := by decide +kernel
theorem dL_law_922 : decode cL_law 922 = .ok (.iadd, 1) := by decide +kernel
theorem dL_law_923 : decode cL_law 923 = .ok (.iaload, 1) := by decide +kernel
theorem dL_law_924 : decode cL_law 924 = .ok (.invokevirtual 105, 3) := by decide +kernel
theorem dL_law_927 : decode cL_law 927 = .ok (.if_icmp .eq 442, 3) := by decide +kernel
theorem dL_law_930 : decode cL_law 930 = .ok (.iconst 0, 1) := by decide +kernel
theorem dL_law_931 : decode cL_law 931 = .ok (.ireturn, 1) := by decide +kernel
theorem dL_law_932 : decode cL_law 932 = .ok (.aload_n 1, 1) := by decide +kernel
theorem dL_law_933 : decode cL_law 933 = .ok (.aload_n 0, 1) := by decide +kernel
theorem dL_law_934 : decode cL_law 934 = .ok (.iload 4, 2) := by decide +kernel
theorem dL_law_936 : decode cL_law 936 = .ok (.iconst 1, 1) := by decide +kernel
theorem dL_law_937 : decode cL_law 937 = .ok (.iadd, 1) := by decide +kernel
theorem dL_law_938 : decode cL_law 938 = .ok (.iaload, 1) := by decide +kernel
theorem dL_law_939 : decode cL_law 939 = .ok (.aload_n 0, 1) := by decide +kernel
theorem dL_law_940 : decode cL_law 940 = .ok (.iload 4, 2) := by decide +kernel
theorem dL_law_942 : decode cL_law 942 = .ok (.iconst 2, 1) := by decide +kernel
theorem dL_law_943 : decode cL_law 943 = .ok (.iadd, 1) := by decide +kernel
theorem dL_law_944 : decode cL_law 944 = .ok (.iaload, 1) := by decide +kernel
theorem dL_law_945 : decode cL_law 945 = .ok (.invokevirtual 106, 3) := by decide +kernel
theorem dL_law_948 : decode cL_law 948 = .ok (.aload_n 2, 1) := by decide +kernel
theorem dL_law_949 : decode cL_law 949 = .ok (.aload_n 0, 1) := by decide +kernel
theorem dL_law_950 : decode cL_law 950 = .ok (.iload 4, 2) := by decide +kernel
theorem dL_law_952 : decode cL_law 952 = .ok (.iconst 1, 1) := by decide +kernel
theorem dL_law_953 : decode cL_law 953 = .ok (.iadd, 1) := by decide +kernel
theorem dL_law_954 : decode cL_law 954 = .ok (.iaload, 1) := by decide +kernel
theorem dL_law_955 : decode cL_law 955 = .ok (.aload_n 0, 1) := by decide +kernel
theorem dL_law_956 : decode cL_law 956 = .ok (.iload 4, 2) := by decide +kernel
theorem dL_law_958 : decode cL_law 958 = .ok (.iconst 2, 1) := by decide +kernel
theorem dL_law_959 : decode cL_law 959 = .ok (.iadd, 1) := by decide +kernel
theorem dL_law_960 : decode cL_law 960 = .ok (.iaload, 1) := by decide +kernel
theorem dL_law_961 : decode cL_law 961 = .ok (.invokevirtual 109, 3) := by decide +kernel
theorem dL_law_964 : decode cL_law 964 = .ok (.if_icmp .eq 405, 3) := by decide +kernel
theorem dL_law_967 : decode cL_law 967 = .ok (.iconst 0, 1) := by decide +kernel
theorem dL_law_968 : decode cL_law 968 = .ok (.ireturn, 1) := by decide +kernel
theorem dL_law_969 : decode cL_law 969 = .ok (.aload_n 1, 1) := by decide +kernel
theorem dL_law_970 : decode cL_law 970 = .ok (.invokevirtual 110, 3) := by decide +kernel
theorem dL_law_973 : decode cL_law 973 = .ok (.aload_n 2, 1) := by decide +kernel
theorem dL_law_974 : decode cL_law 974 = .ok (.invokevirtual 113, 3) := by decide +kernel
theorem dL_law_977 : decode cL_law 977 = .ok (.if_icmp .eq 392, 3) := by decide +kernel
theorem dL_law_980 : decode cL_law 980 = .ok (.iconst 0, 1) := by decide +kernel
theorem dL_law_981 : decode cL_law 981 = .ok (.ireturn, 1) := by decide +kernel
theorem dL_law_982 : decode cL_law 982 = .ok (.aload_n 1, 1) := by decide +kernel
theorem dL_law_983 : decode cL_law 983 = .ok (.invokevirtual 114, 3) := by decide +kernel
theorem dL_law_986 : decode cL_law 986 = .ok (.aload_n 2, 1) := by decide +kernel
theorem dL_law_987 : decode cL_law 987 = .ok (.invokevirtual 117, 3) := by decide +kernel
theorem dL_law_990 : decode cL_law 990 = .ok (.if_icmp .eq 379, 3) := by decide +kernel
theorem dL_law_993 : decode cL_law 993 = .ok (.iconst 0, 1) := by decide +kernel
theorem dL_law_994 : decode cL_law 994 = .ok (.ireturn, 1) := by decide +kernel
theorem dL_law_995 : decode cL_law 995 = .ok (.aload_n 1, 1) := by decide +kernel
theorem dL_law_996 : decode cL_law 996 = .ok (.aload_n 0, 1) := by decide +kernel
theorem dL_law_997 : decode cL_law 997 = .ok (.iload 4, 2) := by decide +kernel
theorem dL_law_999 : decode cL_law 999 = .ok (.iconst 1, 1) := by decide +kernel
theorem dL_law_1000 : decode cL_law 1000 = .ok (.iadd, 1) := by decide +kernel
theorem dL_law_1001 : decode cL_law 1001 = .ok (.iaload, 1) := by decide +kernel
theorem dL_law_1002 : decode cL_law 1002 = .ok (.invokevirtual 118, 3) := by decide +kernel
theorem dL_law_1005 : decode cL_law 1005 = .ok (.aload_n 2, 1) := by decide +kernel
theorem dL_law_1006 : decode cL_law 1006 = .ok (.aload_n 0, 1) := by decide +kernel
theorem dL_law_1007 : decode cL_law 1007 = .ok (.iload 4, 2) := by decide +kernel
theorem dL_law_1009 : decode cL_law 1009 = .ok (.iconst 1, 1) := by decide +kernel
theorem dL_law_1010 : decode cL_law 1010 = .ok (.iadd, 1) := by decide +kernel
theorem dL_law_1011 : decode cL_law 1011 = .ok (.iaload, 1) := by decide +kernel
theorem dL_law_1012 : decode cL_law 1012 = .ok (.invokevirtual 121, 3) := by decide +kernel
theorem dL_law_1015 : decode cL_law 1015 = .ok (.if_icmp .eq 354, 3) := by decide +kernel
theorem dL_law_1018 : decode cL_law 1018 = .ok (.iconst 0, 1) := by decide +kernel
theorem dL_law_1019 : decode cL_law 1019 = .ok (.ireturn, 1) := by decide +kernel
theorem dL_law_1020 : decode cL_law 1020 = .ok (.aload_n 1, 1) := by decide +kernel
theorem dL_law_1021 : decode cL_law 1021 = .ok (.aload_n 0, 1) := by decide +kernel
theorem dL_law_1022 : decode cL_law 1022 = .ok (.iload 4, 2) := by decide +kernel
theorem dL_law_1024 : decode cL_law 1024 = .ok (.iconst 1, 1) := by decide +kernel
theorem dL_law_1025 : decode cL_law 1025 = .ok (.iadd, 1) := by decide +kernel
theorem dL_law_1026 : decode cL_law 1026 = .ok (.iaload, 1) := by decide +kernel
theorem dL_law_1027 : decode cL_law 1027 = .ok (.aload_n 0, 1) := by decide +kernel
theorem dL_law_1028 : decode cL_law 1028 = .ok (.iload 4, 2) := by decide +kernel
theorem dL_law_1030 : decode cL_law 1030 = .ok (.iconst 2, 1) := by decide +kernel
theorem dL_law_1031 : decode cL_law 1031 = .ok (.iadd, 1) := by decide +kernel
theorem dL_law_1032 : decode cL_law 1032 = .ok (.iaload, 1) := by decide +kernel
theorem dL_law_1033 : decode cL_law 1033 = .ok (.aload_n 0, 1) := by decide +kernel
theorem dL_law_1034 : decode cL_law 1034 = .ok (.iload 4, 2) := by decide +kernel
theorem dL_law_1036 : decode cL_law 1036 = .ok (.iconst 3, 1) := by decide +kernel
theorem dL_law_1037 : decode cL_law 1037 = .ok (.iadd, 1) := by decide +kernel
theorem dL_law_1038 : decode cL_law 1038 = .ok (.iaload, 1) := by decide +kernel
theorem dL_law_1039 : decode cL_law 1039 = .ok (.aload_n 0, 1) := by decide +kernel
theorem dL_law_1040 : decode cL_law 1040 = .ok (.iload 4, 2) := by decide +kernel
theorem dL_law_1042 : decode cL_law 1042 = .ok (.iconst 4, 1) := by decide +kernel
theorem dL_law_1043 : decode cL_law 1043 = .ok (.iadd, 1) := by decide +kernel
theorem dL_law_1044 : decode cL_law 1044 = .ok (.iaload, 1) := by decide +kernel
theorem dL_law_1045 : decode cL_law 1045 = .ok (.invokevirtual 122, 3) := by decide +kernel
theorem dL_law_1048 : decode cL_law 1048 = .ok (.aload_n 2, 1) := by decide +kernel
theorem dL_law_1049 : decode cL_law 1049 = .ok (.aload_n 0, 1) := by decide +kernel
theorem dL_law_1050 : decode cL_law 1050 = .ok (.iload 4, 2) := by decide +kernel
theorem dL_law_1052 : decode cL_law 1052 = .ok (.iconst 1, 1) := by decide +kernel
theorem dL_law_1053 : decode cL_law 1053 = .ok (.iadd, 1) := by decide +kernel
theorem dL_law_1054 : decode cL_law 1054 = .ok (.iaload, 1) := by decide +kernel
theorem dL_law_1055 : decode cL_law 1055 = .ok (.aload_n 0, 1) := by decide +kernel
theorem dL_law_1056 : decode cL_law 1056 = .ok (.iload 4, 2) := by decide +kernel
theorem dL_law_1058 : decode cL_law 1058 = .ok (.iconst 2, 1) := by decide +kernel
theorem dL_law_1059 : decode cL_law 1059 = .ok (.iadd, 1) := by decide +kernel
theorem dL_law_1060 : decode cL_law 1060 = .ok (.iaload, 1) := by decide +kernel
theorem dL_law_1061 : decode cL_law 1061 = .ok (.aload_n 0, 1) := by decide +kernel
theorem dL_law_1062 : decode cL_law 1062 = .ok (.iload 4, 2) := by decide +kernel
theorem dL_law_1064 : decode cL_law 1064 = .ok (.iconst 3, 1) := by decide +kernel
theorem dL_law_1065 : decode cL_law 1065 = .ok (.iadd, 1) := by decide +kernel
theorem dL_law_1066 : decode cL_law 1066 = .ok (.iaload, 1) := by decide +kernel
theorem dL_law_1067 : decode cL_law 1067 = .ok (.aload_n 0, 1) := by decide +kernel
theorem dL_law_1068 : decode cL_law 1068 = .ok (.iload 4, 2) := by decide +kernel
theorem dL_law_1070 : decode cL_law 1070 = .ok (.iconst 4, 1) := by decide +kernel
theorem dL_law_1071 : decode cL_law 1071 = .ok (.iadd, 1) := by decide +kernel
theorem dL_law_1072 : decode cL_law 1072 = .ok (.iaload, 1) := by decide +kernel
theorem dL_law_1073 : decode cL_law 1073 = .ok (.invokevirtual 125, 3) := by decide +kernel
theorem dL_law_1076 : decode cL_law 1076 = .ok (.if_icmp .eq 293, 3) := by decide +kernel
theorem dL_law_1079 : decode cL_law 1079 = .ok (.iconst 0, 1) := by decide +kernel
theorem dL_law_1080 : decode cL_law 1080 = .ok (.ireturn, 1) := by decide +kernel
theorem dL_law_1081 : decode cL_law 1081 = .ok (.aload_n 1, 1) := by decide +kernel
theorem dL_law_1082 : decode cL_law 1082 = .ok (.aload_n 0, 1) := by decide +kernel
theorem dL_law_1083 : decode cL_law 1083 = .ok (.iload 4, 2) := by decide +kernel
theorem dL_law_1085 : decode cL_law 1085 = .ok (.iconst 1, 1) := by decide +kernel
theorem dL_law_1086 : decode cL_law 1086 = .ok (.iadd, 1) := by decide +kernel
theorem dL_law_1087 : decode cL_law 1087 = .ok (.iaload, 1) := by decide +kernel
theorem dL_law_1088 : decode cL_law 1088 = .ok (.aload_n 0, 1) := by decide +kernel
theorem dL_law_1089 : decode cL_law 1089 = .ok (.iload 4, 2) := by decide +kernel
theorem dL_law_1091 : decode cL_law 1091 = .ok (.iconst 2, 1) := by decide +kernel
theorem dL_law_1092 : decode cL_law 1092 = .ok (.iadd, 1) := by decide +kernel
theorem dL_law_1093 : decode cL_law 1093 = .ok (.iaload, 1) := by decide +kernel
theorem dL_law_1094 : decode cL_law 1094 = .ok (.aload_n 0, 1) := by decide +kernel
theorem dL_law_1095 : decode cL_law 1095 = .ok (.iload 4, 2) := by decide +kernel
theorem dL_law_1097 : decode cL_law 1097 = .ok (.iconst 3, 1) := by decide +kernel
theorem dL_law_1098 : decode cL_law 1098 = .ok (.iadd, 1) := by decide +kernel
theorem dL_law_1099 : decode cL_law 1099 = .ok (.iaload, 1) := by decide +kernel
theorem dL_law_1100 : decode cL_law 1100 = .ok (.invokevirtual 126, 3) := by decide +kernel
theorem dL_law_1103 : decode cL_law 1103 = .ok (.aload_n 2, 1) := by decide +kernel
theorem dL_law_1104 : decode cL_law 1104 = .ok (.aload_n 0, 1) := by decide +kernel
theorem dL_law_1105 : decode cL_law 1105 = .ok (.iload 4, 2) := by decide +kernel
theorem dL_law_1107 : decode cL_law 1107 = .ok (.iconst 1, 1) := by decide +kernel
theorem dL_law_1108 : decode cL_law 1108 = .ok (.iadd, 1) := by decide +kernel
theorem dL_law_1109 : decode cL_law 1109 = .ok (.iaload, 1) := by decide +kernel
theorem dL_law_1110 : decode cL_law 1110 = .ok (.aload_n 0, 1) := by decide +kernel
theorem dL_law_1111 : decode cL_law 1111 = .ok (.iload 4, 2) := by decide +kernel
theorem dL_law_1113 : decode cL_law 1113 = .ok (.iconst 2, 1) := by decide +kernel
theorem dL_law_1114 : decode cL_law 1114 = .ok (.iadd, 1) := by decide +kernel
theorem dL_law_1115 : decode cL_law 1115 = .ok (.iaload, 1) := by decide +kernel
theorem dL_law_1116 : decode cL_law 1116 = .ok (.aload_n 0, 1) := by decide +kernel
theorem dL_law_1117 : decode cL_law 1117 = .ok (.iload 4, 2) := by decide +kernel
theorem dL_law_1119 : decode cL_law 1119 = .ok (.iconst 3, 1) := by decide +kernel
theorem dL_law_1120 : decode cL_law 1120 = .ok (.iadd, 1) := by decide +kernel
theorem dL_law_1121 : decode cL_law 1121 = .ok (.iaload, 1) := by decide +kernel
theorem dL_law_1122 : decode cL_law 1122 = .ok (.invokevirtual 129, 3) := by decide +kernel
theorem dL_law_1125 : decode cL_law 1125 = .ok (.if_icmp .eq 244, 3) := by decide +kernel
theorem dL_law_1128 : decode cL_law 1128 = .ok (.iconst 0, 1) := by decide +kernel
theorem dL_law_1129 : decode cL_law 1129 = .ok (.ireturn, 1) := by decide +kernel
theorem dL_law_1130 : decode cL_law 1130 = .ok (.aload_n 1, 1) := by decide +kernel
theorem dL_law_1131 : decode cL_law 1131 = .ok (.aload_n 0, 1) := by decide +kernel
theorem dL_law_1132 : decode cL_law 1132 = .ok (.iload 4, 2) := by decide +kernel
theorem dL_law_1134 : decode cL_law 1134 = .ok (.iconst 1, 1) := by decide +kernel
theorem dL_law_1135 : decode cL_law 1135 = .ok (.iadd, 1) := by decide +kernel
theorem dL_law_1136 : decode cL_law 1136 = .ok (.iaload, 1) := by decide +kernel
theorem dL_law_1137 : decode cL_law 1137 = .ok (.aload_n 0, 1) := by decide +kernel
theorem dL_law_1138 : decode cL_law 1138 = .ok (.iload 4, 2) := by decide +kernel
theorem dL_law_1140 : decode cL_law 1140 = .ok (.iconst 2, 1) := by decide +kernel
theorem dL_law_1141 : decode cL_law 1141 = .ok (.iadd, 1) := by decide +kernel
theorem dL_law_1142 : decode cL_law 1142 = .ok (.iaload, 1) := by decide +kernel
theorem dL_law_1143 : decode cL_law 1143 = .ok (.aload_n 0, 1) := by decide +kernel
theorem dL_law_1144 : decode cL_law 1144 = .ok (.iload 4, 2) := by decide +kernel
theorem dL_law_1146 : decode cL_law 1146 = .ok (.iconst 3, 1) := by decide +kernel
theorem dL_law_1147 : decode cL_law 1147 = .ok (.iadd, 1) := by decide +kernel
theorem dL_law_1148 : decode cL_law 1148 = .ok (.iaload, 1) := by decide +kernel
theorem dL_law_1149 : decode cL_law 1149 = .ok (.invokevirtual 130, 3) := by decide +kernel
theorem dL_law_1152 : decode cL_law 1152 = .ok (.aload_n 2, 1) := by decide +kernel
theorem dL_law_1153 : decode cL_law 1153 = .ok (.aload_n 0, 1) := by decide +kernel
theorem dL_law_1154 : decode cL_law 1154 = .ok (.iload 4, 2) := by decide +kernel
theorem dL_law_1156 : decode cL_law 1156 = .ok (.iconst 1, 1) := by decide +kernel
theorem dL_law_1157 : decode cL_law 1157 = .ok (.iadd, 1) := by decide +kernel
theorem dL_law_1158 : decode cL_law 1158 = .ok (.iaload, 1) := by decide +kernel
theorem dL_law_1159 : decode cL_law 1159 = .ok (.aload_n 0, 1) := by decide +kernel
theorem dL_law_1160 : decode cL_law 1160 = .ok (.iload 4, 2) := by decide +kernel
theorem dL_law_1162 : decode cL_law 1162 = .ok (.iconst 2, 1) := by decide +kernel
theorem dL_law_1163 : decode cL_law 1163 = .ok (.iadd, 1) := by decide +kernel
theorem dL_law_1164 : decode cL_law 1164 = .ok (.iaload, 1) := by decide +kernel
theorem dL_law_1165 : decode cL_law 1165 = .ok (.aload_n 0, 1) := by decide +kernel
theorem dL_law_1166 : decode cL_law 1166 = .ok (.iload 4, 2) := by decide +kernel
theorem dL_law_1168 : decode cL_law 1168 = .ok (.iconst 3, 1) := by decide +kernel
theorem dL_law_1169 : decode cL_law 1169 = .ok (.iadd, 1) := by decide +kernel
theorem dL_law_1170 : decode cL_law 1170 = .ok (.iaload, 1) := by decide +kernel
theorem dL_law_1171 : decode cL_law 1171 = .ok (.invokevirtual 133, 3) := by decide +kernel
theorem dL_law_1174 : decode cL_law 1174 = .ok (.if_icmp .eq 195, 3) := by decide +kernel
theorem dL_law_1177 : decode cL_law 1177 = .ok (.iconst 0, 1) := by decide +kernel
theorem dL_law_1178 : decode cL_law 1178 = .ok (.ireturn, 1) := by decide +kernel
theorem dL_law_1179 : decode cL_law 1179 = .ok (.aload_n 1, 1) := by decide +kernel
theorem dL_law_1180 : decode cL_law 1180 = .ok (.aload_n 0, 1) := by decide +kernel
theorem dL_law_1181 : decode cL_law 1181 = .ok (.iload 4, 2) := by decide +kernel
theorem dL_law_1183 : decode cL_law 1183 = .ok (.iconst 1, 1) := by decide +kernel
theorem dL_law_1184 : decode cL_law 1184 = .ok (.iadd, 1) := by decide +kernel
theorem dL_law_1185 : decode cL_law 1185 = .ok (.iaload, 1) := by decide +kernel
theorem dL_law_1186 : decode cL_law 1186 = .ok (.aload_n 0, 1) := by decide +kernel
theorem dL_law_1187 : decode cL_law 1187 = .ok (.iload 4, 2) := by decide +kernel
theorem dL_law_1189 : decode cL_law 1189 = .ok (.iconst 2, 1) := by decide +kernel
theorem dL_law_1190 : decode cL_law 1190 = .ok (.iadd, 1) := by decide +kernel
theorem dL_law_1191 : decode cL_law 1191 = .ok (.iaload, 1) := by decide +kernel
theorem dL_law_1192 : decode cL_law 1192 = .ok (.aload_n 3, 1) := by decide +kernel
theorem dL_law_1193 : decode cL_law 1193 = .ok (.invokestatic 134, 3) := by decide +kernel
theorem dL_law_1196 : decode cL_law 1196 = .ok (.istore 5, 2) := by decide +kernel
theorem dL_law_1198 : decode cL_law 1198 = .ok (.aload_n 2, 1) := by decide +kernel
theorem dL_law_1199 : decode cL_law 1199 = .ok (.aload_n 0, 1) := by decide +kernel
theorem dL_law_1200 : decode cL_law 1200 = .ok (.iload 4, 2) := by decide +kernel
theorem dL_law_1202 : decode cL_law 1202 = .ok (.iconst 1, 1) := by decide +kernel
theorem dL_law_1203 : decode cL_law 1203 = .ok (.iadd, 1) := by decide +kernel
theorem dL_law_1204 : decode cL_law 1204 = .ok (.iaload, 1) := by decide +kernel
theorem dL_law_1205 : decode cL_law 1205 = .ok (.aload_n 0, 1) := by decide +kernel
theorem dL_law_1206 : decode cL_law 1206 = .ok (.iload 4, 2) := by decide +kernel
theorem dL_law_1208 : decode cL_law 1208 = .ok (.iconst 2, 1) := by decide +kernel
theorem dL_law_1209 : decode cL_law 1209 = .ok (.iadd, 1) := by decide +kernel
theorem dL_law_1210 : decode cL_law 1210 = .ok (.iaload, 1) := by decide +kernel
theorem dL_law_1211 : decode cL_law 1211 = .ok (.invokevirtual 139, 3) := by decide +kernel
theorem dL_law_1214 : decode cL_law 1214 = .ok (.lstore 6, 2) := by decide +kernel
theorem dL_law_1216 : decode cL_law 1216 = .ok (.aload_n 2, 1) := by decide +kernel
theorem dL_law_1217 : decode cL_law 1217 = .ok (.invokevirtual 140, 3) := by decide +kernel
theorem dL_law_1220 : decode cL_law 1220 = .ok (.iload 5, 2) := by decide +kernel
theorem dL_law_1222 : decode cL_law 1222 = .ok (.if_icmp .eq 5, 3) := by decide +kernel
theorem dL_law_1225 : decode cL_law 1225 = .ok (.iconst 0, 1) := by decide +kernel
theorem dL_law_1226 : decode cL_law 1226 = .ok (.ireturn, 1) := by decide +kernel
theorem dL_law_1227 : decode cL_law 1227 = .ok (.iload 5, 2) := by decide +kernel
theorem dL_law_1229 : decode cL_law 1229 = .ok (.ifCond .ne 14, 3) := by decide +kernel
theorem dL_law_1232 : decode cL_law 1232 = .ok (.aload_n 3, 1) := by decide +kernel
theorem dL_law_1233 : decode cL_law 1233 = .ok (.iconst 0, 1) := by decide +kernel
theorem dL_law_1234 : decode cL_law 1234 = .ok (.laload, 1) := by decide +kernel
theorem dL_law_1235 : decode cL_law 1235 = .ok (.lload 6, 2) := by decide +kernel
theorem dL_law_1237 : decode cL_law 1237 = .ok (.lcmp, 1) := by decide +kernel
theorem dL_law_1238 : decode cL_law 1238 = .ok (.ifCond .eq 5, 3) := by decide +kernel
theorem dL_law_1241 : decode cL_law 1241 = .ok (.iconst 0, 1) := by decide +kernel
theorem dL_law_1242 : decode cL_law 1242 = .ok (.ireturn, 1) := by decide +kernel
theorem dL_law_1243 : decode cL_law 1243 = .ok (.goto 126, 3) := by decide +kernel
theorem dL_law_1246 : decode cL_law 1246 = .ok (.aload_n 1, 1) := by decide +kernel
theorem dL_law_1247 : decode cL_law 1247 = .ok (.aload_n 0, 1) := by decide +kernel
theorem dL_law_1248 : decode cL_law 1248 = .ok (.iload 4, 2) := by decide +kernel
theorem dL_law_1250 : decode cL_law 1250 = .ok (.iconst 1, 1) := by decide +kernel
theorem dL_law_1251 : decode cL_law 1251 = .ok (.iadd, 1) := by decide +kernel
theorem dL_law_1252 : decode cL_law 1252 = .ok (.iaload, 1) := by decide +kernel
theorem dL_law_1253 : decode cL_law 1253 = .ok (.aload_n 0, 1) := by decide +kernel
theorem dL_law_1254 : decode cL_law 1254 = .ok (.iload 4, 2) := by decide +kernel
theorem dL_law_1256 : decode cL_law 1256 = .ok (.iconst 2, 1) := by decide +kernel
theorem dL_law_1257 : decode cL_law 1257 = .ok (.iadd, 1) := by decide +kernel
theorem dL_law_1258 : decode cL_law 1258 = .ok (.iaload, 1) := by decide +kernel
theorem dL_law_1259 : decode cL_law 1259 = .ok (.aload_n 0, 1) := by decide +kernel
theorem dL_law_1260 : decode cL_law 1260 = .ok (.iload 4, 2) := by decide +kernel
theorem dL_law_1262 : decode cL_law 1262 = .ok (.iconst 3, 1) := by decide +kernel
theorem dL_law_1263 : decode cL_law 1263 = .ok (.iadd, 1) := by decide +kernel
theorem dL_law_1264 : decode cL_law 1264 = .ok (.iaload, 1) := by decide +kernel
theorem dL_law_1265 : decode cL_law 1265 = .ok (.aload_n 0, 1) := by decide +kernel
theorem dL_law_1266 : decode cL_law 1266 = .ok (.iload 4, 2) := by decide +kernel
theorem dL_law_1268 : decode cL_law 1268 = .ok (.iconst 4, 1) := by decide +kernel
theorem dL_law_1269 : decode cL_law 1269 = .ok (.iadd, 1) := by decide +kernel
theorem dL_law_1270 : decode cL_law 1270 = .ok (.iaload, 1) := by decide +kernel
theorem dL_law_1271 : decode cL_law 1271 = .ok (.aload_n 0, 1) := by decide +kernel
theorem dL_law_1272 : decode cL_law 1272 = .ok (.iload 4, 2) := by decide +kernel
theorem dL_law_1274 : decode cL_law 1274 = .ok (.iconst 5, 1) := by decide +kernel
theorem dL_law_1275 : decode cL_law 1275 = .ok (.iadd, 1) := by decide +kernel
theorem dL_law_1276 : decode cL_law 1276 = .ok (.iaload, 1) := by decide +kernel
theorem dL_law_1277 : decode cL_law 1277 = .ok (.invokevirtual 143, 3) := by decide +kernel
theorem dL_law_1280 : decode cL_law 1280 = .ok (.aload_n 2, 1) := by decide +kernel
theorem dL_law_1281 : decode cL_law 1281 = .ok (.aload_n 0, 1) := by decide +kernel
theorem dL_law_1282 : decode cL_law 1282 = .ok (.iload 4, 2) := by decide +kernel
theorem dL_law_1284 : decode cL_law 1284 = .ok (.iconst 1, 1) := by decide +kernel
theorem dL_law_1285 : decode cL_law 1285 = .ok (.iadd, 1) := by decide +kernel
theorem dL_law_1286 : decode cL_law 1286 = .ok (.iaload, 1) := by decide +kernel
theorem dL_law_1287 : decode cL_law 1287 = .ok (.aload_n 0, 1) := by decide +kernel
theorem dL_law_1288 : decode cL_law 1288 = .ok (.iload 4, 2) := by decide +kernel
theorem dL_law_1290 : decode cL_law 1290 = .ok (.iconst 2, 1) := by decide +kernel
theorem dL_law_1291 : decode cL_law 1291 = .ok (.iadd, 1) := by decide +kernel
theorem dL_law_1292 : decode cL_law 1292 = .ok (.iaload, 1) := by decide +kernel
theorem dL_law_1293 : decode cL_law 1293 = .ok (.aload_n 0, 1) := by decide +kernel
theorem dL_law_1294 : decode cL_law 1294 = .ok (.iload 4, 2) := by decide +kernel
theorem dL_law_1296 : decode cL_law 1296 = .ok (.iconst 3, 1) := by decide +kernel
theorem dL_law_1297 : decode cL_law 1297 = .ok (.iadd, 1) := by decide +kernel
theorem dL_law_1298 : decode cL_law 1298 = .ok (.iaload, 1) := by decide +kernel
theorem dL_law_1299 : decode cL_law 1299 = .ok (.aload_n 0, 1) := by decide +kernel
theorem dL_law_1300 : decode cL_law 1300 = .ok (.iload 4, 2) := by decide +kernel
theorem dL_law_1302 : decode cL_law 1302 = .ok (.iconst 4, 1) := by decide +kernel
theorem dL_law_1303 : decode cL_law 1303 = .ok (.iadd, 1) := by decide +kernel
theorem dL_law_1304 : decode cL_law 1304 = .ok (.iaload, 1) := by decide +kernel
theorem dL_law_1305 : decode cL_law 1305 = .ok (.aload_n 0, 1) := by decide +kernel
theorem dL_law_1306 : decode cL_law 1306 = .ok (.iload 4, 2) := by decide +kernel
theorem dL_law_1308 : decode cL_law 1308 = .ok (.iconst 5, 1) := by decide +kernel
theorem dL_law_1309 : decode cL_law 1309 = .ok (.iadd, 1) := by decide +kernel
theorem dL_law_1310 : decode cL_law 1310 = .ok (.iaload, 1) := by decide +kernel
theorem dL_law_1311 : decode cL_law 1311 = .ok (.invokevirtual 147, 3) := by decide +kernel
theorem dL_law_1314 : decode cL_law 1314 = .ok (.if_icmp .eq 55, 3) := by decide +kernel
theorem dL_law_1317 : decode cL_law 1317 = .ok (.iconst 0, 1) := by decide +kernel
theorem dL_law_1318 : decode cL_law 1318 = .ok (.ireturn, 1) := by decide +kernel
theorem dL_law_1319 : decode cL_law 1319 = .ok (.aload_n 1, 1) := by decide +kernel
theorem dL_law_1320 : decode cL_law 1320 = .ok (.aload_n 0, 1) := by decide +kernel
theorem dL_law_1321 : decode cL_law 1321 = .ok (.iload 4, 2) := by decide +kernel
theorem dL_law_1323 : decode cL_law 1323 = .ok (.iconst 1, 1) := by decide +kernel
theorem dL_law_1324 : decode cL_law 1324 = .ok (.iadd, 1) := by decide +kernel
theorem dL_law_1325 : decode cL_law 1325 = .ok (.iaload, 1) := by decide +kernel
theorem dL_law_1326 : decode cL_law 1326 = .ok (.invokevirtual 148, 3) := by decide +kernel
theorem dL_law_1329 : decode cL_law 1329 = .ok (.aload_n 2, 1) := by decide +kernel
theorem dL_law_1330 : decode cL_law 1330 = .ok (.aload_n 0, 1) := by decide +kernel
theorem dL_law_1331 : decode cL_law 1331 = .ok (.iload 4, 2) := by decide +kernel
theorem dL_law_1333 : decode cL_law 1333 = .ok (.iconst 1, 1) := by decide +kernel
theorem dL_law_1334 : decode cL_law 1334 = .ok (.iadd, 1) := by decide +kernel
theorem dL_law_1335 : decode cL_law 1335 = .ok (.iaload, 1) := by decide +kernel
theorem dL_law_1336 : decode cL_law 1336 = .ok (.invokevirtual 151, 3) := by decide +kernel
theorem dL_law_1339 : decode cL_law 1339 = .ok (.if_icmp .eq 30, 3) := by decide +kernel
theorem dL_law_1342 : decode cL_law 1342 = .ok (.iconst 0, 1) := by decide +kernel
theorem dL_law_1343 : decode cL_law 1343 = .ok (.ireturn, 1) := by decide +kernel
theorem dL_law_1344 : decode cL_law 1344 = .ok (.aload_n 1, 1) := by decide +kernel
theorem dL_law_1345 : decode cL_law 1345 = .ok (.aload_n 0, 1) := by decide +kernel
theorem dL_law_1346 : decode cL_law 1346 = .ok (.iload 4, 2) := by decide +kernel
theorem dL_law_1348 : decode cL_law 1348 = .ok (.iconst 1, 1) := by decide +kernel
theorem dL_law_1349 : decode cL_law 1349 = .ok (.iadd, 1) := by decide +kernel
theorem dL_law_1350 : decode cL_law 1350 = .ok (.iaload, 1) := by decide +kernel
theorem dL_law_1351 : decode cL_law 1351 = .ok (.invokevirtual 152, 3) := by decide +kernel
theorem dL_law_1354 : decode cL_law 1354 = .ok (.aload_n 2, 1) := by decide +kernel
theorem dL_law_1355 : decode cL_law 1355 = .ok (.aload_n 0, 1) := by decide +kernel
theorem dL_law_1356 : decode cL_law 1356 = .ok (.iload 4, 2) := by decide +kernel
theorem dL_law_1358 : decode cL_law 1358 = .ok (.iconst 1, 1) := by decide +kernel
theorem dL_law_1359 : decode cL_law 1359 = .ok (.iadd, 1) := by decide +kernel
theorem dL_law_1360 : decode cL_law 1360 = .ok (.iaload, 1) := by decide +kernel
theorem dL_law_1361 : decode cL_law 1361 = .ok (.invokevirtual 155, 3) := by decide +kernel
theorem dL_law_1364 : decode cL_law 1364 = .ok (.if_icmp .eq 5, 3) := by decide +kernel
theorem dL_law_1367 : decode cL_law 1367 = .ok (.iconst 0, 1) := by decide +kernel
theorem dL_law_1368 : decode cL_law 1368 = .ok (.ireturn, 1) := by decide +kernel
theorem dL_law_1369 : decode cL_law 1369 = .ok (.iinc 4 6, 3) := by decide +kernel
theorem dL_law_1372 : decode cL_law 1372 = .ok (.goto (-1349), 3) := by decide +kernel
theorem dL_law_1375 : decode cL_law 1375 = .ok (.iconst 1, 1) := by decide +kernel
theorem dL_law_1376 : decode cL_law 1376 = .ok (.ireturn, 1) := by decide +kernel
end
section
/-! OUR OWN LAYER: one world for each system (its cells by their number, at addresses a i), methods by what they compute (f_ = the method's own text, read as a function of the memory). -/
def TBL : List Cond := lw_tbl.filter goodWord
theorem tb_of {w : Cond} (i : Nat) (h : lw_tbl[i]? = some w) (hg : goodWord w = true) : w ∈ TBL := List.mem_filter.mpr ⟨List.mem_of_getElem? h, hg⟩
theorem tb_all {ws : List Cond} (is : List Nat) (h : is.filterMap (fun i => lw_tbl[i]?) = ws) (hg : ws.all goodWord = true) : ∀ w ∈ ws, w ∈ TBL := by
  intro w hw
  have h1 := List.all_eq_true.mp hg w hw
  rw [← h] at hw
  obtain ⟨i, -, hi⟩ := List.mem_filterMap.mp hw
  exact tb_of i hi h1
theorem tbl_good {w : Cond} (h : w ∈ TBL) : (w.onTables && w.keeps) = true ∨ ∃ ty, w = .arrayClass ty := good_of_word (List.mem_filter.mp h).2
theorem tb_ga {c : Cond} (h : c ∈ TBL) : GoodIn TBL (c :: TBL) := by
  intro w hw
  rcases List.mem_cons.mp hw with rfl | hw
  · exact ⟨h, tbl_good h⟩
  · exact ⟨hw, tbl_good hw⟩
theorem tb_gs {c : Cond} {ws : List Cond} (h : c ∈ TBL) (h2 : ∀ w ∈ ws, w ∈ TBL) : GoodIn TBL (ws ++ c :: TBL) := by
  intro w hw
  rcases List.mem_append.mp hw with hw | hw
  · exact ⟨h2 w hw, tbl_good (h2 w hw)⟩
  · exact tb_ga h w hw
def isN : Cond → Bool
  | .fieldLinkNest _ _ _ _ _ _ => true
  | .methodLinkNest _ _ _ _ => true
  | _ => false
def NST : List Cond := lw_tbl.filter isN
theorem ns_of {w : Cond} (i : Nat) (h : lw_tbl[i]? = some w) (hg : isN w = true) : w ∈ NST := List.mem_filter.mpr ⟨List.mem_of_getElem? h, hg⟩
def KX (D : va_G) (cl : List vw_C) (tys : List (ClassId × FieldType)) (U : State) : Prop := va_K D cl tys U ∧ ∀ w ∈ NST, va_Nw w U
theorem KX.warm {D : va_G} {cl : List vw_C} {tys : List (ClassId × FieldType)} {s U : State} (hW : s.WarmedH U.vm) (h : KX D cl tys s) : KX D cl tys U := ⟨va_K.moved hW.alike h.1, fun w hw => by
  have h2 := h.2 w hw
  have h3 := (List.mem_filter.mp hw).2
  cases w <;> first | exact va_Nw.warmF hW h2 | exact va_Nw.warmM hW h2 | cases h3⟩
theorem KX.same {D : va_G} {cl : List vw_C} {tys : List (ClassId × FieldType)} {u U : State} (hvm : u.vm = U.vm) (h : KX D cl tys u) : KX D cl tys U := ⟨va_K.moved (by rw [hvm]; exact Vm.Alike.refl _) h.1, fun w hw => by
  have h2 := h.2 w hw
  have h3 := (List.mem_filter.mp hw).2
  cases w <;> first | exact va_Nw.same rfl hvm h2 | cases h3⟩
-- the pure combinators of the f_ functions
def bnd {α β : Type} (x : α) (k : α → β) : β := k x
theorem bnd_e {α β : Type} {x : α} {k : α → Option β} {r : Option β} (h : bnd x k = r) : ∃ y, y = x ∧ k y = r := ⟨x, rfl, h⟩
def jn {α β : Type} (j : α) (k : α → β) : β := k j
theorem jn_e {α β : Type} {x : α} {k : α → Option β} {r : Option β} (h : jn x k = r) : ∃ y, y = x ∧ k y = r := ⟨x, rfl, h⟩
def b1 {α γ : Type} (x : Option α) (k : α → Option γ) : Option γ := match x with
  | none => none
  | some u => k u
def b2 {α β γ : Type} (x : Option (α × β)) (k : α → β → Option γ) : Option γ := match x with
  | none => none
  | some (u, v) => k u v
theorem b1_e {α γ : Type} {x : Option α} {k : α → Option γ} {r : γ} (h : b1 x k = some r) : ∃ u, x = some u ∧ k u = some r := by
  cases x with
  | none => cases h
  | some u => exact ⟨u, rfl, h⟩
theorem b2_e {α β γ : Type} {x : Option (α × β)} {k : α → β → Option γ} {r : γ} (h : b2 x k = some r) : ∃ u v, x = some (u, v) ∧ k u v = some r := by
  cases x with
  | none => cases h
  | some q => exact ⟨q.1, q.2, rfl, h⟩
theorem it {c : Prop} [Decidable c] {α : Type} {x y r : α} (hc : c) (h : (if c then x else y) = r) : x = r := by rw [if_pos hc] at h; exact h
theorem ie {c : Prop} [Decidable c] {α : Type} {x y r : α} (hc : ¬ c) (h : (if c then x else y) = r) : y = r := by rw [if_neg hc] at h; exact h
theorem ck {c : Prop} [Decidable c] {α : Type} {t : Option α} {r : α} (h : (if c then none else t) = some r) : ¬ c ∧ t = some r := by
  by_cases hc : c
  · rw [if_pos hc] at h; cases h
  · rw [if_neg hc] at h; exact ⟨hc, h⟩
theorem asr {c : Prop} [Decidable c] {α : Type} {t : Option α} {r : α} (h : (if c then t else none) = some r) : c ∧ t = some r := by
  by_cases hc : c
  · rw [if_pos hc] at h; exact ⟨hc, h⟩
  · rw [if_neg hc] at h; cases h
theorem ckb {i : Int32} {n : Nat} (h : ¬ (i < 0 ∨ n ≤ i.toNatClampNeg)) : i.toNatClampNeg < n := Nat.lt_of_not_le fun z => h (Or.inr z)
theorem ix_ok {i : Int32} {n : Nat} (h : ¬ (i < 0 ∨ n ≤ i.toNatClampNeg)) : vp_in i n := h
-- worlds
abbrev Row : Type := Nat → Int32
abbrev Mem : Type := Nat → Nat → Int32
def upR {ρ : Type} (σ : Nat → ρ) (i : Nat) (r : ρ) : Nat → ρ := fun j => if j = i then r else σ j
def wd {ρ : Type} (n : Nat) (a : Nat → Nat) (sh : Nat → ρ → va_E) (σ : Nat → ρ) : va_W := (List.range n).map fun i => (a i, sh i (σ i))
theorem wd_at {ρ : Type} {n : Nat} {a : Nat → Nat} {sh : Nat → ρ → va_E} {σ : Nat → ρ} {i : Nat} (h : i < n) : (wd n a sh σ)[i]? = some (a i, sh i (σ i)) := by
  simp [wd, h]
theorem wd_is {ρ : Type} {n : Nat} {a : Nat → Nat} {sh : Nat → ρ → va_E} {σ : Nat → ρ} {i : Nat} {q : Nat × va_E} (h : (wd n a sh σ)[i]? = some q) : i < n ∧ q = (a i, sh i (σ i)) := by
  have hl : i < n := by
    have := (List.getElem?_eq_some_iff.mp h).1
    simpa [wd] using this
  rw [wd_at hl] at h
  cases h
  exact ⟨hl, rfl⟩
theorem wd_set {ρ : Type} {n : Nat} {a : Nat → Nat} {sh : Nat → ρ → va_E} {σ : Nat → ρ} {i : Nat} (h : i < n) (r : ρ) : (wd n a sh σ).set i (a i, sh i r) = wd n a sh (upR σ i r) := by
  apply List.ext_getElem?
  intro j
  by_cases hj : i = j
  · subst hj
    rw [List.getElem?_set_self (by simpa [wd] using h), wd_at h]
    simp [upR]
  · rw [List.getElem?_set_ne hj]
    by_cases hl : j < n
    · rw [wd_at hl, wd_at hl]
      simp [upR, Ne.symm hj]
    · rw [List.getElem?_eq_none (by simpa [wd] using hl), List.getElem?_eq_none (by simpa [wd] using hl)]
def InjN (n : Nat) (a : Nat → Nat) : Prop := ∀ i j, i < n → j < n → a i = a j → i = j
def AW (n : Nat) (a : Nat → Nat) : Nat → Prop := fun q => ∃ i, i < n ∧ q = a i
theorem wd_D {ρ : Type} {n : Nat} {a : Nat → Nat} {sh : Nat → ρ → va_E} {σ : Nat → ρ} (hI : InjN n a) : va_D (AW n a) (wd n a sh σ) := by
  refine ⟨fun i j p q hi hj hpq => ?_, fun k q hk => ?_⟩
  · obtain ⟨h1, rfl⟩ := wd_is hi
    obtain ⟨h2, rfl⟩ := wd_is hj
    exact hI i j h1 h2 hpq
  · obtain ⟨h1, rfl⟩ := wd_is hk
    exact ⟨k, h1, rfl⟩
-- contracts
def Cx (p : Program) (s : State) (m : MethodId) (args : Array Value) (meth : Method) (c : Code) (own : String) (cc : ByteArray) (nL : Nat) (ret : Option FieldType) : Prop :=
  p.tables.exec = Jvm.exec ∧ c.code = cc ∧ c.maxLocals = nL ∧ s.vm.findClass own = some m.cls ∧ (∀ w ∈ TBL, w.before args s = true) ∧ meth.sig.returnType = ret ∧ meth.locks = false
def Blind (B : State → Prop) : Prop := ∀ (U : State) (g : JFrame) (mk : MethodId) (a : Array Value), B U → B (U.calling g mk a)
def Bt : State → Prop := fun _ => True
theorem Bt_b : Blind Bt := fun _ _ _ _ _ => trivial
def XP (D : va_G) (cl : List vw_C) (tys : List (ClassId × FieldType)) (B : State → Prop) (ws : va_W) (av : List Value) : Array Value → State → Prop := va_Pc av (fun U => va_P D cl ws U.heap ∧ KX D cl tys U ∧ B U)
def XQ (D : va_G) (cl : List vw_C) (A : Nat → Prop) (ws : va_W) (o : Option Value) : Array Value → State → Outcome → State → Prop := fun _ st oc t => oc = .returned o ∧ va_P D cl ws t.heap ∧ va_F A st t
def XM (l : Launch) (D : va_G) (cl : List vw_C) (tys : List (ClassId × FieldType)) (A : Nat → Prop) (B : State → Prop) (y : MethodName) (cc : ByteArray) (maxL : Nat) (ret : Option FieldType) (rm : Room) (av : List Value) (ws : va_W) (o : Option Value) (ws' : va_W) : Prop := Met l y (.code y cc maxL ret :: TBL) rm (XP D cl tys B ws av) (XQ D cl A ws' o) 0 0 A
theorem XP.blind {D : va_G} {cl : List vw_C} {tys : List (ClassId × FieldType)} {B : State → Prop} {ws : va_W} {av : List Value} (hB : Blind B) : FrameBlind (XP D cl tys B ws av) := fun a U g mk q => by
  obtain ⟨q0, q1, q2, q3⟩ := q
  exact ⟨q0, q1, KX.same (u := U) (U := U.calling g mk a) rfl q2, hB _ _ _ _ q3⟩
section XMO
variable {l : Launch} {D : va_G} {cl : List vw_C} {tys : List (ClassId × FieldType)} {A : Nat → Prop} {B : State → Prop} {y : MethodName} {cc : ByteArray} {maxL : Nat} {ret : Option FieldType} {rm : Room} {av : List Value} {ws ws' : va_W} {o : Option Value}
theorem XM.of (hy : plainName y.cls = true) (hn : (lg_sl av).length ≤ maxL)
    (body : ∀ (p : Program) (e : Env) (s : State) (m : MethodId) (below : List Frame) (meth : Method) (c : Code) (ls : Array Slot), Cx p s m av.toArray meth c y.cls cc maxL ret → KX D cl tys s → B s → va_P D cl ws s.heap → va_S A s.heap s.heap [] → lv_has ls maxL (lv_args 0 av) →
      W p l e rm s m av.toArray below meth c s.heap [] 0 0 (MQ below (XQ D cl A ws' o) av.toArray s 0 0 A) (F0 m 0 ls [])) : XM l D cl tys A B y cc maxL ret rm av ws o ws' := by
  refine Met.ofW (cc := cc) (maxL := maxL) (ret := ret) hy rfl ?_
  intro p e s m args below meth c s₁ B0 hml hv
  obtain ⟨rfl, hP, hK, hB⟩ := hv
  have hts := atoms_spec (ws := .code y cc maxL ret :: TBL) B0.pre
  have hown : s.vm.findClass y.cls = some m.cls := findClass_of_methodNamed B0.named
  rw [lg_entry_eq]
  exact body p e s m below meth c _ ⟨B0.exec, B0.bytes, hml, hown, fun w hw => hts w (List.mem_cons_of_mem _ hw), B0.returns, B0.notSynchronized⟩ hK hB hP va_S.rf (lv_entry av hn)
end XMO
section XR
variable {p : Program} {l : Launch} {e : Env} {R : Room} {s : State} {m : MethodId} {args : Array Value} {below : List Frame} {meth : Method} {c : Code} {H H0 : Heap} {locs : List Loc} {cells slots : Nat} {Q : State → Prop}
variable {D : va_G} {cl : List vw_C} {tys : List (ClassId × FieldType)} {A : Nat → Prop} {B : State → Prop} {ws ws' : va_W} {own : String} {cc cc2 : ByteArray} {nL nL2 idx pc : Nat} {ret ret2 : Option FieldType} {ls : Array Slot} {rest st0 As : List Value} {b : Nat} {y : MethodName} {rm : Room} {o : Option Value} {aa : Array Value}
theorem nm_top {v w : Value} (h : v = w) (k : W p l e R s m args below meth c H locs cells slots Q (F0 m pc ls (v :: rest))) : W p l e R s m args below meth c H locs cells slots Q (F0 m pc ls (w :: rest)) := h ▸ k
theorem nm_i {x z : Int32} (h : x = z) (k : W p l e R s m args below meth c H locs cells slots Q (F0 m pc ls (.int x :: rest))) : W p l e R s m args below meth c H locs cells slots Q (F0 m pc ls (.int z :: rest)) := h ▸ k
theorem nm_l {x z : Int64} (h : x = z) (k : W p l e R s m args below meth c H locs cells slots Q (F0 m pc ls (.long x :: rest))) : W p l e R s m args below meth c H locs cells slots Q (F0 m pc ls (.long z :: rest)) := h ▸ k
theorem xcall (hr : va_Run p l e R s m args below meth c H locs cells slots 0 0 (F0 m pc ls st0) rest (XQ D cl A ws' o aa) A) (hS : va_S A H0 H locs)
    (kk : ∀ (H1 : Heap) (locs1 : List Loc), va_P D cl ws' H1 → va_S A H0 H1 locs1 → W p l e R s m args below meth c H1 locs1 cells slots Q (F0 m (pc + 3) ls (o.toList ++ rest))) : W p l e R s m args below meth c H locs cells slots Q (F0 m pc ls st0) := by
  intro T hT X
  obtain ⟨v, st₀, t, T', L, h0, X', hL, e1, e2, ⟨hv, hP', hz, hk⟩, st⟩ := hr T hT X
  cases hv
  rw [h0] at hz hk
  obtain ⟨t2, a1, b1⟩ := kk T'.heap (locs ++ L) (by rw [e1]; exact hP') ⟨Nat.le_trans hS.1 (by rw [e1]; exact hz), fun q h1 h2 => by rw [e1, hk q (Nat.lt_of_lt_of_le h1 hS.1) h2]; exact hS.2.1 q h1 h2, fun q hq => by
      rcases List.mem_append.mp hq with h | h
      · exact hS.2.2 q h
      · exact hL q h⟩ T' rfl X'
  exact ⟨t2, st t2 a1, b1⟩
/-- what the tables say of a callee -/
def CV (y : MethodName) (cc : ByteArray) (maxL : Nat) (ret : Option FieldType) (n : Nat) : Prop :=
  Cond.instanceMethod y ∈ TBL ∧ Cond.selects y.cls y y ∈ TBL ∧ Cond.initialized y.cls ∈ TBL ∧ Cond.code y cc maxL ret ∈ TBL ∧ y.cls ≠ "java/lang/invoke/MethodHandle" ∧ y.cls ≠ "java/lang/invoke/VarHandle" ∧ (parseMethodDescriptor y.desc).map (fun d => d.parameters.length) = some n
def CS (y : MethodName) (cc : ByteArray) (maxL : Nat) (ret : Option FieldType) (n : Nat) : Prop :=
  Cond.static y ∈ TBL ∧ Cond.initialized y.cls ∈ TBL ∧ Cond.code y cc maxL ret ∈ TBL ∧ y.cls ≠ "java/lang/invoke/MethodHandle" ∧ y.cls ≠ "java/lang/invoke/VarHandle" ∧ (parseMethodDescriptor y.desc).map (fun d => d.parameters.length) = some n
/-- room for a callee -/
def RMok (R rm : Room) (nL2 : Nat) : Prop := rm.cells = 0 ∧ rm.slots = 0 ∧ rm.frames + 1 ≤ R.frames ∧ 8 + (nL2 + 11) + rm.locals ≤ R.locals
theorem rV (C0 : Cx p s m args meth c own cc nL ret) (hK : KX D cl tys s) (hP : va_P D cl ws H) (hn : ls.size = nL) (hBs : ∀ U : State, U.heap = H → s.WarmedH U.vm → B U) (hB : Blind B) (hM : XM l D cl tys A B y cc2 nL2 ret2 rm (.ref b :: As) ws o ws') (cv : CV y cc2 nL2 ret2 As.length) (hlink : Cond.methodLink own idx y ∈ TBL)
    (hrec : ∃ cell : Cell, H[b]? = some cell ∧ cell.vm.isStatics = false ∧ s.vm.findClass y.cls = some cell.cls) (hst : st0 = As.reverse ++ .ref b :: rest) (hcat : (rest.map fun v => v.category).sum ≤ 8) (hrm : RMok R rm nL2) (hcs : cells ≤ R.cells ∧ slots ≤ R.slots) (hdg : decode cc pc = .ok (.invokevirtual idx, 3)) :
    va_Run p l e R s m args below meth c H locs cells slots 0 0 (F0 m pc ls st0) rest (XQ D cl A ws' o (Value.ref b :: As).toArray) A := by
  obtain ⟨hx, hb, hml, hown, hts, -⟩ := C0
  obtain ⟨w1, w2, w3, w4, w5⟩ := cv
  exact va_runV (As := As) (rest := rest) ⟨hx, hb, hml, hown, hts⟩ hM
    (cwV As.length hts (tb_gs (ws := [.methodLink own idx y, .instanceMethod y, .selects y.cls y y, .initialized y.cls]) w4 (fun w hw => by
      simp only [List.mem_cons, List.not_mem_nil, or_false] at hw
      rcases hw with rfl | rfl | rfl | rfl <;> assumption)) rfl hrm.1 hrm.2.1 ⟨rfl, w5⟩ hrm.2.2)
    ⟨XP.blind hB, hrec, fun U hU hW => ⟨rfl, by rw [hU]; exact hP, KX.warm hW hK, hBs U hU hW⟩⟩ rfl rfl hn hst (lv_room hcat) hdg hcs
theorem rS (C0 : Cx p s m args meth c own cc nL ret) (hK : KX D cl tys s) (hP : va_P D cl ws H) (hn : ls.size = nL) (hBs : ∀ U : State, U.heap = H → s.WarmedH U.vm → B U) (hB : Blind B) (hM : XM l D cl tys A B y cc2 nL2 ret2 rm As ws o ws') (cv : CS y cc2 nL2 ret2 As.length) (hlink : Cond.methodLink own idx y ∈ TBL)
    (hst : st0 = As.reverse ++ rest) (hcat : (rest.map fun v => v.category).sum ≤ 8) (hrm : RMok R rm nL2) (hcs : cells ≤ R.cells ∧ slots ≤ R.slots) (hdg : decode cc pc = .ok (.invokestatic idx, 3)) :
    va_Run p l e R s m args below meth c H locs cells slots 0 0 (F0 m pc ls st0) rest (XQ D cl A ws' o As.toArray) A := by
  obtain ⟨hx, hb, hml, hown, hts, -⟩ := C0
  obtain ⟨w1, w3, w4, w5⟩ := cv
  exact va_runS (As := As) (rest := rest) ⟨hx, hb, hml, hown, hts⟩ hM
    (va_cwS As.length hts (tb_gs (ws := [.methodLink own idx y, .static y, .initialized y.cls]) w4 (fun w hw => by
      simp only [List.mem_cons, List.not_mem_nil, or_false] at hw
      rcases hw with rfl | rfl | rfl <;> assumption)) rfl hrm.1 hrm.2.1 w5 hrm.2.2)
    ⟨XP.blind hB, fun U hU hW => ⟨rfl, by rw [hU]; exact hP, KX.warm hW hK, hBs U hU hW⟩⟩ rfl rfl hn hst (lv_room hcat) hdg hcs
/-- a private static method of a nest mate -/
theorem rSN {host : String} (C0 : Cx p s m args meth c own cc nL ret) (hK : KX D cl tys s) (hP : va_P D cl ws H) (hn : ls.size = nL) (hBs : ∀ U : State, U.heap = H → s.WarmedH U.vm → B U) (hB : Blind B) (hM : XM l D cl tys A B y cc2 nL2 ret2 rm As ws o ws') (cv : CS y cc2 nL2 ret2 As.length) (hlink : Cond.methodLinkNest own idx y host ∈ NST)
    (hst : st0 = As.reverse ++ rest) (hcat : (rest.map fun v => v.category).sum ≤ 8) (hrm : RMok R rm nL2) (hcs : cells ≤ R.cells ∧ slots ≤ R.slots) (hdg : decode cc pc = .ok (.invokestatic idx, 3)) :
    va_Run p l e R s m args below meth c H locs cells slots 0 0 (F0 m pc ls st0) rest (XQ D cl A ws' o As.toArray) A := by
  obtain ⟨hx, hb, hml, hown, hts, -⟩ := C0
  obtain ⟨w1, w3, w4, w5⟩ := cv
  exact va_runSN (As := As) (rest := rest) ⟨hx, hb, hml, hown, hts⟩ hM
    ⟨va_cnB As.length hts (tb_ga w4) rfl hrm.1 hrm.2.1 (hK.2 _ hlink) (hts _ w3) w5 hrm.2.2, hts _ w1, trivial⟩
    ⟨XP.blind hB, fun U hU hW => ⟨rfl, by rw [hU]; exact hP, KX.warm hW hK, hBs U hU hW⟩⟩ rfl rfl hn hst (lv_room hcat) hdg hcs
/-- super.y(..) -/
theorem rSU {C : String} {cC : ClassId} (C0 : Cx p s m args meth c own cc nL ret) (hK : KX D cl tys s) (hP : va_P D cl ws H) (hn : ls.size = nL) (hBs : ∀ U : State, U.heap = H → s.WarmedH U.vm → B U) (hB : Blind B) (hM : XM l D cl tys A B y cc2 nL2 ret2 rm (.ref b :: As) ws o ws') (cv : Cond.instanceMethod y ∈ TBL ∧ Cond.initialized y.cls ∈ TBL ∧ Cond.code y cc2 nL2 ret2 ∈ TBL ∧ y.name ≠ "<init>" ∧ (parseMethodDescriptor y.desc).map (fun d => d.parameters.length) = some As.length) (hlink : Cond.methodLink own idx y ∈ TBL ∧ Cond.sameMethod y.cls y.cls y.name y.desc ∈ TBL ∧ Cond.superclass own y.cls ∈ TBL)
    (hat : ClassAt s C cC) (hrec : ∃ cell : Cell, H[b]? = some cell ∧ cell.vm.isStatics = false ∧ s.vm.findClass C = some cell.cls) (hst : st0 = As.reverse ++ .ref b :: rest) (hcat : (rest.map fun v => v.category).sum ≤ 8) (hrm : RMok R rm nL2) (hcs : cells ≤ R.cells ∧ slots ≤ R.slots) (hdg : decode cc pc = .ok (.invokespecial idx, 3)) :
    va_Run p l e R s m args below meth c H locs cells slots 0 0 (F0 m pc ls st0) rest (XQ D cl A ws' o (Value.ref b :: As).toArray) A := by
  obtain ⟨hx, hb, hml, hown, hts, -⟩ := C0
  obtain ⟨w1, w2, w3, w5⟩ := cv
  obtain ⟨k1, k2, k3⟩ := hlink
  exact va_runSU (As := As) (rest := rest) hat ⟨hx, hb, hml, hown, hts⟩ hM
    (va_cwSU As.length hts (tb_gs (ws := [.methodLink own idx y, .sameMethod y.cls y.cls y.name y.desc, .superclass own y.cls, .instanceMethod y, .initialized y.cls]) w3 (fun w hw => by
      simp only [List.mem_cons, List.not_mem_nil, or_false] at hw
      rcases hw with rfl | rfl | rfl | rfl | rfl <;> assumption)) rfl hrm.1 hrm.2.1 w5 hrm.2.2)
    ⟨XP.blind hB, hrec, fun U hU hW => ⟨rfl, by rw [hU]; exact hP, KX.warm hW hK, hBs U hU hW⟩⟩ rfl rfl hn hst (lv_room hcat) hdg hcs
/-- x.m(..) of a class C that runs y: an overriding method -/
theorem rO {C owner : String} {x : MethodName} {bb : ByteArray} {mm : Nat} {rr : Option FieldType} (C0 : Cx p s m args meth c own cc nL ret) (hK : KX D cl tys s) (hP : va_P D cl ws H) (hn : ls.size = nL) (hBs : ∀ U : State, U.heap = H → s.WarmedH U.vm → B U) (hB : Blind B) (hM : XM l D cl tys A B y cc2 nL2 ret2 rm (.ref b :: As) ws o ws')
    (cv : Cond.sameMethod x.cls owner x.name x.desc ∈ TBL ∧ Cond.instanceMethod ⟨owner, x.name, x.desc⟩ ∈ TBL ∧ Cond.selects C x y ∈ TBL ∧ Cond.instanceMethod y ∈ TBL ∧ Cond.initialized y.cls ∈ TBL ∧ Cond.code y cc2 nL2 ret2 ∈ TBL ∧ Cond.code ⟨owner, x.name, x.desc⟩ bb mm rr ∈ TBL ∧ owner ≠ "java/lang/invoke/MethodHandle" ∧ owner ≠ "java/lang/invoke/VarHandle" ∧ (parseMethodDescriptor x.desc).map (fun d => d.parameters.length) = some As.length) (hlink : Cond.methodLink own idx x ∈ TBL)
    (hrec : ∃ cell : Cell, H[b]? = some cell ∧ cell.vm.isStatics = false ∧ s.vm.findClass C = some cell.cls) (hst : st0 = As.reverse ++ .ref b :: rest) (hcat : (rest.map fun v => v.category).sum ≤ 8) (hrm : RMok R rm nL2) (hcs : cells ≤ R.cells ∧ slots ≤ R.slots) (hdg : decode cc pc = .ok (.invokevirtual idx, 3)) :
    va_Run p l e R s m args below meth c H locs cells slots 0 0 (F0 m pc ls st0) rest (XQ D cl A ws' o (Value.ref b :: As).toArray) A := by
  obtain ⟨hx, hb, hml, hown, hts, -⟩ := C0
  obtain ⟨w1, w2, w3, w4, w5, w6, w7, w8⟩ := cv
  exact va_runU (As := As) (rest := rest) ⟨hx, hb, hml, hown, hts⟩ hM
    (va_cwO As.length hts (tb_gs (ws := [.methodLink own idx x, .sameMethod x.cls owner x.name x.desc, .instanceMethod ⟨owner, x.name, x.desc⟩, .selects C x y, .instanceMethod y, .initialized y.cls]) w6 (fun w hw => by
      simp only [List.mem_cons, List.not_mem_nil, or_false] at hw
      rcases hw with rfl | rfl | rfl | rfl | rfl | rfl <;> assumption)) rfl hrm.1 hrm.2.1 w7 w8 hrm.2.2)
    ⟨XP.blind hB, hrec, fun U hU hW => ⟨rfl, by rw [hU]; exact hP, KX.warm hW hK, hBs U hU hW⟩⟩ rfl rfl hn hst (lv_room hcat) hdg hcs
-- returns
theorem xzret {ρ : Type} {n : Nat} {a : Nat → Nat} {sh : Nat → ρ → va_E} {σ σ' : Nat → ρ} {ty : FieldType} {v r : Int32} (C0 : Cx p s m args meth c own cc nL (some ty)) (hP : va_P D cl (wd n a sh σ) H) (hS : va_S A s.heap H locs) (hn : narrow ty (.int v) = .int v) (h : some (v, σ) = some (r, σ')) (hdg : decode cc pc = .ok (.ireturn, 1)) :
    W p l e R s m args below meth c H locs cells slots (MQ below (XQ D cl A (wd n a sh σ') (some (.int r))) args s cells slots A) (F0 m pc ls [.int v]) := by
  cases h
  obtain ⟨hx, hb, hml, hown, hts, hr, hlocks⟩ := C0
  exact W.zret hx hb hr hn (fun t ht hW => ⟨rfl, by rw [ht]; exact hP, hS.F ht⟩) hS.2.2 hdg hlocks
theorem xzretr {ρ : Type} {n : Nat} {a : Nat → Nat} {sh : Nat → ρ → va_E} {σ : Nat → ρ} {ty : FieldType} {v r : Int32} (C0 : Cx p s m args meth c own cc nL (some ty)) (hP : va_P D cl (wd n a sh σ) H) (hS : va_S A s.heap H locs) (hn : narrow ty (.int v) = .int v) (h : some v = some r) (hdg : decode cc pc = .ok (.ireturn, 1)) :
    W p l e R s m args below meth c H locs cells slots (MQ below (XQ D cl A (wd n a sh σ) (some (.int r))) args s cells slots A) (F0 m pc ls [.int v]) := by
  cases h
  exact xzret (σ' := σ) C0 hP hS hn rfl hdg
theorem xlretr {ρ : Type} {n : Nat} {a : Nat → Nat} {sh : Nat → ρ → va_E} {σ : Nat → ρ} {v r : Int64} (C0 : Cx p s m args meth c own cc nL (some .long)) (hP : va_P D cl (wd n a sh σ) H) (hS : va_S A s.heap H locs) (h : some v = some r) (hdg : decode cc pc = .ok (.lreturn, 1)) :
    W p l e R s m args below meth c H locs cells slots (MQ below (XQ D cl A (wd n a sh σ) (some (.long r))) args s cells slots A) (F0 m pc ls [.long v]) := by
  cases h
  obtain ⟨hx, hb, hml, hown, hts, hr, hlocks⟩ := C0
  exact W.lret hx hb hr (fun t ht hW => ⟨rfl, by rw [ht]; exact hP, hS.F ht⟩) hS.2.2 hdg hlocks
theorem xlret {ρ : Type} {n : Nat} {a : Nat → Nat} {sh : Nat → ρ → va_E} {σ σ' : Nat → ρ} {v r : Int64} (C0 : Cx p s m args meth c own cc nL (some .long)) (hP : va_P D cl (wd n a sh σ) H) (hS : va_S A s.heap H locs) (h : some (v, σ) = some (r, σ')) (hdg : decode cc pc = .ok (.lreturn, 1)) :
    W p l e R s m args below meth c H locs cells slots (MQ below (XQ D cl A (wd n a sh σ') (some (.long r))) args s cells slots A) (F0 m pc ls [.long v]) := by
  cases h
  obtain ⟨hx, hb, hml, hown, hts, hr, hlocks⟩ := C0
  exact W.lret hx hb hr (fun t ht hW => ⟨rfl, by rw [ht]; exact hP, hS.F ht⟩) hS.2.2 hdg hlocks
theorem xvret {ρ : Type} {n : Nat} {a : Nat → Nat} {sh : Nat → ρ → va_E} {σ σ' : Nat → ρ} (C0 : Cx p s m args meth c own cc nL none) (hP : va_P D cl (wd n a sh σ) H) (hS : va_S A s.heap H locs) (h : some σ = some σ') (hdg : decode cc pc = .ok (.return_, 1)) :
    W p l e R s m args below meth c H locs cells slots (MQ below (XQ D cl A (wd n a sh σ') none) args s cells slots A) (F0 m pc ls []) := by
  cases h
  obtain ⟨hx, hb, hml, hown, hts, hr, hlocks⟩ := C0
  exact W.vret hx hb hr (fun t ht hW => ⟨rfl, by rw [ht]; exact hP, hS.F ht⟩) hS.2.2 hdg hlocks
theorem xaretr {ρ : Type} {n : Nat} {a : Nat → Nat} {sh : Nat → ρ → va_E} {σ : Nat → ρ} {C : String} {k r : Nat} {ad : Nat → Nat} (C0 : Cx p s m args meth c own cc nL (some (.object C))) (hP : va_P D cl (wd n a sh σ) H) (hS : va_S A s.heap H locs) (h : some k = some r) (hdg : decode cc pc = .ok (.areturn, 1)) :
    W p l e R s m args below meth c H locs cells slots (MQ below (XQ D cl A (wd n a sh σ) (some (.ref (ad r)))) args s cells slots A) (F0 m pc ls [.ref (ad k)]) := by
  cases h
  obtain ⟨hx, hb, hml, hown, hts, hr, hlocks⟩ := C0
  exact W.aret hx hb hr (Or.inl ⟨C, rfl⟩) (Or.inr ⟨_, rfl⟩) (fun t ht hW => ⟨rfl, by rw [ht]; exact hP, hS.F ht⟩) hS.2.2 hdg hlocks
end XR
end
section
theorem pn_X0 : plainName RX0 = true := by decide +kernel
theorem pn_X1 : plainName RX1 = true := by decide +kernel
theorem pn_X2 : plainName RX2 = true := by decide +kernel
theorem pn_X3 : plainName RX3 = true := by decide +kernel
theorem pn_X4 : plainName RX4 = true := by decide +kernel
theorem pn_X5 : plainName RX5 = true := by decide +kernel
theorem pn_X6 : plainName RX6 = true := by decide +kernel
theorem pn_X7 : plainName RX7 = true := by decide +kernel
theorem pn_X8 : plainName RX8 = true := by decide +kernel
theorem pn_X9 : plainName RX9 = true := by decide +kernel
theorem pn_X10 : plainName RX10 = true := by decide +kernel
theorem pn_X11 : plainName RX11 = true := by decide +kernel
theorem pn_X12 : plainName RX12 = true := by decide +kernel
theorem in_X0 : ∀ w ∈ u_ws RX0 TX0 6, w ∈ TBL := tb_all [111, 113, 115, 117, 119, 121] (by decide +kernel) (by decide +kernel)
theorem in_X5 : ∀ w ∈ u_ws RX5 TX5 6, w ∈ TBL := tb_all [144, 146, 148, 150, 152, 154] (by decide +kernel) (by decide +kernel)
theorem in_X8 : ∀ w ∈ u_ws RX8 TX8 4, w ∈ TBL := tb_all [177, 179, 181, 183] (by decide +kernel) (by decide +kernel)
theorem in_X11 : ∀ w ∈ u_ws RX11 TX11 12, w ∈ TBL := tb_all [247, 249, 251, 253, 255, 257, 259, 261, 263, 265, 267, 269] (by decide +kernel) (by decide +kernel)
theorem in_X12 : ∀ w ∈ u_ws RX12 TX12 38, w ∈ TBL := tb_all [992, 994, 996, 998, 1000, 1002, 1004, 1006, 1008, 1010, 1012, 1014, 1016, 1018, 1020, 1022, 1024, 1026, 1028, 1030, 1032, 1034, 1036, 1038, 1040, 1042, 1044, 1046, 1048, 1050, 1052, 1054, 1056, 1058, 1060, 1062, 1064, 1066] (by decide +kernel) (by decide +kernel)
abbrev tysE (ca : Nat → ClassId) : List (ClassId × FieldType) := [(ca 0, .int), (ca 1, .long), (ca 2, .object "PinnedToFit$Dress"), (ca 3, .object "PinnedToFit$Pin"), (ca 4, .object "PinnedToFit$Shelf")]
def pinC (j : Nat) : Nat := [3, 7, 2, 9, 4, 10, 6, 1].getD j 3
/-- the class's system: cell 0 the object; 1 + 2k, 2 + 2k dress k and its cells (now, pictured, mind, steps); 19 + 2d, 20 + 2d shelf d (8: noShelf); 37 steps, 38 shelves, 39 kinds; 40 + j pin j; 48 text, 49 its numbers -/
def shX (ca : Nat → ClassId) (a : Nat → Nat) (i : Nat) (r : Row) : va_E :=
  if i = 0 then .inr (11, [.ref (a (1 + 2 * 0)), .ref (a (1 + 2 * 1)), .ref (a (1 + 2 * 2)), .ref (a 37), .ref (a 38), .ref (a (19 + 2 * 8)), .ref (a 39), .ref (a (40 + 0)), .ref (a 48), .int (r 9), .int (r 10), .int (r 11)])
  else if i < 19 then (if i % 2 = 1 then .inr (0, [.ref (a (i + 1)), .int (r 1), .int (r 2), .int (r 3), .int (r 4), .int (r 5)]) else .inl (ca 0, 24, .inl r))
  else if i < 37 then (if i % 2 = 1 then .inr (5, [.ref (a (i + 1)), .int (r 1), .int (r 2), .int (r 3), .int (r 4), .int (r 5)]) else .inl (ca 0, 100, .inl r))
  else if i = 37 then .inl (ca 2, 6, .inr (.inr (.inr (.inr (fun j => some (a (1 + 2 * (3 + j))))))))
  else if i = 38 then .inl (ca 4, 8, .inr (.inr (.inr (.inr (fun j => some (a (19 + 2 * j)))))))
  else if i = 39 then .inl (ca 3, 8, .inr (.inr (.inr (.inr (fun j => some (a (40 + j)))))))
  else if i < 48 then .inr (pinC (i - 40), [])
  else if i = 48 then .inr (8, [.ref (a 49), .int (r 1), .int (r 2), .int (r 3)])
  else .inl (ca 0, 4, .inl r)
abbrev wX (ca : Nat → ClassId) (a : Nat → Nat) (σ : Mem) : va_W := wd 50 a (shX ca a) σ
abbrev MRow : Type := (Nat → Int32) × (Nat → Int64)
abbrev MMem : Type := Nat → (Nat → Int32) × (Nat → Int64)
def kref (a : Nat → Nat) (v : Int32) : Value := if v = 5 then .ref (a 5) else if v = 6 then .ref (a 6) else .null
def mlen (i : Nat) : Nat := [0, 6, 6, 6, 6, 29, 29, 51, 51, 51, 51, 51, 51, 6, 8, 8, 8, 8, 8, 800, 100].getD i 0
/-- the reference: cell 0 the object, then its arrays in the order of its fields (19: rows, 20: between: longs) -/
def shM (ca : Nat → ClassId) (a : Nat → Nat) (i : Nat) (r : MRow) : va_E :=
  if i = 0 then .inr (12, [.int (r.1 0), .int (r.1 1), .int (r.1 2), .int (r.1 3), .int (r.1 4), .ref (a 1), .ref (a 2), .ref (a 3), .ref (a 4), .int (r.1 9), .ref (a 5), .ref (a 6), .int (r.1 12), .int (r.1 13), .int (r.1 14), kref a (r.1 15), .int (r.1 16), .int (r.1 17), .int (r.1 18), .int (r.1 19), .int (r.1 20), .ref (a 7), .ref (a 8), .ref (a 9), .ref (a 10), .ref (a 11), .ref (a 12), .ref (a 13), .int (r.1 28), .int (r.1 29), .int (r.1 30), .ref (a 14), .ref (a 15), .ref (a 16), .ref (a 17), .ref (a 18), .ref (a 19), .ref (a 20)])
  else if i < 19 then .inl (ca 0, mlen i, .inl r.1)
  else .inl (ca 1, mlen i, .inr (.inl r.2))
abbrev wM (ca : Nat → ClassId) (a : Nat → Nat) (σ : MMem) : va_W := wd 21 a (shM ca a) σ
def uX (σ : Mem) (i j : Nat) (v : Int32) : Mem := upR σ i (upd (σ i) j v)
def uI (σ : MMem) (i j : Nat) (v : Int32) : MMem := upR σ i (upd (σ i).1 j v, (σ i).2)
def uL (σ : MMem) (i j : Nat) (v : Int64) : MMem := upR σ i ((σ i).1, vp_updL (σ i).2 j v)
abbrev XMX (l : Launch) (D : va_G) (ca : Nat → ClassId) (a : Nat → Nat) (B : State → Prop) (y : MethodName) (cc : ByteArray) (maxL : Nat) (ret : Option FieldType) (rm : Room) (av : List Value) (σ : Mem) (o : Option Value) (σ' : Mem) : Prop := XM l D vwCl (tysE ca) (AW 50 a) B y cc maxL ret rm av (wX ca a σ) o (wX ca a σ')
abbrev XMM (l : Launch) (D : va_G) (ca : Nat → ClassId) (a : Nat → Nat) (B : State → Prop) (y : MethodName) (cc : ByteArray) (maxL : Nat) (ret : Option FieldType) (rm : Room) (av : List Value) (σ : MMem) (o : Option Value) (σ' : MMem) : Prop := XM l D vwCl (tysE ca) (AW 21 a) B y cc maxL ret rm av (wM ca a σ) o (wM ca a σ')
theorem ltD {k : Nat} (h : k < 9) : 1 + 2 * k < 50 := by omega
theorem ltDA {k : Nat} (h : k < 9) : 2 + 2 * k < 50 := by omega
theorem ltS {k : Nat} (h : k < 9) : 19 + 2 * k < 50 := by omega
theorem ltSA {k : Nat} (h : k < 9) : 20 + 2 * k < 50 := by omega
theorem ltP {k : Nat} (h : k < 8) : 40 + k < 50 := by omega
theorem sh_X {ca : Nat → ClassId} {a : Nat → Nat} {r : Row} : shX ca a 0 r = .inr (11, [.ref (a (1 + 2 * 0)), .ref (a (1 + 2 * 1)), .ref (a (1 + 2 * 2)), .ref (a 37), .ref (a 38), .ref (a (19 + 2 * 8)), .ref (a 39), .ref (a (40 + 0)), .ref (a 48), .int (r 9), .int (r 10), .int (r 11)]) := by simp [shX]
theorem sh_D {ca : Nat → ClassId} {a : Nat → Nat} {r : Row} {k : Nat} (h : k < 9) : shX ca a (1 + 2 * k) r = .inr (0, [.ref (a (2 + 2 * k)), .int (r 1), .int (r 2), .int (r 3), .int (r 4), .int (r 5)]) := by
  rw [shX, if_neg (by omega), if_pos (by omega), if_pos (by omega), show 1 + 2 * k + 1 = 2 + 2 * k by omega]
theorem sh_DA {ca : Nat → ClassId} {a : Nat → Nat} {r : Row} {k : Nat} (h : k < 9) : shX ca a (2 + 2 * k) r = .inl (ca 0, 24, .inl r) := by
  rw [shX, if_neg (by omega), if_pos (by omega), if_neg (by omega)]
theorem sh_S {ca : Nat → ClassId} {a : Nat → Nat} {r : Row} {k : Nat} (h : k < 9) : shX ca a (19 + 2 * k) r = .inr (5, [.ref (a (20 + 2 * k)), .int (r 1), .int (r 2), .int (r 3), .int (r 4), .int (r 5)]) := by
  rw [shX, if_neg (by omega), if_neg (by omega), if_pos (by omega), if_pos (by omega), show 19 + 2 * k + 1 = 20 + 2 * k by omega]
theorem sh_SA {ca : Nat → ClassId} {a : Nat → Nat} {r : Row} {k : Nat} (h : k < 9) : shX ca a (20 + 2 * k) r = .inl (ca 0, 100, .inl r) := by
  rw [shX, if_neg (by omega), if_neg (by omega), if_pos (by omega), if_neg (by omega)]
theorem sh_AS {ca : Nat → ClassId} {a : Nat → Nat} {r : Row} : shX ca a 37 r = .inl (ca 2, 6, .inr (.inr (.inr (.inr (fun j => some (a (1 + 2 * (3 + j)))))))) := by simp [shX]
theorem sh_AH {ca : Nat → ClassId} {a : Nat → Nat} {r : Row} : shX ca a 38 r = .inl (ca 4, 8, .inr (.inr (.inr (.inr (fun j => some (a (19 + 2 * j))))))) := by simp [shX]
theorem sh_AK {ca : Nat → ClassId} {a : Nat → Nat} {r : Row} : shX ca a 39 r = .inl (ca 3, 8, .inr (.inr (.inr (.inr (fun j => some (a (40 + j))))))) := by simp [shX]
theorem sh_P {ca : Nat → ClassId} {a : Nat → Nat} {r : Row} {k : Nat} (h : k < 8) : shX ca a (40 + k) r = .inr (pinC k, []) := by
  rw [shX, if_neg (by omega), if_neg (by omega), if_neg (by omega), if_neg (by omega), if_neg (by omega), if_neg (by omega), if_pos (by omega), show 40 + k - 40 = k by omega]
theorem sh_T {ca : Nat → ClassId} {a : Nat → Nat} {r : Row} : shX ca a 48 r = .inr (8, [.ref (a 49), .int (r 1), .int (r 2), .int (r 3)]) := by simp [shX]
theorem sh_TA {ca : Nat → ClassId} {a : Nat → Nat} {r : Row} : shX ca a 49 r = .inl (ca 0, 4, .inl r) := by simp [shX]
theorem sh_M {ca : Nat → ClassId} {a : Nat → Nat} {r : MRow} : shM ca a 0 r = .inr (12, [.int (r.1 0), .int (r.1 1), .int (r.1 2), .int (r.1 3), .int (r.1 4), .ref (a 1), .ref (a 2), .ref (a 3), .ref (a 4), .int (r.1 9), .ref (a 5), .ref (a 6), .int (r.1 12), .int (r.1 13), .int (r.1 14), kref a (r.1 15), .int (r.1 16), .int (r.1 17), .int (r.1 18), .int (r.1 19), .int (r.1 20), .ref (a 7), .ref (a 8), .ref (a 9), .ref (a 10), .ref (a 11), .ref (a 12), .ref (a 13), .int (r.1 28), .int (r.1 29), .int (r.1 30), .ref (a 14), .ref (a 15), .ref (a 16), .ref (a 17), .ref (a 18), .ref (a 19), .ref (a 20)]) := by simp [shM]
theorem sh_MA {ca : Nat → ClassId} {a : Nat → Nat} {r : MRow} {i : Nat} (h0 : 0 < i) (h : i < 19) : shM ca a i r = .inl (ca 0, mlen i, .inl r.1) := by
  rw [shM, if_neg (by omega), if_pos h]
theorem sh_ML {ca : Nat → ClassId} {a : Nat → Nat} {r : MRow} {i : Nat} (h : 19 ≤ i) : shM ca a i r = .inl (ca 1, mlen i, .inr (.inl r.2)) := by
  rw [shM, if_neg (by omega), if_neg (by omega)]
theorem kref_of {a : Nat → Nat} {t : Nat} (h : t = 5 ∨ t = 6) : kref a (nI t) = .ref (a t) := by
  rcases h with rfl | rfl <;> rfl
theorem kref5 {a : Nat → Nat} {v : Int32} (h : v = 5) : kref a v = .ref (a 5) := by subst h; rfl
theorem kref6 {a : Nat → Nat} {v : Int32} (h : v = 6) : kref a v = .ref (a 6) := by subst h; rfl
theorem wd_put {ρ : Type} {D : va_G} {cl : List vw_C} {n : Nat} {a : Nat → Nat} {sh : Nat → ρ → va_E} {σ : Nat → ρ} {H : Heap} {i : Nat} (hi : i < n) {e : va_E} {r : ρ} (he : e = sh i r) (h : va_P D cl ((wd n a sh σ).set i (a i, e)) H) : va_P D cl (wd n a sh (upR σ i r)) H := by
  subst he
  rwa [wd_set hi] at h
section WR
variable {p : Program} {l : Launch} {e : Env} {R : Room} {s : State} {m : MethodId} {args : Array Value} {below : List Frame} {meth : Method} {c : Code} {H H0 : Heap} {locs : List Loc} {cells slots : Nat} {Q : State → Prop}
variable {D : va_G} {ca : Nat → ClassId} {a : Nat → Nat} {own : String} {cc : ByteArray} {nL idx pc : Nat} {ret : Option FieldType} {ls : Array Slot} {rest : List Value}
variable {σ : Mem} {μ : MMem}
theorem gX0_0 {k : Nat} (C0 : Cx p s m args meth c own cc nL ret) (hK : KX D vwCl (tysE ca) s) (hP : va_P D vwCl (wX ca a σ) H) (hk : k < 9) (hw : Cond.fieldLink own idx "PinnedToFit$Dress" "cells" "[I" ∈ TBL) (hdg : decode cc pc = .ok (.getfield idx, 3)) (kk : W p l e R s m args below meth c H locs cells slots Q (F0 m (pc + 3) ls (.ref (a (2 + 2 * k)) :: rest))) : W p l e R s m args below meth c H locs cells slots Q (F0 m pc ls (.ref (a (1 + 2 * k)) :: rest)) :=
  va_get (D := D) (ci := 0) (C := RX0) (T := TX0) (N := 6) C0.1 C0.2.1 C0.2.2.2.2.1 in_X0 C0.2.2.2.1 hK.1 hP (1 + 2 * k) ((wd_at (ltD hk)).trans (by rw [sh_D hk])) rfl 0 (by decide) (C0.2.2.2.2.1 _ hw) (fun _ h => h) rfl hdg kk
theorem gX0_0N {k : Nat} (C0 : Cx p s m args meth c own cc nL ret) (hK : KX D vwCl (tysE ca) s) (hP : va_P D vwCl (wX ca a σ) H) (hk : k < 9) (hw : Cond.fieldLinkNest own idx "PinnedToFit$Dress" "cells" "[I" "PinnedToFit" ∈ NST) (hdg : decode cc pc = .ok (.getfield idx, 3)) (kk : W p l e R s m args below meth c H locs cells slots Q (F0 m (pc + 3) ls (.ref (a (2 + 2 * k)) :: rest))) : W p l e R s m args below meth c H locs cells slots Q (F0 m pc ls (.ref (a (1 + 2 * k)) :: rest)) :=
  va_getN (D := D) (ci := 0) (C := RX0) (T := TX0) (N := 6) C0.1 C0.2.1 C0.2.2.2.2.1 in_X0 C0.2.2.2.1 hK.1 hP (1 + 2 * k) ((wd_at (ltD hk)).trans (by rw [sh_D hk])) rfl 0 (by decide) (va_Nw.use rfl (hK.2 _ hw)) (fun _ h => h) rfl hdg kk
theorem gX0_1 {k : Nat} (C0 : Cx p s m args meth c own cc nL ret) (hK : KX D vwCl (tysE ca) s) (hP : va_P D vwCl (wX ca a σ) H) (hk : k < 9) (hw : Cond.fieldLink own idx "PinnedToFit$Dress" "rings" "I" ∈ TBL) (hdg : decode cc pc = .ok (.getfield idx, 3)) (kk : W p l e R s m args below meth c H locs cells slots Q (F0 m (pc + 3) ls (.int (σ (1 + 2 * k) 1) :: rest))) : W p l e R s m args below meth c H locs cells slots Q (F0 m pc ls (.ref (a (1 + 2 * k)) :: rest)) :=
  va_get (D := D) (ci := 0) (C := RX0) (T := TX0) (N := 6) C0.1 C0.2.1 C0.2.2.2.2.1 in_X0 C0.2.2.2.1 hK.1 hP (1 + 2 * k) ((wd_at (ltD hk)).trans (by rw [sh_D hk])) rfl 1 (by decide) (C0.2.2.2.2.1 _ hw) (fun _ h => h) rfl hdg kk
theorem pX0_1 {k : Nat} (C0 : Cx p s m args meth c own cc nL ret) (hK : KX D vwCl (tysE ca) s) (hP : va_P D vwCl (wX ca a σ) H) (hk : k < 9) (hw : Cond.fieldLink own idx "PinnedToFit$Dress" "rings" "I" ∈ TBL) (hI : InjN 50 a) (hS : va_S (AW 50 a) H0 H locs) {v : Int32} (hdg : decode cc pc = .ok (.putfield idx, 3)) (kk : ∀ (H1 : Heap) (locs1 : List Loc), va_P D vwCl (wX ca a (uX σ (1 + 2 * k) 1 v)) H1 → va_S (AW 50 a) H0 H1 locs1 → W p l e R s m args below meth c H1 locs1 cells slots Q (F0 m (pc + 3) ls rest)) : W p l e R s m args below meth c H locs cells slots Q (F0 m pc ls (.int v :: .ref (a (1 + 2 * k)) :: rest)) :=
  va_put (D := D) (ci := 0) (ty := .int) (C := RX0) (T := TX0) (N := 6) C0.1 C0.2.1 C0.2.2.2.2.1 in_X0 tyX0 tyX0_ok nmX0 C0.2.2.2.1 hK.1 hP (wd_D hI) hS (1 + 2 * k) ((wd_at (ltD hk)).trans (by rw [sh_D hk])) rfl 1 (by decide) (C0.2.2.2.2.1 _ hw) (fun _ h => h) rfl (by decide +kernel) rfl rfl (Nat.le_of_ble_eq_true rfl) hdg (fun H1 locs1 h1 _ h3 => kk H1 locs1 (wd_put (ltD hk) (by rw [sh_D hk]; rfl) h1) h3)
theorem gX0_1N {k : Nat} (C0 : Cx p s m args meth c own cc nL ret) (hK : KX D vwCl (tysE ca) s) (hP : va_P D vwCl (wX ca a σ) H) (hk : k < 9) (hw : Cond.fieldLinkNest own idx "PinnedToFit$Dress" "rings" "I" "PinnedToFit" ∈ NST) (hdg : decode cc pc = .ok (.getfield idx, 3)) (kk : W p l e R s m args below meth c H locs cells slots Q (F0 m (pc + 3) ls (.int (σ (1 + 2 * k) 1) :: rest))) : W p l e R s m args below meth c H locs cells slots Q (F0 m pc ls (.ref (a (1 + 2 * k)) :: rest)) :=
  va_getN (D := D) (ci := 0) (C := RX0) (T := TX0) (N := 6) C0.1 C0.2.1 C0.2.2.2.2.1 in_X0 C0.2.2.2.1 hK.1 hP (1 + 2 * k) ((wd_at (ltD hk)).trans (by rw [sh_D hk])) rfl 1 (by decide) (va_Nw.use rfl (hK.2 _ hw)) (fun _ h => h) rfl hdg kk
theorem pX0_1N {k : Nat} (C0 : Cx p s m args meth c own cc nL ret) (hK : KX D vwCl (tysE ca) s) (hP : va_P D vwCl (wX ca a σ) H) (hk : k < 9) (hw : Cond.fieldLinkNest own idx "PinnedToFit$Dress" "rings" "I" "PinnedToFit" ∈ NST) (hI : InjN 50 a) (hS : va_S (AW 50 a) H0 H locs) {v : Int32} (hdg : decode cc pc = .ok (.putfield idx, 3)) (kk : ∀ (H1 : Heap) (locs1 : List Loc), va_P D vwCl (wX ca a (uX σ (1 + 2 * k) 1 v)) H1 → va_S (AW 50 a) H0 H1 locs1 → W p l e R s m args below meth c H1 locs1 cells slots Q (F0 m (pc + 3) ls rest)) : W p l e R s m args below meth c H locs cells slots Q (F0 m pc ls (.int v :: .ref (a (1 + 2 * k)) :: rest)) :=
  va_putN (D := D) (ci := 0) (ty := .int) (C := RX0) (T := TX0) (N := 6) C0.1 C0.2.1 C0.2.2.2.2.1 in_X0 tyX0 tyX0_ok nmX0 C0.2.2.2.1 hK.1 hP (wd_D hI) hS (1 + 2 * k) ((wd_at (ltD hk)).trans (by rw [sh_D hk])) rfl 1 (by decide) (va_Nw.use rfl (hK.2 _ hw)) (fun _ h => h) rfl (by decide +kernel) rfl rfl (Nat.le_of_ble_eq_true rfl) hdg (fun H1 locs1 h1 _ h3 => kk H1 locs1 (wd_put (ltD hk) (by rw [sh_D hk]; rfl) h1) h3)
theorem gX0_2 {k : Nat} (C0 : Cx p s m args meth c own cc nL ret) (hK : KX D vwCl (tysE ca) s) (hP : va_P D vwCl (wX ca a σ) H) (hk : k < 9) (hw : Cond.fieldLink own idx "PinnedToFit$Dress" "tight" "I" ∈ TBL) (hdg : decode cc pc = .ok (.getfield idx, 3)) (kk : W p l e R s m args below meth c H locs cells slots Q (F0 m (pc + 3) ls (.int (σ (1 + 2 * k) 2) :: rest))) : W p l e R s m args below meth c H locs cells slots Q (F0 m pc ls (.ref (a (1 + 2 * k)) :: rest)) :=
  va_get (D := D) (ci := 0) (C := RX0) (T := TX0) (N := 6) C0.1 C0.2.1 C0.2.2.2.2.1 in_X0 C0.2.2.2.1 hK.1 hP (1 + 2 * k) ((wd_at (ltD hk)).trans (by rw [sh_D hk])) rfl 2 (by decide) (C0.2.2.2.2.1 _ hw) (fun _ h => h) rfl hdg kk
theorem pX0_2 {k : Nat} (C0 : Cx p s m args meth c own cc nL ret) (hK : KX D vwCl (tysE ca) s) (hP : va_P D vwCl (wX ca a σ) H) (hk : k < 9) (hw : Cond.fieldLink own idx "PinnedToFit$Dress" "tight" "I" ∈ TBL) (hI : InjN 50 a) (hS : va_S (AW 50 a) H0 H locs) {v : Int32} (hdg : decode cc pc = .ok (.putfield idx, 3)) (kk : ∀ (H1 : Heap) (locs1 : List Loc), va_P D vwCl (wX ca a (uX σ (1 + 2 * k) 2 v)) H1 → va_S (AW 50 a) H0 H1 locs1 → W p l e R s m args below meth c H1 locs1 cells slots Q (F0 m (pc + 3) ls rest)) : W p l e R s m args below meth c H locs cells slots Q (F0 m pc ls (.int v :: .ref (a (1 + 2 * k)) :: rest)) :=
  va_put (D := D) (ci := 0) (ty := .int) (C := RX0) (T := TX0) (N := 6) C0.1 C0.2.1 C0.2.2.2.2.1 in_X0 tyX0 tyX0_ok nmX0 C0.2.2.2.1 hK.1 hP (wd_D hI) hS (1 + 2 * k) ((wd_at (ltD hk)).trans (by rw [sh_D hk])) rfl 2 (by decide) (C0.2.2.2.2.1 _ hw) (fun _ h => h) rfl (by decide +kernel) rfl rfl (Nat.le_of_ble_eq_true rfl) hdg (fun H1 locs1 h1 _ h3 => kk H1 locs1 (wd_put (ltD hk) (by rw [sh_D hk]; rfl) h1) h3)
theorem gX0_2N {k : Nat} (C0 : Cx p s m args meth c own cc nL ret) (hK : KX D vwCl (tysE ca) s) (hP : va_P D vwCl (wX ca a σ) H) (hk : k < 9) (hw : Cond.fieldLinkNest own idx "PinnedToFit$Dress" "tight" "I" "PinnedToFit" ∈ NST) (hdg : decode cc pc = .ok (.getfield idx, 3)) (kk : W p l e R s m args below meth c H locs cells slots Q (F0 m (pc + 3) ls (.int (σ (1 + 2 * k) 2) :: rest))) : W p l e R s m args below meth c H locs cells slots Q (F0 m pc ls (.ref (a (1 + 2 * k)) :: rest)) :=
  va_getN (D := D) (ci := 0) (C := RX0) (T := TX0) (N := 6) C0.1 C0.2.1 C0.2.2.2.2.1 in_X0 C0.2.2.2.1 hK.1 hP (1 + 2 * k) ((wd_at (ltD hk)).trans (by rw [sh_D hk])) rfl 2 (by decide) (va_Nw.use rfl (hK.2 _ hw)) (fun _ h => h) rfl hdg kk
theorem pX0_2N {k : Nat} (C0 : Cx p s m args meth c own cc nL ret) (hK : KX D vwCl (tysE ca) s) (hP : va_P D vwCl (wX ca a σ) H) (hk : k < 9) (hw : Cond.fieldLinkNest own idx "PinnedToFit$Dress" "tight" "I" "PinnedToFit" ∈ NST) (hI : InjN 50 a) (hS : va_S (AW 50 a) H0 H locs) {v : Int32} (hdg : decode cc pc = .ok (.putfield idx, 3)) (kk : ∀ (H1 : Heap) (locs1 : List Loc), va_P D vwCl (wX ca a (uX σ (1 + 2 * k) 2 v)) H1 → va_S (AW 50 a) H0 H1 locs1 → W p l e R s m args below meth c H1 locs1 cells slots Q (F0 m (pc + 3) ls rest)) : W p l e R s m args below meth c H locs cells slots Q (F0 m pc ls (.int v :: .ref (a (1 + 2 * k)) :: rest)) :=
  va_putN (D := D) (ci := 0) (ty := .int) (C := RX0) (T := TX0) (N := 6) C0.1 C0.2.1 C0.2.2.2.2.1 in_X0 tyX0 tyX0_ok nmX0 C0.2.2.2.1 hK.1 hP (wd_D hI) hS (1 + 2 * k) ((wd_at (ltD hk)).trans (by rw [sh_D hk])) rfl 2 (by decide) (va_Nw.use rfl (hK.2 _ hw)) (fun _ h => h) rfl (by decide +kernel) rfl rfl (Nat.le_of_ble_eq_true rfl) hdg (fun H1 locs1 h1 _ h3 => kk H1 locs1 (wd_put (ltD hk) (by rw [sh_D hk]; rfl) h1) h3)
theorem gX0_3 {k : Nat} (C0 : Cx p s m args meth c own cc nL ret) (hK : KX D vwCl (tysE ca) s) (hP : va_P D vwCl (wX ca a σ) H) (hk : k < 9) (hw : Cond.fieldLink own idx "PinnedToFit$Dress" "loose" "I" ∈ TBL) (hdg : decode cc pc = .ok (.getfield idx, 3)) (kk : W p l e R s m args below meth c H locs cells slots Q (F0 m (pc + 3) ls (.int (σ (1 + 2 * k) 3) :: rest))) : W p l e R s m args below meth c H locs cells slots Q (F0 m pc ls (.ref (a (1 + 2 * k)) :: rest)) :=
  va_get (D := D) (ci := 0) (C := RX0) (T := TX0) (N := 6) C0.1 C0.2.1 C0.2.2.2.2.1 in_X0 C0.2.2.2.1 hK.1 hP (1 + 2 * k) ((wd_at (ltD hk)).trans (by rw [sh_D hk])) rfl 3 (by decide) (C0.2.2.2.2.1 _ hw) (fun _ h => h) rfl hdg kk
theorem pX0_3 {k : Nat} (C0 : Cx p s m args meth c own cc nL ret) (hK : KX D vwCl (tysE ca) s) (hP : va_P D vwCl (wX ca a σ) H) (hk : k < 9) (hw : Cond.fieldLink own idx "PinnedToFit$Dress" "loose" "I" ∈ TBL) (hI : InjN 50 a) (hS : va_S (AW 50 a) H0 H locs) {v : Int32} (hdg : decode cc pc = .ok (.putfield idx, 3)) (kk : ∀ (H1 : Heap) (locs1 : List Loc), va_P D vwCl (wX ca a (uX σ (1 + 2 * k) 3 v)) H1 → va_S (AW 50 a) H0 H1 locs1 → W p l e R s m args below meth c H1 locs1 cells slots Q (F0 m (pc + 3) ls rest)) : W p l e R s m args below meth c H locs cells slots Q (F0 m pc ls (.int v :: .ref (a (1 + 2 * k)) :: rest)) :=
  va_put (D := D) (ci := 0) (ty := .int) (C := RX0) (T := TX0) (N := 6) C0.1 C0.2.1 C0.2.2.2.2.1 in_X0 tyX0 tyX0_ok nmX0 C0.2.2.2.1 hK.1 hP (wd_D hI) hS (1 + 2 * k) ((wd_at (ltD hk)).trans (by rw [sh_D hk])) rfl 3 (by decide) (C0.2.2.2.2.1 _ hw) (fun _ h => h) rfl (by decide +kernel) rfl rfl (Nat.le_of_ble_eq_true rfl) hdg (fun H1 locs1 h1 _ h3 => kk H1 locs1 (wd_put (ltD hk) (by rw [sh_D hk]; rfl) h1) h3)
theorem gX0_3N {k : Nat} (C0 : Cx p s m args meth c own cc nL ret) (hK : KX D vwCl (tysE ca) s) (hP : va_P D vwCl (wX ca a σ) H) (hk : k < 9) (hw : Cond.fieldLinkNest own idx "PinnedToFit$Dress" "loose" "I" "PinnedToFit" ∈ NST) (hdg : decode cc pc = .ok (.getfield idx, 3)) (kk : W p l e R s m args below meth c H locs cells slots Q (F0 m (pc + 3) ls (.int (σ (1 + 2 * k) 3) :: rest))) : W p l e R s m args below meth c H locs cells slots Q (F0 m pc ls (.ref (a (1 + 2 * k)) :: rest)) :=
  va_getN (D := D) (ci := 0) (C := RX0) (T := TX0) (N := 6) C0.1 C0.2.1 C0.2.2.2.2.1 in_X0 C0.2.2.2.1 hK.1 hP (1 + 2 * k) ((wd_at (ltD hk)).trans (by rw [sh_D hk])) rfl 3 (by decide) (va_Nw.use rfl (hK.2 _ hw)) (fun _ h => h) rfl hdg kk
theorem pX0_3N {k : Nat} (C0 : Cx p s m args meth c own cc nL ret) (hK : KX D vwCl (tysE ca) s) (hP : va_P D vwCl (wX ca a σ) H) (hk : k < 9) (hw : Cond.fieldLinkNest own idx "PinnedToFit$Dress" "loose" "I" "PinnedToFit" ∈ NST) (hI : InjN 50 a) (hS : va_S (AW 50 a) H0 H locs) {v : Int32} (hdg : decode cc pc = .ok (.putfield idx, 3)) (kk : ∀ (H1 : Heap) (locs1 : List Loc), va_P D vwCl (wX ca a (uX σ (1 + 2 * k) 3 v)) H1 → va_S (AW 50 a) H0 H1 locs1 → W p l e R s m args below meth c H1 locs1 cells slots Q (F0 m (pc + 3) ls rest)) : W p l e R s m args below meth c H locs cells slots Q (F0 m pc ls (.int v :: .ref (a (1 + 2 * k)) :: rest)) :=
  va_putN (D := D) (ci := 0) (ty := .int) (C := RX0) (T := TX0) (N := 6) C0.1 C0.2.1 C0.2.2.2.2.1 in_X0 tyX0 tyX0_ok nmX0 C0.2.2.2.1 hK.1 hP (wd_D hI) hS (1 + 2 * k) ((wd_at (ltD hk)).trans (by rw [sh_D hk])) rfl 3 (by decide) (va_Nw.use rfl (hK.2 _ hw)) (fun _ h => h) rfl (by decide +kernel) rfl rfl (Nat.le_of_ble_eq_true rfl) hdg (fun H1 locs1 h1 _ h3 => kk H1 locs1 (wd_put (ltD hk) (by rw [sh_D hk]; rfl) h1) h3)
theorem gX0_4 {k : Nat} (C0 : Cx p s m args meth c own cc nL ret) (hK : KX D vwCl (tysE ca) s) (hP : va_P D vwCl (wX ca a σ) H) (hk : k < 9) (hw : Cond.fieldLink own idx "PinnedToFit$Dress" "holes" "I" ∈ TBL) (hdg : decode cc pc = .ok (.getfield idx, 3)) (kk : W p l e R s m args below meth c H locs cells slots Q (F0 m (pc + 3) ls (.int (σ (1 + 2 * k) 4) :: rest))) : W p l e R s m args below meth c H locs cells slots Q (F0 m pc ls (.ref (a (1 + 2 * k)) :: rest)) :=
  va_get (D := D) (ci := 0) (C := RX0) (T := TX0) (N := 6) C0.1 C0.2.1 C0.2.2.2.2.1 in_X0 C0.2.2.2.1 hK.1 hP (1 + 2 * k) ((wd_at (ltD hk)).trans (by rw [sh_D hk])) rfl 4 (by decide) (C0.2.2.2.2.1 _ hw) (fun _ h => h) rfl hdg kk
theorem pX0_4 {k : Nat} (C0 : Cx p s m args meth c own cc nL ret) (hK : KX D vwCl (tysE ca) s) (hP : va_P D vwCl (wX ca a σ) H) (hk : k < 9) (hw : Cond.fieldLink own idx "PinnedToFit$Dress" "holes" "I" ∈ TBL) (hI : InjN 50 a) (hS : va_S (AW 50 a) H0 H locs) {v : Int32} (hdg : decode cc pc = .ok (.putfield idx, 3)) (kk : ∀ (H1 : Heap) (locs1 : List Loc), va_P D vwCl (wX ca a (uX σ (1 + 2 * k) 4 v)) H1 → va_S (AW 50 a) H0 H1 locs1 → W p l e R s m args below meth c H1 locs1 cells slots Q (F0 m (pc + 3) ls rest)) : W p l e R s m args below meth c H locs cells slots Q (F0 m pc ls (.int v :: .ref (a (1 + 2 * k)) :: rest)) :=
  va_put (D := D) (ci := 0) (ty := .int) (C := RX0) (T := TX0) (N := 6) C0.1 C0.2.1 C0.2.2.2.2.1 in_X0 tyX0 tyX0_ok nmX0 C0.2.2.2.1 hK.1 hP (wd_D hI) hS (1 + 2 * k) ((wd_at (ltD hk)).trans (by rw [sh_D hk])) rfl 4 (by decide) (C0.2.2.2.2.1 _ hw) (fun _ h => h) rfl (by decide +kernel) rfl rfl (Nat.le_of_ble_eq_true rfl) hdg (fun H1 locs1 h1 _ h3 => kk H1 locs1 (wd_put (ltD hk) (by rw [sh_D hk]; rfl) h1) h3)
theorem gX0_4N {k : Nat} (C0 : Cx p s m args meth c own cc nL ret) (hK : KX D vwCl (tysE ca) s) (hP : va_P D vwCl (wX ca a σ) H) (hk : k < 9) (hw : Cond.fieldLinkNest own idx "PinnedToFit$Dress" "holes" "I" "PinnedToFit" ∈ NST) (hdg : decode cc pc = .ok (.getfield idx, 3)) (kk : W p l e R s m args below meth c H locs cells slots Q (F0 m (pc + 3) ls (.int (σ (1 + 2 * k) 4) :: rest))) : W p l e R s m args below meth c H locs cells slots Q (F0 m pc ls (.ref (a (1 + 2 * k)) :: rest)) :=
  va_getN (D := D) (ci := 0) (C := RX0) (T := TX0) (N := 6) C0.1 C0.2.1 C0.2.2.2.2.1 in_X0 C0.2.2.2.1 hK.1 hP (1 + 2 * k) ((wd_at (ltD hk)).trans (by rw [sh_D hk])) rfl 4 (by decide) (va_Nw.use rfl (hK.2 _ hw)) (fun _ h => h) rfl hdg kk
theorem pX0_4N {k : Nat} (C0 : Cx p s m args meth c own cc nL ret) (hK : KX D vwCl (tysE ca) s) (hP : va_P D vwCl (wX ca a σ) H) (hk : k < 9) (hw : Cond.fieldLinkNest own idx "PinnedToFit$Dress" "holes" "I" "PinnedToFit" ∈ NST) (hI : InjN 50 a) (hS : va_S (AW 50 a) H0 H locs) {v : Int32} (hdg : decode cc pc = .ok (.putfield idx, 3)) (kk : ∀ (H1 : Heap) (locs1 : List Loc), va_P D vwCl (wX ca a (uX σ (1 + 2 * k) 4 v)) H1 → va_S (AW 50 a) H0 H1 locs1 → W p l e R s m args below meth c H1 locs1 cells slots Q (F0 m (pc + 3) ls rest)) : W p l e R s m args below meth c H locs cells slots Q (F0 m pc ls (.int v :: .ref (a (1 + 2 * k)) :: rest)) :=
  va_putN (D := D) (ci := 0) (ty := .int) (C := RX0) (T := TX0) (N := 6) C0.1 C0.2.1 C0.2.2.2.2.1 in_X0 tyX0 tyX0_ok nmX0 C0.2.2.2.1 hK.1 hP (wd_D hI) hS (1 + 2 * k) ((wd_at (ltD hk)).trans (by rw [sh_D hk])) rfl 4 (by decide) (va_Nw.use rfl (hK.2 _ hw)) (fun _ h => h) rfl (by decide +kernel) rfl rfl (Nat.le_of_ble_eq_true rfl) hdg (fun H1 locs1 h1 _ h3 => kk H1 locs1 (wd_put (ltD hk) (by rw [sh_D hk]; rfl) h1) h3)
theorem gX0_5 {k : Nat} (C0 : Cx p s m args meth c own cc nL ret) (hK : KX D vwCl (tysE ca) s) (hP : va_P D vwCl (wX ca a σ) H) (hk : k < 9) (hw : Cond.fieldLink own idx "PinnedToFit$Dress" "spent" "I" ∈ TBL) (hdg : decode cc pc = .ok (.getfield idx, 3)) (kk : W p l e R s m args below meth c H locs cells slots Q (F0 m (pc + 3) ls (.int (σ (1 + 2 * k) 5) :: rest))) : W p l e R s m args below meth c H locs cells slots Q (F0 m pc ls (.ref (a (1 + 2 * k)) :: rest)) :=
  va_get (D := D) (ci := 0) (C := RX0) (T := TX0) (N := 6) C0.1 C0.2.1 C0.2.2.2.2.1 in_X0 C0.2.2.2.1 hK.1 hP (1 + 2 * k) ((wd_at (ltD hk)).trans (by rw [sh_D hk])) rfl 5 (by decide) (C0.2.2.2.2.1 _ hw) (fun _ h => h) rfl hdg kk
theorem pX0_5 {k : Nat} (C0 : Cx p s m args meth c own cc nL ret) (hK : KX D vwCl (tysE ca) s) (hP : va_P D vwCl (wX ca a σ) H) (hk : k < 9) (hw : Cond.fieldLink own idx "PinnedToFit$Dress" "spent" "I" ∈ TBL) (hI : InjN 50 a) (hS : va_S (AW 50 a) H0 H locs) {v : Int32} (hdg : decode cc pc = .ok (.putfield idx, 3)) (kk : ∀ (H1 : Heap) (locs1 : List Loc), va_P D vwCl (wX ca a (uX σ (1 + 2 * k) 5 v)) H1 → va_S (AW 50 a) H0 H1 locs1 → W p l e R s m args below meth c H1 locs1 cells slots Q (F0 m (pc + 3) ls rest)) : W p l e R s m args below meth c H locs cells slots Q (F0 m pc ls (.int v :: .ref (a (1 + 2 * k)) :: rest)) :=
  va_put (D := D) (ci := 0) (ty := .int) (C := RX0) (T := TX0) (N := 6) C0.1 C0.2.1 C0.2.2.2.2.1 in_X0 tyX0 tyX0_ok nmX0 C0.2.2.2.1 hK.1 hP (wd_D hI) hS (1 + 2 * k) ((wd_at (ltD hk)).trans (by rw [sh_D hk])) rfl 5 (by decide) (C0.2.2.2.2.1 _ hw) (fun _ h => h) rfl (by decide +kernel) rfl rfl (Nat.le_of_ble_eq_true rfl) hdg (fun H1 locs1 h1 _ h3 => kk H1 locs1 (wd_put (ltD hk) (by rw [sh_D hk]; rfl) h1) h3)
theorem gX0_5N {k : Nat} (C0 : Cx p s m args meth c own cc nL ret) (hK : KX D vwCl (tysE ca) s) (hP : va_P D vwCl (wX ca a σ) H) (hk : k < 9) (hw : Cond.fieldLinkNest own idx "PinnedToFit$Dress" "spent" "I" "PinnedToFit" ∈ NST) (hdg : decode cc pc = .ok (.getfield idx, 3)) (kk : W p l e R s m args below meth c H locs cells slots Q (F0 m (pc + 3) ls (.int (σ (1 + 2 * k) 5) :: rest))) : W p l e R s m args below meth c H locs cells slots Q (F0 m pc ls (.ref (a (1 + 2 * k)) :: rest)) :=
  va_getN (D := D) (ci := 0) (C := RX0) (T := TX0) (N := 6) C0.1 C0.2.1 C0.2.2.2.2.1 in_X0 C0.2.2.2.1 hK.1 hP (1 + 2 * k) ((wd_at (ltD hk)).trans (by rw [sh_D hk])) rfl 5 (by decide) (va_Nw.use rfl (hK.2 _ hw)) (fun _ h => h) rfl hdg kk
theorem pX0_5N {k : Nat} (C0 : Cx p s m args meth c own cc nL ret) (hK : KX D vwCl (tysE ca) s) (hP : va_P D vwCl (wX ca a σ) H) (hk : k < 9) (hw : Cond.fieldLinkNest own idx "PinnedToFit$Dress" "spent" "I" "PinnedToFit" ∈ NST) (hI : InjN 50 a) (hS : va_S (AW 50 a) H0 H locs) {v : Int32} (hdg : decode cc pc = .ok (.putfield idx, 3)) (kk : ∀ (H1 : Heap) (locs1 : List Loc), va_P D vwCl (wX ca a (uX σ (1 + 2 * k) 5 v)) H1 → va_S (AW 50 a) H0 H1 locs1 → W p l e R s m args below meth c H1 locs1 cells slots Q (F0 m (pc + 3) ls rest)) : W p l e R s m args below meth c H locs cells slots Q (F0 m pc ls (.int v :: .ref (a (1 + 2 * k)) :: rest)) :=
  va_putN (D := D) (ci := 0) (ty := .int) (C := RX0) (T := TX0) (N := 6) C0.1 C0.2.1 C0.2.2.2.2.1 in_X0 tyX0 tyX0_ok nmX0 C0.2.2.2.1 hK.1 hP (wd_D hI) hS (1 + 2 * k) ((wd_at (ltD hk)).trans (by rw [sh_D hk])) rfl 5 (by decide) (va_Nw.use rfl (hK.2 _ hw)) (fun _ h => h) rfl (by decide +kernel) rfl rfl (Nat.le_of_ble_eq_true rfl) hdg (fun H1 locs1 h1 _ h3 => kk H1 locs1 (wd_put (ltD hk) (by rw [sh_D hk]; rfl) h1) h3)
theorem gX5_0 {k : Nat} (C0 : Cx p s m args meth c own cc nL ret) (hK : KX D vwCl (tysE ca) s) (hP : va_P D vwCl (wX ca a σ) H) (hk : k < 9) (hw : Cond.fieldLink own idx "PinnedToFit$Shelf" "cells" "[I" ∈ TBL) (hdg : decode cc pc = .ok (.getfield idx, 3)) (kk : W p l e R s m args below meth c H locs cells slots Q (F0 m (pc + 3) ls (.ref (a (20 + 2 * k)) :: rest))) : W p l e R s m args below meth c H locs cells slots Q (F0 m pc ls (.ref (a (19 + 2 * k)) :: rest)) :=
  va_get (D := D) (ci := 5) (C := RX5) (T := TX5) (N := 6) C0.1 C0.2.1 C0.2.2.2.2.1 in_X5 C0.2.2.2.1 hK.1 hP (19 + 2 * k) ((wd_at (ltS hk)).trans (by rw [sh_S hk])) rfl 0 (by decide) (C0.2.2.2.2.1 _ hw) (fun _ h => h) rfl hdg kk
theorem gX5_0N {k : Nat} (C0 : Cx p s m args meth c own cc nL ret) (hK : KX D vwCl (tysE ca) s) (hP : va_P D vwCl (wX ca a σ) H) (hk : k < 9) (hw : Cond.fieldLinkNest own idx "PinnedToFit$Shelf" "cells" "[I" "PinnedToFit" ∈ NST) (hdg : decode cc pc = .ok (.getfield idx, 3)) (kk : W p l e R s m args below meth c H locs cells slots Q (F0 m (pc + 3) ls (.ref (a (20 + 2 * k)) :: rest))) : W p l e R s m args below meth c H locs cells slots Q (F0 m pc ls (.ref (a (19 + 2 * k)) :: rest)) :=
  va_getN (D := D) (ci := 5) (C := RX5) (T := TX5) (N := 6) C0.1 C0.2.1 C0.2.2.2.2.1 in_X5 C0.2.2.2.1 hK.1 hP (19 + 2 * k) ((wd_at (ltS hk)).trans (by rw [sh_S hk])) rfl 0 (by decide) (va_Nw.use rfl (hK.2 _ hw)) (fun _ h => h) rfl hdg kk
theorem gX5_1 {k : Nat} (C0 : Cx p s m args meth c own cc nL ret) (hK : KX D vwCl (tysE ca) s) (hP : va_P D vwCl (wX ca a σ) H) (hk : k < 9) (hw : Cond.fieldLink own idx "PinnedToFit$Shelf" "held" "I" ∈ TBL) (hdg : decode cc pc = .ok (.getfield idx, 3)) (kk : W p l e R s m args below meth c H locs cells slots Q (F0 m (pc + 3) ls (.int (σ (19 + 2 * k) 1) :: rest))) : W p l e R s m args below meth c H locs cells slots Q (F0 m pc ls (.ref (a (19 + 2 * k)) :: rest)) :=
  va_get (D := D) (ci := 5) (C := RX5) (T := TX5) (N := 6) C0.1 C0.2.1 C0.2.2.2.2.1 in_X5 C0.2.2.2.1 hK.1 hP (19 + 2 * k) ((wd_at (ltS hk)).trans (by rw [sh_S hk])) rfl 1 (by decide) (C0.2.2.2.2.1 _ hw) (fun _ h => h) rfl hdg kk
theorem pX5_1 {k : Nat} (C0 : Cx p s m args meth c own cc nL ret) (hK : KX D vwCl (tysE ca) s) (hP : va_P D vwCl (wX ca a σ) H) (hk : k < 9) (hw : Cond.fieldLink own idx "PinnedToFit$Shelf" "held" "I" ∈ TBL) (hI : InjN 50 a) (hS : va_S (AW 50 a) H0 H locs) {v : Int32} (hdg : decode cc pc = .ok (.putfield idx, 3)) (kk : ∀ (H1 : Heap) (locs1 : List Loc), va_P D vwCl (wX ca a (uX σ (19 + 2 * k) 1 v)) H1 → va_S (AW 50 a) H0 H1 locs1 → W p l e R s m args below meth c H1 locs1 cells slots Q (F0 m (pc + 3) ls rest)) : W p l e R s m args below meth c H locs cells slots Q (F0 m pc ls (.int v :: .ref (a (19 + 2 * k)) :: rest)) :=
  va_put (D := D) (ci := 5) (ty := .int) (C := RX5) (T := TX5) (N := 6) C0.1 C0.2.1 C0.2.2.2.2.1 in_X5 tyX5 tyX5_ok nmX5 C0.2.2.2.1 hK.1 hP (wd_D hI) hS (19 + 2 * k) ((wd_at (ltS hk)).trans (by rw [sh_S hk])) rfl 1 (by decide) (C0.2.2.2.2.1 _ hw) (fun _ h => h) rfl (by decide +kernel) rfl rfl (Nat.le_of_ble_eq_true rfl) hdg (fun H1 locs1 h1 _ h3 => kk H1 locs1 (wd_put (ltS hk) (by rw [sh_S hk]; rfl) h1) h3)
theorem gX5_1N {k : Nat} (C0 : Cx p s m args meth c own cc nL ret) (hK : KX D vwCl (tysE ca) s) (hP : va_P D vwCl (wX ca a σ) H) (hk : k < 9) (hw : Cond.fieldLinkNest own idx "PinnedToFit$Shelf" "held" "I" "PinnedToFit" ∈ NST) (hdg : decode cc pc = .ok (.getfield idx, 3)) (kk : W p l e R s m args below meth c H locs cells slots Q (F0 m (pc + 3) ls (.int (σ (19 + 2 * k) 1) :: rest))) : W p l e R s m args below meth c H locs cells slots Q (F0 m pc ls (.ref (a (19 + 2 * k)) :: rest)) :=
  va_getN (D := D) (ci := 5) (C := RX5) (T := TX5) (N := 6) C0.1 C0.2.1 C0.2.2.2.2.1 in_X5 C0.2.2.2.1 hK.1 hP (19 + 2 * k) ((wd_at (ltS hk)).trans (by rw [sh_S hk])) rfl 1 (by decide) (va_Nw.use rfl (hK.2 _ hw)) (fun _ h => h) rfl hdg kk
theorem pX5_1N {k : Nat} (C0 : Cx p s m args meth c own cc nL ret) (hK : KX D vwCl (tysE ca) s) (hP : va_P D vwCl (wX ca a σ) H) (hk : k < 9) (hw : Cond.fieldLinkNest own idx "PinnedToFit$Shelf" "held" "I" "PinnedToFit" ∈ NST) (hI : InjN 50 a) (hS : va_S (AW 50 a) H0 H locs) {v : Int32} (hdg : decode cc pc = .ok (.putfield idx, 3)) (kk : ∀ (H1 : Heap) (locs1 : List Loc), va_P D vwCl (wX ca a (uX σ (19 + 2 * k) 1 v)) H1 → va_S (AW 50 a) H0 H1 locs1 → W p l e R s m args below meth c H1 locs1 cells slots Q (F0 m (pc + 3) ls rest)) : W p l e R s m args below meth c H locs cells slots Q (F0 m pc ls (.int v :: .ref (a (19 + 2 * k)) :: rest)) :=
  va_putN (D := D) (ci := 5) (ty := .int) (C := RX5) (T := TX5) (N := 6) C0.1 C0.2.1 C0.2.2.2.2.1 in_X5 tyX5 tyX5_ok nmX5 C0.2.2.2.1 hK.1 hP (wd_D hI) hS (19 + 2 * k) ((wd_at (ltS hk)).trans (by rw [sh_S hk])) rfl 1 (by decide) (va_Nw.use rfl (hK.2 _ hw)) (fun _ h => h) rfl (by decide +kernel) rfl rfl (Nat.le_of_ble_eq_true rfl) hdg (fun H1 locs1 h1 _ h3 => kk H1 locs1 (wd_put (ltS hk) (by rw [sh_S hk]; rfl) h1) h3)
theorem gX5_2 {k : Nat} (C0 : Cx p s m args meth c own cc nL ret) (hK : KX D vwCl (tysE ca) s) (hP : va_P D vwCl (wX ca a σ) H) (hk : k < 9) (hw : Cond.fieldLink own idx "PinnedToFit$Shelf" "kind" "I" ∈ TBL) (hdg : decode cc pc = .ok (.getfield idx, 3)) (kk : W p l e R s m args below meth c H locs cells slots Q (F0 m (pc + 3) ls (.int (σ (19 + 2 * k) 2) :: rest))) : W p l e R s m args below meth c H locs cells slots Q (F0 m pc ls (.ref (a (19 + 2 * k)) :: rest)) :=
  va_get (D := D) (ci := 5) (C := RX5) (T := TX5) (N := 6) C0.1 C0.2.1 C0.2.2.2.2.1 in_X5 C0.2.2.2.1 hK.1 hP (19 + 2 * k) ((wd_at (ltS hk)).trans (by rw [sh_S hk])) rfl 2 (by decide) (C0.2.2.2.2.1 _ hw) (fun _ h => h) rfl hdg kk
theorem pX5_2 {k : Nat} (C0 : Cx p s m args meth c own cc nL ret) (hK : KX D vwCl (tysE ca) s) (hP : va_P D vwCl (wX ca a σ) H) (hk : k < 9) (hw : Cond.fieldLink own idx "PinnedToFit$Shelf" "kind" "I" ∈ TBL) (hI : InjN 50 a) (hS : va_S (AW 50 a) H0 H locs) {v : Int32} (hdg : decode cc pc = .ok (.putfield idx, 3)) (kk : ∀ (H1 : Heap) (locs1 : List Loc), va_P D vwCl (wX ca a (uX σ (19 + 2 * k) 2 v)) H1 → va_S (AW 50 a) H0 H1 locs1 → W p l e R s m args below meth c H1 locs1 cells slots Q (F0 m (pc + 3) ls rest)) : W p l e R s m args below meth c H locs cells slots Q (F0 m pc ls (.int v :: .ref (a (19 + 2 * k)) :: rest)) :=
  va_put (D := D) (ci := 5) (ty := .int) (C := RX5) (T := TX5) (N := 6) C0.1 C0.2.1 C0.2.2.2.2.1 in_X5 tyX5 tyX5_ok nmX5 C0.2.2.2.1 hK.1 hP (wd_D hI) hS (19 + 2 * k) ((wd_at (ltS hk)).trans (by rw [sh_S hk])) rfl 2 (by decide) (C0.2.2.2.2.1 _ hw) (fun _ h => h) rfl (by decide +kernel) rfl rfl (Nat.le_of_ble_eq_true rfl) hdg (fun H1 locs1 h1 _ h3 => kk H1 locs1 (wd_put (ltS hk) (by rw [sh_S hk]; rfl) h1) h3)
theorem gX5_2N {k : Nat} (C0 : Cx p s m args meth c own cc nL ret) (hK : KX D vwCl (tysE ca) s) (hP : va_P D vwCl (wX ca a σ) H) (hk : k < 9) (hw : Cond.fieldLinkNest own idx "PinnedToFit$Shelf" "kind" "I" "PinnedToFit" ∈ NST) (hdg : decode cc pc = .ok (.getfield idx, 3)) (kk : W p l e R s m args below meth c H locs cells slots Q (F0 m (pc + 3) ls (.int (σ (19 + 2 * k) 2) :: rest))) : W p l e R s m args below meth c H locs cells slots Q (F0 m pc ls (.ref (a (19 + 2 * k)) :: rest)) :=
  va_getN (D := D) (ci := 5) (C := RX5) (T := TX5) (N := 6) C0.1 C0.2.1 C0.2.2.2.2.1 in_X5 C0.2.2.2.1 hK.1 hP (19 + 2 * k) ((wd_at (ltS hk)).trans (by rw [sh_S hk])) rfl 2 (by decide) (va_Nw.use rfl (hK.2 _ hw)) (fun _ h => h) rfl hdg kk
theorem pX5_2N {k : Nat} (C0 : Cx p s m args meth c own cc nL ret) (hK : KX D vwCl (tysE ca) s) (hP : va_P D vwCl (wX ca a σ) H) (hk : k < 9) (hw : Cond.fieldLinkNest own idx "PinnedToFit$Shelf" "kind" "I" "PinnedToFit" ∈ NST) (hI : InjN 50 a) (hS : va_S (AW 50 a) H0 H locs) {v : Int32} (hdg : decode cc pc = .ok (.putfield idx, 3)) (kk : ∀ (H1 : Heap) (locs1 : List Loc), va_P D vwCl (wX ca a (uX σ (19 + 2 * k) 2 v)) H1 → va_S (AW 50 a) H0 H1 locs1 → W p l e R s m args below meth c H1 locs1 cells slots Q (F0 m (pc + 3) ls rest)) : W p l e R s m args below meth c H locs cells slots Q (F0 m pc ls (.int v :: .ref (a (19 + 2 * k)) :: rest)) :=
  va_putN (D := D) (ci := 5) (ty := .int) (C := RX5) (T := TX5) (N := 6) C0.1 C0.2.1 C0.2.2.2.2.1 in_X5 tyX5 tyX5_ok nmX5 C0.2.2.2.1 hK.1 hP (wd_D hI) hS (19 + 2 * k) ((wd_at (ltS hk)).trans (by rw [sh_S hk])) rfl 2 (by decide) (va_Nw.use rfl (hK.2 _ hw)) (fun _ h => h) rfl (by decide +kernel) rfl rfl (Nat.le_of_ble_eq_true rfl) hdg (fun H1 locs1 h1 _ h3 => kk H1 locs1 (wd_put (ltS hk) (by rw [sh_S hk]; rfl) h1) h3)
theorem gX5_3 {k : Nat} (C0 : Cx p s m args meth c own cc nL ret) (hK : KX D vwCl (tysE ca) s) (hP : va_P D vwCl (wX ca a σ) H) (hk : k < 9) (hw : Cond.fieldLink own idx "PinnedToFit$Shelf" "figure" "I" ∈ TBL) (hdg : decode cc pc = .ok (.getfield idx, 3)) (kk : W p l e R s m args below meth c H locs cells slots Q (F0 m (pc + 3) ls (.int (σ (19 + 2 * k) 3) :: rest))) : W p l e R s m args below meth c H locs cells slots Q (F0 m pc ls (.ref (a (19 + 2 * k)) :: rest)) :=
  va_get (D := D) (ci := 5) (C := RX5) (T := TX5) (N := 6) C0.1 C0.2.1 C0.2.2.2.2.1 in_X5 C0.2.2.2.1 hK.1 hP (19 + 2 * k) ((wd_at (ltS hk)).trans (by rw [sh_S hk])) rfl 3 (by decide) (C0.2.2.2.2.1 _ hw) (fun _ h => h) rfl hdg kk
theorem pX5_3 {k : Nat} (C0 : Cx p s m args meth c own cc nL ret) (hK : KX D vwCl (tysE ca) s) (hP : va_P D vwCl (wX ca a σ) H) (hk : k < 9) (hw : Cond.fieldLink own idx "PinnedToFit$Shelf" "figure" "I" ∈ TBL) (hI : InjN 50 a) (hS : va_S (AW 50 a) H0 H locs) {v : Int32} (hdg : decode cc pc = .ok (.putfield idx, 3)) (kk : ∀ (H1 : Heap) (locs1 : List Loc), va_P D vwCl (wX ca a (uX σ (19 + 2 * k) 3 v)) H1 → va_S (AW 50 a) H0 H1 locs1 → W p l e R s m args below meth c H1 locs1 cells slots Q (F0 m (pc + 3) ls rest)) : W p l e R s m args below meth c H locs cells slots Q (F0 m pc ls (.int v :: .ref (a (19 + 2 * k)) :: rest)) :=
  va_put (D := D) (ci := 5) (ty := .int) (C := RX5) (T := TX5) (N := 6) C0.1 C0.2.1 C0.2.2.2.2.1 in_X5 tyX5 tyX5_ok nmX5 C0.2.2.2.1 hK.1 hP (wd_D hI) hS (19 + 2 * k) ((wd_at (ltS hk)).trans (by rw [sh_S hk])) rfl 3 (by decide) (C0.2.2.2.2.1 _ hw) (fun _ h => h) rfl (by decide +kernel) rfl rfl (Nat.le_of_ble_eq_true rfl) hdg (fun H1 locs1 h1 _ h3 => kk H1 locs1 (wd_put (ltS hk) (by rw [sh_S hk]; rfl) h1) h3)
theorem gX5_3N {k : Nat} (C0 : Cx p s m args meth c own cc nL ret) (hK : KX D vwCl (tysE ca) s) (hP : va_P D vwCl (wX ca a σ) H) (hk : k < 9) (hw : Cond.fieldLinkNest own idx "PinnedToFit$Shelf" "figure" "I" "PinnedToFit" ∈ NST) (hdg : decode cc pc = .ok (.getfield idx, 3)) (kk : W p l e R s m args below meth c H locs cells slots Q (F0 m (pc + 3) ls (.int (σ (19 + 2 * k) 3) :: rest))) : W p l e R s m args below meth c H locs cells slots Q (F0 m pc ls (.ref (a (19 + 2 * k)) :: rest)) :=
  va_getN (D := D) (ci := 5) (C := RX5) (T := TX5) (N := 6) C0.1 C0.2.1 C0.2.2.2.2.1 in_X5 C0.2.2.2.1 hK.1 hP (19 + 2 * k) ((wd_at (ltS hk)).trans (by rw [sh_S hk])) rfl 3 (by decide) (va_Nw.use rfl (hK.2 _ hw)) (fun _ h => h) rfl hdg kk
theorem pX5_3N {k : Nat} (C0 : Cx p s m args meth c own cc nL ret) (hK : KX D vwCl (tysE ca) s) (hP : va_P D vwCl (wX ca a σ) H) (hk : k < 9) (hw : Cond.fieldLinkNest own idx "PinnedToFit$Shelf" "figure" "I" "PinnedToFit" ∈ NST) (hI : InjN 50 a) (hS : va_S (AW 50 a) H0 H locs) {v : Int32} (hdg : decode cc pc = .ok (.putfield idx, 3)) (kk : ∀ (H1 : Heap) (locs1 : List Loc), va_P D vwCl (wX ca a (uX σ (19 + 2 * k) 3 v)) H1 → va_S (AW 50 a) H0 H1 locs1 → W p l e R s m args below meth c H1 locs1 cells slots Q (F0 m (pc + 3) ls rest)) : W p l e R s m args below meth c H locs cells slots Q (F0 m pc ls (.int v :: .ref (a (19 + 2 * k)) :: rest)) :=
  va_putN (D := D) (ci := 5) (ty := .int) (C := RX5) (T := TX5) (N := 6) C0.1 C0.2.1 C0.2.2.2.2.1 in_X5 tyX5 tyX5_ok nmX5 C0.2.2.2.1 hK.1 hP (wd_D hI) hS (19 + 2 * k) ((wd_at (ltS hk)).trans (by rw [sh_S hk])) rfl 3 (by decide) (va_Nw.use rfl (hK.2 _ hw)) (fun _ h => h) rfl (by decide +kernel) rfl rfl (Nat.le_of_ble_eq_true rfl) hdg (fun H1 locs1 h1 _ h3 => kk H1 locs1 (wd_put (ltS hk) (by rw [sh_S hk]; rfl) h1) h3)
theorem gX5_4 {k : Nat} (C0 : Cx p s m args meth c own cc nL ret) (hK : KX D vwCl (tysE ca) s) (hP : va_P D vwCl (wX ca a σ) H) (hk : k < 9) (hw : Cond.fieldLink own idx "PinnedToFit$Shelf" "sort" "I" ∈ TBL) (hdg : decode cc pc = .ok (.getfield idx, 3)) (kk : W p l e R s m args below meth c H locs cells slots Q (F0 m (pc + 3) ls (.int (σ (19 + 2 * k) 4) :: rest))) : W p l e R s m args below meth c H locs cells slots Q (F0 m pc ls (.ref (a (19 + 2 * k)) :: rest)) :=
  va_get (D := D) (ci := 5) (C := RX5) (T := TX5) (N := 6) C0.1 C0.2.1 C0.2.2.2.2.1 in_X5 C0.2.2.2.1 hK.1 hP (19 + 2 * k) ((wd_at (ltS hk)).trans (by rw [sh_S hk])) rfl 4 (by decide) (C0.2.2.2.2.1 _ hw) (fun _ h => h) rfl hdg kk
theorem pX5_4 {k : Nat} (C0 : Cx p s m args meth c own cc nL ret) (hK : KX D vwCl (tysE ca) s) (hP : va_P D vwCl (wX ca a σ) H) (hk : k < 9) (hw : Cond.fieldLink own idx "PinnedToFit$Shelf" "sort" "I" ∈ TBL) (hI : InjN 50 a) (hS : va_S (AW 50 a) H0 H locs) {v : Int32} (hdg : decode cc pc = .ok (.putfield idx, 3)) (kk : ∀ (H1 : Heap) (locs1 : List Loc), va_P D vwCl (wX ca a (uX σ (19 + 2 * k) 4 v)) H1 → va_S (AW 50 a) H0 H1 locs1 → W p l e R s m args below meth c H1 locs1 cells slots Q (F0 m (pc + 3) ls rest)) : W p l e R s m args below meth c H locs cells slots Q (F0 m pc ls (.int v :: .ref (a (19 + 2 * k)) :: rest)) :=
  va_put (D := D) (ci := 5) (ty := .int) (C := RX5) (T := TX5) (N := 6) C0.1 C0.2.1 C0.2.2.2.2.1 in_X5 tyX5 tyX5_ok nmX5 C0.2.2.2.1 hK.1 hP (wd_D hI) hS (19 + 2 * k) ((wd_at (ltS hk)).trans (by rw [sh_S hk])) rfl 4 (by decide) (C0.2.2.2.2.1 _ hw) (fun _ h => h) rfl (by decide +kernel) rfl rfl (Nat.le_of_ble_eq_true rfl) hdg (fun H1 locs1 h1 _ h3 => kk H1 locs1 (wd_put (ltS hk) (by rw [sh_S hk]; rfl) h1) h3)
theorem gX5_4N {k : Nat} (C0 : Cx p s m args meth c own cc nL ret) (hK : KX D vwCl (tysE ca) s) (hP : va_P D vwCl (wX ca a σ) H) (hk : k < 9) (hw : Cond.fieldLinkNest own idx "PinnedToFit$Shelf" "sort" "I" "PinnedToFit" ∈ NST) (hdg : decode cc pc = .ok (.getfield idx, 3)) (kk : W p l e R s m args below meth c H locs cells slots Q (F0 m (pc + 3) ls (.int (σ (19 + 2 * k) 4) :: rest))) : W p l e R s m args below meth c H locs cells slots Q (F0 m pc ls (.ref (a (19 + 2 * k)) :: rest)) :=
  va_getN (D := D) (ci := 5) (C := RX5) (T := TX5) (N := 6) C0.1 C0.2.1 C0.2.2.2.2.1 in_X5 C0.2.2.2.1 hK.1 hP (19 + 2 * k) ((wd_at (ltS hk)).trans (by rw [sh_S hk])) rfl 4 (by decide) (va_Nw.use rfl (hK.2 _ hw)) (fun _ h => h) rfl hdg kk
theorem pX5_4N {k : Nat} (C0 : Cx p s m args meth c own cc nL ret) (hK : KX D vwCl (tysE ca) s) (hP : va_P D vwCl (wX ca a σ) H) (hk : k < 9) (hw : Cond.fieldLinkNest own idx "PinnedToFit$Shelf" "sort" "I" "PinnedToFit" ∈ NST) (hI : InjN 50 a) (hS : va_S (AW 50 a) H0 H locs) {v : Int32} (hdg : decode cc pc = .ok (.putfield idx, 3)) (kk : ∀ (H1 : Heap) (locs1 : List Loc), va_P D vwCl (wX ca a (uX σ (19 + 2 * k) 4 v)) H1 → va_S (AW 50 a) H0 H1 locs1 → W p l e R s m args below meth c H1 locs1 cells slots Q (F0 m (pc + 3) ls rest)) : W p l e R s m args below meth c H locs cells slots Q (F0 m pc ls (.int v :: .ref (a (19 + 2 * k)) :: rest)) :=
  va_putN (D := D) (ci := 5) (ty := .int) (C := RX5) (T := TX5) (N := 6) C0.1 C0.2.1 C0.2.2.2.2.1 in_X5 tyX5 tyX5_ok nmX5 C0.2.2.2.1 hK.1 hP (wd_D hI) hS (19 + 2 * k) ((wd_at (ltS hk)).trans (by rw [sh_S hk])) rfl 4 (by decide) (va_Nw.use rfl (hK.2 _ hw)) (fun _ h => h) rfl (by decide +kernel) rfl rfl (Nat.le_of_ble_eq_true rfl) hdg (fun H1 locs1 h1 _ h3 => kk H1 locs1 (wd_put (ltS hk) (by rw [sh_S hk]; rfl) h1) h3)
theorem gX5_5 {k : Nat} (C0 : Cx p s m args meth c own cc nL ret) (hK : KX D vwCl (tysE ca) s) (hP : va_P D vwCl (wX ca a σ) H) (hk : k < 9) (hw : Cond.fieldLink own idx "PinnedToFit$Shelf" "size" "I" ∈ TBL) (hdg : decode cc pc = .ok (.getfield idx, 3)) (kk : W p l e R s m args below meth c H locs cells slots Q (F0 m (pc + 3) ls (.int (σ (19 + 2 * k) 5) :: rest))) : W p l e R s m args below meth c H locs cells slots Q (F0 m pc ls (.ref (a (19 + 2 * k)) :: rest)) :=
  va_get (D := D) (ci := 5) (C := RX5) (T := TX5) (N := 6) C0.1 C0.2.1 C0.2.2.2.2.1 in_X5 C0.2.2.2.1 hK.1 hP (19 + 2 * k) ((wd_at (ltS hk)).trans (by rw [sh_S hk])) rfl 5 (by decide) (C0.2.2.2.2.1 _ hw) (fun _ h => h) rfl hdg kk
theorem pX5_5 {k : Nat} (C0 : Cx p s m args meth c own cc nL ret) (hK : KX D vwCl (tysE ca) s) (hP : va_P D vwCl (wX ca a σ) H) (hk : k < 9) (hw : Cond.fieldLink own idx "PinnedToFit$Shelf" "size" "I" ∈ TBL) (hI : InjN 50 a) (hS : va_S (AW 50 a) H0 H locs) {v : Int32} (hdg : decode cc pc = .ok (.putfield idx, 3)) (kk : ∀ (H1 : Heap) (locs1 : List Loc), va_P D vwCl (wX ca a (uX σ (19 + 2 * k) 5 v)) H1 → va_S (AW 50 a) H0 H1 locs1 → W p l e R s m args below meth c H1 locs1 cells slots Q (F0 m (pc + 3) ls rest)) : W p l e R s m args below meth c H locs cells slots Q (F0 m pc ls (.int v :: .ref (a (19 + 2 * k)) :: rest)) :=
  va_put (D := D) (ci := 5) (ty := .int) (C := RX5) (T := TX5) (N := 6) C0.1 C0.2.1 C0.2.2.2.2.1 in_X5 tyX5 tyX5_ok nmX5 C0.2.2.2.1 hK.1 hP (wd_D hI) hS (19 + 2 * k) ((wd_at (ltS hk)).trans (by rw [sh_S hk])) rfl 5 (by decide) (C0.2.2.2.2.1 _ hw) (fun _ h => h) rfl (by decide +kernel) rfl rfl (Nat.le_of_ble_eq_true rfl) hdg (fun H1 locs1 h1 _ h3 => kk H1 locs1 (wd_put (ltS hk) (by rw [sh_S hk]; rfl) h1) h3)
theorem gX5_5N {k : Nat} (C0 : Cx p s m args meth c own cc nL ret) (hK : KX D vwCl (tysE ca) s) (hP : va_P D vwCl (wX ca a σ) H) (hk : k < 9) (hw : Cond.fieldLinkNest own idx "PinnedToFit$Shelf" "size" "I" "PinnedToFit" ∈ NST) (hdg : decode cc pc = .ok (.getfield idx, 3)) (kk : W p l e R s m args below meth c H locs cells slots Q (F0 m (pc + 3) ls (.int (σ (19 + 2 * k) 5) :: rest))) : W p l e R s m args below meth c H locs cells slots Q (F0 m pc ls (.ref (a (19 + 2 * k)) :: rest)) :=
  va_getN (D := D) (ci := 5) (C := RX5) (T := TX5) (N := 6) C0.1 C0.2.1 C0.2.2.2.2.1 in_X5 C0.2.2.2.1 hK.1 hP (19 + 2 * k) ((wd_at (ltS hk)).trans (by rw [sh_S hk])) rfl 5 (by decide) (va_Nw.use rfl (hK.2 _ hw)) (fun _ h => h) rfl hdg kk
theorem pX5_5N {k : Nat} (C0 : Cx p s m args meth c own cc nL ret) (hK : KX D vwCl (tysE ca) s) (hP : va_P D vwCl (wX ca a σ) H) (hk : k < 9) (hw : Cond.fieldLinkNest own idx "PinnedToFit$Shelf" "size" "I" "PinnedToFit" ∈ NST) (hI : InjN 50 a) (hS : va_S (AW 50 a) H0 H locs) {v : Int32} (hdg : decode cc pc = .ok (.putfield idx, 3)) (kk : ∀ (H1 : Heap) (locs1 : List Loc), va_P D vwCl (wX ca a (uX σ (19 + 2 * k) 5 v)) H1 → va_S (AW 50 a) H0 H1 locs1 → W p l e R s m args below meth c H1 locs1 cells slots Q (F0 m (pc + 3) ls rest)) : W p l e R s m args below meth c H locs cells slots Q (F0 m pc ls (.int v :: .ref (a (19 + 2 * k)) :: rest)) :=
  va_putN (D := D) (ci := 5) (ty := .int) (C := RX5) (T := TX5) (N := 6) C0.1 C0.2.1 C0.2.2.2.2.1 in_X5 tyX5 tyX5_ok nmX5 C0.2.2.2.1 hK.1 hP (wd_D hI) hS (19 + 2 * k) ((wd_at (ltS hk)).trans (by rw [sh_S hk])) rfl 5 (by decide) (va_Nw.use rfl (hK.2 _ hw)) (fun _ h => h) rfl (by decide +kernel) rfl rfl (Nat.le_of_ble_eq_true rfl) hdg (fun H1 locs1 h1 _ h3 => kk H1 locs1 (wd_put (ltS hk) (by rw [sh_S hk]; rfl) h1) h3)
theorem gX8_0  (C0 : Cx p s m args meth c own cc nL ret) (hK : KX D vwCl (tysE ca) s) (hP : va_P D vwCl (wX ca a σ) H)  (hw : Cond.fieldLink own idx "PinnedToFit$Text" "numbers" "[I" ∈ TBL) (hdg : decode cc pc = .ok (.getfield idx, 3)) (kk : W p l e R s m args below meth c H locs cells slots Q (F0 m (pc + 3) ls (.ref (a 49) :: rest))) : W p l e R s m args below meth c H locs cells slots Q (F0 m pc ls (.ref (a (48)) :: rest)) :=
  va_get (D := D) (ci := 8) (C := RX8) (T := TX8) (N := 4) C0.1 C0.2.1 C0.2.2.2.2.1 in_X8 C0.2.2.2.1 hK.1 hP (48) ((wd_at (by decide)).trans (by rw [sh_T])) rfl 0 (by decide) (C0.2.2.2.2.1 _ hw) (fun _ h => h) rfl hdg kk
theorem gX8_0N  (C0 : Cx p s m args meth c own cc nL ret) (hK : KX D vwCl (tysE ca) s) (hP : va_P D vwCl (wX ca a σ) H)  (hw : Cond.fieldLinkNest own idx "PinnedToFit$Text" "numbers" "[I" "PinnedToFit" ∈ NST) (hdg : decode cc pc = .ok (.getfield idx, 3)) (kk : W p l e R s m args below meth c H locs cells slots Q (F0 m (pc + 3) ls (.ref (a 49) :: rest))) : W p l e R s m args below meth c H locs cells slots Q (F0 m pc ls (.ref (a (48)) :: rest)) :=
  va_getN (D := D) (ci := 8) (C := RX8) (T := TX8) (N := 4) C0.1 C0.2.1 C0.2.2.2.2.1 in_X8 C0.2.2.2.1 hK.1 hP (48) ((wd_at (by decide)).trans (by rw [sh_T])) rfl 0 (by decide) (va_Nw.use rfl (hK.2 _ hw)) (fun _ h => h) rfl hdg kk
theorem gX8_1  (C0 : Cx p s m args meth c own cc nL ret) (hK : KX D vwCl (tysE ca) s) (hP : va_P D vwCl (wX ca a σ) H)  (hw : Cond.fieldLink own idx "PinnedToFit$Text" "found" "I" ∈ TBL) (hdg : decode cc pc = .ok (.getfield idx, 3)) (kk : W p l e R s m args below meth c H locs cells slots Q (F0 m (pc + 3) ls (.int (σ (48) 1) :: rest))) : W p l e R s m args below meth c H locs cells slots Q (F0 m pc ls (.ref (a (48)) :: rest)) :=
  va_get (D := D) (ci := 8) (C := RX8) (T := TX8) (N := 4) C0.1 C0.2.1 C0.2.2.2.2.1 in_X8 C0.2.2.2.1 hK.1 hP (48) ((wd_at (by decide)).trans (by rw [sh_T])) rfl 1 (by decide) (C0.2.2.2.2.1 _ hw) (fun _ h => h) rfl hdg kk
theorem pX8_1  (C0 : Cx p s m args meth c own cc nL ret) (hK : KX D vwCl (tysE ca) s) (hP : va_P D vwCl (wX ca a σ) H)  (hw : Cond.fieldLink own idx "PinnedToFit$Text" "found" "I" ∈ TBL) (hI : InjN 50 a) (hS : va_S (AW 50 a) H0 H locs) {v : Int32} (hdg : decode cc pc = .ok (.putfield idx, 3)) (kk : ∀ (H1 : Heap) (locs1 : List Loc), va_P D vwCl (wX ca a (uX σ (48) 1 v)) H1 → va_S (AW 50 a) H0 H1 locs1 → W p l e R s m args below meth c H1 locs1 cells slots Q (F0 m (pc + 3) ls rest)) : W p l e R s m args below meth c H locs cells slots Q (F0 m pc ls (.int v :: .ref (a (48)) :: rest)) :=
  va_put (D := D) (ci := 8) (ty := .int) (C := RX8) (T := TX8) (N := 4) C0.1 C0.2.1 C0.2.2.2.2.1 in_X8 tyX8 tyX8_ok nmX8 C0.2.2.2.1 hK.1 hP (wd_D hI) hS (48) ((wd_at (by decide)).trans (by rw [sh_T])) rfl 1 (by decide) (C0.2.2.2.2.1 _ hw) (fun _ h => h) rfl (by decide +kernel) rfl rfl (Nat.le_of_ble_eq_true rfl) hdg (fun H1 locs1 h1 _ h3 => kk H1 locs1 (wd_put (by decide) (by rw [sh_T]; rfl) h1) h3)
theorem gX8_1N  (C0 : Cx p s m args meth c own cc nL ret) (hK : KX D vwCl (tysE ca) s) (hP : va_P D vwCl (wX ca a σ) H)  (hw : Cond.fieldLinkNest own idx "PinnedToFit$Text" "found" "I" "PinnedToFit" ∈ NST) (hdg : decode cc pc = .ok (.getfield idx, 3)) (kk : W p l e R s m args below meth c H locs cells slots Q (F0 m (pc + 3) ls (.int (σ (48) 1) :: rest))) : W p l e R s m args below meth c H locs cells slots Q (F0 m pc ls (.ref (a (48)) :: rest)) :=
  va_getN (D := D) (ci := 8) (C := RX8) (T := TX8) (N := 4) C0.1 C0.2.1 C0.2.2.2.2.1 in_X8 C0.2.2.2.1 hK.1 hP (48) ((wd_at (by decide)).trans (by rw [sh_T])) rfl 1 (by decide) (va_Nw.use rfl (hK.2 _ hw)) (fun _ h => h) rfl hdg kk
theorem pX8_1N  (C0 : Cx p s m args meth c own cc nL ret) (hK : KX D vwCl (tysE ca) s) (hP : va_P D vwCl (wX ca a σ) H)  (hw : Cond.fieldLinkNest own idx "PinnedToFit$Text" "found" "I" "PinnedToFit" ∈ NST) (hI : InjN 50 a) (hS : va_S (AW 50 a) H0 H locs) {v : Int32} (hdg : decode cc pc = .ok (.putfield idx, 3)) (kk : ∀ (H1 : Heap) (locs1 : List Loc), va_P D vwCl (wX ca a (uX σ (48) 1 v)) H1 → va_S (AW 50 a) H0 H1 locs1 → W p l e R s m args below meth c H1 locs1 cells slots Q (F0 m (pc + 3) ls rest)) : W p l e R s m args below meth c H locs cells slots Q (F0 m pc ls (.int v :: .ref (a (48)) :: rest)) :=
  va_putN (D := D) (ci := 8) (ty := .int) (C := RX8) (T := TX8) (N := 4) C0.1 C0.2.1 C0.2.2.2.2.1 in_X8 tyX8 tyX8_ok nmX8 C0.2.2.2.1 hK.1 hP (wd_D hI) hS (48) ((wd_at (by decide)).trans (by rw [sh_T])) rfl 1 (by decide) (va_Nw.use rfl (hK.2 _ hw)) (fun _ h => h) rfl (by decide +kernel) rfl rfl (Nat.le_of_ble_eq_true rfl) hdg (fun H1 locs1 h1 _ h3 => kk H1 locs1 (wd_put (by decide) (by rw [sh_T]; rfl) h1) h3)
theorem gX8_2  (C0 : Cx p s m args meth c own cc nL ret) (hK : KX D vwCl (tysE ca) s) (hP : va_P D vwCl (wX ca a σ) H)  (hw : Cond.fieldLink own idx "PinnedToFit$Text" "place" "I" ∈ TBL) (hdg : decode cc pc = .ok (.getfield idx, 3)) (kk : W p l e R s m args below meth c H locs cells slots Q (F0 m (pc + 3) ls (.int (σ (48) 2) :: rest))) : W p l e R s m args below meth c H locs cells slots Q (F0 m pc ls (.ref (a (48)) :: rest)) :=
  va_get (D := D) (ci := 8) (C := RX8) (T := TX8) (N := 4) C0.1 C0.2.1 C0.2.2.2.2.1 in_X8 C0.2.2.2.1 hK.1 hP (48) ((wd_at (by decide)).trans (by rw [sh_T])) rfl 2 (by decide) (C0.2.2.2.2.1 _ hw) (fun _ h => h) rfl hdg kk
theorem pX8_2  (C0 : Cx p s m args meth c own cc nL ret) (hK : KX D vwCl (tysE ca) s) (hP : va_P D vwCl (wX ca a σ) H)  (hw : Cond.fieldLink own idx "PinnedToFit$Text" "place" "I" ∈ TBL) (hI : InjN 50 a) (hS : va_S (AW 50 a) H0 H locs) {v : Int32} (hdg : decode cc pc = .ok (.putfield idx, 3)) (kk : ∀ (H1 : Heap) (locs1 : List Loc), va_P D vwCl (wX ca a (uX σ (48) 2 v)) H1 → va_S (AW 50 a) H0 H1 locs1 → W p l e R s m args below meth c H1 locs1 cells slots Q (F0 m (pc + 3) ls rest)) : W p l e R s m args below meth c H locs cells slots Q (F0 m pc ls (.int v :: .ref (a (48)) :: rest)) :=
  va_put (D := D) (ci := 8) (ty := .int) (C := RX8) (T := TX8) (N := 4) C0.1 C0.2.1 C0.2.2.2.2.1 in_X8 tyX8 tyX8_ok nmX8 C0.2.2.2.1 hK.1 hP (wd_D hI) hS (48) ((wd_at (by decide)).trans (by rw [sh_T])) rfl 2 (by decide) (C0.2.2.2.2.1 _ hw) (fun _ h => h) rfl (by decide +kernel) rfl rfl (Nat.le_of_ble_eq_true rfl) hdg (fun H1 locs1 h1 _ h3 => kk H1 locs1 (wd_put (by decide) (by rw [sh_T]; rfl) h1) h3)
theorem gX8_2N  (C0 : Cx p s m args meth c own cc nL ret) (hK : KX D vwCl (tysE ca) s) (hP : va_P D vwCl (wX ca a σ) H)  (hw : Cond.fieldLinkNest own idx "PinnedToFit$Text" "place" "I" "PinnedToFit" ∈ NST) (hdg : decode cc pc = .ok (.getfield idx, 3)) (kk : W p l e R s m args below meth c H locs cells slots Q (F0 m (pc + 3) ls (.int (σ (48) 2) :: rest))) : W p l e R s m args below meth c H locs cells slots Q (F0 m pc ls (.ref (a (48)) :: rest)) :=
  va_getN (D := D) (ci := 8) (C := RX8) (T := TX8) (N := 4) C0.1 C0.2.1 C0.2.2.2.2.1 in_X8 C0.2.2.2.1 hK.1 hP (48) ((wd_at (by decide)).trans (by rw [sh_T])) rfl 2 (by decide) (va_Nw.use rfl (hK.2 _ hw)) (fun _ h => h) rfl hdg kk
theorem pX8_2N  (C0 : Cx p s m args meth c own cc nL ret) (hK : KX D vwCl (tysE ca) s) (hP : va_P D vwCl (wX ca a σ) H)  (hw : Cond.fieldLinkNest own idx "PinnedToFit$Text" "place" "I" "PinnedToFit" ∈ NST) (hI : InjN 50 a) (hS : va_S (AW 50 a) H0 H locs) {v : Int32} (hdg : decode cc pc = .ok (.putfield idx, 3)) (kk : ∀ (H1 : Heap) (locs1 : List Loc), va_P D vwCl (wX ca a (uX σ (48) 2 v)) H1 → va_S (AW 50 a) H0 H1 locs1 → W p l e R s m args below meth c H1 locs1 cells slots Q (F0 m (pc + 3) ls rest)) : W p l e R s m args below meth c H locs cells slots Q (F0 m pc ls (.int v :: .ref (a (48)) :: rest)) :=
  va_putN (D := D) (ci := 8) (ty := .int) (C := RX8) (T := TX8) (N := 4) C0.1 C0.2.1 C0.2.2.2.2.1 in_X8 tyX8 tyX8_ok nmX8 C0.2.2.2.1 hK.1 hP (wd_D hI) hS (48) ((wd_at (by decide)).trans (by rw [sh_T])) rfl 2 (by decide) (va_Nw.use rfl (hK.2 _ hw)) (fun _ h => h) rfl (by decide +kernel) rfl rfl (Nat.le_of_ble_eq_true rfl) hdg (fun H1 locs1 h1 _ h3 => kk H1 locs1 (wd_put (by decide) (by rw [sh_T]; rfl) h1) h3)
theorem gX8_3  (C0 : Cx p s m args meth c own cc nL ret) (hK : KX D vwCl (tysE ca) s) (hP : va_P D vwCl (wX ca a σ) H)  (hw : Cond.fieldLink own idx "PinnedToFit$Text" "letter" "I" ∈ TBL) (hdg : decode cc pc = .ok (.getfield idx, 3)) (kk : W p l e R s m args below meth c H locs cells slots Q (F0 m (pc + 3) ls (.int (σ (48) 3) :: rest))) : W p l e R s m args below meth c H locs cells slots Q (F0 m pc ls (.ref (a (48)) :: rest)) :=
  va_get (D := D) (ci := 8) (C := RX8) (T := TX8) (N := 4) C0.1 C0.2.1 C0.2.2.2.2.1 in_X8 C0.2.2.2.1 hK.1 hP (48) ((wd_at (by decide)).trans (by rw [sh_T])) rfl 3 (by decide) (C0.2.2.2.2.1 _ hw) (fun _ h => h) rfl hdg kk
theorem pX8_3  (C0 : Cx p s m args meth c own cc nL ret) (hK : KX D vwCl (tysE ca) s) (hP : va_P D vwCl (wX ca a σ) H)  (hw : Cond.fieldLink own idx "PinnedToFit$Text" "letter" "I" ∈ TBL) (hI : InjN 50 a) (hS : va_S (AW 50 a) H0 H locs) {v : Int32} (hdg : decode cc pc = .ok (.putfield idx, 3)) (kk : ∀ (H1 : Heap) (locs1 : List Loc), va_P D vwCl (wX ca a (uX σ (48) 3 v)) H1 → va_S (AW 50 a) H0 H1 locs1 → W p l e R s m args below meth c H1 locs1 cells slots Q (F0 m (pc + 3) ls rest)) : W p l e R s m args below meth c H locs cells slots Q (F0 m pc ls (.int v :: .ref (a (48)) :: rest)) :=
  va_put (D := D) (ci := 8) (ty := .int) (C := RX8) (T := TX8) (N := 4) C0.1 C0.2.1 C0.2.2.2.2.1 in_X8 tyX8 tyX8_ok nmX8 C0.2.2.2.1 hK.1 hP (wd_D hI) hS (48) ((wd_at (by decide)).trans (by rw [sh_T])) rfl 3 (by decide) (C0.2.2.2.2.1 _ hw) (fun _ h => h) rfl (by decide +kernel) rfl rfl (Nat.le_of_ble_eq_true rfl) hdg (fun H1 locs1 h1 _ h3 => kk H1 locs1 (wd_put (by decide) (by rw [sh_T]; rfl) h1) h3)
theorem gX8_3N  (C0 : Cx p s m args meth c own cc nL ret) (hK : KX D vwCl (tysE ca) s) (hP : va_P D vwCl (wX ca a σ) H)  (hw : Cond.fieldLinkNest own idx "PinnedToFit$Text" "letter" "I" "PinnedToFit" ∈ NST) (hdg : decode cc pc = .ok (.getfield idx, 3)) (kk : W p l e R s m args below meth c H locs cells slots Q (F0 m (pc + 3) ls (.int (σ (48) 3) :: rest))) : W p l e R s m args below meth c H locs cells slots Q (F0 m pc ls (.ref (a (48)) :: rest)) :=
  va_getN (D := D) (ci := 8) (C := RX8) (T := TX8) (N := 4) C0.1 C0.2.1 C0.2.2.2.2.1 in_X8 C0.2.2.2.1 hK.1 hP (48) ((wd_at (by decide)).trans (by rw [sh_T])) rfl 3 (by decide) (va_Nw.use rfl (hK.2 _ hw)) (fun _ h => h) rfl hdg kk
theorem pX8_3N  (C0 : Cx p s m args meth c own cc nL ret) (hK : KX D vwCl (tysE ca) s) (hP : va_P D vwCl (wX ca a σ) H)  (hw : Cond.fieldLinkNest own idx "PinnedToFit$Text" "letter" "I" "PinnedToFit" ∈ NST) (hI : InjN 50 a) (hS : va_S (AW 50 a) H0 H locs) {v : Int32} (hdg : decode cc pc = .ok (.putfield idx, 3)) (kk : ∀ (H1 : Heap) (locs1 : List Loc), va_P D vwCl (wX ca a (uX σ (48) 3 v)) H1 → va_S (AW 50 a) H0 H1 locs1 → W p l e R s m args below meth c H1 locs1 cells slots Q (F0 m (pc + 3) ls rest)) : W p l e R s m args below meth c H locs cells slots Q (F0 m pc ls (.int v :: .ref (a (48)) :: rest)) :=
  va_putN (D := D) (ci := 8) (ty := .int) (C := RX8) (T := TX8) (N := 4) C0.1 C0.2.1 C0.2.2.2.2.1 in_X8 tyX8 tyX8_ok nmX8 C0.2.2.2.1 hK.1 hP (wd_D hI) hS (48) ((wd_at (by decide)).trans (by rw [sh_T])) rfl 3 (by decide) (va_Nw.use rfl (hK.2 _ hw)) (fun _ h => h) rfl (by decide +kernel) rfl rfl (Nat.le_of_ble_eq_true rfl) hdg (fun H1 locs1 h1 _ h3 => kk H1 locs1 (wd_put (by decide) (by rw [sh_T]; rfl) h1) h3)
theorem gX11_0  (C0 : Cx p s m args meth c own cc nL ret) (hK : KX D vwCl (tysE ca) s) (hP : va_P D vwCl (wX ca a σ) H)  (hw : Cond.fieldLink own idx "PinnedToFit" "now" "LPinnedToFit$Dress;" ∈ TBL) (hdg : decode cc pc = .ok (.getfield idx, 3)) (kk : W p l e R s m args below meth c H locs cells slots Q (F0 m (pc + 3) ls (.ref (a (1 + 2 * 0)) :: rest))) : W p l e R s m args below meth c H locs cells slots Q (F0 m pc ls (.ref (a (0)) :: rest)) :=
  va_get (D := D) (ci := 11) (C := RX11) (T := TX11) (N := 12) C0.1 C0.2.1 C0.2.2.2.2.1 in_X11 C0.2.2.2.1 hK.1 hP (0) ((wd_at (by decide)).trans (by rw [sh_X])) rfl 0 (by decide) (C0.2.2.2.2.1 _ hw) (fun _ h => h) rfl hdg kk
theorem gX11_1  (C0 : Cx p s m args meth c own cc nL ret) (hK : KX D vwCl (tysE ca) s) (hP : va_P D vwCl (wX ca a σ) H)  (hw : Cond.fieldLink own idx "PinnedToFit" "pictured" "LPinnedToFit$Dress;" ∈ TBL) (hdg : decode cc pc = .ok (.getfield idx, 3)) (kk : W p l e R s m args below meth c H locs cells slots Q (F0 m (pc + 3) ls (.ref (a (1 + 2 * 1)) :: rest))) : W p l e R s m args below meth c H locs cells slots Q (F0 m pc ls (.ref (a (0)) :: rest)) :=
  va_get (D := D) (ci := 11) (C := RX11) (T := TX11) (N := 12) C0.1 C0.2.1 C0.2.2.2.2.1 in_X11 C0.2.2.2.1 hK.1 hP (0) ((wd_at (by decide)).trans (by rw [sh_X])) rfl 1 (by decide) (C0.2.2.2.2.1 _ hw) (fun _ h => h) rfl hdg kk
theorem gX11_2  (C0 : Cx p s m args meth c own cc nL ret) (hK : KX D vwCl (tysE ca) s) (hP : va_P D vwCl (wX ca a σ) H)  (hw : Cond.fieldLink own idx "PinnedToFit" "mind" "LPinnedToFit$Dress;" ∈ TBL) (hdg : decode cc pc = .ok (.getfield idx, 3)) (kk : W p l e R s m args below meth c H locs cells slots Q (F0 m (pc + 3) ls (.ref (a (1 + 2 * 2)) :: rest))) : W p l e R s m args below meth c H locs cells slots Q (F0 m pc ls (.ref (a (0)) :: rest)) :=
  va_get (D := D) (ci := 11) (C := RX11) (T := TX11) (N := 12) C0.1 C0.2.1 C0.2.2.2.2.1 in_X11 C0.2.2.2.1 hK.1 hP (0) ((wd_at (by decide)).trans (by rw [sh_X])) rfl 2 (by decide) (C0.2.2.2.2.1 _ hw) (fun _ h => h) rfl hdg kk
theorem gX11_3  (C0 : Cx p s m args meth c own cc nL ret) (hK : KX D vwCl (tysE ca) s) (hP : va_P D vwCl (wX ca a σ) H)  (hw : Cond.fieldLink own idx "PinnedToFit" "steps" "[LPinnedToFit$Dress;" ∈ TBL) (hdg : decode cc pc = .ok (.getfield idx, 3)) (kk : W p l e R s m args below meth c H locs cells slots Q (F0 m (pc + 3) ls (.ref (a 37) :: rest))) : W p l e R s m args below meth c H locs cells slots Q (F0 m pc ls (.ref (a (0)) :: rest)) :=
  va_get (D := D) (ci := 11) (C := RX11) (T := TX11) (N := 12) C0.1 C0.2.1 C0.2.2.2.2.1 in_X11 C0.2.2.2.1 hK.1 hP (0) ((wd_at (by decide)).trans (by rw [sh_X])) rfl 3 (by decide) (C0.2.2.2.2.1 _ hw) (fun _ h => h) rfl hdg kk
theorem gX11_4  (C0 : Cx p s m args meth c own cc nL ret) (hK : KX D vwCl (tysE ca) s) (hP : va_P D vwCl (wX ca a σ) H)  (hw : Cond.fieldLink own idx "PinnedToFit" "shelves" "[LPinnedToFit$Shelf;" ∈ TBL) (hdg : decode cc pc = .ok (.getfield idx, 3)) (kk : W p l e R s m args below meth c H locs cells slots Q (F0 m (pc + 3) ls (.ref (a 38) :: rest))) : W p l e R s m args below meth c H locs cells slots Q (F0 m pc ls (.ref (a (0)) :: rest)) :=
  va_get (D := D) (ci := 11) (C := RX11) (T := TX11) (N := 12) C0.1 C0.2.1 C0.2.2.2.2.1 in_X11 C0.2.2.2.1 hK.1 hP (0) ((wd_at (by decide)).trans (by rw [sh_X])) rfl 4 (by decide) (C0.2.2.2.2.1 _ hw) (fun _ h => h) rfl hdg kk
theorem gX11_5  (C0 : Cx p s m args meth c own cc nL ret) (hK : KX D vwCl (tysE ca) s) (hP : va_P D vwCl (wX ca a σ) H)  (hw : Cond.fieldLink own idx "PinnedToFit" "noShelf" "LPinnedToFit$Shelf;" ∈ TBL) (hdg : decode cc pc = .ok (.getfield idx, 3)) (kk : W p l e R s m args below meth c H locs cells slots Q (F0 m (pc + 3) ls (.ref (a (19 + 2 * 8)) :: rest))) : W p l e R s m args below meth c H locs cells slots Q (F0 m pc ls (.ref (a (0)) :: rest)) :=
  va_get (D := D) (ci := 11) (C := RX11) (T := TX11) (N := 12) C0.1 C0.2.1 C0.2.2.2.2.1 in_X11 C0.2.2.2.1 hK.1 hP (0) ((wd_at (by decide)).trans (by rw [sh_X])) rfl 5 (by decide) (C0.2.2.2.2.1 _ hw) (fun _ h => h) rfl hdg kk
theorem gX11_6  (C0 : Cx p s m args meth c own cc nL ret) (hK : KX D vwCl (tysE ca) s) (hP : va_P D vwCl (wX ca a σ) H)  (hw : Cond.fieldLink own idx "PinnedToFit" "kinds" "[LPinnedToFit$Pin;" ∈ TBL) (hdg : decode cc pc = .ok (.getfield idx, 3)) (kk : W p l e R s m args below meth c H locs cells slots Q (F0 m (pc + 3) ls (.ref (a 39) :: rest))) : W p l e R s m args below meth c H locs cells slots Q (F0 m pc ls (.ref (a (0)) :: rest)) :=
  va_get (D := D) (ci := 11) (C := RX11) (T := TX11) (N := 12) C0.1 C0.2.1 C0.2.2.2.2.1 in_X11 C0.2.2.2.1 hK.1 hP (0) ((wd_at (by decide)).trans (by rw [sh_X])) rfl 6 (by decide) (C0.2.2.2.2.1 _ hw) (fun _ h => h) rfl hdg kk
theorem gX11_7  (C0 : Cx p s m args meth c own cc nL ret) (hK : KX D vwCl (tysE ca) s) (hP : va_P D vwCl (wX ca a σ) H)  (hw : Cond.fieldLink own idx "PinnedToFit" "plainPin" "LPinnedToFit$Pin;" ∈ TBL) (hdg : decode cc pc = .ok (.getfield idx, 3)) (kk : W p l e R s m args below meth c H locs cells slots Q (F0 m (pc + 3) ls (.ref (a (40 + 0)) :: rest))) : W p l e R s m args below meth c H locs cells slots Q (F0 m pc ls (.ref (a (0)) :: rest)) :=
  va_get (D := D) (ci := 11) (C := RX11) (T := TX11) (N := 12) C0.1 C0.2.1 C0.2.2.2.2.1 in_X11 C0.2.2.2.1 hK.1 hP (0) ((wd_at (by decide)).trans (by rw [sh_X])) rfl 7 (by decide) (C0.2.2.2.2.1 _ hw) (fun _ h => h) rfl hdg kk
theorem gX11_8  (C0 : Cx p s m args meth c own cc nL ret) (hK : KX D vwCl (tysE ca) s) (hP : va_P D vwCl (wX ca a σ) H)  (hw : Cond.fieldLink own idx "PinnedToFit" "text" "LPinnedToFit$Text;" ∈ TBL) (hdg : decode cc pc = .ok (.getfield idx, 3)) (kk : W p l e R s m args below meth c H locs cells slots Q (F0 m (pc + 3) ls (.ref (a 48) :: rest))) : W p l e R s m args below meth c H locs cells slots Q (F0 m pc ls (.ref (a (0)) :: rest)) :=
  va_get (D := D) (ci := 11) (C := RX11) (T := TX11) (N := 12) C0.1 C0.2.1 C0.2.2.2.2.1 in_X11 C0.2.2.2.1 hK.1 hP (0) ((wd_at (by decide)).trans (by rw [sh_X])) rfl 8 (by decide) (C0.2.2.2.2.1 _ hw) (fun _ h => h) rfl hdg kk
theorem gX11_9  (C0 : Cx p s m args meth c own cc nL ret) (hK : KX D vwCl (tysE ca) s) (hP : va_P D vwCl (wX ca a σ) H)  (hw : Cond.fieldLink own idx "PinnedToFit" "imageTaken" "Z" ∈ TBL) (hdg : decode cc pc = .ok (.getfield idx, 3)) (kk : W p l e R s m args below meth c H locs cells slots Q (F0 m (pc + 3) ls (.int (σ (0) 9) :: rest))) : W p l e R s m args below meth c H locs cells slots Q (F0 m pc ls (.ref (a (0)) :: rest)) :=
  va_get (D := D) (ci := 11) (C := RX11) (T := TX11) (N := 12) C0.1 C0.2.1 C0.2.2.2.2.1 in_X11 C0.2.2.2.1 hK.1 hP (0) ((wd_at (by decide)).trans (by rw [sh_X])) rfl 9 (by decide) (C0.2.2.2.2.1 _ hw) (fun _ h => h) rfl hdg kk
theorem pX11_9  (C0 : Cx p s m args meth c own cc nL ret) (hK : KX D vwCl (tysE ca) s) (hP : va_P D vwCl (wX ca a σ) H)  (hw : Cond.fieldLink own idx "PinnedToFit" "imageTaken" "Z" ∈ TBL) (hI : InjN 50 a) (hS : va_S (AW 50 a) H0 H locs) {v : Int32} (hv : v = 0 ∨ v = 1) (hdg : decode cc pc = .ok (.putfield idx, 3)) (kk : ∀ (H1 : Heap) (locs1 : List Loc), va_P D vwCl (wX ca a (uX σ (0) 9 v)) H1 → va_S (AW 50 a) H0 H1 locs1 → W p l e R s m args below meth c H1 locs1 cells slots Q (F0 m (pc + 3) ls rest)) : W p l e R s m args below meth c H locs cells slots Q (F0 m pc ls (.int v :: .ref (a (0)) :: rest)) :=
  va_put (D := D) (ci := 11) (ty := .boolean) (C := RX11) (T := TX11) (N := 12) C0.1 C0.2.1 C0.2.2.2.2.1 in_X11 tyX11 tyX11_ok nmX11 C0.2.2.2.1 hK.1 hP (wd_D hI) hS (0) ((wd_at (by decide)).trans (by rw [sh_X])) rfl 9 (by decide) (C0.2.2.2.2.1 _ hw) (fun _ h => h) rfl (by decide +kernel) (by rcases hv with rfl | rfl <;> rfl) (by rcases hv with rfl | rfl <;> rfl) (Nat.le_of_ble_eq_true rfl) hdg (fun H1 locs1 h1 _ h3 => kk H1 locs1 (wd_put (by decide) (by rw [sh_X]; rfl) h1) h3)
theorem gX11_10  (C0 : Cx p s m args meth c own cc nL ret) (hK : KX D vwCl (tysE ca) s) (hP : va_P D vwCl (wX ca a σ) H)  (hw : Cond.fieldLink own idx "PinnedToFit" "ordersFound" "I" ∈ TBL) (hdg : decode cc pc = .ok (.getfield idx, 3)) (kk : W p l e R s m args below meth c H locs cells slots Q (F0 m (pc + 3) ls (.int (σ (0) 10) :: rest))) : W p l e R s m args below meth c H locs cells slots Q (F0 m pc ls (.ref (a (0)) :: rest)) :=
  va_get (D := D) (ci := 11) (C := RX11) (T := TX11) (N := 12) C0.1 C0.2.1 C0.2.2.2.2.1 in_X11 C0.2.2.2.1 hK.1 hP (0) ((wd_at (by decide)).trans (by rw [sh_X])) rfl 10 (by decide) (C0.2.2.2.2.1 _ hw) (fun _ h => h) rfl hdg kk
theorem pX11_10  (C0 : Cx p s m args meth c own cc nL ret) (hK : KX D vwCl (tysE ca) s) (hP : va_P D vwCl (wX ca a σ) H)  (hw : Cond.fieldLink own idx "PinnedToFit" "ordersFound" "I" ∈ TBL) (hI : InjN 50 a) (hS : va_S (AW 50 a) H0 H locs) {v : Int32} (hdg : decode cc pc = .ok (.putfield idx, 3)) (kk : ∀ (H1 : Heap) (locs1 : List Loc), va_P D vwCl (wX ca a (uX σ (0) 10 v)) H1 → va_S (AW 50 a) H0 H1 locs1 → W p l e R s m args below meth c H1 locs1 cells slots Q (F0 m (pc + 3) ls rest)) : W p l e R s m args below meth c H locs cells slots Q (F0 m pc ls (.int v :: .ref (a (0)) :: rest)) :=
  va_put (D := D) (ci := 11) (ty := .int) (C := RX11) (T := TX11) (N := 12) C0.1 C0.2.1 C0.2.2.2.2.1 in_X11 tyX11 tyX11_ok nmX11 C0.2.2.2.1 hK.1 hP (wd_D hI) hS (0) ((wd_at (by decide)).trans (by rw [sh_X])) rfl 10 (by decide) (C0.2.2.2.2.1 _ hw) (fun _ h => h) rfl (by decide +kernel) rfl rfl (Nat.le_of_ble_eq_true rfl) hdg (fun H1 locs1 h1 _ h3 => kk H1 locs1 (wd_put (by decide) (by rw [sh_X]; rfl) h1) h3)
theorem gX11_11  (C0 : Cx p s m args meth c own cc nL ret) (hK : KX D vwCl (tysE ca) s) (hP : va_P D vwCl (wX ca a σ) H)  (hw : Cond.fieldLink own idx "PinnedToFit" "leastOfOrders" "I" ∈ TBL) (hdg : decode cc pc = .ok (.getfield idx, 3)) (kk : W p l e R s m args below meth c H locs cells slots Q (F0 m (pc + 3) ls (.int (σ (0) 11) :: rest))) : W p l e R s m args below meth c H locs cells slots Q (F0 m pc ls (.ref (a (0)) :: rest)) :=
  va_get (D := D) (ci := 11) (C := RX11) (T := TX11) (N := 12) C0.1 C0.2.1 C0.2.2.2.2.1 in_X11 C0.2.2.2.1 hK.1 hP (0) ((wd_at (by decide)).trans (by rw [sh_X])) rfl 11 (by decide) (C0.2.2.2.2.1 _ hw) (fun _ h => h) rfl hdg kk
theorem pX11_11  (C0 : Cx p s m args meth c own cc nL ret) (hK : KX D vwCl (tysE ca) s) (hP : va_P D vwCl (wX ca a σ) H)  (hw : Cond.fieldLink own idx "PinnedToFit" "leastOfOrders" "I" ∈ TBL) (hI : InjN 50 a) (hS : va_S (AW 50 a) H0 H locs) {v : Int32} (hdg : decode cc pc = .ok (.putfield idx, 3)) (kk : ∀ (H1 : Heap) (locs1 : List Loc), va_P D vwCl (wX ca a (uX σ (0) 11 v)) H1 → va_S (AW 50 a) H0 H1 locs1 → W p l e R s m args below meth c H1 locs1 cells slots Q (F0 m (pc + 3) ls rest)) : W p l e R s m args below meth c H locs cells slots Q (F0 m pc ls (.int v :: .ref (a (0)) :: rest)) :=
  va_put (D := D) (ci := 11) (ty := .int) (C := RX11) (T := TX11) (N := 12) C0.1 C0.2.1 C0.2.2.2.2.1 in_X11 tyX11 tyX11_ok nmX11 C0.2.2.2.1 hK.1 hP (wd_D hI) hS (0) ((wd_at (by decide)).trans (by rw [sh_X])) rfl 11 (by decide) (C0.2.2.2.2.1 _ hw) (fun _ h => h) rfl (by decide +kernel) rfl rfl (Nat.le_of_ble_eq_true rfl) hdg (fun H1 locs1 h1 _ h3 => kk H1 locs1 (wd_put (by decide) (by rw [sh_X]; rfl) h1) h3)
theorem gX12_0  (C0 : Cx p s m args meth c own cc nL ret) (hK : KX D vwCl (tysE ca) s) (hP : va_P D vwCl (wM ca a μ) H)  (hw : Cond.fieldLink own idx "PinnedToFitModel" "rings" "I" ∈ TBL) (hdg : decode cc pc = .ok (.getfield idx, 3)) (kk : W p l e R s m args below meth c H locs cells slots Q (F0 m (pc + 3) ls (.int ((μ 0).1 0) :: rest))) : W p l e R s m args below meth c H locs cells slots Q (F0 m pc ls (.ref (a (0)) :: rest)) :=
  va_get (D := D) (ci := 12) (C := RX12) (T := TX12) (N := 38) C0.1 C0.2.1 C0.2.2.2.2.1 in_X12 C0.2.2.2.1 hK.1 hP (0) ((wd_at (by decide)).trans (by rw [sh_M])) rfl 0 (by decide) (C0.2.2.2.2.1 _ hw) (fun _ h => h) rfl hdg kk
theorem pX12_0  (C0 : Cx p s m args meth c own cc nL ret) (hK : KX D vwCl (tysE ca) s) (hP : va_P D vwCl (wM ca a μ) H)  (hw : Cond.fieldLink own idx "PinnedToFitModel" "rings" "I" ∈ TBL) (hI : InjN 21 a) (hS : va_S (AW 21 a) H0 H locs) {v : Int32} (hdg : decode cc pc = .ok (.putfield idx, 3)) (kk : ∀ (H1 : Heap) (locs1 : List Loc), va_P D vwCl (wM ca a (uI μ 0 0 v)) H1 → va_S (AW 21 a) H0 H1 locs1 → W p l e R s m args below meth c H1 locs1 cells slots Q (F0 m (pc + 3) ls rest)) : W p l e R s m args below meth c H locs cells slots Q (F0 m pc ls (.int v :: .ref (a (0)) :: rest)) :=
  va_put (D := D) (ci := 12) (ty := .int) (C := RX12) (T := TX12) (N := 38) C0.1 C0.2.1 C0.2.2.2.2.1 in_X12 tyX12 tyX12_ok nmX12 C0.2.2.2.1 hK.1 hP (wd_D hI) hS (0) ((wd_at (by decide)).trans (by rw [sh_M])) rfl 0 (by decide) (C0.2.2.2.2.1 _ hw) (fun _ h => h) rfl (by decide +kernel) rfl rfl (Nat.le_of_ble_eq_true rfl) hdg (fun H1 locs1 h1 _ h3 => kk H1 locs1 (wd_put (by decide) (by rw [sh_M]; rfl) h1) h3)
theorem gX12_1  (C0 : Cx p s m args meth c own cc nL ret) (hK : KX D vwCl (tysE ca) s) (hP : va_P D vwCl (wM ca a μ) H)  (hw : Cond.fieldLink own idx "PinnedToFitModel" "holes" "I" ∈ TBL) (hdg : decode cc pc = .ok (.getfield idx, 3)) (kk : W p l e R s m args below meth c H locs cells slots Q (F0 m (pc + 3) ls (.int ((μ 0).1 1) :: rest))) : W p l e R s m args below meth c H locs cells slots Q (F0 m pc ls (.ref (a (0)) :: rest)) :=
  va_get (D := D) (ci := 12) (C := RX12) (T := TX12) (N := 38) C0.1 C0.2.1 C0.2.2.2.2.1 in_X12 C0.2.2.2.1 hK.1 hP (0) ((wd_at (by decide)).trans (by rw [sh_M])) rfl 1 (by decide) (C0.2.2.2.2.1 _ hw) (fun _ h => h) rfl hdg kk
theorem pX12_1  (C0 : Cx p s m args meth c own cc nL ret) (hK : KX D vwCl (tysE ca) s) (hP : va_P D vwCl (wM ca a μ) H)  (hw : Cond.fieldLink own idx "PinnedToFitModel" "holes" "I" ∈ TBL) (hI : InjN 21 a) (hS : va_S (AW 21 a) H0 H locs) {v : Int32} (hdg : decode cc pc = .ok (.putfield idx, 3)) (kk : ∀ (H1 : Heap) (locs1 : List Loc), va_P D vwCl (wM ca a (uI μ 0 1 v)) H1 → va_S (AW 21 a) H0 H1 locs1 → W p l e R s m args below meth c H1 locs1 cells slots Q (F0 m (pc + 3) ls rest)) : W p l e R s m args below meth c H locs cells slots Q (F0 m pc ls (.int v :: .ref (a (0)) :: rest)) :=
  va_put (D := D) (ci := 12) (ty := .int) (C := RX12) (T := TX12) (N := 38) C0.1 C0.2.1 C0.2.2.2.2.1 in_X12 tyX12 tyX12_ok nmX12 C0.2.2.2.1 hK.1 hP (wd_D hI) hS (0) ((wd_at (by decide)).trans (by rw [sh_M])) rfl 1 (by decide) (C0.2.2.2.2.1 _ hw) (fun _ h => h) rfl (by decide +kernel) rfl rfl (Nat.le_of_ble_eq_true rfl) hdg (fun H1 locs1 h1 _ h3 => kk H1 locs1 (wd_put (by decide) (by rw [sh_M]; rfl) h1) h3)
theorem gX12_2  (C0 : Cx p s m args meth c own cc nL ret) (hK : KX D vwCl (tysE ca) s) (hP : va_P D vwCl (wM ca a μ) H)  (hw : Cond.fieldLink own idx "PinnedToFitModel" "minutes" "I" ∈ TBL) (hdg : decode cc pc = .ok (.getfield idx, 3)) (kk : W p l e R s m args below meth c H locs cells slots Q (F0 m (pc + 3) ls (.int ((μ 0).1 2) :: rest))) : W p l e R s m args below meth c H locs cells slots Q (F0 m pc ls (.ref (a (0)) :: rest)) :=
  va_get (D := D) (ci := 12) (C := RX12) (T := TX12) (N := 38) C0.1 C0.2.1 C0.2.2.2.2.1 in_X12 C0.2.2.2.1 hK.1 hP (0) ((wd_at (by decide)).trans (by rw [sh_M])) rfl 2 (by decide) (C0.2.2.2.2.1 _ hw) (fun _ h => h) rfl hdg kk
theorem pX12_2  (C0 : Cx p s m args meth c own cc nL ret) (hK : KX D vwCl (tysE ca) s) (hP : va_P D vwCl (wM ca a μ) H)  (hw : Cond.fieldLink own idx "PinnedToFitModel" "minutes" "I" ∈ TBL) (hI : InjN 21 a) (hS : va_S (AW 21 a) H0 H locs) {v : Int32} (hdg : decode cc pc = .ok (.putfield idx, 3)) (kk : ∀ (H1 : Heap) (locs1 : List Loc), va_P D vwCl (wM ca a (uI μ 0 2 v)) H1 → va_S (AW 21 a) H0 H1 locs1 → W p l e R s m args below meth c H1 locs1 cells slots Q (F0 m (pc + 3) ls rest)) : W p l e R s m args below meth c H locs cells slots Q (F0 m pc ls (.int v :: .ref (a (0)) :: rest)) :=
  va_put (D := D) (ci := 12) (ty := .int) (C := RX12) (T := TX12) (N := 38) C0.1 C0.2.1 C0.2.2.2.2.1 in_X12 tyX12 tyX12_ok nmX12 C0.2.2.2.1 hK.1 hP (wd_D hI) hS (0) ((wd_at (by decide)).trans (by rw [sh_M])) rfl 2 (by decide) (C0.2.2.2.2.1 _ hw) (fun _ h => h) rfl (by decide +kernel) rfl rfl (Nat.le_of_ble_eq_true rfl) hdg (fun H1 locs1 h1 _ h3 => kk H1 locs1 (wd_put (by decide) (by rw [sh_M]; rfl) h1) h3)
theorem gX12_3  (C0 : Cx p s m args meth c own cc nL ret) (hK : KX D vwCl (tysE ca) s) (hP : va_P D vwCl (wM ca a μ) H)  (hw : Cond.fieldLink own idx "PinnedToFitModel" "tight" "I" ∈ TBL) (hdg : decode cc pc = .ok (.getfield idx, 3)) (kk : W p l e R s m args below meth c H locs cells slots Q (F0 m (pc + 3) ls (.int ((μ 0).1 3) :: rest))) : W p l e R s m args below meth c H locs cells slots Q (F0 m pc ls (.ref (a (0)) :: rest)) :=
  va_get (D := D) (ci := 12) (C := RX12) (T := TX12) (N := 38) C0.1 C0.2.1 C0.2.2.2.2.1 in_X12 C0.2.2.2.1 hK.1 hP (0) ((wd_at (by decide)).trans (by rw [sh_M])) rfl 3 (by decide) (C0.2.2.2.2.1 _ hw) (fun _ h => h) rfl hdg kk
theorem pX12_3  (C0 : Cx p s m args meth c own cc nL ret) (hK : KX D vwCl (tysE ca) s) (hP : va_P D vwCl (wM ca a μ) H)  (hw : Cond.fieldLink own idx "PinnedToFitModel" "tight" "I" ∈ TBL) (hI : InjN 21 a) (hS : va_S (AW 21 a) H0 H locs) {v : Int32} (hdg : decode cc pc = .ok (.putfield idx, 3)) (kk : ∀ (H1 : Heap) (locs1 : List Loc), va_P D vwCl (wM ca a (uI μ 0 3 v)) H1 → va_S (AW 21 a) H0 H1 locs1 → W p l e R s m args below meth c H1 locs1 cells slots Q (F0 m (pc + 3) ls rest)) : W p l e R s m args below meth c H locs cells slots Q (F0 m pc ls (.int v :: .ref (a (0)) :: rest)) :=
  va_put (D := D) (ci := 12) (ty := .int) (C := RX12) (T := TX12) (N := 38) C0.1 C0.2.1 C0.2.2.2.2.1 in_X12 tyX12 tyX12_ok nmX12 C0.2.2.2.1 hK.1 hP (wd_D hI) hS (0) ((wd_at (by decide)).trans (by rw [sh_M])) rfl 3 (by decide) (C0.2.2.2.2.1 _ hw) (fun _ h => h) rfl (by decide +kernel) rfl rfl (Nat.le_of_ble_eq_true rfl) hdg (fun H1 locs1 h1 _ h3 => kk H1 locs1 (wd_put (by decide) (by rw [sh_M]; rfl) h1) h3)
theorem gX12_4  (C0 : Cx p s m args meth c own cc nL ret) (hK : KX D vwCl (tysE ca) s) (hP : va_P D vwCl (wM ca a μ) H)  (hw : Cond.fieldLink own idx "PinnedToFitModel" "loose" "I" ∈ TBL) (hdg : decode cc pc = .ok (.getfield idx, 3)) (kk : W p l e R s m args below meth c H locs cells slots Q (F0 m (pc + 3) ls (.int ((μ 0).1 4) :: rest))) : W p l e R s m args below meth c H locs cells slots Q (F0 m pc ls (.ref (a (0)) :: rest)) :=
  va_get (D := D) (ci := 12) (C := RX12) (T := TX12) (N := 38) C0.1 C0.2.1 C0.2.2.2.2.1 in_X12 C0.2.2.2.1 hK.1 hP (0) ((wd_at (by decide)).trans (by rw [sh_M])) rfl 4 (by decide) (C0.2.2.2.2.1 _ hw) (fun _ h => h) rfl hdg kk
theorem pX12_4  (C0 : Cx p s m args meth c own cc nL ret) (hK : KX D vwCl (tysE ca) s) (hP : va_P D vwCl (wM ca a μ) H)  (hw : Cond.fieldLink own idx "PinnedToFitModel" "loose" "I" ∈ TBL) (hI : InjN 21 a) (hS : va_S (AW 21 a) H0 H locs) {v : Int32} (hdg : decode cc pc = .ok (.putfield idx, 3)) (kk : ∀ (H1 : Heap) (locs1 : List Loc), va_P D vwCl (wM ca a (uI μ 0 4 v)) H1 → va_S (AW 21 a) H0 H1 locs1 → W p l e R s m args below meth c H1 locs1 cells slots Q (F0 m (pc + 3) ls rest)) : W p l e R s m args below meth c H locs cells slots Q (F0 m pc ls (.int v :: .ref (a (0)) :: rest)) :=
  va_put (D := D) (ci := 12) (ty := .int) (C := RX12) (T := TX12) (N := 38) C0.1 C0.2.1 C0.2.2.2.2.1 in_X12 tyX12 tyX12_ok nmX12 C0.2.2.2.1 hK.1 hP (wd_D hI) hS (0) ((wd_at (by decide)).trans (by rw [sh_M])) rfl 4 (by decide) (C0.2.2.2.2.1 _ hw) (fun _ h => h) rfl (by decide +kernel) rfl rfl (Nat.le_of_ble_eq_true rfl) hdg (fun H1 locs1 h1 _ h3 => kk H1 locs1 (wd_put (by decide) (by rw [sh_M]; rfl) h1) h3)
theorem gX12_5  (C0 : Cx p s m args meth c own cc nL ret) (hK : KX D vwCl (tysE ca) s) (hP : va_P D vwCl (wM ca a μ) H)  (hw : Cond.fieldLink own idx "PinnedToFitModel" "girths" "[I" ∈ TBL) (hdg : decode cc pc = .ok (.getfield idx, 3)) (kk : W p l e R s m args below meth c H locs cells slots Q (F0 m (pc + 3) ls (.ref (a 1) :: rest))) : W p l e R s m args below meth c H locs cells slots Q (F0 m pc ls (.ref (a (0)) :: rest)) :=
  va_get (D := D) (ci := 12) (C := RX12) (T := TX12) (N := 38) C0.1 C0.2.1 C0.2.2.2.2.1 in_X12 C0.2.2.2.1 hK.1 hP (0) ((wd_at (by decide)).trans (by rw [sh_M])) rfl 5 (by decide) (C0.2.2.2.2.1 _ hw) (fun _ h => h) rfl hdg kk
theorem gX12_6  (C0 : Cx p s m args meth c own cc nL ret) (hK : KX D vwCl (tysE ca) s) (hP : va_P D vwCl (wM ca a μ) H)  (hw : Cond.fieldLink own idx "PinnedToFitModel" "widths" "[I" ∈ TBL) (hdg : decode cc pc = .ok (.getfield idx, 3)) (kk : W p l e R s m args below meth c H locs cells slots Q (F0 m (pc + 3) ls (.ref (a 2) :: rest))) : W p l e R s m args below meth c H locs cells slots Q (F0 m pc ls (.ref (a (0)) :: rest)) :=
  va_get (D := D) (ci := 12) (C := RX12) (T := TX12) (N := 38) C0.1 C0.2.1 C0.2.2.2.2.1 in_X12 C0.2.2.2.1 hK.1 hP (0) ((wd_at (by decide)).trans (by rw [sh_M])) rfl 6 (by decide) (C0.2.2.2.2.1 _ hw) (fun _ h => h) rfl hdg kk
theorem gX12_7  (C0 : Cx p s m args meth c own cc nL ret) (hK : KX D vwCl (tysE ca) s) (hP : va_P D vwCl (wM ca a μ) H)  (hw : Cond.fieldLink own idx "PinnedToFitModel" "kepts" "[I" ∈ TBL) (hdg : decode cc pc = .ok (.getfield idx, 3)) (kk : W p l e R s m args below meth c H locs cells slots Q (F0 m (pc + 3) ls (.ref (a 3) :: rest))) : W p l e R s m args below meth c H locs cells slots Q (F0 m pc ls (.ref (a (0)) :: rest)) :=
  va_get (D := D) (ci := 12) (C := RX12) (T := TX12) (N := 38) C0.1 C0.2.1 C0.2.2.2.2.1 in_X12 C0.2.2.2.1 hK.1 hP (0) ((wd_at (by decide)).trans (by rw [sh_M])) rfl 7 (by decide) (C0.2.2.2.2.1 _ hw) (fun _ h => h) rfl hdg kk
theorem gX12_8  (C0 : Cx p s m args meth c own cc nL ret) (hK : KX D vwCl (tysE ca) s) (hP : va_P D vwCl (wM ca a μ) H)  (hw : Cond.fieldLink own idx "PinnedToFitModel" "gives" "[I" ∈ TBL) (hdg : decode cc pc = .ok (.getfield idx, 3)) (kk : W p l e R s m args below meth c H locs cells slots Q (F0 m (pc + 3) ls (.ref (a 4) :: rest))) : W p l e R s m args below meth c H locs cells slots Q (F0 m pc ls (.ref (a (0)) :: rest)) :=
  va_get (D := D) (ci := 12) (C := RX12) (T := TX12) (N := 38) C0.1 C0.2.1 C0.2.2.2.2.1 in_X12 C0.2.2.2.1 hK.1 hP (0) ((wd_at (by decide)).trans (by rw [sh_M])) rfl 8 (by decide) (C0.2.2.2.2.1 _ hw) (fun _ h => h) rfl hdg kk
theorem gX12_9  (C0 : Cx p s m args meth c own cc nL ret) (hK : KX D vwCl (tysE ca) s) (hP : va_P D vwCl (wM ca a μ) H)  (hw : Cond.fieldLink own idx "PinnedToFitModel" "thrown" "I" ∈ TBL) (hdg : decode cc pc = .ok (.getfield idx, 3)) (kk : W p l e R s m args below meth c H locs cells slots Q (F0 m (pc + 3) ls (.int ((μ 0).1 9) :: rest))) : W p l e R s m args below meth c H locs cells slots Q (F0 m pc ls (.ref (a (0)) :: rest)) :=
  va_get (D := D) (ci := 12) (C := RX12) (T := TX12) (N := 38) C0.1 C0.2.1 C0.2.2.2.2.1 in_X12 C0.2.2.2.1 hK.1 hP (0) ((wd_at (by decide)).trans (by rw [sh_M])) rfl 9 (by decide) (C0.2.2.2.2.1 _ hw) (fun _ h => h) rfl hdg kk
theorem pX12_9  (C0 : Cx p s m args meth c own cc nL ret) (hK : KX D vwCl (tysE ca) s) (hP : va_P D vwCl (wM ca a μ) H)  (hw : Cond.fieldLink own idx "PinnedToFitModel" "thrown" "I" ∈ TBL) (hI : InjN 21 a) (hS : va_S (AW 21 a) H0 H locs) {v : Int32} (hdg : decode cc pc = .ok (.putfield idx, 3)) (kk : ∀ (H1 : Heap) (locs1 : List Loc), va_P D vwCl (wM ca a (uI μ 0 9 v)) H1 → va_S (AW 21 a) H0 H1 locs1 → W p l e R s m args below meth c H1 locs1 cells slots Q (F0 m (pc + 3) ls rest)) : W p l e R s m args below meth c H locs cells slots Q (F0 m pc ls (.int v :: .ref (a (0)) :: rest)) :=
  va_put (D := D) (ci := 12) (ty := .int) (C := RX12) (T := TX12) (N := 38) C0.1 C0.2.1 C0.2.2.2.2.1 in_X12 tyX12 tyX12_ok nmX12 C0.2.2.2.1 hK.1 hP (wd_D hI) hS (0) ((wd_at (by decide)).trans (by rw [sh_M])) rfl 9 (by decide) (C0.2.2.2.2.1 _ hw) (fun _ h => h) rfl (by decide +kernel) rfl rfl (Nat.le_of_ble_eq_true rfl) hdg (fun H1 locs1 h1 _ h3 => kk H1 locs1 (wd_put (by decide) (by rw [sh_M]; rfl) h1) h3)
theorem gX12_10  (C0 : Cx p s m args meth c own cc nL ret) (hK : KX D vwCl (tysE ca) s) (hP : va_P D vwCl (wM ca a μ) H)  (hw : Cond.fieldLink own idx "PinnedToFitModel" "imaged" "[I" ∈ TBL) (hdg : decode cc pc = .ok (.getfield idx, 3)) (kk : W p l e R s m args below meth c H locs cells slots Q (F0 m (pc + 3) ls (.ref (a 5) :: rest))) : W p l e R s m args below meth c H locs cells slots Q (F0 m pc ls (.ref (a (0)) :: rest)) :=
  va_get (D := D) (ci := 12) (C := RX12) (T := TX12) (N := 38) C0.1 C0.2.1 C0.2.2.2.2.1 in_X12 C0.2.2.2.1 hK.1 hP (0) ((wd_at (by decide)).trans (by rw [sh_M])) rfl 10 (by decide) (C0.2.2.2.2.1 _ hw) (fun _ h => h) rfl hdg kk
theorem gX12_11  (C0 : Cx p s m args meth c own cc nL ret) (hK : KX D vwCl (tysE ca) s) (hP : va_P D vwCl (wM ca a μ) H)  (hw : Cond.fieldLink own idx "PinnedToFitModel" "kept" "[I" ∈ TBL) (hdg : decode cc pc = .ok (.getfield idx, 3)) (kk : W p l e R s m args below meth c H locs cells slots Q (F0 m (pc + 3) ls (.ref (a 6) :: rest))) : W p l e R s m args below meth c H locs cells slots Q (F0 m pc ls (.ref (a (0)) :: rest)) :=
  va_get (D := D) (ci := 12) (C := RX12) (T := TX12) (N := 38) C0.1 C0.2.1 C0.2.2.2.2.1 in_X12 C0.2.2.2.1 hK.1 hP (0) ((wd_at (by decide)).trans (by rw [sh_M])) rfl 11 (by decide) (C0.2.2.2.2.1 _ hw) (fun _ h => h) rfl hdg kk
theorem gX12_12  (C0 : Cx p s m args meth c own cc nL ret) (hK : KX D vwCl (tysE ca) s) (hP : va_P D vwCl (wM ca a μ) H)  (hw : Cond.fieldLink own idx "PinnedToFitModel" "hasImage" "Z" ∈ TBL) (hdg : decode cc pc = .ok (.getfield idx, 3)) (kk : W p l e R s m args below meth c H locs cells slots Q (F0 m (pc + 3) ls (.int ((μ 0).1 12) :: rest))) : W p l e R s m args below meth c H locs cells slots Q (F0 m pc ls (.ref (a (0)) :: rest)) :=
  va_get (D := D) (ci := 12) (C := RX12) (T := TX12) (N := 38) C0.1 C0.2.1 C0.2.2.2.2.1 in_X12 C0.2.2.2.1 hK.1 hP (0) ((wd_at (by decide)).trans (by rw [sh_M])) rfl 12 (by decide) (C0.2.2.2.2.1 _ hw) (fun _ h => h) rfl hdg kk
theorem pX12_12  (C0 : Cx p s m args meth c own cc nL ret) (hK : KX D vwCl (tysE ca) s) (hP : va_P D vwCl (wM ca a μ) H)  (hw : Cond.fieldLink own idx "PinnedToFitModel" "hasImage" "Z" ∈ TBL) (hI : InjN 21 a) (hS : va_S (AW 21 a) H0 H locs) {v : Int32} (hv : v = 0 ∨ v = 1) (hdg : decode cc pc = .ok (.putfield idx, 3)) (kk : ∀ (H1 : Heap) (locs1 : List Loc), va_P D vwCl (wM ca a (uI μ 0 12 v)) H1 → va_S (AW 21 a) H0 H1 locs1 → W p l e R s m args below meth c H1 locs1 cells slots Q (F0 m (pc + 3) ls rest)) : W p l e R s m args below meth c H locs cells slots Q (F0 m pc ls (.int v :: .ref (a (0)) :: rest)) :=
  va_put (D := D) (ci := 12) (ty := .boolean) (C := RX12) (T := TX12) (N := 38) C0.1 C0.2.1 C0.2.2.2.2.1 in_X12 tyX12 tyX12_ok nmX12 C0.2.2.2.1 hK.1 hP (wd_D hI) hS (0) ((wd_at (by decide)).trans (by rw [sh_M])) rfl 12 (by decide) (C0.2.2.2.2.1 _ hw) (fun _ h => h) rfl (by decide +kernel) (by rcases hv with rfl | rfl <;> rfl) (by rcases hv with rfl | rfl <;> rfl) (Nat.le_of_ble_eq_true rfl) hdg (fun H1 locs1 h1 _ h3 => kk H1 locs1 (wd_put (by decide) (by rw [sh_M]; rfl) h1) h3)
theorem gX12_13  (C0 : Cx p s m args meth c own cc nL ret) (hK : KX D vwCl (tysE ca) s) (hP : va_P D vwCl (wM ca a μ) H)  (hw : Cond.fieldLink own idx "PinnedToFitModel" "place" "I" ∈ TBL) (hdg : decode cc pc = .ok (.getfield idx, 3)) (kk : W p l e R s m args below meth c H locs cells slots Q (F0 m (pc + 3) ls (.int ((μ 0).1 13) :: rest))) : W p l e R s m args below meth c H locs cells slots Q (F0 m pc ls (.ref (a (0)) :: rest)) :=
  va_get (D := D) (ci := 12) (C := RX12) (T := TX12) (N := 38) C0.1 C0.2.1 C0.2.2.2.2.1 in_X12 C0.2.2.2.1 hK.1 hP (0) ((wd_at (by decide)).trans (by rw [sh_M])) rfl 13 (by decide) (C0.2.2.2.2.1 _ hw) (fun _ h => h) rfl hdg kk
theorem pX12_13  (C0 : Cx p s m args meth c own cc nL ret) (hK : KX D vwCl (tysE ca) s) (hP : va_P D vwCl (wM ca a μ) H)  (hw : Cond.fieldLink own idx "PinnedToFitModel" "place" "I" ∈ TBL) (hI : InjN 21 a) (hS : va_S (AW 21 a) H0 H locs) {v : Int32} (hdg : decode cc pc = .ok (.putfield idx, 3)) (kk : ∀ (H1 : Heap) (locs1 : List Loc), va_P D vwCl (wM ca a (uI μ 0 13 v)) H1 → va_S (AW 21 a) H0 H1 locs1 → W p l e R s m args below meth c H1 locs1 cells slots Q (F0 m (pc + 3) ls rest)) : W p l e R s m args below meth c H locs cells slots Q (F0 m pc ls (.int v :: .ref (a (0)) :: rest)) :=
  va_put (D := D) (ci := 12) (ty := .int) (C := RX12) (T := TX12) (N := 38) C0.1 C0.2.1 C0.2.2.2.2.1 in_X12 tyX12 tyX12_ok nmX12 C0.2.2.2.1 hK.1 hP (wd_D hI) hS (0) ((wd_at (by decide)).trans (by rw [sh_M])) rfl 13 (by decide) (C0.2.2.2.2.1 _ hw) (fun _ h => h) rfl (by decide +kernel) rfl rfl (Nat.le_of_ble_eq_true rfl) hdg (fun H1 locs1 h1 _ h3 => kk H1 locs1 (wd_put (by decide) (by rw [sh_M]; rfl) h1) h3)
theorem gX12_14  (C0 : Cx p s m args meth c own cc nL ret) (hK : KX D vwCl (tysE ca) s) (hP : va_P D vwCl (wM ca a μ) H)  (hw : Cond.fieldLink own idx "PinnedToFitModel" "isTaking" "Z" ∈ TBL) (hdg : decode cc pc = .ok (.getfield idx, 3)) (kk : W p l e R s m args below meth c H locs cells slots Q (F0 m (pc + 3) ls (.int ((μ 0).1 14) :: rest))) : W p l e R s m args below meth c H locs cells slots Q (F0 m pc ls (.ref (a (0)) :: rest)) :=
  va_get (D := D) (ci := 12) (C := RX12) (T := TX12) (N := 38) C0.1 C0.2.1 C0.2.2.2.2.1 in_X12 C0.2.2.2.1 hK.1 hP (0) ((wd_at (by decide)).trans (by rw [sh_M])) rfl 14 (by decide) (C0.2.2.2.2.1 _ hw) (fun _ h => h) rfl hdg kk
theorem pX12_14  (C0 : Cx p s m args meth c own cc nL ret) (hK : KX D vwCl (tysE ca) s) (hP : va_P D vwCl (wM ca a μ) H)  (hw : Cond.fieldLink own idx "PinnedToFitModel" "isTaking" "Z" ∈ TBL) (hI : InjN 21 a) (hS : va_S (AW 21 a) H0 H locs) {v : Int32} (hv : v = 0 ∨ v = 1) (hdg : decode cc pc = .ok (.putfield idx, 3)) (kk : ∀ (H1 : Heap) (locs1 : List Loc), va_P D vwCl (wM ca a (uI μ 0 14 v)) H1 → va_S (AW 21 a) H0 H1 locs1 → W p l e R s m args below meth c H1 locs1 cells slots Q (F0 m (pc + 3) ls rest)) : W p l e R s m args below meth c H locs cells slots Q (F0 m pc ls (.int v :: .ref (a (0)) :: rest)) :=
  va_put (D := D) (ci := 12) (ty := .boolean) (C := RX12) (T := TX12) (N := 38) C0.1 C0.2.1 C0.2.2.2.2.1 in_X12 tyX12 tyX12_ok nmX12 C0.2.2.2.1 hK.1 hP (wd_D hI) hS (0) ((wd_at (by decide)).trans (by rw [sh_M])) rfl 14 (by decide) (C0.2.2.2.2.1 _ hw) (fun _ h => h) rfl (by decide +kernel) (by rcases hv with rfl | rfl <;> rfl) (by rcases hv with rfl | rfl <;> rfl) (Nat.le_of_ble_eq_true rfl) hdg (fun H1 locs1 h1 _ h3 => kk H1 locs1 (wd_put (by decide) (by rw [sh_M]; rfl) h1) h3)
theorem gX12_15  (C0 : Cx p s m args meth c own cc nL ret) (hK : KX D vwCl (tysE ca) s) (hP : va_P D vwCl (wM ca a μ) H)  (hw : Cond.fieldLink own idx "PinnedToFitModel" "keptIn" "[I" ∈ TBL) (hdg : decode cc pc = .ok (.getfield idx, 3)) (kk : W p l e R s m args below meth c H locs cells slots Q (F0 m (pc + 3) ls (kref a ((μ 0).1 15) :: rest))) : W p l e R s m args below meth c H locs cells slots Q (F0 m pc ls (.ref (a (0)) :: rest)) :=
  va_get (D := D) (ci := 12) (C := RX12) (T := TX12) (N := 38) C0.1 C0.2.1 C0.2.2.2.2.1 in_X12 C0.2.2.2.1 hK.1 hP (0) ((wd_at (by decide)).trans (by rw [sh_M])) rfl 15 (by decide) (C0.2.2.2.2.1 _ hw) (fun _ h => h) rfl hdg kk
theorem pX12_15  (C0 : Cx p s m args meth c own cc nL ret) (hK : KX D vwCl (tysE ca) s) (hP : va_P D vwCl (wM ca a μ) H)  (hw : Cond.fieldLink own idx "PinnedToFitModel" "keptIn" "[I" ∈ TBL) (hI : InjN 21 a) (hS : va_S (AW 21 a) H0 H locs) {t : Nat} (hv : t = 5 ∨ t = 6) (hdg : decode cc pc = .ok (.putfield idx, 3)) (kk : ∀ (H1 : Heap) (locs1 : List Loc), va_P D vwCl (wM ca a (uI μ 0 15 (nI t))) H1 → va_S (AW 21 a) H0 H1 locs1 → W p l e R s m args below meth c H1 locs1 cells slots Q (F0 m (pc + 3) ls rest)) : W p l e R s m args below meth c H locs cells slots Q (F0 m pc ls (.ref (a t) :: .ref (a (0)) :: rest)) :=
  va_put (D := D) (ci := 12) (ty := .array .int) (C := RX12) (T := TX12) (N := 38) C0.1 C0.2.1 C0.2.2.2.2.1 in_X12 tyX12 tyX12_ok nmX12 C0.2.2.2.1 hK.1 hP (wd_D hI) hS (0) ((wd_at (by decide)).trans (by rw [sh_M])) rfl 15 (by decide) (C0.2.2.2.2.1 _ hw) (fun _ h => h) rfl (by decide +kernel) rfl rfl (Nat.le_of_ble_eq_true rfl) hdg (fun H1 locs1 h1 _ h3 => kk H1 locs1 (wd_put (by decide) (by rw [sh_M, ← kref_of (a := a) hv]; rfl) h1) h3)
theorem gX12_16  (C0 : Cx p s m args meth c own cc nL ret) (hK : KX D vwCl (tysE ca) s) (hP : va_P D vwCl (wM ca a μ) H)  (hw : Cond.fieldLink own idx "PinnedToFitModel" "base" "I" ∈ TBL) (hdg : decode cc pc = .ok (.getfield idx, 3)) (kk : W p l e R s m args below meth c H locs cells slots Q (F0 m (pc + 3) ls (.int ((μ 0).1 16) :: rest))) : W p l e R s m args below meth c H locs cells slots Q (F0 m pc ls (.ref (a (0)) :: rest)) :=
  va_get (D := D) (ci := 12) (C := RX12) (T := TX12) (N := 38) C0.1 C0.2.1 C0.2.2.2.2.1 in_X12 C0.2.2.2.1 hK.1 hP (0) ((wd_at (by decide)).trans (by rw [sh_M])) rfl 16 (by decide) (C0.2.2.2.2.1 _ hw) (fun _ h => h) rfl hdg kk
theorem pX12_16  (C0 : Cx p s m args meth c own cc nL ret) (hK : KX D vwCl (tysE ca) s) (hP : va_P D vwCl (wM ca a μ) H)  (hw : Cond.fieldLink own idx "PinnedToFitModel" "base" "I" ∈ TBL) (hI : InjN 21 a) (hS : va_S (AW 21 a) H0 H locs) {v : Int32} (hdg : decode cc pc = .ok (.putfield idx, 3)) (kk : ∀ (H1 : Heap) (locs1 : List Loc), va_P D vwCl (wM ca a (uI μ 0 16 v)) H1 → va_S (AW 21 a) H0 H1 locs1 → W p l e R s m args below meth c H1 locs1 cells slots Q (F0 m (pc + 3) ls rest)) : W p l e R s m args below meth c H locs cells slots Q (F0 m pc ls (.int v :: .ref (a (0)) :: rest)) :=
  va_put (D := D) (ci := 12) (ty := .int) (C := RX12) (T := TX12) (N := 38) C0.1 C0.2.1 C0.2.2.2.2.1 in_X12 tyX12 tyX12_ok nmX12 C0.2.2.2.1 hK.1 hP (wd_D hI) hS (0) ((wd_at (by decide)).trans (by rw [sh_M])) rfl 16 (by decide) (C0.2.2.2.2.1 _ hw) (fun _ h => h) rfl (by decide +kernel) rfl rfl (Nat.le_of_ble_eq_true rfl) hdg (fun H1 locs1 h1 _ h3 => kk H1 locs1 (wd_put (by decide) (by rw [sh_M]; rfl) h1) h3)
theorem gX12_17  (C0 : Cx p s m args meth c own cc nL ret) (hK : KX D vwCl (tysE ca) s) (hP : va_P D vwCl (wM ca a μ) H)  (hw : Cond.fieldLink own idx "PinnedToFitModel" "end" "I" ∈ TBL) (hdg : decode cc pc = .ok (.getfield idx, 3)) (kk : W p l e R s m args below meth c H locs cells slots Q (F0 m (pc + 3) ls (.int ((μ 0).1 17) :: rest))) : W p l e R s m args below meth c H locs cells slots Q (F0 m pc ls (.ref (a (0)) :: rest)) :=
  va_get (D := D) (ci := 12) (C := RX12) (T := TX12) (N := 38) C0.1 C0.2.1 C0.2.2.2.2.1 in_X12 C0.2.2.2.1 hK.1 hP (0) ((wd_at (by decide)).trans (by rw [sh_M])) rfl 17 (by decide) (C0.2.2.2.2.1 _ hw) (fun _ h => h) rfl hdg kk
theorem pX12_17  (C0 : Cx p s m args meth c own cc nL ret) (hK : KX D vwCl (tysE ca) s) (hP : va_P D vwCl (wM ca a μ) H)  (hw : Cond.fieldLink own idx "PinnedToFitModel" "end" "I" ∈ TBL) (hI : InjN 21 a) (hS : va_S (AW 21 a) H0 H locs) {v : Int32} (hdg : decode cc pc = .ok (.putfield idx, 3)) (kk : ∀ (H1 : Heap) (locs1 : List Loc), va_P D vwCl (wM ca a (uI μ 0 17 v)) H1 → va_S (AW 21 a) H0 H1 locs1 → W p l e R s m args below meth c H1 locs1 cells slots Q (F0 m (pc + 3) ls rest)) : W p l e R s m args below meth c H locs cells slots Q (F0 m pc ls (.int v :: .ref (a (0)) :: rest)) :=
  va_put (D := D) (ci := 12) (ty := .int) (C := RX12) (T := TX12) (N := 38) C0.1 C0.2.1 C0.2.2.2.2.1 in_X12 tyX12 tyX12_ok nmX12 C0.2.2.2.1 hK.1 hP (wd_D hI) hS (0) ((wd_at (by decide)).trans (by rw [sh_M])) rfl 17 (by decide) (C0.2.2.2.2.1 _ hw) (fun _ h => h) rfl (by decide +kernel) rfl rfl (Nat.le_of_ble_eq_true rfl) hdg (fun H1 locs1 h1 _ h3 => kk H1 locs1 (wd_put (by decide) (by rw [sh_M]; rfl) h1) h3)
theorem gX12_18  (C0 : Cx p s m args meth c own cc nL ret) (hK : KX D vwCl (tysE ca) s) (hP : va_P D vwCl (wM ca a μ) H)  (hw : Cond.fieldLink own idx "PinnedToFitModel" "at" "I" ∈ TBL) (hdg : decode cc pc = .ok (.getfield idx, 3)) (kk : W p l e R s m args below meth c H locs cells slots Q (F0 m (pc + 3) ls (.int ((μ 0).1 18) :: rest))) : W p l e R s m args below meth c H locs cells slots Q (F0 m pc ls (.ref (a (0)) :: rest)) :=
  va_get (D := D) (ci := 12) (C := RX12) (T := TX12) (N := 38) C0.1 C0.2.1 C0.2.2.2.2.1 in_X12 C0.2.2.2.1 hK.1 hP (0) ((wd_at (by decide)).trans (by rw [sh_M])) rfl 18 (by decide) (C0.2.2.2.2.1 _ hw) (fun _ h => h) rfl hdg kk
theorem pX12_18  (C0 : Cx p s m args meth c own cc nL ret) (hK : KX D vwCl (tysE ca) s) (hP : va_P D vwCl (wM ca a μ) H)  (hw : Cond.fieldLink own idx "PinnedToFitModel" "at" "I" ∈ TBL) (hI : InjN 21 a) (hS : va_S (AW 21 a) H0 H locs) {v : Int32} (hdg : decode cc pc = .ok (.putfield idx, 3)) (kk : ∀ (H1 : Heap) (locs1 : List Loc), va_P D vwCl (wM ca a (uI μ 0 18 v)) H1 → va_S (AW 21 a) H0 H1 locs1 → W p l e R s m args below meth c H1 locs1 cells slots Q (F0 m (pc + 3) ls rest)) : W p l e R s m args below meth c H locs cells slots Q (F0 m pc ls (.int v :: .ref (a (0)) :: rest)) :=
  va_put (D := D) (ci := 12) (ty := .int) (C := RX12) (T := TX12) (N := 38) C0.1 C0.2.1 C0.2.2.2.2.1 in_X12 tyX12 tyX12_ok nmX12 C0.2.2.2.1 hK.1 hP (wd_D hI) hS (0) ((wd_at (by decide)).trans (by rw [sh_M])) rfl 18 (by decide) (C0.2.2.2.2.1 _ hw) (fun _ h => h) rfl (by decide +kernel) rfl rfl (Nat.le_of_ble_eq_true rfl) hdg (fun H1 locs1 h1 _ h3 => kk H1 locs1 (wd_put (by decide) (by rw [sh_M]; rfl) h1) h3)
theorem gX12_19  (C0 : Cx p s m args meth c own cc nL ret) (hK : KX D vwCl (tysE ca) s) (hP : va_P D vwCl (wM ca a μ) H)  (hw : Cond.fieldLink own idx "PinnedToFitModel" "isBad" "Z" ∈ TBL) (hdg : decode cc pc = .ok (.getfield idx, 3)) (kk : W p l e R s m args below meth c H locs cells slots Q (F0 m (pc + 3) ls (.int ((μ 0).1 19) :: rest))) : W p l e R s m args below meth c H locs cells slots Q (F0 m pc ls (.ref (a (0)) :: rest)) :=
  va_get (D := D) (ci := 12) (C := RX12) (T := TX12) (N := 38) C0.1 C0.2.1 C0.2.2.2.2.1 in_X12 C0.2.2.2.1 hK.1 hP (0) ((wd_at (by decide)).trans (by rw [sh_M])) rfl 19 (by decide) (C0.2.2.2.2.1 _ hw) (fun _ h => h) rfl hdg kk
theorem pX12_19  (C0 : Cx p s m args meth c own cc nL ret) (hK : KX D vwCl (tysE ca) s) (hP : va_P D vwCl (wM ca a μ) H)  (hw : Cond.fieldLink own idx "PinnedToFitModel" "isBad" "Z" ∈ TBL) (hI : InjN 21 a) (hS : va_S (AW 21 a) H0 H locs) {v : Int32} (hv : v = 0 ∨ v = 1) (hdg : decode cc pc = .ok (.putfield idx, 3)) (kk : ∀ (H1 : Heap) (locs1 : List Loc), va_P D vwCl (wM ca a (uI μ 0 19 v)) H1 → va_S (AW 21 a) H0 H1 locs1 → W p l e R s m args below meth c H1 locs1 cells slots Q (F0 m (pc + 3) ls rest)) : W p l e R s m args below meth c H locs cells slots Q (F0 m pc ls (.int v :: .ref (a (0)) :: rest)) :=
  va_put (D := D) (ci := 12) (ty := .boolean) (C := RX12) (T := TX12) (N := 38) C0.1 C0.2.1 C0.2.2.2.2.1 in_X12 tyX12 tyX12_ok nmX12 C0.2.2.2.1 hK.1 hP (wd_D hI) hS (0) ((wd_at (by decide)).trans (by rw [sh_M])) rfl 19 (by decide) (C0.2.2.2.2.1 _ hw) (fun _ h => h) rfl (by decide +kernel) (by rcases hv with rfl | rfl <;> rfl) (by rcases hv with rfl | rfl <;> rfl) (Nat.le_of_ble_eq_true rfl) hdg (fun H1 locs1 h1 _ h3 => kk H1 locs1 (wd_put (by decide) (by rw [sh_M]; rfl) h1) h3)
theorem gX12_20  (C0 : Cx p s m args meth c own cc nL ret) (hK : KX D vwCl (tysE ca) s) (hP : va_P D vwCl (wM ca a μ) H)  (hw : Cond.fieldLink own idx "PinnedToFitModel" "statements" "I" ∈ TBL) (hdg : decode cc pc = .ok (.getfield idx, 3)) (kk : W p l e R s m args below meth c H locs cells slots Q (F0 m (pc + 3) ls (.int ((μ 0).1 20) :: rest))) : W p l e R s m args below meth c H locs cells slots Q (F0 m pc ls (.ref (a (0)) :: rest)) :=
  va_get (D := D) (ci := 12) (C := RX12) (T := TX12) (N := 38) C0.1 C0.2.1 C0.2.2.2.2.1 in_X12 C0.2.2.2.1 hK.1 hP (0) ((wd_at (by decide)).trans (by rw [sh_M])) rfl 20 (by decide) (C0.2.2.2.2.1 _ hw) (fun _ h => h) rfl hdg kk
theorem pX12_20  (C0 : Cx p s m args meth c own cc nL ret) (hK : KX D vwCl (tysE ca) s) (hP : va_P D vwCl (wM ca a μ) H)  (hw : Cond.fieldLink own idx "PinnedToFitModel" "statements" "I" ∈ TBL) (hI : InjN 21 a) (hS : va_S (AW 21 a) H0 H locs) {v : Int32} (hdg : decode cc pc = .ok (.putfield idx, 3)) (kk : ∀ (H1 : Heap) (locs1 : List Loc), va_P D vwCl (wM ca a (uI μ 0 20 v)) H1 → va_S (AW 21 a) H0 H1 locs1 → W p l e R s m args below meth c H1 locs1 cells slots Q (F0 m (pc + 3) ls rest)) : W p l e R s m args below meth c H locs cells slots Q (F0 m pc ls (.int v :: .ref (a (0)) :: rest)) :=
  va_put (D := D) (ci := 12) (ty := .int) (C := RX12) (T := TX12) (N := 38) C0.1 C0.2.1 C0.2.2.2.2.1 in_X12 tyX12 tyX12_ok nmX12 C0.2.2.2.1 hK.1 hP (wd_D hI) hS (0) ((wd_at (by decide)).trans (by rw [sh_M])) rfl 20 (by decide) (C0.2.2.2.2.1 _ hw) (fun _ h => h) rfl (by decide +kernel) rfl rfl (Nat.le_of_ble_eq_true rfl) hdg (fun H1 locs1 h1 _ h3 => kk H1 locs1 (wd_put (by decide) (by rw [sh_M]; rfl) h1) h3)
theorem gX12_21  (C0 : Cx p s m args meth c own cc nL ret) (hK : KX D vwCl (tysE ca) s) (hP : va_P D vwCl (wM ca a μ) H)  (hw : Cond.fieldLink own idx "PinnedToFitModel" "placeOf" "[I" ∈ TBL) (hdg : decode cc pc = .ok (.getfield idx, 3)) (kk : W p l e R s m args below meth c H locs cells slots Q (F0 m (pc + 3) ls (.ref (a 7) :: rest))) : W p l e R s m args below meth c H locs cells slots Q (F0 m pc ls (.ref (a (0)) :: rest)) :=
  va_get (D := D) (ci := 12) (C := RX12) (T := TX12) (N := 38) C0.1 C0.2.1 C0.2.2.2.2.1 in_X12 C0.2.2.2.1 hK.1 hP (0) ((wd_at (by decide)).trans (by rw [sh_M])) rfl 21 (by decide) (C0.2.2.2.2.1 _ hw) (fun _ h => h) rfl hdg kk
theorem gX12_22  (C0 : Cx p s m args meth c own cc nL ret) (hK : KX D vwCl (tysE ca) s) (hP : va_P D vwCl (wM ca a μ) H)  (hw : Cond.fieldLink own idx "PinnedToFitModel" "letterOf" "[I" ∈ TBL) (hdg : decode cc pc = .ok (.getfield idx, 3)) (kk : W p l e R s m args below meth c H locs cells slots Q (F0 m (pc + 3) ls (.ref (a 8) :: rest))) : W p l e R s m args below meth c H locs cells slots Q (F0 m pc ls (.ref (a (0)) :: rest)) :=
  va_get (D := D) (ci := 12) (C := RX12) (T := TX12) (N := 38) C0.1 C0.2.1 C0.2.2.2.2.1 in_X12 C0.2.2.2.1 hK.1 hP (0) ((wd_at (by decide)).trans (by rw [sh_M])) rfl 22 (by decide) (C0.2.2.2.2.1 _ hw) (fun _ h => h) rfl hdg kk
theorem gX12_23  (C0 : Cx p s m args meth c own cc nL ret) (hK : KX D vwCl (tysE ca) s) (hP : va_P D vwCl (wM ca a μ) H)  (hw : Cond.fieldLink own idx "PinnedToFitModel" "first" "[I" ∈ TBL) (hdg : decode cc pc = .ok (.getfield idx, 3)) (kk : W p l e R s m args below meth c H locs cells slots Q (F0 m (pc + 3) ls (.ref (a 9) :: rest))) : W p l e R s m args below meth c H locs cells slots Q (F0 m pc ls (.ref (a (0)) :: rest)) :=
  va_get (D := D) (ci := 12) (C := RX12) (T := TX12) (N := 38) C0.1 C0.2.1 C0.2.2.2.2.1 in_X12 C0.2.2.2.1 hK.1 hP (0) ((wd_at (by decide)).trans (by rw [sh_M])) rfl 23 (by decide) (C0.2.2.2.2.1 _ hw) (fun _ h => h) rfl hdg kk
theorem gX12_24  (C0 : Cx p s m args meth c own cc nL ret) (hK : KX D vwCl (tysE ca) s) (hP : va_P D vwCl (wM ca a μ) H)  (hw : Cond.fieldLink own idx "PinnedToFitModel" "second" "[I" ∈ TBL) (hdg : decode cc pc = .ok (.getfield idx, 3)) (kk : W p l e R s m args below meth c H locs cells slots Q (F0 m (pc + 3) ls (.ref (a 10) :: rest))) : W p l e R s m args below meth c H locs cells slots Q (F0 m pc ls (.ref (a (0)) :: rest)) :=
  va_get (D := D) (ci := 12) (C := RX12) (T := TX12) (N := 38) C0.1 C0.2.1 C0.2.2.2.2.1 in_X12 C0.2.2.2.1 hK.1 hP (0) ((wd_at (by decide)).trans (by rw [sh_M])) rfl 24 (by decide) (C0.2.2.2.2.1 _ hw) (fun _ h => h) rfl hdg kk
theorem gX12_25  (C0 : Cx p s m args meth c own cc nL ret) (hK : KX D vwCl (tysE ca) s) (hP : va_P D vwCl (wM ca a μ) H)  (hw : Cond.fieldLink own idx "PinnedToFitModel" "third" "[I" ∈ TBL) (hdg : decode cc pc = .ok (.getfield idx, 3)) (kk : W p l e R s m args below meth c H locs cells slots Q (F0 m (pc + 3) ls (.ref (a 11) :: rest))) : W p l e R s m args below meth c H locs cells slots Q (F0 m pc ls (.ref (a (0)) :: rest)) :=
  va_get (D := D) (ci := 12) (C := RX12) (T := TX12) (N := 38) C0.1 C0.2.1 C0.2.2.2.2.1 in_X12 C0.2.2.2.1 hK.1 hP (0) ((wd_at (by decide)).trans (by rw [sh_M])) rfl 25 (by decide) (C0.2.2.2.2.1 _ hw) (fun _ h => h) rfl hdg kk
theorem gX12_26  (C0 : Cx p s m args meth c own cc nL ret) (hK : KX D vwCl (tysE ca) s) (hP : va_P D vwCl (wM ca a μ) H)  (hw : Cond.fieldLink own idx "PinnedToFitModel" "fourth" "[I" ∈ TBL) (hdg : decode cc pc = .ok (.getfield idx, 3)) (kk : W p l e R s m args below meth c H locs cells slots Q (F0 m (pc + 3) ls (.ref (a 12) :: rest))) : W p l e R s m args below meth c H locs cells slots Q (F0 m pc ls (.ref (a (0)) :: rest)) :=
  va_get (D := D) (ci := 12) (C := RX12) (T := TX12) (N := 38) C0.1 C0.2.1 C0.2.2.2.2.1 in_X12 C0.2.2.2.1 hK.1 hP (0) ((wd_at (by decide)).trans (by rw [sh_M])) rfl 26 (by decide) (C0.2.2.2.2.1 _ hw) (fun _ h => h) rfl hdg kk
theorem gX12_27  (C0 : Cx p s m args meth c own cc nL ret) (hK : KX D vwCl (tysE ca) s) (hP : va_P D vwCl (wM ca a μ) H)  (hw : Cond.fieldLink own idx "PinnedToFitModel" "wrongs" "[I" ∈ TBL) (hdg : decode cc pc = .ok (.getfield idx, 3)) (kk : W p l e R s m args below meth c H locs cells slots Q (F0 m (pc + 3) ls (.ref (a 13) :: rest))) : W p l e R s m args below meth c H locs cells slots Q (F0 m pc ls (.ref (a (0)) :: rest)) :=
  va_get (D := D) (ci := 12) (C := RX12) (T := TX12) (N := 38) C0.1 C0.2.1 C0.2.2.2.2.1 in_X12 C0.2.2.2.1 hK.1 hP (0) ((wd_at (by decide)).trans (by rw [sh_M])) rfl 27 (by decide) (C0.2.2.2.2.1 _ hw) (fun _ h => h) rfl hdg kk
theorem gX12_28  (C0 : Cx p s m args meth c own cc nL ret) (hK : KX D vwCl (tysE ca) s) (hP : va_P D vwCl (wM ca a μ) H)  (hw : Cond.fieldLink own idx "PinnedToFitModel" "noneMany" "I" ∈ TBL) (hdg : decode cc pc = .ok (.getfield idx, 3)) (kk : W p l e R s m args below meth c H locs cells slots Q (F0 m (pc + 3) ls (.int ((μ 0).1 28) :: rest))) : W p l e R s m args below meth c H locs cells slots Q (F0 m pc ls (.ref (a (0)) :: rest)) :=
  va_get (D := D) (ci := 12) (C := RX12) (T := TX12) (N := 38) C0.1 C0.2.1 C0.2.2.2.2.1 in_X12 C0.2.2.2.1 hK.1 hP (0) ((wd_at (by decide)).trans (by rw [sh_M])) rfl 28 (by decide) (C0.2.2.2.2.1 _ hw) (fun _ h => h) rfl hdg kk
theorem pX12_28  (C0 : Cx p s m args meth c own cc nL ret) (hK : KX D vwCl (tysE ca) s) (hP : va_P D vwCl (wM ca a μ) H)  (hw : Cond.fieldLink own idx "PinnedToFitModel" "noneMany" "I" ∈ TBL) (hI : InjN 21 a) (hS : va_S (AW 21 a) H0 H locs) {v : Int32} (hdg : decode cc pc = .ok (.putfield idx, 3)) (kk : ∀ (H1 : Heap) (locs1 : List Loc), va_P D vwCl (wM ca a (uI μ 0 28 v)) H1 → va_S (AW 21 a) H0 H1 locs1 → W p l e R s m args below meth c H1 locs1 cells slots Q (F0 m (pc + 3) ls rest)) : W p l e R s m args below meth c H locs cells slots Q (F0 m pc ls (.int v :: .ref (a (0)) :: rest)) :=
  va_put (D := D) (ci := 12) (ty := .int) (C := RX12) (T := TX12) (N := 38) C0.1 C0.2.1 C0.2.2.2.2.1 in_X12 tyX12 tyX12_ok nmX12 C0.2.2.2.1 hK.1 hP (wd_D hI) hS (0) ((wd_at (by decide)).trans (by rw [sh_M])) rfl 28 (by decide) (C0.2.2.2.2.1 _ hw) (fun _ h => h) rfl (by decide +kernel) rfl rfl (Nat.le_of_ble_eq_true rfl) hdg (fun H1 locs1 h1 _ h3 => kk H1 locs1 (wd_put (by decide) (by rw [sh_M]; rfl) h1) h3)
theorem gX12_29  (C0 : Cx p s m args meth c own cc nL ret) (hK : KX D vwCl (tysE ca) s) (hP : va_P D vwCl (wM ca a μ) H)  (hw : Cond.fieldLink own idx "PinnedToFitModel" "spare" "I" ∈ TBL) (hdg : decode cc pc = .ok (.getfield idx, 3)) (kk : W p l e R s m args below meth c H locs cells slots Q (F0 m (pc + 3) ls (.int ((μ 0).1 29) :: rest))) : W p l e R s m args below meth c H locs cells slots Q (F0 m pc ls (.ref (a (0)) :: rest)) :=
  va_get (D := D) (ci := 12) (C := RX12) (T := TX12) (N := 38) C0.1 C0.2.1 C0.2.2.2.2.1 in_X12 C0.2.2.2.1 hK.1 hP (0) ((wd_at (by decide)).trans (by rw [sh_M])) rfl 29 (by decide) (C0.2.2.2.2.1 _ hw) (fun _ h => h) rfl hdg kk
theorem pX12_29  (C0 : Cx p s m args meth c own cc nL ret) (hK : KX D vwCl (tysE ca) s) (hP : va_P D vwCl (wM ca a μ) H)  (hw : Cond.fieldLink own idx "PinnedToFitModel" "spare" "I" ∈ TBL) (hI : InjN 21 a) (hS : va_S (AW 21 a) H0 H locs) {v : Int32} (hdg : decode cc pc = .ok (.putfield idx, 3)) (kk : ∀ (H1 : Heap) (locs1 : List Loc), va_P D vwCl (wM ca a (uI μ 0 29 v)) H1 → va_S (AW 21 a) H0 H1 locs1 → W p l e R s m args below meth c H1 locs1 cells slots Q (F0 m (pc + 3) ls rest)) : W p l e R s m args below meth c H locs cells slots Q (F0 m pc ls (.int v :: .ref (a (0)) :: rest)) :=
  va_put (D := D) (ci := 12) (ty := .int) (C := RX12) (T := TX12) (N := 38) C0.1 C0.2.1 C0.2.2.2.2.1 in_X12 tyX12 tyX12_ok nmX12 C0.2.2.2.1 hK.1 hP (wd_D hI) hS (0) ((wd_at (by decide)).trans (by rw [sh_M])) rfl 29 (by decide) (C0.2.2.2.2.1 _ hw) (fun _ h => h) rfl (by decide +kernel) rfl rfl (Nat.le_of_ble_eq_true rfl) hdg (fun H1 locs1 h1 _ h3 => kk H1 locs1 (wd_put (by decide) (by rw [sh_M]; rfl) h1) h3)
theorem gX12_30  (C0 : Cx p s m args meth c own cc nL ret) (hK : KX D vwCl (tysE ca) s) (hP : va_P D vwCl (wM ca a μ) H)  (hw : Cond.fieldLink own idx "PinnedToFitModel" "seed" "I" ∈ TBL) (hdg : decode cc pc = .ok (.getfield idx, 3)) (kk : W p l e R s m args below meth c H locs cells slots Q (F0 m (pc + 3) ls (.int ((μ 0).1 30) :: rest))) : W p l e R s m args below meth c H locs cells slots Q (F0 m pc ls (.ref (a (0)) :: rest)) :=
  va_get (D := D) (ci := 12) (C := RX12) (T := TX12) (N := 38) C0.1 C0.2.1 C0.2.2.2.2.1 in_X12 C0.2.2.2.1 hK.1 hP (0) ((wd_at (by decide)).trans (by rw [sh_M])) rfl 30 (by decide) (C0.2.2.2.2.1 _ hw) (fun _ h => h) rfl hdg kk
theorem pX12_30  (C0 : Cx p s m args meth c own cc nL ret) (hK : KX D vwCl (tysE ca) s) (hP : va_P D vwCl (wM ca a μ) H)  (hw : Cond.fieldLink own idx "PinnedToFitModel" "seed" "I" ∈ TBL) (hI : InjN 21 a) (hS : va_S (AW 21 a) H0 H locs) {v : Int32} (hdg : decode cc pc = .ok (.putfield idx, 3)) (kk : ∀ (H1 : Heap) (locs1 : List Loc), va_P D vwCl (wM ca a (uI μ 0 30 v)) H1 → va_S (AW 21 a) H0 H1 locs1 → W p l e R s m args below meth c H1 locs1 cells slots Q (F0 m (pc + 3) ls rest)) : W p l e R s m args below meth c H locs cells slots Q (F0 m pc ls (.int v :: .ref (a (0)) :: rest)) :=
  va_put (D := D) (ci := 12) (ty := .int) (C := RX12) (T := TX12) (N := 38) C0.1 C0.2.1 C0.2.2.2.2.1 in_X12 tyX12 tyX12_ok nmX12 C0.2.2.2.1 hK.1 hP (wd_D hI) hS (0) ((wd_at (by decide)).trans (by rw [sh_M])) rfl 30 (by decide) (C0.2.2.2.2.1 _ hw) (fun _ h => h) rfl (by decide +kernel) rfl rfl (Nat.le_of_ble_eq_true rfl) hdg (fun H1 locs1 h1 _ h3 => kk H1 locs1 (wd_put (by decide) (by rw [sh_M]; rfl) h1) h3)
theorem gX12_31  (C0 : Cx p s m args meth c own cc nL ret) (hK : KX D vwCl (tysE ca) s) (hP : va_P D vwCl (wM ca a μ) H)  (hw : Cond.fieldLink own idx "PinnedToFitModel" "holdsWhat" "[I" ∈ TBL) (hdg : decode cc pc = .ok (.getfield idx, 3)) (kk : W p l e R s m args below meth c H locs cells slots Q (F0 m (pc + 3) ls (.ref (a 14) :: rest))) : W p l e R s m args below meth c H locs cells slots Q (F0 m pc ls (.ref (a (0)) :: rest)) :=
  va_get (D := D) (ci := 12) (C := RX12) (T := TX12) (N := 38) C0.1 C0.2.1 C0.2.2.2.2.1 in_X12 C0.2.2.2.1 hK.1 hP (0) ((wd_at (by decide)).trans (by rw [sh_M])) rfl 31 (by decide) (C0.2.2.2.2.1 _ hw) (fun _ h => h) rfl hdg kk
theorem gX12_32  (C0 : Cx p s m args meth c own cc nL ret) (hK : KX D vwCl (tysE ca) s) (hP : va_P D vwCl (wM ca a μ) H)  (hw : Cond.fieldLink own idx "PinnedToFitModel" "pinKind" "[I" ∈ TBL) (hdg : decode cc pc = .ok (.getfield idx, 3)) (kk : W p l e R s m args below meth c H locs cells slots Q (F0 m (pc + 3) ls (.ref (a 15) :: rest))) : W p l e R s m args below meth c H locs cells slots Q (F0 m pc ls (.ref (a (0)) :: rest)) :=
  va_get (D := D) (ci := 12) (C := RX12) (T := TX12) (N := 38) C0.1 C0.2.1 C0.2.2.2.2.1 in_X12 C0.2.2.2.1 hK.1 hP (0) ((wd_at (by decide)).trans (by rw [sh_M])) rfl 32 (by decide) (C0.2.2.2.2.1 _ hw) (fun _ h => h) rfl hdg kk
theorem gX12_33  (C0 : Cx p s m args meth c own cc nL ret) (hK : KX D vwCl (tysE ca) s) (hP : va_P D vwCl (wM ca a μ) H)  (hw : Cond.fieldLink own idx "PinnedToFitModel" "pinFigure" "[I" ∈ TBL) (hdg : decode cc pc = .ok (.getfield idx, 3)) (kk : W p l e R s m args below meth c H locs cells slots Q (F0 m (pc + 3) ls (.ref (a 16) :: rest))) : W p l e R s m args below meth c H locs cells slots Q (F0 m pc ls (.ref (a (0)) :: rest)) :=
  va_get (D := D) (ci := 12) (C := RX12) (T := TX12) (N := 38) C0.1 C0.2.1 C0.2.2.2.2.1 in_X12 C0.2.2.2.1 hK.1 hP (0) ((wd_at (by decide)).trans (by rw [sh_M])) rfl 33 (by decide) (C0.2.2.2.2.1 _ hw) (fun _ h => h) rfl hdg kk
theorem gX12_34  (C0 : Cx p s m args meth c own cc nL ret) (hK : KX D vwCl (tysE ca) s) (hP : va_P D vwCl (wM ca a μ) H)  (hw : Cond.fieldLink own idx "PinnedToFitModel" "rowSort" "[I" ∈ TBL) (hdg : decode cc pc = .ok (.getfield idx, 3)) (kk : W p l e R s m args below meth c H locs cells slots Q (F0 m (pc + 3) ls (.ref (a 17) :: rest))) : W p l e R s m args below meth c H locs cells slots Q (F0 m pc ls (.ref (a (0)) :: rest)) :=
  va_get (D := D) (ci := 12) (C := RX12) (T := TX12) (N := 38) C0.1 C0.2.1 C0.2.2.2.2.1 in_X12 C0.2.2.2.1 hK.1 hP (0) ((wd_at (by decide)).trans (by rw [sh_M])) rfl 34 (by decide) (C0.2.2.2.2.1 _ hw) (fun _ h => h) rfl hdg kk
theorem gX12_35  (C0 : Cx p s m args meth c own cc nL ret) (hK : KX D vwCl (tysE ca) s) (hP : va_P D vwCl (wM ca a μ) H)  (hw : Cond.fieldLink own idx "PinnedToFitModel" "rowMany" "[I" ∈ TBL) (hdg : decode cc pc = .ok (.getfield idx, 3)) (kk : W p l e R s m args below meth c H locs cells slots Q (F0 m (pc + 3) ls (.ref (a 18) :: rest))) : W p l e R s m args below meth c H locs cells slots Q (F0 m pc ls (.ref (a (0)) :: rest)) :=
  va_get (D := D) (ci := 12) (C := RX12) (T := TX12) (N := 38) C0.1 C0.2.1 C0.2.2.2.2.1 in_X12 C0.2.2.2.1 hK.1 hP (0) ((wd_at (by decide)).trans (by rw [sh_M])) rfl 35 (by decide) (C0.2.2.2.2.1 _ hw) (fun _ h => h) rfl hdg kk
theorem gX12_36  (C0 : Cx p s m args meth c own cc nL ret) (hK : KX D vwCl (tysE ca) s) (hP : va_P D vwCl (wM ca a μ) H)  (hw : Cond.fieldLink own idx "PinnedToFitModel" "rows" "[J" ∈ TBL) (hdg : decode cc pc = .ok (.getfield idx, 3)) (kk : W p l e R s m args below meth c H locs cells slots Q (F0 m (pc + 3) ls (.ref (a 19) :: rest))) : W p l e R s m args below meth c H locs cells slots Q (F0 m pc ls (.ref (a (0)) :: rest)) :=
  va_get (D := D) (ci := 12) (C := RX12) (T := TX12) (N := 38) C0.1 C0.2.1 C0.2.2.2.2.1 in_X12 C0.2.2.2.1 hK.1 hP (0) ((wd_at (by decide)).trans (by rw [sh_M])) rfl 36 (by decide) (C0.2.2.2.2.1 _ hw) (fun _ h => h) rfl hdg kk
theorem gX12_37  (C0 : Cx p s m args meth c own cc nL ret) (hK : KX D vwCl (tysE ca) s) (hP : va_P D vwCl (wM ca a μ) H)  (hw : Cond.fieldLink own idx "PinnedToFitModel" "between" "[J" ∈ TBL) (hdg : decode cc pc = .ok (.getfield idx, 3)) (kk : W p l e R s m args below meth c H locs cells slots Q (F0 m (pc + 3) ls (.ref (a 20) :: rest))) : W p l e R s m args below meth c H locs cells slots Q (F0 m pc ls (.ref (a (0)) :: rest)) :=
  va_get (D := D) (ci := 12) (C := RX12) (T := TX12) (N := 38) C0.1 C0.2.1 C0.2.2.2.2.1 in_X12 C0.2.2.2.1 hK.1 hP (0) ((wd_at (by decide)).trans (by rw [sh_M])) rfl 37 (by decide) (C0.2.2.2.2.1 _ hw) (fun _ h => h) rfl hdg kk
theorem xald {i N : Nat} {x : Int32} (C0 : Cx p s m args meth c own cc nL ret) (hK : KX D vwCl (tysE ca) s) (hP : va_P D vwCl (wX ca a σ) H) (hi : i < 50) (hsh : ∀ r, shX ca a i r = .inl (ca 0, N, .inl r)) (hin : ¬ (x < 0 ∨ N ≤ x.toNatClampNeg)) (hdg : decode cc pc = .ok (.iaload, 1)) (kk : W p l e R s m args below meth c H locs cells slots Q (F0 m (pc + 1) ls (.int (σ i x.toNatClampNeg) :: rest))) : W p l e R s m args below meth c H locs cells slots Q (F0 m pc ls (.int x :: .ref (a i) :: rest)) :=
  va_iald C0.1 C0.2.1 hK.1 hP i 0 ((wd_at hi).trans (by rw [hsh])) rfl hin hdg kk
theorem xast {i N : Nat} {x v : Int32} (C0 : Cx p s m args meth c own cc nL ret) (hK : KX D vwCl (tysE ca) s) (hP : va_P D vwCl (wX ca a σ) H) (hI : InjN 50 a) (hS : va_S (AW 50 a) H0 H locs) (hi : i < 50) (hsh : ∀ r, shX ca a i r = .inl (ca 0, N, .inl r)) (hin : ¬ (x < 0 ∨ N ≤ x.toNatClampNeg)) (hdg : decode cc pc = .ok (.iastore, 1)) (kk : ∀ (H1 : Heap) (locs1 : List Loc), va_P D vwCl (wX ca a (uX σ i x.toNatClampNeg v)) H1 → va_S (AW 50 a) H0 H1 locs1 → W p l e R s m args below meth c H1 locs1 cells slots Q (F0 m (pc + 1) ls rest)) : W p l e R s m args below meth c H locs cells slots Q (F0 m pc ls (.int v :: .int x :: .ref (a i) :: rest)) :=
  va_iast C0.1 C0.2.1 hK.1 hP (wd_D hI) hS i 0 ((wd_at hi).trans (by rw [hsh])) rfl hin hdg (fun H1 locs1 h1 _ h3 => kk H1 locs1 (wd_put hi (by rw [hsh]) h1) h3)
theorem xalen {i N : Nat} {x : vp_A} {cA : ClassId} {v : Int32} (t0 : Nat) {ty : FieldType} (C0 : Cx p s m args meth c own cc nL ret) (hK : KX D vwCl (tysE ca) s) (hP : va_P D vwCl (wX ca a σ) H) (hi : i < 50) (hsh : ∀ r, shX ca a i r = .inl (cA, x)) (ht : (tysE ca)[t0]? = some (cA, ty)) (hv : Int32.ofNat x.1 = v) (hdg : decode cc pc = .ok (.arraylength, 1)) (kk : W p l e R s m args below meth c H locs cells slots Q (F0 m (pc + 1) ls (.int v :: rest))) : W p l e R s m args below meth c H locs cells slots Q (F0 m pc ls (.ref (a i) :: rest)) :=
  va_alen C0.1 C0.2.1 hK.1 hP i t0 ((wd_at hi).trans (by rw [hsh])) ht hv hdg kk
theorem xalenR {i N : Nat} {cA : ClassId} {f : Row → (Nat → Int32) ⊕ (Nat → Int64) ⊕ (Nat → UInt32) ⊕ (Nat → UInt64) ⊕ (Nat → Option Nat)} {v : Int32} (t0 : Nat) {ty : FieldType} (C0 : Cx p s m args meth c own cc nL ret) (hK : KX D vwCl (tysE ca) s) (hP : va_P D vwCl (wX ca a σ) H) (hi : i < 50) (hsh : ∀ r, shX ca a i r = .inl (cA, N, f r)) (ht : (tysE ca)[t0]? = some (cA, ty)) (hv : Int32.ofNat N = v) (hdg : decode cc pc = .ok (.arraylength, 1)) (kk : W p l e R s m args below meth c H locs cells slots Q (F0 m (pc + 1) ls (.int v :: rest))) : W p l e R s m args below meth c H locs cells slots Q (F0 m pc ls (.ref (a i) :: rest)) :=
  va_alen C0.1 C0.2.1 hK.1 hP i t0 ((wd_at hi).trans (by rw [hsh])) ht hv hdg kk
theorem xaldq {i N : Nat} {cA : ClassId} {C : String} {f : Nat → Option Nat} {x : Int32} {q : Nat} (t0 : Nat) (C0 : Cx p s m args meth c own cc nL ret) (hK : KX D vwCl (tysE ca) s) (hP : va_P D vwCl (wX ca a σ) H) (hi : i < 50) (hsh : ∀ r, shX ca a i r = .inl (cA, N, .inr (.inr (.inr (.inr f))))) (ht : (tysE ca)[t0]? = some (cA, .object C)) (hin : ¬ (x < 0 ∨ N ≤ x.toNatClampNeg)) (hq : f x.toNatClampNeg = some q) (hdg : decode cc pc = .ok (.aaload, 1)) (kk : W p l e R s m args below meth c H locs cells slots Q (F0 m (pc + 1) ls (.ref q :: rest))) : W p l e R s m args below meth c H locs cells slots Q (F0 m pc ls (.int x :: .ref (a i) :: rest)) :=
  va_aldq C0.1 C0.2.1 hK.1 hP i t0 ((wd_at hi).trans (by rw [hsh])) ht hin hdg (by rw [hq]; exact kk)
theorem mald {i N : Nat} {x : Int32} (C0 : Cx p s m args meth c own cc nL ret) (hK : KX D vwCl (tysE ca) s) (hP : va_P D vwCl (wM ca a μ) H) (h0 : 0 < i) (hi : i < 19) (hN : mlen i = N) (hin : ¬ (x < 0 ∨ N ≤ x.toNatClampNeg)) (hdg : decode cc pc = .ok (.iaload, 1)) (kk : W p l e R s m args below meth c H locs cells slots Q (F0 m (pc + 1) ls (.int ((μ i).1 x.toNatClampNeg) :: rest))) : W p l e R s m args below meth c H locs cells slots Q (F0 m pc ls (.int x :: .ref (a i) :: rest)) := by
  subst hN
  exact va_iald C0.1 C0.2.1 hK.1 hP i 0 ((wd_at (by omega)).trans (by rw [sh_MA h0 hi])) rfl hin hdg kk
theorem mast {i N : Nat} {x v : Int32} (C0 : Cx p s m args meth c own cc nL ret) (hK : KX D vwCl (tysE ca) s) (hP : va_P D vwCl (wM ca a μ) H) (hI : InjN 21 a) (hS : va_S (AW 21 a) H0 H locs) (h0 : 0 < i) (hi : i < 19) (hN : mlen i = N) (hin : ¬ (x < 0 ∨ N ≤ x.toNatClampNeg)) (hdg : decode cc pc = .ok (.iastore, 1)) (kk : ∀ (H1 : Heap) (locs1 : List Loc), va_P D vwCl (wM ca a (uI μ i x.toNatClampNeg v)) H1 → va_S (AW 21 a) H0 H1 locs1 → W p l e R s m args below meth c H1 locs1 cells slots Q (F0 m (pc + 1) ls rest)) : W p l e R s m args below meth c H locs cells slots Q (F0 m pc ls (.int v :: .int x :: .ref (a i) :: rest)) := by
  subst hN
  exact va_iast C0.1 C0.2.1 hK.1 hP (wd_D hI) hS i 0 ((wd_at (by omega)).trans (by rw [sh_MA h0 hi])) rfl hin hdg (fun H1 locs1 h1 _ h3 => kk H1 locs1 (wd_put (by omega) (by rw [sh_MA h0 hi]) h1) h3)
theorem mlald {i N : Nat} {x : Int32} (C0 : Cx p s m args meth c own cc nL ret) (hK : KX D vwCl (tysE ca) s) (hP : va_P D vwCl (wM ca a μ) H) (h0 : 19 ≤ i) (hi : i < 21) (hN : mlen i = N) (hin : ¬ (x < 0 ∨ N ≤ x.toNatClampNeg)) (hdg : decode cc pc = .ok (.laload, 1)) (kk : W p l e R s m args below meth c H locs cells slots Q (F0 m (pc + 1) ls (.long ((μ i).2 x.toNatClampNeg) :: rest))) : W p l e R s m args below meth c H locs cells slots Q (F0 m pc ls (.int x :: .ref (a i) :: rest)) := by
  subst hN
  exact va_lald C0.1 C0.2.1 hK.1 hP i 1 ((wd_at hi).trans (by rw [sh_ML h0])) rfl hin hdg kk
theorem mlast {i N : Nat} {x : Int32} {v : Int64} (C0 : Cx p s m args meth c own cc nL ret) (hK : KX D vwCl (tysE ca) s) (hP : va_P D vwCl (wM ca a μ) H) (hI : InjN 21 a) (hS : va_S (AW 21 a) H0 H locs) (h0 : 19 ≤ i) (hi : i < 21) (hN : mlen i = N) (hin : ¬ (x < 0 ∨ N ≤ x.toNatClampNeg)) (hdg : decode cc pc = .ok (.lastore, 1)) (kk : ∀ (H1 : Heap) (locs1 : List Loc), va_P D vwCl (wM ca a (uL μ i x.toNatClampNeg v)) H1 → va_S (AW 21 a) H0 H1 locs1 → W p l e R s m args below meth c H1 locs1 cells slots Q (F0 m (pc + 1) ls rest)) : W p l e R s m args below meth c H locs cells slots Q (F0 m pc ls (.long v :: .int x :: .ref (a i) :: rest)) := by
  subst hN
  exact va_last C0.1 C0.2.1 hK.1 hP (wd_D hI) hS i 1 ((wd_at hi).trans (by rw [sh_ML h0])) rfl hin hdg (fun H1 locs1 h1 _ h3 => kk H1 locs1 (wd_put hi (by rw [sh_ML h0]) h1) h3)
theorem rcX0 {k : Nat} (hK : KX D vwCl (tysE ca) s) (hP : va_P D vwCl (wX ca a σ) H) (hk : k < 9) : ∃ cell : Cell, H[a (1 + 2 * k)]? = some cell ∧ cell.vm.isStatics = false ∧ s.vm.findClass RX0 = some cell.cls := va_recv hK.1 hP (ci := 0) (q0 := 1 + 2 * k) rfl ((wd_at (ltD hk)).trans (by rw [sh_D hk]))
theorem rcX5 {k : Nat} (hK : KX D vwCl (tysE ca) s) (hP : va_P D vwCl (wX ca a σ) H) (hk : k < 9) : ∃ cell : Cell, H[a (19 + 2 * k)]? = some cell ∧ cell.vm.isStatics = false ∧ s.vm.findClass RX5 = some cell.cls := va_recv hK.1 hP (ci := 5) (q0 := 19 + 2 * k) rfl ((wd_at (ltS hk)).trans (by rw [sh_S hk]))
theorem rcX8  (hK : KX D vwCl (tysE ca) s) (hP : va_P D vwCl (wX ca a σ) H)  : ∃ cell : Cell, H[a (48)]? = some cell ∧ cell.vm.isStatics = false ∧ s.vm.findClass RX8 = some cell.cls := va_recv hK.1 hP (ci := 8) (q0 := 48) rfl ((wd_at (by decide)).trans (by rw [sh_T]))
theorem rcX11  (hK : KX D vwCl (tysE ca) s) (hP : va_P D vwCl (wX ca a σ) H)  : ∃ cell : Cell, H[a (0)]? = some cell ∧ cell.vm.isStatics = false ∧ s.vm.findClass RX11 = some cell.cls := va_recv hK.1 hP (ci := 11) (q0 := 0) rfl ((wd_at (by decide)).trans (by rw [sh_X]))
theorem rcX12  (hK : KX D vwCl (tysE ca) s) (hP : va_P D vwCl (wM ca a μ) H)  : ∃ cell : Cell, H[a (0)]? = some cell ∧ cell.vm.isStatics = false ∧ s.vm.findClass RX12 = some cell.cls := va_recv hK.1 hP (ci := 12) (q0 := 0) rfl ((wd_at (by decide)).trans (by rw [sh_M]))
theorem rcP0 (hK : KX D vwCl (tysE ca) s) (hP : va_P D vwCl (wX ca a σ) H) : ∃ cell : Cell, H[a (40 + 0)]? = some cell ∧ cell.vm.isStatics = false ∧ s.vm.findClass RX3 = some cell.cls := va_recv hK.1 hP (ci := 3) (q0 := 40 + 0) rfl ((wd_at (by decide)).trans (by rw [sh_P (by decide)]; rfl))
theorem rcP1 (hK : KX D vwCl (tysE ca) s) (hP : va_P D vwCl (wX ca a σ) H) : ∃ cell : Cell, H[a (40 + 1)]? = some cell ∧ cell.vm.isStatics = false ∧ s.vm.findClass RX7 = some cell.cls := va_recv hK.1 hP (ci := 7) (q0 := 40 + 1) rfl ((wd_at (by decide)).trans (by rw [sh_P (by decide)]; rfl))
theorem rcP2 (hK : KX D vwCl (tysE ca) s) (hP : va_P D vwCl (wX ca a σ) H) : ∃ cell : Cell, H[a (40 + 2)]? = some cell ∧ cell.vm.isStatics = false ∧ s.vm.findClass RX2 = some cell.cls := va_recv hK.1 hP (ci := 2) (q0 := 40 + 2) rfl ((wd_at (by decide)).trans (by rw [sh_P (by decide)]; rfl))
theorem rcP3 (hK : KX D vwCl (tysE ca) s) (hP : va_P D vwCl (wX ca a σ) H) : ∃ cell : Cell, H[a (40 + 3)]? = some cell ∧ cell.vm.isStatics = false ∧ s.vm.findClass RX9 = some cell.cls := va_recv hK.1 hP (ci := 9) (q0 := 40 + 3) rfl ((wd_at (by decide)).trans (by rw [sh_P (by decide)]; rfl))
theorem rcP4 (hK : KX D vwCl (tysE ca) s) (hP : va_P D vwCl (wX ca a σ) H) : ∃ cell : Cell, H[a (40 + 4)]? = some cell ∧ cell.vm.isStatics = false ∧ s.vm.findClass RX4 = some cell.cls := va_recv hK.1 hP (ci := 4) (q0 := 40 + 4) rfl ((wd_at (by decide)).trans (by rw [sh_P (by decide)]; rfl))
theorem rcP5 (hK : KX D vwCl (tysE ca) s) (hP : va_P D vwCl (wX ca a σ) H) : ∃ cell : Cell, H[a (40 + 5)]? = some cell ∧ cell.vm.isStatics = false ∧ s.vm.findClass RX10 = some cell.cls := va_recv hK.1 hP (ci := 10) (q0 := 40 + 5) rfl ((wd_at (by decide)).trans (by rw [sh_P (by decide)]; rfl))
theorem rcP6 (hK : KX D vwCl (tysE ca) s) (hP : va_P D vwCl (wX ca a σ) H) : ∃ cell : Cell, H[a (40 + 6)]? = some cell ∧ cell.vm.isStatics = false ∧ s.vm.findClass RX6 = some cell.cls := va_recv hK.1 hP (ci := 6) (q0 := 40 + 6) rfl ((wd_at (by decide)).trans (by rw [sh_P (by decide)]; rfl))
theorem rcP7 (hK : KX D vwCl (tysE ca) s) (hP : va_P D vwCl (wX ca a σ) H) : ∃ cell : Cell, H[a (40 + 7)]? = some cell ∧ cell.vm.isStatics = false ∧ s.vm.findClass RX1 = some cell.cls := va_recv hK.1 hP (ci := 1) (q0 := 40 + 7) rfl ((wd_at (by decide)).trans (by rw [sh_P (by decide)]; rfl))
/-- a pin's class, whichever -/
theorem rcP {k : Nat} (hK : KX D vwCl (tysE ca) s) (hP : va_P D vwCl (wX ca a σ) H) (hk : k < 8) : ∃ (C : String) (cC : ClassId), ClassAt s C cC ∧ ∃ cell : Cell, H[a (40 + k)]? = some cell ∧ cell.vm.isStatics = false ∧ s.vm.findClass C = some cell.cls := by
  have key : ∀ (ci : Nat) (q : vw_C), vwCl[ci]? = some q → pinC k = ci → ∃ (C : String) (cC : ClassId), ClassAt s C cC ∧ ∃ cell : Cell, H[a (40 + k)]? = some cell ∧ cell.vm.isStatics = false ∧ s.vm.findClass C = some cell.cls := fun ci q hq hc =>
    ⟨q.1, D.1 ci, (hK.1.1 ci q hq).2, va_recv hK.1 hP (ci := ci) (q0 := 40 + k) hq ((wd_at (ltP hk)).trans (by rw [sh_P hk, hc]))⟩
  match k, hk with
  | 0, _ => exact key 3 _ rfl rfl
  | 1, _ => exact key 7 _ rfl rfl
  | 2, _ => exact key 2 _ rfl rfl
  | 3, _ => exact key 9 _ rfl rfl
  | 4, _ => exact key 4 _ rfl rfl
  | 5, _ => exact key 10 _ rfl rfl
  | 6, _ => exact key 6 _ rfl rfl
  | 7, _ => exact key 1 _ rfl rfl
end WR
end
