section
-- ===== PART A: goes FIRST, ahead of the names: the tables' words, and 'selects' of the private methods out of them =====
/-- a private method of a class that the tables say can be made, by its rows of tables_1 -/
def lw_okq (q : MethodName × Nat) : Prop := (q.1.cls ≠ "java/lang/invoke/MethodHandle" ∧ q.1.cls ≠ "java/lang/invoke/VarHandle") ∧ Cond.instantiable q.1.cls q.2 ∈ tables_1 ∧ Cond.privateMethod q.1 ∈ tables_1 ∧ Cond.instanceMethod q.1 ∈ tables_1
theorem lw_p0 : lw_okq (⟨"DimensionLines$TextReader", "expect", "(I)V"⟩, 7) := ⟨⟨by decide +kernel, by decide +kernel⟩, List.mem_of_getElem? (i := 112) (by decide +kernel), List.mem_of_getElem? (i := 310) (by decide +kernel), List.mem_of_getElem? (i := 311) (by decide +kernel)⟩
theorem lw_p1 : lw_okq (⟨"DimensionLines$TextReader", "accept", "(I)Z"⟩, 7) := ⟨⟨by decide +kernel, by decide +kernel⟩, List.mem_of_getElem? (i := 112) (by decide +kernel), List.mem_of_getElem? (i := 314) (by decide +kernel), List.mem_of_getElem? (i := 315) (by decide +kernel)⟩
theorem lw_p2 : lw_okq (⟨"DimensionLines$TextReader", "next", "()I"⟩, 7) := ⟨⟨by decide +kernel, by decide +kernel⟩, List.mem_of_getElem? (i := 112) (by decide +kernel), List.mem_of_getElem? (i := 318) (by decide +kernel), List.mem_of_getElem? (i := 319) (by decide +kernel)⟩
theorem lw_p3 : lw_okq (⟨"DimensionLines$TextReader", "fail", "(II)V"⟩, 7) := ⟨⟨by decide +kernel, by decide +kernel⟩, List.mem_of_getElem? (i := 112) (by decide +kernel), List.mem_of_getElem? (i := 322) (by decide +kernel), List.mem_of_getElem? (i := 323) (by decide +kernel)⟩
theorem lw_p4 : lw_okq (⟨"DimensionLines$TextReader", "readPosition", "()V"⟩, 7) := ⟨⟨by decide +kernel, by decide +kernel⟩, List.mem_of_getElem? (i := 112) (by decide +kernel), List.mem_of_getElem? (i := 326) (by decide +kernel), List.mem_of_getElem? (i := 327) (by decide +kernel)⟩
theorem lw_p5 : lw_okq (⟨"DimensionLines$TextReader", "readNumber", "(I)I"⟩, 7) := ⟨⟨by decide +kernel, by decide +kernel⟩, List.mem_of_getElem? (i := 112) (by decide +kernel), List.mem_of_getElem? (i := 330) (by decide +kernel), List.mem_of_getElem? (i := 331) (by decide +kernel)⟩
theorem lw_p6 : lw_okq (⟨"DimensionLines$TextReader", "isDigitNext", "()Z"⟩, 7) := ⟨⟨by decide +kernel, by decide +kernel⟩, List.mem_of_getElem? (i := 112) (by decide +kernel), List.mem_of_getElem? (i := 334) (by decide +kernel), List.mem_of_getElem? (i := 335) (by decide +kernel)⟩
theorem lw_p7 : lw_okq (⟨"DimensionLines$TextReader", "demand", "(Z)V"⟩, 7) := ⟨⟨by decide +kernel, by decide +kernel⟩, List.mem_of_getElem? (i := 112) (by decide +kernel), List.mem_of_getElem? (i := 339) (by decide +kernel), List.mem_of_getElem? (i := 340) (by decide +kernel)⟩
theorem lw_p8 : lw_okq (⟨"DimensionLines$TextReader", "readDimension", "()V"⟩, 7) := ⟨⟨by decide +kernel, by decide +kernel⟩, List.mem_of_getElem? (i := 112) (by decide +kernel), List.mem_of_getElem? (i := 343) (by decide +kernel), List.mem_of_getElem? (i := 344) (by decide +kernel)⟩
theorem lw_p9 : lw_okq (⟨"DimensionLines$TextReader", "readUpTo", "(II)I"⟩, 7) := ⟨⟨by decide +kernel, by decide +kernel⟩, List.mem_of_getElem? (i := 112) (by decide +kernel), List.mem_of_getElem? (i := 355) (by decide +kernel), List.mem_of_getElem? (i := 356) (by decide +kernel)⟩
theorem lw_p10 : lw_okq (⟨"DimensionLines", "beginChange", "()V"⟩, 8) := ⟨⟨by decide +kernel, by decide +kernel⟩, List.mem_of_getElem? (i := 12) (by decide +kernel), List.mem_of_getElem? (i := 359) (by decide +kernel), List.mem_of_getElem? (i := 360) (by decide +kernel)⟩
theorem lw_p11 : lw_okq (⟨"DimensionLines", "forgetWhatWasWorkedOut", "()V"⟩, 8) := ⟨⟨by decide +kernel, by decide +kernel⟩, List.mem_of_getElem? (i := 12) (by decide +kernel), List.mem_of_getElem? (i := 381) (by decide +kernel), List.mem_of_getElem? (i := 382) (by decide +kernel)⟩
theorem lw_p12 : lw_okq (⟨"DimensionLines$Drawing", "renumberEnds", "(II)V"⟩, 11) := ⟨⟨by decide +kernel, by decide +kernel⟩, List.mem_of_getElem? (i := 20) (by decide +kernel), List.mem_of_getElem? (i := 410) (by decide +kernel), List.mem_of_getElem? (i := 411) (by decide +kernel)⟩
theorem lw_p13 : lw_okq (⟨"DimensionLines", "areTwoPoints", "(II)Z"⟩, 8) := ⟨⟨by decide +kernel, by decide +kernel⟩, List.mem_of_getElem? (i := 12) (by decide +kernel), List.mem_of_getElem? (i := 450) (by decide +kernel), List.mem_of_getElem? (i := 451) (by decide +kernel)⟩
theorem lw_p14 : lw_okq (⟨"DimensionLines", "laidLanes", "()LDimensionLines$Lanes;"⟩, 8) := ⟨⟨by decide +kernel, by decide +kernel⟩, List.mem_of_getElem? (i := 12) (by decide +kernel), List.mem_of_getElem? (i := 493) (by decide +kernel), List.mem_of_getElem? (i := 494) (by decide +kernel)⟩
theorem lw_p15 : lw_okq (⟨"DimensionLines$Lanes", "measure", "(LDimensionLines$Drawing;II)V"⟩, 16) := ⟨⟨by decide +kernel, by decide +kernel⟩, List.mem_of_getElem? (i := 146) (by decide +kernel), List.mem_of_getElem? (i := 501) (by decide +kernel), List.mem_of_getElem? (i := 502) (by decide +kernel)⟩
def lw_privs_1 : List (MethodName × Nat) := [(⟨"DimensionLines$TextReader", "expect", "(I)V"⟩, 7), (⟨"DimensionLines$TextReader", "accept", "(I)Z"⟩, 7), (⟨"DimensionLines$TextReader", "next", "()I"⟩, 7), (⟨"DimensionLines$TextReader", "fail", "(II)V"⟩, 7), (⟨"DimensionLines$TextReader", "readPosition", "()V"⟩, 7), (⟨"DimensionLines$TextReader", "readNumber", "(I)I"⟩, 7), (⟨"DimensionLines$TextReader", "isDigitNext", "()Z"⟩, 7), (⟨"DimensionLines$TextReader", "demand", "(Z)V"⟩, 7), (⟨"DimensionLines$TextReader", "readDimension", "()V"⟩, 7), (⟨"DimensionLines$TextReader", "readUpTo", "(II)I"⟩, 7), (⟨"DimensionLines", "beginChange", "()V"⟩, 8), (⟨"DimensionLines", "forgetWhatWasWorkedOut", "()V"⟩, 8), (⟨"DimensionLines$Drawing", "renumberEnds", "(II)V"⟩, 11), (⟨"DimensionLines", "areTwoPoints", "(II)Z"⟩, 8), (⟨"DimensionLines", "laidLanes", "()LDimensionLines$Lanes;"⟩, 8), (⟨"DimensionLines$Lanes", "measure", "(LDimensionLines$Drawing;II)V"⟩, 16)]
theorem lw_r1 : ∀ q ∈ lw_privs_1, lw_okq q := List.forall_mem_cons.mpr ⟨lw_p0, List.forall_mem_cons.mpr ⟨lw_p1, List.forall_mem_cons.mpr ⟨lw_p2, List.forall_mem_cons.mpr ⟨lw_p3, List.forall_mem_cons.mpr ⟨lw_p4, List.forall_mem_cons.mpr ⟨lw_p5, List.forall_mem_cons.mpr ⟨lw_p6, List.forall_mem_cons.mpr ⟨lw_p7, List.forall_mem_cons.mpr ⟨lw_p8, List.forall_mem_cons.mpr ⟨lw_p9, List.forall_mem_cons.mpr ⟨lw_p10, List.forall_mem_cons.mpr ⟨lw_p11, List.forall_mem_cons.mpr ⟨lw_p12, List.forall_mem_cons.mpr ⟨lw_p13, List.forall_mem_cons.mpr ⟨lw_p14, List.forall_mem_cons.mpr ⟨lw_p15, fun _ h => absurd h List.not_mem_nil⟩⟩⟩⟩⟩⟩⟩⟩⟩⟩⟩⟩⟩⟩⟩⟩
theorem lw_p16 : lw_okq (⟨"DimensionLines$Lanes", "joinUnit", "(LDimensionLines$Drawing;I)V"⟩, 16) := ⟨⟨by decide +kernel, by decide +kernel⟩, List.mem_of_getElem? (i := 146) (by decide +kernel), List.mem_of_getElem? (i := 512) (by decide +kernel), List.mem_of_getElem? (i := 513) (by decide +kernel)⟩
theorem lw_p17 : lw_okq (⟨"DimensionLines$Lanes", "place", "(I)V"⟩, 16) := ⟨⟨by decide +kernel, by decide +kernel⟩, List.mem_of_getElem? (i := 146) (by decide +kernel), List.mem_of_getElem? (i := 521) (by decide +kernel), List.mem_of_getElem? (i := 522) (by decide +kernel)⟩
theorem lw_p18 : lw_okq (⟨"DimensionLines$Lanes", "comesBefore", "(II)Z"⟩, 16) := ⟨⟨by decide +kernel, by decide +kernel⟩, List.mem_of_getElem? (i := 146) (by decide +kernel), List.mem_of_getElem? (i := 525) (by decide +kernel), List.mem_of_getElem? (i := 526) (by decide +kernel)⟩
theorem lw_p19 : lw_okq (⟨"DimensionLines$Lanes", "lowestLaneFor", "(II)I"⟩, 16) := ⟨⟨by decide +kernel, by decide +kernel⟩, List.mem_of_getElem? (i := 146) (by decide +kernel), List.mem_of_getElem? (i := 529) (by decide +kernel), List.mem_of_getElem? (i := 530) (by decide +kernel)⟩
theorem lw_p20 : lw_okq (⟨"DimensionLines$Lanes", "isTaken", "(II)Z"⟩, 16) := ⟨⟨by decide +kernel, by decide +kernel⟩, List.mem_of_getElem? (i := 146) (by decide +kernel), List.mem_of_getElem? (i := 533) (by decide +kernel), List.mem_of_getElem? (i := 534) (by decide +kernel)⟩
theorem lw_p21 : lw_okq (⟨"DimensionLines$Lanes", "drawWitnessLines", "(LDimensionLines$Drawing;)V"⟩, 16) := ⟨⟨by decide +kernel, by decide +kernel⟩, List.mem_of_getElem? (i := 146) (by decide +kernel), List.mem_of_getElem? (i := 537) (by decide +kernel), List.mem_of_getElem? (i := 538) (by decide +kernel)⟩
theorem lw_p22 : lw_okq (⟨"DimensionLines$Lanes", "countCrossings", "(LDimensionLines$Drawing;I)V"⟩, 16) := ⟨⟨by decide +kernel, by decide +kernel⟩, List.mem_of_getElem? (i := 146) (by decide +kernel), List.mem_of_getElem? (i := 545) (by decide +kernel), List.mem_of_getElem? (i := 546) (by decide +kernel)⟩
theorem lw_p23 : lw_okq (⟨"DimensionLines", "knownBounds", "()LDimensionLines$Bounds;"⟩, 8) := ⟨⟨by decide +kernel, by decide +kernel⟩, List.mem_of_getElem? (i := 12) (by decide +kernel), List.mem_of_getElem? (i := 553) (by decide +kernel), List.mem_of_getElem? (i := 554) (by decide +kernel)⟩
theorem lw_p24 : lw_okq (⟨"DimensionLines$Bounds", "listSteps", "(LDimensionLines$Drawing;)V"⟩, 11) := ⟨⟨by decide +kernel, by decide +kernel⟩, List.mem_of_getElem? (i := 210) (by decide +kernel), List.mem_of_getElem? (i := 561) (by decide +kernel), List.mem_of_getElem? (i := 562) (by decide +kernel)⟩
theorem lw_p25 : lw_okq (⟨"DimensionLines$Bounds", "removeNone", "()V"⟩, 11) := ⟨⟨by decide +kernel, by decide +kernel⟩, List.mem_of_getElem? (i := 210) (by decide +kernel), List.mem_of_getElem? (i := 566) (by decide +kernel), List.mem_of_getElem? (i := 567) (by decide +kernel)⟩
theorem lw_p26 : lw_okq (⟨"DimensionLines$Bounds", "findWays", "(I[I)V"⟩, 11) := ⟨⟨by decide +kernel, by decide +kernel⟩, List.mem_of_getElem? (i := 210) (by decide +kernel), List.mem_of_getElem? (i := 570) (by decide +kernel), List.mem_of_getElem? (i := 571) (by decide +kernel)⟩
theorem lw_p27 : lw_okq (⟨"DimensionLines$Bounds", "formGroups", "(I)V"⟩, 11) := ⟨⟨by decide +kernel, by decide +kernel⟩, List.mem_of_getElem? (i := 210) (by decide +kernel), List.mem_of_getElem? (i := 576) (by decide +kernel), List.mem_of_getElem? (i := 577) (by decide +kernel)⟩
theorem lw_p28 : lw_okq (⟨"DimensionLines$Bounds", "isSuperfluous", "(I)Z"⟩, 11) := ⟨⟨by decide +kernel, by decide +kernel⟩, List.mem_of_getElem? (i := 210) (by decide +kernel), List.mem_of_getElem? (i := 584) (by decide +kernel), List.mem_of_getElem? (i := 585) (by decide +kernel)⟩
theorem lw_p29 : lw_okq (⟨"DimensionLines$Bounds", "greatestIfExact", "(LDimensionLines$Drawing;III)I"⟩, 11) := ⟨⟨by decide +kernel, by decide +kernel⟩, List.mem_of_getElem? (i := 210) (by decide +kernel), List.mem_of_getElem? (i := 610) (by decide +kernel), List.mem_of_getElem? (i := 611) (by decide +kernel)⟩
theorem lw_p30 : lw_okq (⟨"DimensionLines$Drawing", "nextInChain", "(II)I"⟩, 11) := ⟨⟨by decide +kernel, by decide +kernel⟩, List.mem_of_getElem? (i := 20) (by decide +kernel), List.mem_of_getElem? (i := 654) (by decide +kernel), List.mem_of_getElem? (i := 655) (by decide +kernel)⟩
theorem lw_p31 : lw_okq (⟨"DimensionLines", "hashOfPairs", "(J)J"⟩, 8) := ⟨⟨by decide +kernel, by decide +kernel⟩, List.mem_of_getElem? (i := 12) (by decide +kernel), List.mem_of_getElem? (i := 701) (by decide +kernel), List.mem_of_getElem? (i := 702) (by decide +kernel)⟩
def lw_privs_2 : List (MethodName × Nat) := [(⟨"DimensionLines$Lanes", "joinUnit", "(LDimensionLines$Drawing;I)V"⟩, 16), (⟨"DimensionLines$Lanes", "place", "(I)V"⟩, 16), (⟨"DimensionLines$Lanes", "comesBefore", "(II)Z"⟩, 16), (⟨"DimensionLines$Lanes", "lowestLaneFor", "(II)I"⟩, 16), (⟨"DimensionLines$Lanes", "isTaken", "(II)Z"⟩, 16), (⟨"DimensionLines$Lanes", "drawWitnessLines", "(LDimensionLines$Drawing;)V"⟩, 16), (⟨"DimensionLines$Lanes", "countCrossings", "(LDimensionLines$Drawing;I)V"⟩, 16), (⟨"DimensionLines", "knownBounds", "()LDimensionLines$Bounds;"⟩, 8), (⟨"DimensionLines$Bounds", "listSteps", "(LDimensionLines$Drawing;)V"⟩, 11), (⟨"DimensionLines$Bounds", "removeNone", "()V"⟩, 11), (⟨"DimensionLines$Bounds", "findWays", "(I[I)V"⟩, 11), (⟨"DimensionLines$Bounds", "formGroups", "(I)V"⟩, 11), (⟨"DimensionLines$Bounds", "isSuperfluous", "(I)Z"⟩, 11), (⟨"DimensionLines$Bounds", "greatestIfExact", "(LDimensionLines$Drawing;III)I"⟩, 11), (⟨"DimensionLines$Drawing", "nextInChain", "(II)I"⟩, 11), (⟨"DimensionLines", "hashOfPairs", "(J)J"⟩, 8)]
theorem lw_r2 : ∀ q ∈ lw_privs_2, lw_okq q := List.forall_mem_cons.mpr ⟨lw_p16, List.forall_mem_cons.mpr ⟨lw_p17, List.forall_mem_cons.mpr ⟨lw_p18, List.forall_mem_cons.mpr ⟨lw_p19, List.forall_mem_cons.mpr ⟨lw_p20, List.forall_mem_cons.mpr ⟨lw_p21, List.forall_mem_cons.mpr ⟨lw_p22, List.forall_mem_cons.mpr ⟨lw_p23, List.forall_mem_cons.mpr ⟨lw_p24, List.forall_mem_cons.mpr ⟨lw_p25, List.forall_mem_cons.mpr ⟨lw_p26, List.forall_mem_cons.mpr ⟨lw_p27, List.forall_mem_cons.mpr ⟨lw_p28, List.forall_mem_cons.mpr ⟨lw_p29, List.forall_mem_cons.mpr ⟨lw_p30, List.forall_mem_cons.mpr ⟨lw_p31, fun _ h => absurd h List.not_mem_nil⟩⟩⟩⟩⟩⟩⟩⟩⟩⟩⟩⟩⟩⟩⟩⟩
theorem lw_p32 : lw_okq (⟨"DimensionLinesModel", "copies", "(II)V"⟩, 16) := ⟨⟨by decide +kernel, by decide +kernel⟩, List.mem_of_getElem? (i := 709) (by decide +kernel), List.mem_of_getElem? (i := 768) (by decide +kernel), List.mem_of_getElem? (i := 769) (by decide +kernel)⟩
theorem lw_p33 : lw_okq (⟨"DimensionLinesModel", "pointWith", "(I)I"⟩, 16) := ⟨⟨by decide +kernel, by decide +kernel⟩, List.mem_of_getElem? (i := 709) (by decide +kernel), List.mem_of_getElem? (i := 779) (by decide +kernel), List.mem_of_getElem? (i := 780) (by decide +kernel)⟩
theorem lw_p34 : lw_okq (⟨"DimensionLinesModel", "position", "(I)I"⟩, 16) := ⟨⟨by decide +kernel, by decide +kernel⟩, List.mem_of_getElem? (i := 709) (by decide +kernel), List.mem_of_getElem? (i := 783) (by decide +kernel), List.mem_of_getElem? (i := 784) (by decide +kernel)⟩
theorem lw_p35 : lw_okq (⟨"DimensionLinesModel", "records", "()V"⟩, 16) := ⟨⟨by decide +kernel, by decide +kernel⟩, List.mem_of_getElem? (i := 709) (by decide +kernel), List.mem_of_getElem? (i := 787) (by decide +kernel), List.mem_of_getElem? (i := 788) (by decide +kernel)⟩
theorem lw_p36 : lw_okq (⟨"DimensionLinesModel", "comes", "(I)I"⟩, 16) := ⟨⟨by decide +kernel, by decide +kernel⟩, List.mem_of_getElem? (i := 709) (by decide +kernel), List.mem_of_getElem? (i := 791) (by decide +kernel), List.mem_of_getElem? (i := 792) (by decide +kernel)⟩
theorem lw_p37 : lw_okq (⟨"DimensionLinesModel", "of", "(II)I"⟩, 16) := ⟨⟨by decide +kernel, by decide +kernel⟩, List.mem_of_getElem? (i := 709) (by decide +kernel), List.mem_of_getElem? (i := 795) (by decide +kernel), List.mem_of_getElem? (i := 796) (by decide +kernel)⟩
theorem lw_p38 : lw_okq (⟨"DimensionLinesModel", "sets", "(III)V"⟩, 16) := ⟨⟨by decide +kernel, by decide +kernel⟩, List.mem_of_getElem? (i := 709) (by decide +kernel), List.mem_of_getElem? (i := 799) (by decide +kernel), List.mem_of_getElem? (i := 800) (by decide +kernel)⟩
theorem lw_p39 : lw_okq (⟨"DimensionLinesModel", "isPoint", "(I)Z"⟩, 16) := ⟨⟨by decide +kernel, by decide +kernel⟩, List.mem_of_getElem? (i := 709) (by decide +kernel), List.mem_of_getElem? (i := 807) (by decide +kernel), List.mem_of_getElem? (i := 808) (by decide +kernel)⟩
theorem lw_p40 : lw_okq (⟨"DimensionLinesModel", "goes", "(I)V"⟩, 16) := ⟨⟨by decide +kernel, by decide +kernel⟩, List.mem_of_getElem? (i := 709) (by decide +kernel), List.mem_of_getElem? (i := 811) (by decide +kernel), List.mem_of_getElem? (i := 812) (by decide +kernel)⟩
theorem lw_p41 : lw_okq (⟨"DimensionLinesModel", "ends", "(I)I"⟩, 16) := ⟨⟨by decide +kernel, by decide +kernel⟩, List.mem_of_getElem? (i := 709) (by decide +kernel), List.mem_of_getElem? (i := 819) (by decide +kernel), List.mem_of_getElem? (i := 820) (by decide +kernel)⟩
theorem lw_p42 : lw_okq (⟨"DimensionLinesModel", "lays", "(IIIII)V"⟩, 16) := ⟨⟨by decide +kernel, by decide +kernel⟩, List.mem_of_getElem? (i := 709) (by decide +kernel), List.mem_of_getElem? (i := 827) (by decide +kernel), List.mem_of_getElem? (i := 828) (by decide +kernel)⟩
theorem lw_p43 : lw_okq (⟨"DimensionLinesModel", "isDimension", "(I)Z"⟩, 16) := ⟨⟨by decide +kernel, by decide +kernel⟩, List.mem_of_getElem? (i := 709) (by decide +kernel), List.mem_of_getElem? (i := 835) (by decide +kernel), List.mem_of_getElem? (i := 836) (by decide +kernel)⟩
theorem lw_p44 : lw_okq (⟨"DimensionLinesModel", "becomes", "(III)I"⟩, 16) := ⟨⟨by decide +kernel, by decide +kernel⟩, List.mem_of_getElem? (i := 709) (by decide +kernel), List.mem_of_getElem? (i := 847) (by decide +kernel), List.mem_of_getElem? (i := 848) (by decide +kernel)⟩
theorem lw_p45 : lw_okq (⟨"DimensionLinesModel", "setting", "(II)I"⟩, 16) := ⟨⟨by decide +kernel, by decide +kernel⟩, List.mem_of_getElem? (i := 709) (by decide +kernel), List.mem_of_getElem? (i := 859) (by decide +kernel), List.mem_of_getElem? (i := 860) (by decide +kernel)⟩
theorem lw_p46 : lw_okq (⟨"DimensionLinesModel", "readsAll", "()V"⟩, 16) := ⟨⟨by decide +kernel, by decide +kernel⟩, List.mem_of_getElem? (i := 709) (by decide +kernel), List.mem_of_getElem? (i := 879) (by decide +kernel), List.mem_of_getElem? (i := 880) (by decide +kernel)⟩
theorem lw_p47 : lw_okq (⟨"DimensionLinesModel", "readsPositions", "()Z"⟩, 16) := ⟨⟨by decide +kernel, by decide +kernel⟩, List.mem_of_getElem? (i := 709) (by decide +kernel), List.mem_of_getElem? (i := 883) (by decide +kernel), List.mem_of_getElem? (i := 884) (by decide +kernel)⟩
def lw_privs_3 : List (MethodName × Nat) := [(⟨"DimensionLinesModel", "copies", "(II)V"⟩, 16), (⟨"DimensionLinesModel", "pointWith", "(I)I"⟩, 16), (⟨"DimensionLinesModel", "position", "(I)I"⟩, 16), (⟨"DimensionLinesModel", "records", "()V"⟩, 16), (⟨"DimensionLinesModel", "comes", "(I)I"⟩, 16), (⟨"DimensionLinesModel", "of", "(II)I"⟩, 16), (⟨"DimensionLinesModel", "sets", "(III)V"⟩, 16), (⟨"DimensionLinesModel", "isPoint", "(I)Z"⟩, 16), (⟨"DimensionLinesModel", "goes", "(I)V"⟩, 16), (⟨"DimensionLinesModel", "ends", "(I)I"⟩, 16), (⟨"DimensionLinesModel", "lays", "(IIIII)V"⟩, 16), (⟨"DimensionLinesModel", "isDimension", "(I)Z"⟩, 16), (⟨"DimensionLinesModel", "becomes", "(III)I"⟩, 16), (⟨"DimensionLinesModel", "setting", "(II)I"⟩, 16), (⟨"DimensionLinesModel", "readsAll", "()V"⟩, 16), (⟨"DimensionLinesModel", "readsPositions", "()Z"⟩, 16)]
theorem lw_r3 : ∀ q ∈ lw_privs_3, lw_okq q := List.forall_mem_cons.mpr ⟨lw_p32, List.forall_mem_cons.mpr ⟨lw_p33, List.forall_mem_cons.mpr ⟨lw_p34, List.forall_mem_cons.mpr ⟨lw_p35, List.forall_mem_cons.mpr ⟨lw_p36, List.forall_mem_cons.mpr ⟨lw_p37, List.forall_mem_cons.mpr ⟨lw_p38, List.forall_mem_cons.mpr ⟨lw_p39, List.forall_mem_cons.mpr ⟨lw_p40, List.forall_mem_cons.mpr ⟨lw_p41, List.forall_mem_cons.mpr ⟨lw_p42, List.forall_mem_cons.mpr ⟨lw_p43, List.forall_mem_cons.mpr ⟨lw_p44, List.forall_mem_cons.mpr ⟨lw_p45, List.forall_mem_cons.mpr ⟨lw_p46, List.forall_mem_cons.mpr ⟨lw_p47, fun _ h => absurd h List.not_mem_nil⟩⟩⟩⟩⟩⟩⟩⟩⟩⟩⟩⟩⟩⟩⟩⟩
theorem lw_p48 : lw_okq (⟨"DimensionLinesModel", "reads", "(I)Z"⟩, 16) := ⟨⟨by decide +kernel, by decide +kernel⟩, List.mem_of_getElem? (i := 709) (by decide +kernel), List.mem_of_getElem? (i := 887) (by decide +kernel), List.mem_of_getElem? (i := 888) (by decide +kernel)⟩
theorem lw_p49 : lw_okq (⟨"DimensionLinesModel", "here", "()I"⟩, 16) := ⟨⟨by decide +kernel, by decide +kernel⟩, List.mem_of_getElem? (i := 709) (by decide +kernel), List.mem_of_getElem? (i := 891) (by decide +kernel), List.mem_of_getElem? (i := 892) (by decide +kernel)⟩
theorem lw_p50 : lw_okq (⟨"DimensionLinesModel", "fails", "(II)Z"⟩, 16) := ⟨⟨by decide +kernel, by decide +kernel⟩, List.mem_of_getElem? (i := 709) (by decide +kernel), List.mem_of_getElem? (i := 895) (by decide +kernel), List.mem_of_getElem? (i := 896) (by decide +kernel)⟩
theorem lw_p51 : lw_okq (⟨"DimensionLinesModel", "readsNumber", "(III)Z"⟩, 16) := ⟨⟨by decide +kernel, by decide +kernel⟩, List.mem_of_getElem? (i := 709) (by decide +kernel), List.mem_of_getElem? (i := 899) (by decide +kernel), List.mem_of_getElem? (i := 900) (by decide +kernel)⟩
theorem lw_p52 : lw_okq (⟨"DimensionLinesModel", "isDigit", "()Z"⟩, 16) := ⟨⟨by decide +kernel, by decide +kernel⟩, List.mem_of_getElem? (i := 709) (by decide +kernel), List.mem_of_getElem? (i := 903) (by decide +kernel), List.mem_of_getElem? (i := 904) (by decide +kernel)⟩
theorem lw_p53 : lw_okq (⟨"DimensionLinesModel", "readsDimension", "()Z"⟩, 16) := ⟨⟨by decide +kernel, by decide +kernel⟩, List.mem_of_getElem? (i := 709) (by decide +kernel), List.mem_of_getElem? (i := 907) (by decide +kernel), List.mem_of_getElem? (i := 908) (by decide +kernel)⟩
theorem lw_p54 : lw_okq (⟨"DimensionLinesModel", "readsBehind", "(IIII)Z"⟩, 16) := ⟨⟨by decide +kernel, by decide +kernel⟩, List.mem_of_getElem? (i := 709) (by decide +kernel), List.mem_of_getElem? (i := 911) (by decide +kernel), List.mem_of_getElem? (i := 912) (by decide +kernel)⟩
theorem lw_p55 : lw_okq (⟨"DimensionLinesModel", "laysDistances", "(II)V"⟩, 16) := ⟨⟨by decide +kernel, by decide +kernel⟩, List.mem_of_getElem? (i := 709) (by decide +kernel), List.mem_of_getElem? (i := 923) (by decide +kernel), List.mem_of_getElem? (i := 924) (by decide +kernel)⟩
theorem lw_p56 : lw_okq (⟨"DimensionLinesModel", "value", "(I)I"⟩, 16) := ⟨⟨by decide +kernel, by decide +kernel⟩, List.mem_of_getElem? (i := 709) (by decide +kernel), List.mem_of_getElem? (i := 928) (by decide +kernel), List.mem_of_getElem? (i := 929) (by decide +kernel)⟩
theorem lw_p57 : lw_okq (⟨"DimensionLinesModel", "to", "(I)I"⟩, 16) := ⟨⟨by decide +kernel, by decide +kernel⟩, List.mem_of_getElem? (i := 709) (by decide +kernel), List.mem_of_getElem? (i := 932) (by decide +kernel), List.mem_of_getElem? (i := 933) (by decide +kernel)⟩
theorem lw_p58 : lw_okq (⟨"DimensionLinesModel", "from", "(I)I"⟩, 16) := ⟨⟨by decide +kernel, by decide +kernel⟩, List.mem_of_getElem? (i := 709) (by decide +kernel), List.mem_of_getElem? (i := 936) (by decide +kernel), List.mem_of_getElem? (i := 937) (by decide +kernel)⟩
theorem lw_p59 : lw_okq (⟨"DimensionLinesModel", "bounds", "(III)V"⟩, 16) := ⟨⟨by decide +kernel, by decide +kernel⟩, List.mem_of_getElem? (i := 709) (by decide +kernel), List.mem_of_getElem? (i := 940) (by decide +kernel), List.mem_of_getElem? (i := 941) (by decide +kernel)⟩
theorem lw_p60 : lw_okq (⟨"DimensionLinesModel", "group", "(I)I"⟩, 16) := ⟨⟨by decide +kernel, by decide +kernel⟩, List.mem_of_getElem? (i := 709) (by decide +kernel), List.mem_of_getElem? (i := 944) (by decide +kernel), List.mem_of_getElem? (i := 945) (by decide +kernel)⟩
theorem lw_p61 : lw_okq (⟨"DimensionLinesModel", "areBound", "(II)Z"⟩, 16) := ⟨⟨by decide +kernel, by decide +kernel⟩, List.mem_of_getElem? (i := 709) (by decide +kernel), List.mem_of_getElem? (i := 948) (by decide +kernel), List.mem_of_getElem? (i := 949) (by decide +kernel)⟩
theorem lw_p62 : lw_okq (⟨"DimensionLinesModel", "groupOfFirst", "(I)I"⟩, 16) := ⟨⟨by decide +kernel, by decide +kernel⟩, List.mem_of_getElem? (i := 709) (by decide +kernel), List.mem_of_getElem? (i := 952) (by decide +kernel), List.mem_of_getElem? (i := 953) (by decide +kernel)⟩
theorem lw_p63 : lw_okq (⟨"DimensionLinesModel", "isFirst", "(I)Z"⟩, 16) := ⟨⟨by decide +kernel, by decide +kernel⟩, List.mem_of_getElem? (i := 709) (by decide +kernel), List.mem_of_getElem? (i := 956) (by decide +kernel), List.mem_of_getElem? (i := 957) (by decide +kernel)⟩
def lw_privs_4 : List (MethodName × Nat) := [(⟨"DimensionLinesModel", "reads", "(I)Z"⟩, 16), (⟨"DimensionLinesModel", "here", "()I"⟩, 16), (⟨"DimensionLinesModel", "fails", "(II)Z"⟩, 16), (⟨"DimensionLinesModel", "readsNumber", "(III)Z"⟩, 16), (⟨"DimensionLinesModel", "isDigit", "()Z"⟩, 16), (⟨"DimensionLinesModel", "readsDimension", "()Z"⟩, 16), (⟨"DimensionLinesModel", "readsBehind", "(IIII)Z"⟩, 16), (⟨"DimensionLinesModel", "laysDistances", "(II)V"⟩, 16), (⟨"DimensionLinesModel", "value", "(I)I"⟩, 16), (⟨"DimensionLinesModel", "to", "(I)I"⟩, 16), (⟨"DimensionLinesModel", "from", "(I)I"⟩, 16), (⟨"DimensionLinesModel", "bounds", "(III)V"⟩, 16), (⟨"DimensionLinesModel", "group", "(I)I"⟩, 16), (⟨"DimensionLinesModel", "areBound", "(II)Z"⟩, 16), (⟨"DimensionLinesModel", "groupOfFirst", "(I)I"⟩, 16), (⟨"DimensionLinesModel", "isFirst", "(I)Z"⟩, 16)]
theorem lw_r4 : ∀ q ∈ lw_privs_4, lw_okq q := List.forall_mem_cons.mpr ⟨lw_p48, List.forall_mem_cons.mpr ⟨lw_p49, List.forall_mem_cons.mpr ⟨lw_p50, List.forall_mem_cons.mpr ⟨lw_p51, List.forall_mem_cons.mpr ⟨lw_p52, List.forall_mem_cons.mpr ⟨lw_p53, List.forall_mem_cons.mpr ⟨lw_p54, List.forall_mem_cons.mpr ⟨lw_p55, List.forall_mem_cons.mpr ⟨lw_p56, List.forall_mem_cons.mpr ⟨lw_p57, List.forall_mem_cons.mpr ⟨lw_p58, List.forall_mem_cons.mpr ⟨lw_p59, List.forall_mem_cons.mpr ⟨lw_p60, List.forall_mem_cons.mpr ⟨lw_p61, List.forall_mem_cons.mpr ⟨lw_p62, List.forall_mem_cons.mpr ⟨lw_p63, fun _ h => absurd h List.not_mem_nil⟩⟩⟩⟩⟩⟩⟩⟩⟩⟩⟩⟩⟩⟩⟩⟩
theorem lw_p64 : lw_okq (⟨"DimensionLinesModel", "laysLanes", "()V"⟩, 16) := ⟨⟨by decide +kernel, by decide +kernel⟩, List.mem_of_getElem? (i := 709) (by decide +kernel), List.mem_of_getElem? (i := 960) (by decide +kernel), List.mem_of_getElem? (i := 961) (by decide +kernel)⟩
theorem lw_p65 : lw_okq (⟨"DimensionLinesModel", "laysUnits", "()V"⟩, 16) := ⟨⟨by decide +kernel, by decide +kernel⟩, List.mem_of_getElem? (i := 709) (by decide +kernel), List.mem_of_getElem? (i := 964) (by decide +kernel), List.mem_of_getElem? (i := 965) (by decide +kernel)⟩
theorem lw_p66 : lw_okq (⟨"DimensionLinesModel", "unitOf", "(I)I"⟩, 16) := ⟨⟨by decide +kernel, by decide +kernel⟩, List.mem_of_getElem? (i := 709) (by decide +kernel), List.mem_of_getElem? (i := 968) (by decide +kernel), List.mem_of_getElem? (i := 969) (by decide +kernel)⟩
theorem lw_p67 : lw_okq (⟨"DimensionLinesModel", "nextUnit", "()I"⟩, 16) := ⟨⟨by decide +kernel, by decide +kernel⟩, List.mem_of_getElem? (i := 709) (by decide +kernel), List.mem_of_getElem? (i := 972) (by decide +kernel), List.mem_of_getElem? (i := 973) (by decide +kernel)⟩
theorem lw_p68 : lw_okq (⟨"DimensionLinesModel", "isUnit", "(I)Z"⟩, 16) := ⟨⟨by decide +kernel, by decide +kernel⟩, List.mem_of_getElem? (i := 709) (by decide +kernel), List.mem_of_getElem? (i := 976) (by decide +kernel), List.mem_of_getElem? (i := 977) (by decide +kernel)⟩
theorem lw_p69 : lw_okq (⟨"DimensionLinesModel", "isSooner", "(II)Z"⟩, 16) := ⟨⟨by decide +kernel, by decide +kernel⟩, List.mem_of_getElem? (i := 709) (by decide +kernel), List.mem_of_getElem? (i := 980) (by decide +kernel), List.mem_of_getElem? (i := 981) (by decide +kernel)⟩
theorem lw_p70 : lw_okq (⟨"DimensionLinesModel", "covers", "(II)Z"⟩, 16) := ⟨⟨by decide +kernel, by decide +kernel⟩, List.mem_of_getElem? (i := 709) (by decide +kernel), List.mem_of_getElem? (i := 984) (by decide +kernel), List.mem_of_getElem? (i := 985) (by decide +kernel)⟩
theorem lw_p71 : lw_okq (⟨"DimensionLinesModel", "meets", "(II)Z"⟩, 16) := ⟨⟨by decide +kernel, by decide +kernel⟩, List.mem_of_getElem? (i := 709) (by decide +kernel), List.mem_of_getElem? (i := 988) (by decide +kernel), List.mem_of_getElem? (i := 989) (by decide +kernel)⟩
theorem lw_p72 : lw_okq (⟨"DimensionLinesModel", "begins", "(I)I"⟩, 16) := ⟨⟨by decide +kernel, by decide +kernel⟩, List.mem_of_getElem? (i := 709) (by decide +kernel), List.mem_of_getElem? (i := 992) (by decide +kernel), List.mem_of_getElem? (i := 993) (by decide +kernel)⟩
theorem lw_p73 : lw_okq (⟨"DimensionLinesModel", "form", "(I)I"⟩, 16) := ⟨⟨by decide +kernel, by decide +kernel⟩, List.mem_of_getElem? (i := 709) (by decide +kernel), List.mem_of_getElem? (i := 996) (by decide +kernel), List.mem_of_getElem? (i := 997) (by decide +kernel)⟩
theorem lw_p74 : lw_okq (⟨"DimensionLinesModel", "width", "(I)I"⟩, 16) := ⟨⟨by decide +kernel, by decide +kernel⟩, List.mem_of_getElem? (i := 709) (by decide +kernel), List.mem_of_getElem? (i := 1000) (by decide +kernel), List.mem_of_getElem? (i := 1001) (by decide +kernel)⟩
theorem lw_p75 : lw_okq (⟨"DimensionLinesModel", "reaches", "(I)I"⟩, 16) := ⟨⟨by decide +kernel, by decide +kernel⟩, List.mem_of_getElem? (i := 709) (by decide +kernel), List.mem_of_getElem? (i := 1004) (by decide +kernel), List.mem_of_getElem? (i := 1005) (by decide +kernel)⟩
theorem lw_p76 : lw_okq (⟨"DimensionLinesModel", "witness", "(I)I"⟩, 16) := ⟨⟨by decide +kernel, by decide +kernel⟩, List.mem_of_getElem? (i := 709) (by decide +kernel), List.mem_of_getElem? (i := 1008) (by decide +kernel), List.mem_of_getElem? (i := 1009) (by decide +kernel)⟩
theorem lw_p77 : lw_okq (⟨"DimensionLinesModel", "laneOf", "(I)I"⟩, 16) := ⟨⟨by decide +kernel, by decide +kernel⟩, List.mem_of_getElem? (i := 709) (by decide +kernel), List.mem_of_getElem? (i := 1012) (by decide +kernel), List.mem_of_getElem? (i := 1013) (by decide +kernel)⟩
theorem lw_p78 : lw_okq (⟨"DimensionLinesModel", "crossings", "(II)I"⟩, 16) := ⟨⟨by decide +kernel, by decide +kernel⟩, List.mem_of_getElem? (i := 709) (by decide +kernel), List.mem_of_getElem? (i := 1016) (by decide +kernel), List.mem_of_getElem? (i := 1017) (by decide +kernel)⟩
theorem lw_p79 : lw_okq (⟨"DimensionLinesModel", "crosses", "(II)Z"⟩, 16) := ⟨⟨by decide +kernel, by decide +kernel⟩, List.mem_of_getElem? (i := 709) (by decide +kernel), List.mem_of_getElem? (i := 1020) (by decide +kernel), List.mem_of_getElem? (i := 1021) (by decide +kernel)⟩
def lw_privs_5 : List (MethodName × Nat) := [(⟨"DimensionLinesModel", "laysLanes", "()V"⟩, 16), (⟨"DimensionLinesModel", "laysUnits", "()V"⟩, 16), (⟨"DimensionLinesModel", "unitOf", "(I)I"⟩, 16), (⟨"DimensionLinesModel", "nextUnit", "()I"⟩, 16), (⟨"DimensionLinesModel", "isUnit", "(I)Z"⟩, 16), (⟨"DimensionLinesModel", "isSooner", "(II)Z"⟩, 16), (⟨"DimensionLinesModel", "covers", "(II)Z"⟩, 16), (⟨"DimensionLinesModel", "meets", "(II)Z"⟩, 16), (⟨"DimensionLinesModel", "begins", "(I)I"⟩, 16), (⟨"DimensionLinesModel", "form", "(I)I"⟩, 16), (⟨"DimensionLinesModel", "width", "(I)I"⟩, 16), (⟨"DimensionLinesModel", "reaches", "(I)I"⟩, 16), (⟨"DimensionLinesModel", "witness", "(I)I"⟩, 16), (⟨"DimensionLinesModel", "laneOf", "(I)I"⟩, 16), (⟨"DimensionLinesModel", "crossings", "(II)I"⟩, 16), (⟨"DimensionLinesModel", "crosses", "(II)Z"⟩, 16)]
theorem lw_r5 : ∀ q ∈ lw_privs_5, lw_okq q := List.forall_mem_cons.mpr ⟨lw_p64, List.forall_mem_cons.mpr ⟨lw_p65, List.forall_mem_cons.mpr ⟨lw_p66, List.forall_mem_cons.mpr ⟨lw_p67, List.forall_mem_cons.mpr ⟨lw_p68, List.forall_mem_cons.mpr ⟨lw_p69, List.forall_mem_cons.mpr ⟨lw_p70, List.forall_mem_cons.mpr ⟨lw_p71, List.forall_mem_cons.mpr ⟨lw_p72, List.forall_mem_cons.mpr ⟨lw_p73, List.forall_mem_cons.mpr ⟨lw_p74, List.forall_mem_cons.mpr ⟨lw_p75, List.forall_mem_cons.mpr ⟨lw_p76, List.forall_mem_cons.mpr ⟨lw_p77, List.forall_mem_cons.mpr ⟨lw_p78, List.forall_mem_cons.mpr ⟨lw_p79, fun _ h => absurd h List.not_mem_nil⟩⟩⟩⟩⟩⟩⟩⟩⟩⟩⟩⟩⟩⟩⟩⟩
theorem lw_p80 : lw_okq (⟨"DimensionLinesModel", "isSuperfluous", "(II)Z"⟩, 16) := ⟨⟨by decide +kernel, by decide +kernel⟩, List.mem_of_getElem? (i := 709) (by decide +kernel), List.mem_of_getElem? (i := 1028) (by decide +kernel), List.mem_of_getElem? (i := 1029) (by decide +kernel)⟩
theorem lw_p81 : lw_okq (⟨"DimensionLinesModel", "arePoints", "(II)Z"⟩, 16) := ⟨⟨by decide +kernel, by decide +kernel⟩, List.mem_of_getElem? (i := 709) (by decide +kernel), List.mem_of_getElem? (i := 1043) (by decide +kernel), List.mem_of_getElem? (i := 1044) (by decide +kernel)⟩
theorem lw_p82 : lw_okq (⟨"DimensionLinesModel", "adds", "(III)I"⟩, 16) := ⟨⟨by decide +kernel, by decide +kernel⟩, List.mem_of_getElem? (i := 709) (by decide +kernel), List.mem_of_getElem? (i := 1051) (by decide +kernel), List.mem_of_getElem? (i := 1052) (by decide +kernel)⟩
theorem lw_p83 : lw_okq (⟨"DimensionLinesModel", "range", "(II)I"⟩, 16) := ⟨⟨by decide +kernel, by decide +kernel⟩, List.mem_of_getElem? (i := 709) (by decide +kernel), List.mem_of_getElem? (i := 1055) (by decide +kernel), List.mem_of_getElem? (i := 1056) (by decide +kernel)⟩
theorem lw_p84 : lw_okq (⟨"DimensionLinesModel", "sumOf", "(II)I"⟩, 16) := ⟨⟨by decide +kernel, by decide +kernel⟩, List.mem_of_getElem? (i := 709) (by decide +kernel), List.mem_of_getElem? (i := 1071) (by decide +kernel), List.mem_of_getElem? (i := 1072) (by decide +kernel)⟩
theorem lw_p85 : lw_okq (⟨"DimensionLinesModel", "endOf", "(IZ)I"⟩, 16) := ⟨⟨by decide +kernel, by decide +kernel⟩, List.mem_of_getElem? (i := 709) (by decide +kernel), List.mem_of_getElem? (i := 1075) (by decide +kernel), List.mem_of_getElem? (i := 1076) (by decide +kernel)⟩
theorem lw_p86 : lw_okq (⟨"DimensionLinesModel", "isClosed", "(I)Z"⟩, 16) := ⟨⟨by decide +kernel, by decide +kernel⟩, List.mem_of_getElem? (i := 709) (by decide +kernel), List.mem_of_getElem? (i := 1079) (by decide +kernel), List.mem_of_getElem? (i := 1080) (by decide +kernel)⟩
theorem lw_p87 : lw_okq (⟨"DimensionLinesModel", "over", "(I)I"⟩, 16) := ⟨⟨by decide +kernel, by decide +kernel⟩, List.mem_of_getElem? (i := 709) (by decide +kernel), List.mem_of_getElem? (i := 1083) (by decide +kernel), List.mem_of_getElem? (i := 1084) (by decide +kernel)⟩
theorem lw_p88 : lw_okq (⟨"DimensionLinesModel", "laneOfChain", "(I)I"⟩, 16) := ⟨⟨by decide +kernel, by decide +kernel⟩, List.mem_of_getElem? (i := 709) (by decide +kernel), List.mem_of_getElem? (i := 1087) (by decide +kernel), List.mem_of_getElem? (i := 1088) (by decide +kernel)⟩
theorem lw_p89 : lw_okq (⟨"DimensionLinesModel", "lanes", "()I"⟩, 16) := ⟨⟨by decide +kernel, by decide +kernel⟩, List.mem_of_getElem? (i := 709) (by decide +kernel), List.mem_of_getElem? (i := 1095) (by decide +kernel), List.mem_of_getElem? (i := 1096) (by decide +kernel)⟩
theorem lw_p90 : lw_okq (⟨"DimensionLinesModel", "units", "()I"⟩, 16) := ⟨⟨by decide +kernel, by decide +kernel⟩, List.mem_of_getElem? (i := 709) (by decide +kernel), List.mem_of_getElem? (i := 1103) (by decide +kernel), List.mem_of_getElem? (i := 1104) (by decide +kernel)⟩
theorem lw_p91 : lw_okq (⟨"DimensionLinesModel", "groups", "()I"⟩, 16) := ⟨⟨by decide +kernel, by decide +kernel⟩, List.mem_of_getElem? (i := 709) (by decide +kernel), List.mem_of_getElem? (i := 1107) (by decide +kernel), List.mem_of_getElem? (i := 1108) (by decide +kernel)⟩
theorem lw_p92 : lw_okq (⟨"DimensionLinesModel", "superfluous", "()I"⟩, 16) := ⟨⟨by decide +kernel, by decide +kernel⟩, List.mem_of_getElem? (i := 709) (by decide +kernel), List.mem_of_getElem? (i := 1111) (by decide +kernel), List.mem_of_getElem? (i := 1112) (by decide +kernel)⟩
theorem lw_p93 : lw_okq (⟨"DimensionLinesModel", "mixes", "(I)V"⟩, 16) := ⟨⟨by decide +kernel, by decide +kernel⟩, List.mem_of_getElem? (i := 709) (by decide +kernel), List.mem_of_getElem? (i := 1121) (by decide +kernel), List.mem_of_getElem? (i := 1122) (by decide +kernel)⟩
def lw_privs_6 : List (MethodName × Nat) := [(⟨"DimensionLinesModel", "isSuperfluous", "(II)Z"⟩, 16), (⟨"DimensionLinesModel", "arePoints", "(II)Z"⟩, 16), (⟨"DimensionLinesModel", "adds", "(III)I"⟩, 16), (⟨"DimensionLinesModel", "range", "(II)I"⟩, 16), (⟨"DimensionLinesModel", "sumOf", "(II)I"⟩, 16), (⟨"DimensionLinesModel", "endOf", "(IZ)I"⟩, 16), (⟨"DimensionLinesModel", "isClosed", "(I)Z"⟩, 16), (⟨"DimensionLinesModel", "over", "(I)I"⟩, 16), (⟨"DimensionLinesModel", "laneOfChain", "(I)I"⟩, 16), (⟨"DimensionLinesModel", "lanes", "()I"⟩, 16), (⟨"DimensionLinesModel", "units", "()I"⟩, 16), (⟨"DimensionLinesModel", "groups", "()I"⟩, 16), (⟨"DimensionLinesModel", "superfluous", "()I"⟩, 16), (⟨"DimensionLinesModel", "mixes", "(I)V"⟩, 16)]
theorem lw_r6 : ∀ q ∈ lw_privs_6, lw_okq q := List.forall_mem_cons.mpr ⟨lw_p80, List.forall_mem_cons.mpr ⟨lw_p81, List.forall_mem_cons.mpr ⟨lw_p82, List.forall_mem_cons.mpr ⟨lw_p83, List.forall_mem_cons.mpr ⟨lw_p84, List.forall_mem_cons.mpr ⟨lw_p85, List.forall_mem_cons.mpr ⟨lw_p86, List.forall_mem_cons.mpr ⟨lw_p87, List.forall_mem_cons.mpr ⟨lw_p88, List.forall_mem_cons.mpr ⟨lw_p89, List.forall_mem_cons.mpr ⟨lw_p90, List.forall_mem_cons.mpr ⟨lw_p91, List.forall_mem_cons.mpr ⟨lw_p92, List.forall_mem_cons.mpr ⟨lw_p93, fun _ h => absurd h List.not_mem_nil⟩⟩⟩⟩⟩⟩⟩⟩⟩⟩⟩⟩⟩⟩
def lw_privs : List (MethodName × Nat) := lw_privs_1 ++ (lw_privs_2 ++ (lw_privs_3 ++ (lw_privs_4 ++ (lw_privs_5 ++ (lw_privs_6)))))
def lw_tbl : List Cond := k2_sels lw_privs ++ tables_1
theorem lw_privs_ok : ∀ q ∈ lw_privs, lw_okq q := by
  show ∀ q ∈ lw_privs_1 ++ (lw_privs_2 ++ (lw_privs_3 ++ (lw_privs_4 ++ (lw_privs_5 ++ (lw_privs_6))))), lw_okq q
  exact List.forall_mem_append.mpr ⟨lw_r1, List.forall_mem_append.mpr ⟨lw_r2, List.forall_mem_append.mpr ⟨lw_r3, List.forall_mem_append.mpr ⟨lw_r4, List.forall_mem_append.mpr ⟨lw_r5, lw_r6⟩⟩⟩⟩⟩
end
section
def RX0 : String := "DimensionLines$Bounds"
def TX0 : u_T := fun k => match k with
  | 0 => ("DimensionLines$Bounds", "greatest", "[[I", true)
  | 1 => ("DimensionLines$Bounds", "group", "[I", true)
  | 2 => ("DimensionLines$Bounds", "superfluous", "[Z", true)
  | 3 => ("DimensionLines$Bounds", "groupCount", "I", false)
  | 4 => ("DimensionLines$Bounds", "superfluousCount", "I", false)
  | 5 => ("DimensionLines$Bounds", "dimensionCount", "I", false)
  | 6 => ("DimensionLines$Bounds", "removed", "[Z", true)
  | 7 => ("DimensionLines$Bounds", "ways", "[I", true)
  | 8 => ("DimensionLines$Bounds", "stepFrom", "[I", true)
  | 9 => ("DimensionLines$Bounds", "stepTo", "[I", true)
  | _ => ("DimensionLines$Bounds", "stepLength", "[I", true)
def tyX0 : Nat → FieldType := fun k => match k with
  | 0 => .array (.array .int)
  | 1 => .array .int
  | 2 => .array .boolean
  | 3 => .int
  | 4 => .int
  | 5 => .int
  | 6 => .array .boolean
  | 7 => .array .int
  | 8 => .array .int
  | 9 => .array .int
  | _ => .array .int
abbrev wsX00 : List Cond := u_ws RX0 TX0 11
theorem nmX0 : ∀ a, a < 11 → ∀ b, b < 11 → a ≠ b → (TX0 a).2.1 ≠ (TX0 b).2.1 := by decide +kernel
theorem tyX0_ok : ∀ k, k < 11 → parseFieldDescriptor (TX0 k).2.2.1 = some (tyX0 k) := by decide +kernel
abbrev cX0_init : ByteArray := prog_2_method_1_code
def yX0_init : MethodName := ⟨RX0, "<init>", "()V"⟩
abbrev cX0_workOut : ByteArray := prog_2_method_2_code
def yX0_workOut : MethodName := ⟨RX0, "workOut", "(LDimensionLines$Drawing;)V"⟩
abbrev cX0_areBound : ByteArray := prog_2_method_3_code
def yX0_areBound : MethodName := ⟨RX0, "areBound", "(II)Z"⟩
abbrev cX0_gain : ByteArray := prog_2_method_4_code
def yX0_gain : MethodName := ⟨RX0, "gain", "(LDimensionLines$Drawing;III)I"⟩
abbrev cX0_bestToMakeExact : ByteArray := prog_2_method_5_code
def yX0_bestToMakeExact : MethodName := ⟨RX0, "bestToMakeExact", "(LDimensionLines$Drawing;II)I"⟩
abbrev cX0_countLeft : ByteArray := prog_2_method_6_code
def yX0_countLeft : MethodName := ⟨RX0, "countLeft", "()I"⟩
abbrev cX0_greatestIfExact : ByteArray := prog_2_method_7_code
def yX0_greatestIfExact : MethodName := ⟨RX0, "greatestIfExact", "(LDimensionLines$Drawing;III)I"⟩
abbrev cX0_listSteps : ByteArray := prog_2_method_8_code
def yX0_listSteps : MethodName := ⟨RX0, "listSteps", "(LDimensionLines$Drawing;)V"⟩
abbrev cX0_removeNone : ByteArray := prog_2_method_9_code
def yX0_removeNone : MethodName := ⟨RX0, "removeNone", "()V"⟩
abbrev cX0_isSuperfluous : ByteArray := prog_2_method_10_code
def yX0_isSuperfluous : MethodName := ⟨RX0, "isSuperfluous", "(I)Z"⟩
abbrev cX0_findWays : ByteArray := prog_2_method_11_code
def yX0_findWays : MethodName := ⟨RX0, "findWays", "(I[I)V"⟩
abbrev cX0_formGroups : ByteArray := prog_2_method_12_code
def yX0_formGroups : MethodName := ⟨RX0, "formGroups", "(I)V"⟩
def RX1 : String := "DimensionLines$Drawing"
def TX1 : u_T := fun k => match k with
  | 0 => ("DimensionLines$Drawing", "positions", "[I", true)
  | 1 => ("DimensionLines$Drawing", "first", "[I", true)
  | 2 => ("DimensionLines$Drawing", "second", "[I", true)
  | 3 => ("DimensionLines$Drawing", "minus", "[I", true)
  | 4 => ("DimensionLines$Drawing", "plus", "[I", true)
  | 5 => ("DimensionLines$Drawing", "chainOf", "[I", true)
  | 6 => ("DimensionLines$Drawing", "least", "[I", true)
  | 7 => ("DimensionLines$Drawing", "pointCount", "I", false)
  | 8 => ("DimensionLines$Drawing", "dimensionCount", "I", false)
  | 9 => ("DimensionLines$Drawing", "letter", "I", false)
  | _ => ("DimensionLines$Drawing", "arrow", "I", false)
def tyX1 : Nat → FieldType := fun k => match k with
  | 0 => .array .int
  | 1 => .array .int
  | 2 => .array .int
  | 3 => .array .int
  | 4 => .array .int
  | 5 => .array .int
  | 6 => .array .int
  | 7 => .int
  | 8 => .int
  | 9 => .int
  | _ => .int
abbrev wsX10 : List Cond := u_ws RX1 TX1 11
theorem nmX1 : ∀ a, a < 11 → ∀ b, b < 11 → a ≠ b → (TX1 a).2.1 ≠ (TX1 b).2.1 := by decide +kernel
theorem tyX1_ok : ∀ k, k < 11 → parseFieldDescriptor (TX1 k).2.2.1 = some (tyX1 k) := by decide +kernel
abbrev cX1_init : ByteArray := prog_3_method_1_code
def yX1_init : MethodName := ⟨RX1, "<init>", "()V"⟩
abbrev cX1_copyFrom : ByteArray := prog_3_method_2_code
def yX1_copyFrom : MethodName := ⟨RX1, "copyFrom", "(LDimensionLines$Drawing;)V"⟩
abbrev cX1_copyContentFrom : ByteArray := prog_3_method_3_code
def yX1_copyContentFrom : MethodName := ⟨RX1, "copyContentFrom", "(LDimensionLines$Drawing;)V"⟩
abbrev cX1_hasPoint : ByteArray := prog_3_method_4_code
def yX1_hasPoint : MethodName := ⟨RX1, "hasPoint", "(I)Z"⟩
abbrev cX1_hasDimension : ByteArray := prog_3_method_5_code
def yX1_hasDimension : MethodName := ⟨RX1, "hasDimension", "(I)Z"⟩
abbrev cX1_hasPointAt : ByteArray := prog_3_method_6_code
def yX1_hasPointAt : MethodName := ⟨RX1, "hasPointAt", "(I)Z"⟩
abbrev cX1_countPointsBefore : ByteArray := prog_3_method_7_code
def yX1_countPointsBefore : MethodName := ⟨RX1, "countPointsBefore", "(I)I"⟩
abbrev cX1_isEnd : ByteArray := prog_3_method_8_code
def yX1_isEnd : MethodName := ⟨RX1, "isEnd", "(II)Z"⟩
abbrev cX1_countDimensionsAt : ByteArray := prog_3_method_9_code
def yX1_countDimensionsAt : MethodName := ⟨RX1, "countDimensionsAt", "(I)I"⟩
abbrev cX1_valueOf : ByteArray := prog_3_method_10_code
def yX1_valueOf : MethodName := ⟨RX1, "valueOf", "(I)I"⟩
abbrev cX1_insertPoint : ByteArray := prog_3_method_11_code
def yX1_insertPoint : MethodName := ⟨RX1, "insertPoint", "(I)I"⟩
abbrev cX1_shiftPoint : ByteArray := prog_3_method_12_code
def yX1_shiftPoint : MethodName := ⟨RX1, "shiftPoint", "(II)I"⟩
abbrev cX1_removePoint : ByteArray := prog_3_method_13_code
def yX1_removePoint : MethodName := ⟨RX1, "removePoint", "(I)V"⟩
abbrev cX1_renumberEnds : ByteArray := prog_3_method_14_code
def yX1_renumberEnds : MethodName := ⟨RX1, "renumberEnds", "(II)V"⟩
abbrev cX1_renumbered : ByteArray := prog_3_method_15_code
def yX1_renumbered : MethodName := ⟨RX1, "renumbered", "(III)I"⟩
abbrev cX1_closeGap : ByteArray := prog_3_method_16_code
def yX1_closeGap : MethodName := ⟨RX1, "closeGap", "([III)V"⟩
abbrev cX1_append : ByteArray := prog_3_method_17_code
def yX1_append : MethodName := ⟨RX1, "append", "(II)I"⟩
abbrev cX1_removeDimension : ByteArray := prog_3_method_18_code
def yX1_removeDimension : MethodName := ⟨RX1, "removeDimension", "(I)V"⟩
abbrev cX1_countOfChain : ByteArray := prog_3_method_19_code
def yX1_countOfChain : MethodName := ⟨RX1, "countOfChain", "(I)I"⟩
abbrev cX1_sumOfChain : ByteArray := prog_3_method_20_code
def yX1_sumOfChain : MethodName := ⟨RX1, "sumOfChain", "(I[I)I"⟩
abbrev cX1_sumOfValues : ByteArray := prog_3_method_21_code
def yX1_sumOfValues : MethodName := ⟨RX1, "sumOfValues", "(I)I"⟩
abbrev cX1_beginOfChain : ByteArray := prog_3_method_22_code
def yX1_beginOfChain : MethodName := ⟨RX1, "beginOfChain", "(I)I"⟩
abbrev cX1_endOfChain : ByteArray := prog_3_method_23_code
def yX1_endOfChain : MethodName := ⟨RX1, "endOfChain", "(I)I"⟩
abbrev cX1_isClosed : ByteArray := prog_3_method_24_code
def yX1_isClosed : MethodName := ⟨RX1, "isClosed", "(I)Z"⟩
abbrev cX1_nextInChain : ByteArray := prog_3_method_25_code
def yX1_nextInChain : MethodName := ⟨RX1, "nextInChain", "(II)I"⟩
abbrev cX1_smallestOver : ByteArray := prog_3_method_26_code
def yX1_smallestOver : MethodName := ⟨RX1, "smallestOver", "(I)I"⟩
def RX2 : String := "DimensionLines$History"
def TX2 : u_T := fun k => match k with
  | 0 => ("DimensionLines$History", "states", "[LDimensionLines$Drawing;", true)
  | 1 => ("DimensionLines$History", "latest", "I", false)
  | _ => ("DimensionLines$History", "kept", "I", false)
def tyX2 : Nat → FieldType := fun k => match k with
  | 0 => .array (.object "DimensionLines$Drawing")
  | 1 => .int
  | _ => .int
abbrev wsX20 : List Cond := u_ws RX2 TX2 3
theorem nmX2 : ∀ a, a < 3 → ∀ b, b < 3 → a ≠ b → (TX2 a).2.1 ≠ (TX2 b).2.1 := by decide +kernel
theorem tyX2_ok : ∀ k, k < 3 → parseFieldDescriptor (TX2 k).2.2.1 = some (tyX2 k) := by decide +kernel
abbrev cX2_init : ByteArray := prog_4_method_1_code
def yX2_init : MethodName := ⟨RX2, "<init>", "()V"⟩
abbrev cX2_record : ByteArray := prog_4_method_2_code
def yX2_record : MethodName := ⟨RX2, "record", "(LDimensionLines$Drawing;)V"⟩
abbrev cX2_restore : ByteArray := prog_4_method_3_code
def yX2_restore : MethodName := ⟨RX2, "restore", "(LDimensionLines$Drawing;)V"⟩
def RX3 : String := "DimensionLines$Lanes"
def TX3 : u_T := fun k => match k with
  | 0 => ("DimensionLines$Lanes", "form", "[I", true)
  | 1 => ("DimensionLines$Lanes", "begin", "[I", true)
  | 2 => ("DimensionLines$Lanes", "end", "[I", true)
  | 3 => ("DimensionLines$Lanes", "lane", "[I", true)
  | 4 => ("DimensionLines$Lanes", "crossed", "[I", true)
  | 5 => ("DimensionLines$Lanes", "crossings", "[I", true)
  | 6 => ("DimensionLines$Lanes", "unitCount", "I", false)
  | 7 => ("DimensionLines$Lanes", "laneCount", "I", false)
  | 8 => ("DimensionLines$Lanes", "crossingCount", "I", false)
  | 9 => ("DimensionLines$Lanes", "top", "[I", true)
  | 10 => ("DimensionLines$Lanes", "leader", "[I", true)
  | 11 => ("DimensionLines$Lanes", "spanBegin", "[I", true)
  | 12 => ("DimensionLines$Lanes", "spanEnd", "[I", true)
  | 13 => ("DimensionLines$Lanes", "leastOfUnit", "[I", true)
  | 14 => ("DimensionLines$Lanes", "order", "[I", true)
  | _ => ("DimensionLines$Lanes", "dimensionCount", "I", false)
def tyX3 : Nat → FieldType := fun k => match k with
  | 0 => .array .int
  | 1 => .array .int
  | 2 => .array .int
  | 3 => .array .int
  | 4 => .array .int
  | 5 => .array .int
  | 6 => .int
  | 7 => .int
  | 8 => .int
  | 9 => .array .int
  | 10 => .array .int
  | 11 => .array .int
  | 12 => .array .int
  | 13 => .array .int
  | 14 => .array .int
  | _ => .int
abbrev wsX30 : List Cond := u_ws RX3 TX3 16
theorem nmX3 : ∀ a, a < 16 → ∀ b, b < 16 → a ≠ b → (TX3 a).2.1 ≠ (TX3 b).2.1 := by decide +kernel
theorem tyX3_ok : ∀ k, k < 16 → parseFieldDescriptor (TX3 k).2.2.1 = some (tyX3 k) := by decide +kernel
abbrev cX3_init : ByteArray := prog_5_method_1_code
def yX3_init : MethodName := ⟨RX3, "<init>", "()V"⟩
abbrev cX3_layOut : ByteArray := prog_5_method_2_code
def yX3_layOut : MethodName := ⟨RX3, "layOut", "(LDimensionLines$Drawing;I)V"⟩
abbrev cX3_topOf : ByteArray := prog_5_method_3_code
def yX3_topOf : MethodName := ⟨RX3, "topOf", "(I)I"⟩
abbrev cX3_laneOfChain : ByteArray := prog_5_method_4_code
def yX3_laneOfChain : MethodName := ⟨RX3, "laneOfChain", "(LDimensionLines$Drawing;I)I"⟩
abbrev cX3_measure : ByteArray := prog_5_method_5_code
def yX3_measure : MethodName := ⟨RX3, "measure", "(LDimensionLines$Drawing;II)V"⟩
abbrev cX3_digitsOf : ByteArray := prog_5_method_6_code
def yX3_digitsOf : MethodName := ⟨RX3, "digitsOf", "(I)I"⟩
abbrev cX3_joinUnit : ByteArray := prog_5_method_7_code
def yX3_joinUnit : MethodName := ⟨RX3, "joinUnit", "(LDimensionLines$Drawing;I)V"⟩
abbrev cX3_leaderOf : ByteArray := prog_5_method_8_code
def yX3_leaderOf : MethodName := ⟨RX3, "leaderOf", "(LDimensionLines$Drawing;I)I"⟩
abbrev cX3_place : ByteArray := prog_5_method_9_code
def yX3_place : MethodName := ⟨RX3, "place", "(I)V"⟩
abbrev cX3_comesBefore : ByteArray := prog_5_method_10_code
def yX3_comesBefore : MethodName := ⟨RX3, "comesBefore", "(II)Z"⟩
abbrev cX3_lowestLaneFor : ByteArray := prog_5_method_11_code
def yX3_lowestLaneFor : MethodName := ⟨RX3, "lowestLaneFor", "(II)I"⟩
abbrev cX3_isTaken : ByteArray := prog_5_method_12_code
def yX3_isTaken : MethodName := ⟨RX3, "isTaken", "(II)Z"⟩
abbrev cX3_drawWitnessLines : ByteArray := prog_5_method_13_code
def yX3_drawWitnessLines : MethodName := ⟨RX3, "drawWitnessLines", "(LDimensionLines$Drawing;)V"⟩
abbrev cX3_countCrossings : ByteArray := prog_5_method_14_code
def yX3_countCrossings : MethodName := ⟨RX3, "countCrossings", "(LDimensionLines$Drawing;I)V"⟩
def RX4 : String := "DimensionLines$TextReader"
def TX4 : u_T := fun k => match k with
  | 0 => ("DimensionLines$TextReader", "text", "[I", true)
  | 1 => ("DimensionLines$TextReader", "result", "LDimensionLines$Drawing;", true)
  | 2 => ("DimensionLines$TextReader", "length", "I", false)
  | 3 => ("DimensionLines$TextReader", "fault", "I", false)
  | 4 => ("DimensionLines$TextReader", "faultIndex", "I", false)
  | 5 => ("DimensionLines$TextReader", "cursor", "I", false)
  | _ => ("DimensionLines$TextReader", "numberStart", "I", false)
def tyX4 : Nat → FieldType := fun k => match k with
  | 0 => .array .int
  | 1 => .object "DimensionLines$Drawing"
  | 2 => .int
  | 3 => .int
  | 4 => .int
  | 5 => .int
  | _ => .int
abbrev wsX40 : List Cond := u_ws RX4 TX4 7
theorem nmX4 : ∀ a, a < 7 → ∀ b, b < 7 → a ≠ b → (TX4 a).2.1 ≠ (TX4 b).2.1 := by decide +kernel
theorem tyX4_ok : ∀ k, k < 7 → parseFieldDescriptor (TX4 k).2.2.1 = some (tyX4 k) := by decide +kernel
abbrev cX4_init : ByteArray := prog_6_method_1_code
def yX4_init : MethodName := ⟨RX4, "<init>", "()V"⟩
abbrev cX4_append : ByteArray := prog_6_method_2_code
def yX4_append : MethodName := ⟨RX4, "append", "(I)I"⟩
abbrev cX4_empty : ByteArray := prog_6_method_3_code
def yX4_empty : MethodName := ⟨RX4, "empty", "()I"⟩
abbrev cX4_read : ByteArray := prog_6_method_4_code
def yX4_read : MethodName := ⟨RX4, "read", "()V"⟩
abbrev cX4_readPosition : ByteArray := prog_6_method_5_code
def yX4_readPosition : MethodName := ⟨RX4, "readPosition", "()V"⟩
abbrev cX4_readDimension : ByteArray := prog_6_method_6_code
def yX4_readDimension : MethodName := ⟨RX4, "readDimension", "()V"⟩
abbrev cX4_readUpTo : ByteArray := prog_6_method_7_code
def yX4_readUpTo : MethodName := ⟨RX4, "readUpTo", "(II)I"⟩
abbrev cX4_readNumber : ByteArray := prog_6_method_8_code
def yX4_readNumber : MethodName := ⟨RX4, "readNumber", "(I)I"⟩
abbrev cX4_demand : ByteArray := prog_6_method_9_code
def yX4_demand : MethodName := ⟨RX4, "demand", "(Z)V"⟩
abbrev cX4_expect : ByteArray := prog_6_method_10_code
def yX4_expect : MethodName := ⟨RX4, "expect", "(I)V"⟩
abbrev cX4_accept : ByteArray := prog_6_method_11_code
def yX4_accept : MethodName := ⟨RX4, "accept", "(I)Z"⟩
abbrev cX4_isDigitNext : ByteArray := prog_6_method_12_code
def yX4_isDigitNext : MethodName := ⟨RX4, "isDigitNext", "()Z"⟩
abbrev cX4_next : ByteArray := prog_6_method_13_code
def yX4_next : MethodName := ⟨RX4, "next", "()I"⟩
abbrev cX4_fail : ByteArray := prog_6_method_14_code
def yX4_fail : MethodName := ⟨RX4, "fail", "(II)V"⟩
def RX5 : String := "DimensionLines"
def TX5 : u_T := fun k => match k with
  | 0 => ("DimensionLines", "drawing", "LDimensionLines$Drawing;", true)
  | 1 => ("DimensionLines", "history", "LDimensionLines$History;", true)
  | 2 => ("DimensionLines", "reader", "LDimensionLines$TextReader;", true)
  | 3 => ("DimensionLines", "lanes", "LDimensionLines$Lanes;", true)
  | 4 => ("DimensionLines", "lanesIf", "LDimensionLines$Lanes;", true)
  | 5 => ("DimensionLines", "bounds", "LDimensionLines$Bounds;", true)
  | 6 => ("DimensionLines", "lanesFresh", "Z", false)
  | _ => ("DimensionLines", "boundsFresh", "Z", false)
def tyX5 : Nat → FieldType := fun k => match k with
  | 0 => .object "DimensionLines$Drawing"
  | 1 => .object "DimensionLines$History"
  | 2 => .object "DimensionLines$TextReader"
  | 3 => .object "DimensionLines$Lanes"
  | 4 => .object "DimensionLines$Lanes"
  | 5 => .object "DimensionLines$Bounds"
  | 6 => .boolean
  | _ => .boolean
abbrev wsX50 : List Cond := u_ws RX5 TX5 8
theorem nmX5 : ∀ a, a < 8 → ∀ b, b < 8 → a ≠ b → (TX5 a).2.1 ≠ (TX5 b).2.1 := by decide +kernel
theorem tyX5_ok : ∀ k, k < 8 → parseFieldDescriptor (TX5 k).2.2.1 = some (tyX5 k) := by decide +kernel
abbrev cX5_init : ByteArray := prog_1_method_1_code
def yX5_init : MethodName := ⟨RX5, "<init>", "()V"⟩
abbrev cX5_type : ByteArray := prog_1_method_2_code
def yX5_type : MethodName := ⟨RX5, "type", "(I)I"⟩
abbrev cX5_clearText : ByteArray := prog_1_method_3_code
def yX5_clearText : MethodName := ⟨RX5, "clearText", "()I"⟩
abbrev cX5_load : ByteArray := prog_1_method_4_code
def yX5_load : MethodName := ⟨RX5, "load", "()I"⟩
abbrev cX5_faultKind : ByteArray := prog_1_method_5_code
def yX5_faultKind : MethodName := ⟨RX5, "faultKind", "()I"⟩
abbrev cX5_addPoint : ByteArray := prog_1_method_6_code
def yX5_addPoint : MethodName := ⟨RX5, "addPoint", "(I)I"⟩
abbrev cX5_movePoint : ByteArray := prog_1_method_7_code
def yX5_movePoint : MethodName := ⟨RX5, "movePoint", "(II)I"⟩
abbrev cX5_dropPoint : ByteArray := prog_1_method_8_code
def yX5_dropPoint : MethodName := ⟨RX5, "dropPoint", "(I)I"⟩
abbrev cX5_add : ByteArray := prog_1_method_9_code
def yX5_add : MethodName := ⟨RX5, "add", "(II)I"⟩
abbrev cX5_drop : ByteArray := prog_1_method_10_code
def yX5_drop : MethodName := ⟨RX5, "drop", "(I)I"⟩
abbrev cX5_setTolerance : ByteArray := prog_1_method_11_code
def yX5_setTolerance : MethodName := ⟨RX5, "setTolerance", "(III)I"⟩
abbrev cX5_setChain : ByteArray := prog_1_method_12_code
def yX5_setChain : MethodName := ⟨RX5, "setChain", "(II)I"⟩
abbrev cX5_setLeast : ByteArray := prog_1_method_13_code
def yX5_setLeast : MethodName := ⟨RX5, "setLeast", "(II)I"⟩
abbrev cX5_setLetter : ByteArray := prog_1_method_14_code
def yX5_setLetter : MethodName := ⟨RX5, "setLetter", "(I)I"⟩
abbrev cX5_setArrow : ByteArray := prog_1_method_15_code
def yX5_setArrow : MethodName := ⟨RX5, "setArrow", "(I)I"⟩
abbrev cX5_point : ByteArray := prog_1_method_16_code
def yX5_point : MethodName := ⟨RX5, "point", "(II)I"⟩
abbrev cX5_dimension : ByteArray := prog_1_method_17_code
def yX5_dimension : MethodName := ⟨RX5, "dimension", "(II)I"⟩
abbrev cX5_at : ByteArray := prog_1_method_18_code
def yX5_at : MethodName := ⟨RX5, "at", "(II)I"⟩
abbrev cX5_distance : ByteArray := prog_1_method_19_code
def yX5_distance : MethodName := ⟨RX5, "distance", "(IIZ)I"⟩
abbrev cX5_ifExact : ByteArray := prog_1_method_20_code
def yX5_ifExact : MethodName := ⟨RX5, "ifExact", "(III)I"⟩
abbrev cX5_critical : ByteArray := prog_1_method_21_code
def yX5_critical : MethodName := ⟨RX5, "critical", "(II)I"⟩
abbrev cX5_needed : ByteArray := prog_1_method_22_code
def yX5_needed : MethodName := ⟨RX5, "needed", "()I"⟩
abbrev cX5_chain : ByteArray := prog_1_method_23_code
def yX5_chain : MethodName := ⟨RX5, "chain", "(II)I"⟩
abbrev cX5_ifArrow : ByteArray := prog_1_method_24_code
def yX5_ifArrow : MethodName := ⟨RX5, "ifArrow", "(I)I"⟩
abbrev cX5_undo : ByteArray := prog_1_method_25_code
def yX5_undo : MethodName := ⟨RX5, "undo", "()I"⟩
abbrev cX5_count : ByteArray := prog_1_method_26_code
def yX5_count : MethodName := ⟨RX5, "count", "(I)I"⟩
abbrev cX5_digest : ByteArray := prog_1_method_27_code
def yX5_digest : MethodName := ⟨RX5, "digest", "()J"⟩
abbrev cX5_hashOfPairs : ByteArray := prog_1_method_28_code
def yX5_hashOfPairs : MethodName := ⟨RX5, "hashOfPairs", "(J)J"⟩
abbrev cX5_isWithin : ByteArray := prog_1_method_29_code
def yX5_isWithin : MethodName := ⟨RX5, "isWithin", "(III)Z"⟩
abbrev cX5_areTwoPoints : ByteArray := prog_1_method_30_code
def yX5_areTwoPoints : MethodName := ⟨RX5, "areTwoPoints", "(II)Z"⟩
abbrev cX5_beginChange : ByteArray := prog_1_method_31_code
def yX5_beginChange : MethodName := ⟨RX5, "beginChange", "()V"⟩
abbrev cX5_forgetWhatWasWorkedOut : ByteArray := prog_1_method_32_code
def yX5_forgetWhatWasWorkedOut : MethodName := ⟨RX5, "forgetWhatWasWorkedOut", "()V"⟩
abbrev cX5_laidLanes : ByteArray := prog_1_method_33_code
def yX5_laidLanes : MethodName := ⟨RX5, "laidLanes", "()LDimensionLines$Lanes;"⟩
abbrev cX5_knownBounds : ByteArray := prog_1_method_34_code
def yX5_knownBounds : MethodName := ⟨RX5, "knownBounds", "()LDimensionLines$Bounds;"⟩
def RX6 : String := "DimensionLinesModel"
def TX6 : u_T := fun k => match k with
  | 0 => ("DimensionLinesModel", "page", "[I", true)
  | 1 => ("DimensionLinesModel", "backMany", "I", false)
  | 2 => ("DimensionLinesModel", "text", "[I", true)
  | 3 => ("DimensionLinesModel", "typed", "I", false)
  | 4 => ("DimensionLinesModel", "fault", "I", false)
  | 5 => ("DimensionLinesModel", "faultAt", "I", false)
  | 6 => ("DimensionLinesModel", "spot", "I", false)
  | 7 => ("DimensionLinesModel", "number", "I", false)
  | 8 => ("DimensionLinesModel", "unit", "[I", true)
  | 9 => ("DimensionLinesModel", "spanFrom", "[I", true)
  | 10 => ("DimensionLinesModel", "spanTo", "[I", true)
  | 11 => ("DimensionLinesModel", "leastLane", "[I", true)
  | 12 => ("DimensionLinesModel", "lane", "[I", true)
  | 13 => ("DimensionLinesModel", "isPlaced", "[Z", true)
  | 14 => ("DimensionLinesModel", "greatest", "[I", true)
  | _ => ("DimensionLinesModel", "hash", "J", false)
def tyX6 : Nat → FieldType := fun k => match k with
  | 0 => .array .int
  | 1 => .int
  | 2 => .array .int
  | 3 => .int
  | 4 => .int
  | 5 => .int
  | 6 => .int
  | 7 => .int
  | 8 => .array .int
  | 9 => .array .int
  | 10 => .array .int
  | 11 => .array .int
  | 12 => .array .int
  | 13 => .array .boolean
  | 14 => .array .int
  | _ => .long
abbrev wsX60 : List Cond := u_ws RX6 TX6 16
theorem nmX6 : ∀ a, a < 16 → ∀ b, b < 16 → a ≠ b → (TX6 a).2.1 ≠ (TX6 b).2.1 := by decide +kernel
theorem tyX6_ok : ∀ k, k < 16 → parseFieldDescriptor (TX6 k).2.2.1 = some (tyX6 k) := by decide +kernel
abbrev cX6_init : ByteArray := prog_8_method_1_code
def yX6_init : MethodName := ⟨RX6, "<init>", "()V"⟩
abbrev cX6_in : ByteArray := prog_8_method_3_code
def yX6_in : MethodName := ⟨RX6, "in", "(III)Z"⟩
abbrev cX6_copies : ByteArray := prog_8_method_4_code
def yX6_copies : MethodName := ⟨RX6, "copies", "(II)V"⟩
abbrev cX6_records : ByteArray := prog_8_method_5_code
def yX6_records : MethodName := ⟨RX6, "records", "()V"⟩
abbrev cX6_undo : ByteArray := prog_8_method_6_code
def yX6_undo : MethodName := ⟨RX6, "undo", "()I"⟩
abbrev cX6_isPoint : ByteArray := prog_8_method_7_code
def yX6_isPoint : MethodName := ⟨RX6, "isPoint", "(I)Z"⟩
abbrev cX6_isDimension : ByteArray := prog_8_method_8_code
def yX6_isDimension : MethodName := ⟨RX6, "isDimension", "(I)Z"⟩
abbrev cX6_of : ByteArray := prog_8_method_9_code
def yX6_of : MethodName := ⟨RX6, "of", "(II)I"⟩
abbrev cX6_sets : ByteArray := prog_8_method_10_code
def yX6_sets : MethodName := ⟨RX6, "sets", "(III)V"⟩
abbrev cX6_position : ByteArray := prog_8_method_11_code
def yX6_position : MethodName := ⟨RX6, "position", "(I)I"⟩
abbrev cX6_from : ByteArray := prog_8_method_12_code
def yX6_from : MethodName := ⟨RX6, "from", "(I)I"⟩
abbrev cX6_to : ByteArray := prog_8_method_13_code
def yX6_to : MethodName := ⟨RX6, "to", "(I)I"⟩
abbrev cX6_value : ByteArray := prog_8_method_14_code
def yX6_value : MethodName := ⟨RX6, "value", "(I)I"⟩
abbrev cX6_pointWith : ByteArray := prog_8_method_15_code
def yX6_pointWith : MethodName := ⟨RX6, "pointWith", "(I)I"⟩
abbrev cX6_comes : ByteArray := prog_8_method_16_code
def yX6_comes : MethodName := ⟨RX6, "comes", "(I)I"⟩
abbrev cX6_addPoint : ByteArray := prog_8_method_17_code
def yX6_addPoint : MethodName := ⟨RX6, "addPoint", "(I)I"⟩
abbrev cX6_goes : ByteArray := prog_8_method_18_code
def yX6_goes : MethodName := ⟨RX6, "goes", "(I)V"⟩
abbrev cX6_movePoint : ByteArray := prog_8_method_19_code
def yX6_movePoint : MethodName := ⟨RX6, "movePoint", "(II)I"⟩
abbrev cX6_ends : ByteArray := prog_8_method_20_code
def yX6_ends : MethodName := ⟨RX6, "ends", "(I)I"⟩
abbrev cX6_dropPoint : ByteArray := prog_8_method_21_code
def yX6_dropPoint : MethodName := ⟨RX6, "dropPoint", "(I)I"⟩
abbrev cX6_lays : ByteArray := prog_8_method_22_code
def yX6_lays : MethodName := ⟨RX6, "lays", "(IIIII)V"⟩
abbrev cX6_add : ByteArray := prog_8_method_23_code
def yX6_add : MethodName := ⟨RX6, "add", "(II)I"⟩
abbrev cX6_drop : ByteArray := prog_8_method_24_code
def yX6_drop : MethodName := ⟨RX6, "drop", "(I)I"⟩
abbrev cX6_setTolerance : ByteArray := prog_8_method_25_code
def yX6_setTolerance : MethodName := ⟨RX6, "setTolerance", "(III)I"⟩
abbrev cX6_becomes : ByteArray := prog_8_method_26_code
def yX6_becomes : MethodName := ⟨RX6, "becomes", "(III)I"⟩
abbrev cX6_setChain : ByteArray := prog_8_method_27_code
def yX6_setChain : MethodName := ⟨RX6, "setChain", "(II)I"⟩
abbrev cX6_setLeast : ByteArray := prog_8_method_28_code
def yX6_setLeast : MethodName := ⟨RX6, "setLeast", "(II)I"⟩
abbrev cX6_setting : ByteArray := prog_8_method_29_code
def yX6_setting : MethodName := ⟨RX6, "setting", "(II)I"⟩
abbrev cX6_setLetter : ByteArray := prog_8_method_30_code
def yX6_setLetter : MethodName := ⟨RX6, "setLetter", "(I)I"⟩
abbrev cX6_setArrow : ByteArray := prog_8_method_31_code
def yX6_setArrow : MethodName := ⟨RX6, "setArrow", "(I)I"⟩
abbrev cX6_type : ByteArray := prog_8_method_32_code
def yX6_type : MethodName := ⟨RX6, "type", "(I)I"⟩
abbrev cX6_clearText : ByteArray := prog_8_method_33_code
def yX6_clearText : MethodName := ⟨RX6, "clearText", "()I"⟩
abbrev cX6_here : ByteArray := prog_8_method_34_code
def yX6_here : MethodName := ⟨RX6, "here", "()I"⟩
abbrev cX6_isDigit : ByteArray := prog_8_method_35_code
def yX6_isDigit : MethodName := ⟨RX6, "isDigit", "()Z"⟩
abbrev cX6_fails : ByteArray := prog_8_method_36_code
def yX6_fails : MethodName := ⟨RX6, "fails", "(II)Z"⟩
abbrev cX6_readsNumber : ByteArray := prog_8_method_37_code
def yX6_readsNumber : MethodName := ⟨RX6, "readsNumber", "(III)Z"⟩
abbrev cX6_reads : ByteArray := prog_8_method_38_code
def yX6_reads : MethodName := ⟨RX6, "reads", "(I)Z"⟩
abbrev cX6_readsPositions : ByteArray := prog_8_method_39_code
def yX6_readsPositions : MethodName := ⟨RX6, "readsPositions", "()Z"⟩
abbrev cX6_readsBehind : ByteArray := prog_8_method_40_code
def yX6_readsBehind : MethodName := ⟨RX6, "readsBehind", "(IIII)Z"⟩
abbrev cX6_readsDimension : ByteArray := prog_8_method_41_code
def yX6_readsDimension : MethodName := ⟨RX6, "readsDimension", "()Z"⟩
abbrev cX6_readsAll : ByteArray := prog_8_method_42_code
def yX6_readsAll : MethodName := ⟨RX6, "readsAll", "()V"⟩
abbrev cX6_load : ByteArray := prog_8_method_43_code
def yX6_load : MethodName := ⟨RX6, "load", "()I"⟩
abbrev cX6_faultKind : ByteArray := prog_8_method_44_code
def yX6_faultKind : MethodName := ⟨RX6, "faultKind", "()I"⟩
abbrev cX6_width : ByteArray := prog_8_method_45_code
def yX6_width : MethodName := ⟨RX6, "width", "(I)I"⟩
abbrev cX6_form : ByteArray := prog_8_method_46_code
def yX6_form : MethodName := ⟨RX6, "form", "(I)I"⟩
abbrev cX6_begins : ByteArray := prog_8_method_47_code
def yX6_begins : MethodName := ⟨RX6, "begins", "(I)I"⟩
abbrev cX6_reaches : ByteArray := prog_8_method_48_code
def yX6_reaches : MethodName := ⟨RX6, "reaches", "(I)I"⟩
abbrev cX6_unitOf : ByteArray := prog_8_method_49_code
def yX6_unitOf : MethodName := ⟨RX6, "unitOf", "(I)I"⟩
abbrev cX6_laysUnits : ByteArray := prog_8_method_50_code
def yX6_laysUnits : MethodName := ⟨RX6, "laysUnits", "()V"⟩
abbrev cX6_isUnit : ByteArray := prog_8_method_51_code
def yX6_isUnit : MethodName := ⟨RX6, "isUnit", "(I)Z"⟩
abbrev cX6_isSooner : ByteArray := prog_8_method_52_code
def yX6_isSooner : MethodName := ⟨RX6, "isSooner", "(II)Z"⟩
abbrev cX6_nextUnit : ByteArray := prog_8_method_53_code
def yX6_nextUnit : MethodName := ⟨RX6, "nextUnit", "()I"⟩
abbrev cX6_covers : ByteArray := prog_8_method_54_code
def yX6_covers : MethodName := ⟨RX6, "covers", "(II)Z"⟩
abbrev cX6_meets : ByteArray := prog_8_method_55_code
def yX6_meets : MethodName := ⟨RX6, "meets", "(II)Z"⟩
abbrev cX6_laysLanes : ByteArray := prog_8_method_56_code
def yX6_laysLanes : MethodName := ⟨RX6, "laysLanes", "()V"⟩
abbrev cX6_laneOf : ByteArray := prog_8_method_57_code
def yX6_laneOf : MethodName := ⟨RX6, "laneOf", "(I)I"⟩
abbrev cX6_lanes : ByteArray := prog_8_method_58_code
def yX6_lanes : MethodName := ⟨RX6, "lanes", "()I"⟩
abbrev cX6_witness : ByteArray := prog_8_method_59_code
def yX6_witness : MethodName := ⟨RX6, "witness", "(I)I"⟩
abbrev cX6_crosses : ByteArray := prog_8_method_60_code
def yX6_crosses : MethodName := ⟨RX6, "crosses", "(II)Z"⟩
abbrev cX6_crossings : ByteArray := prog_8_method_61_code
def yX6_crossings : MethodName := ⟨RX6, "crossings", "(II)I"⟩
abbrev cX6_bounds : ByteArray := prog_8_method_62_code
def yX6_bounds : MethodName := ⟨RX6, "bounds", "(III)V"⟩
abbrev cX6_laysDistances : ByteArray := prog_8_method_63_code
def yX6_laysDistances : MethodName := ⟨RX6, "laysDistances", "(II)V"⟩
abbrev cX6_areBound : ByteArray := prog_8_method_64_code
def yX6_areBound : MethodName := ⟨RX6, "areBound", "(II)Z"⟩
abbrev cX6_range : ByteArray := prog_8_method_65_code
def yX6_range : MethodName := ⟨RX6, "range", "(II)I"⟩
abbrev cX6_isSuperfluous : ByteArray := prog_8_method_66_code
def yX6_isSuperfluous : MethodName := ⟨RX6, "isSuperfluous", "(II)Z"⟩
abbrev cX6_group : ByteArray := prog_8_method_67_code
def yX6_group : MethodName := ⟨RX6, "group", "(I)I"⟩
abbrev cX6_isFirst : ByteArray := prog_8_method_68_code
def yX6_isFirst : MethodName := ⟨RX6, "isFirst", "(I)Z"⟩
abbrev cX6_groupOfFirst : ByteArray := prog_8_method_69_code
def yX6_groupOfFirst : MethodName := ⟨RX6, "groupOfFirst", "(I)I"⟩
abbrev cX6_point : ByteArray := prog_8_method_70_code
def yX6_point : MethodName := ⟨RX6, "point", "(II)I"⟩
abbrev cX6_placeOf : ByteArray := prog_8_method_71_code
def yX6_placeOf : MethodName := ⟨RX6, "placeOf", "(I)I"⟩
abbrev cX6_dimension : ByteArray := prog_8_method_72_code
def yX6_dimension : MethodName := ⟨RX6, "dimension", "(II)I"⟩
abbrev cX6_at : ByteArray := prog_8_method_73_code
def yX6_at : MethodName := ⟨RX6, "at", "(II)I"⟩
abbrev cX6_arePoints : ByteArray := prog_8_method_74_code
def yX6_arePoints : MethodName := ⟨RX6, "arePoints", "(II)Z"⟩
abbrev cX6_distance : ByteArray := prog_8_method_75_code
def yX6_distance : MethodName := ⟨RX6, "distance", "(IIZ)I"⟩
abbrev cX6_adds : ByteArray := prog_8_method_76_code
def yX6_adds : MethodName := ⟨RX6, "adds", "(III)I"⟩
abbrev cX6_ifExact : ByteArray := prog_8_method_77_code
def yX6_ifExact : MethodName := ⟨RX6, "ifExact", "(III)I"⟩
abbrev cX6_critical : ByteArray := prog_8_method_78_code
def yX6_critical : MethodName := ⟨RX6, "critical", "(II)I"⟩
abbrev cX6_needed : ByteArray := prog_8_method_79_code
def yX6_needed : MethodName := ⟨RX6, "needed", "()I"⟩
abbrev cX6_sumOf : ByteArray := prog_8_method_80_code
def yX6_sumOf : MethodName := ⟨RX6, "sumOf", "(II)I"⟩
abbrev cX6_endOf : ByteArray := prog_8_method_81_code
def yX6_endOf : MethodName := ⟨RX6, "endOf", "(IZ)I"⟩
abbrev cX6_isClosed : ByteArray := prog_8_method_82_code
def yX6_isClosed : MethodName := ⟨RX6, "isClosed", "(I)Z"⟩
abbrev cX6_over : ByteArray := prog_8_method_83_code
def yX6_over : MethodName := ⟨RX6, "over", "(I)I"⟩
abbrev cX6_laneOfChain : ByteArray := prog_8_method_84_code
def yX6_laneOfChain : MethodName := ⟨RX6, "laneOfChain", "(I)I"⟩
abbrev cX6_chain : ByteArray := prog_8_method_85_code
def yX6_chain : MethodName := ⟨RX6, "chain", "(II)I"⟩
abbrev cX6_ifArrow : ByteArray := prog_8_method_86_code
def yX6_ifArrow : MethodName := ⟨RX6, "ifArrow", "(I)I"⟩
abbrev cX6_units : ByteArray := prog_8_method_87_code
def yX6_units : MethodName := ⟨RX6, "units", "()I"⟩
abbrev cX6_groups : ByteArray := prog_8_method_88_code
def yX6_groups : MethodName := ⟨RX6, "groups", "()I"⟩
abbrev cX6_superfluous : ByteArray := prog_8_method_89_code
def yX6_superfluous : MethodName := ⟨RX6, "superfluous", "()I"⟩
abbrev cX6_count : ByteArray := prog_8_method_90_code
def yX6_count : MethodName := ⟨RX6, "count", "(I)I"⟩
abbrev cX6_mixes : ByteArray := prog_8_method_91_code
def yX6_mixes : MethodName := ⟨RX6, "mixes", "(I)V"⟩
abbrev cX6_digest : ByteArray := prog_8_method_92_code
def yX6_digest : MethodName := ⟨RX6, "digest", "()J"⟩
def RJ9 : String := "java/lang/Math"
def TJ9 : u_T := fun k => match k with
  | _ => ("", "", "", false)
def tyJ9 : Nat → FieldType := fun k => match k with
  | _ => .int
abbrev cJ9_max_7cf53 : ByteArray := prog_9_method_65_code
def yJ9_max_7cf53 : MethodName := ⟨RJ9, "max", "(II)I"⟩
abbrev cJ9_min_7cf53 : ByteArray := prog_9_method_69_code
def yJ9_min_7cf53 : MethodName := ⟨RJ9, "min", "(II)I"⟩
def RJ10 : String := "java/lang/System"
def TJ10 : u_T := fun k => match k with
  | _ => ("", "", "", false)
def tyJ10 : Nat → FieldType := fun k => match k with
  | _ => .int
def RJ7 : String := "java/util/Arrays"
def TJ7 : u_T := fun k => match k with
  | _ => ("", "", "", false)
def tyJ7 : Nat → FieldType := fun k => match k with
  | _ => .int
abbrev cJ7_fill_53178 : ByteArray := prog_11_method_103_code
def yJ7_fill_53178 : MethodName := ⟨RJ7, "fill", "([II)V"⟩
def RL : String := "DimensionLinesLaw"
abbrev cL_law : ByteArray := code
def yL_law : MethodName := ⟨RL, "law", "([I)Z"⟩
abbrev vwCl : List vw_C := [(RX0, TX0, 11), (RX1, TX1, 11), (RX2, TX2, 3), (RX3, TX3, 16), (RX4, TX4, 7), (RX5, TX5, 8), (RX6, TX6, 16)]
def R_law : String := "DimensionLinesLaw"
def lw_P (b : Addr) (xs : List Int32) (args : Array Value) (s : State) : Prop := args = #[.ref b] ∧ s.IntsAt b xs ∧ xs.length ≤ 2048 ∧ (Jvm.Cond.and given_1 narrow_1).before args s = true
def lw_Q (_ : Array Value) (s : State) (o : Outcome) (t : State) : Prop := o = .returned (some (.int 1)) ∧ Framed s o t [] 600000 7302250
def lw_Z (below : List Frame) (a : Array Value) (s : State) : State → Prop := fun t => ∃ o, t.status = .running ∧ Ended t below o ∧ lw_Q a s o t
/-- the law's own end, with 1 on the stack, nothing written that was there before, its room as the claim has it -/
theorem lw_ret {p : Program} {l : Launch} {e : Env} {s : State} {m : MethodId} {below : List Frame} {meth : Method} {c : Code} {b : Nat} (hx : p.tables.exec = Jvm.exec) (hb : c.code = code) (hr : meth.sig.returnType = ret) (hlocks : meth.locks = false) {pc : Nat} {H : Heap} {ls : Array Slot} (hdg : decode code pc = .ok (.ireturn, 1)) : W p l e room_1 s m #[Value.ref b] below meth c H [] 600000 7302250 (lw_Z below #[Value.ref b] s) (F0 m pc ls [.int 1]) := by
  intro T hT X
  obtain ⟨fs, hret, hrun, hended, hW, hframe⟩ := X.leave (v := some (.int 1)) (hlocks := hlocks) (fun h => by rw [hr] at h; cases h)
  have hmeth' : T.vm.method? m = some meth := X.method'
  refine ⟨T.setFrames fs, ?_, .returned (some (.int 1)), hrun, hended, rfl, ⟨_, rfl⟩, hW, hframe⟩
  jvm_step X.here [X.here.top, hx, hb, hdg, hmeth', hr, ret, narrow_b1]
  (try refine ⟨rfl, ?_⟩); (try refine ⟨rfl, ?_⟩)
  first | (intro acts; rw [hret _ acts rfl rfl rfl]) | rw [hret _ _ rfl rfl rfl]
  exact Steps.refl _
/-- what holds at the law's entry: the machine, the code, the tables' words (any of lw_tbl by 'hts w (by decide +kernel)'), the script of L ints xs at the cell b, what the Statement gives of the start (any of its parts by flat_of_before) -/
def lw_At (p : Program) (s : State) (m : MethodId) (meth : Method) (c : Code) (b L : Nat) (xs : Nat → Int32) : Prop :=
  p.tables.exec = Jvm.exec ∧ c.code = code ∧ meth.sig.returnType = ret ∧ c.maxLocals = 4 ∧ s.vm.findClass R_law = some m.cls ∧ (∀ w ∈ lw_tbl, w.before #[Value.ref b] s = true) ∧ va_X b L xs s s.heap ∧ b < s.heap.size ∧ meth.locks = false ∧ (Jvm.Cond.and given_1 narrow_1).before #[Value.ref b] s = true

/-! the words that every method is proved under -/
def UW : List Cond := lw_tbl.filter goodWord
theorem uw_t {w : Cond} (i : Nat) (h : tables_1[i]? = some w) (hg : goodWord w = true) : w ∈ UW := List.mem_filter.mpr ⟨List.mem_append_right _ (List.mem_of_getElem? h), hg⟩
theorem uw_s {q : MethodName × Nat} (i : Nat) (h : lw_privs[i]? = some q) : Cond.selects q.1.cls q.1 q.1 ∈ UW := List.mem_filter.mpr ⟨List.mem_append_left _ (List.mem_map.mpr ⟨q, List.mem_of_getElem? h, rfl⟩), rfl⟩
theorem uw_good : GoodIn UW UW := fun w h => ⟨h, good_of_word (List.mem_filter.mp h).2⟩
end
section
/-! ===== the abstract machine: values, heaps, programs as functions ===== -/
abbrev V : Type := Int ⊕ Nat ⊕ Int ⊕ Unit
abbrev vi (x : Int) : V := Sum.inl x
abbrev vr (a : Nat) : V := Sum.inr (Sum.inl a)
abbrev vl (x : Int) : V := Sum.inr (Sum.inr (Sum.inl x))
abbrev vsc : V := Sum.inr (Sum.inr (Sum.inr ()))
/-- cell, place, what it holds -/
abbrev Hp : Type := Nat → Int → Int
/-- a cell's kind: 0 int[n], 1 boolean[n], 2 Drawing[n] (stride, how many set), 3 int[n][], 4 + c an object of class c (.., how many of its references are set) -/
abbrev LK : Type := Nat × Nat × Nat × Nat
abbrev inR (x : Int) : Prop := -2147483648 ≤ x ∧ x ≤ 2147483647
abbrev O (α : Type) : Type := Option (α × Hp)
def hu (h : Hp) (a : Nat) (i v : Int) : Hp := fun c j => if c = a ∧ j = i then v else h c j
/-- System.arraycopy of n places, from place 0 to place 0 -/
def hcp (h : Hp) (src dst : Nat) (n : Int) : Hp := fun c j => if c = dst ∧ 0 ≤ j ∧ j < n then h src j else h c j
def hz (h : Hp) (a : Nat) : Hp := fun c j => if c = a then 0 else h c j
def ck {β : Type} (z : Int) (E : Option β) : Option β := if inR z then E else none
def ix {β : Type} (i n : Int) (E : Option β) : Option β := if 0 ≤ i ∧ i < n then E else none
def bz {β : Type} (v : Int) (E : Option β) : Option β := if v = 0 ∨ v = 1 then E else none
/-- a division, by what is known to be above 0, of what is known not to be below -/
def dv {β : Type} (x y : Int) (E : Option β) : Option β := if 0 ≤ x ∧ 0 < y then E else none
def shc {β : Type} (x y : Int) (E : Option β) : Option β := if 0 ≤ x ∧ 0 ≤ y ∧ y < 31 then E else none
def orc {β : Type} (x y : Int) (E : Option β) : Option β := if 0 ≤ x ∧ 0 ≤ y then E else none
def p2 (d : Int) : Int := ((2 ^ d.toNat : Nat) : Int)
def orI (x y : Int) : Int := ((x.toNat ||| y.toNat : Nat) : Int)
def lt {β : Type} (h : Hp) (K : Hp → β) : β := K h
def bd {α β : Type} (o : O α) (K : α → Hp → Option β) : Option β := o.bind fun q => K q.1 q.2
def swt {β : Type} (x lo : Int) (Es : List (Option β)) (d : Option β) : Option β := if lo ≤ x ∧ x < lo + (Es.length : Int) then Es.getD (x - lo).toNat none else d
def fuel : Nat := 3000
def iter1 {β : Type} (F : (Int → Hp → Option β) → Int → Hp → Option β) : Nat → Int → Hp → Option β
  | 0 => fun _ _ => none
  | n + 1 => F (iter1 F n)
def iter0 {β : Type} (F : (Hp → Option β) → Hp → Option β) : Nat → Hp → Option β
  | 0 => fun _ => none
  | n + 1 => F (iter0 F n)
def iter2 {β : Type} (F : (Int → Int → Hp → Option β) → Int → Int → Hp → Option β) : Nat → Int → Int → Hp → Option β
  | 0 => fun _ _ _ => none
  | n + 1 => F (iter2 F n)
def iter3 {β : Type} (F : (Int → Int → Int → Hp → Option β) → Int → Int → Int → Hp → Option β) : Nat → Int → Int → Int → Hp → Option β
  | 0 => fun _ _ _ _ => none
  | n + 1 => F (iter3 F n)
def iter4 {β : Type} (F : (Int → Int → Int → Int → Hp → Option β) → Int → Int → Int → Int → Hp → Option β) : Nat → Int → Int → Int → Int → Hp → Option β
  | 0 => fun _ _ _ _ _ => none
  | n + 1 => F (iter4 F n)
def iter5 {β : Type} (F : (Int → Int → Int → Int → Int → Hp → Option β) → Int → Int → Int → Int → Int → Hp → Option β) : Nat → Int → Int → Int → Int → Int → Hp → Option β
  | 0 => fun _ _ _ _ _ _ => none
  | n + 1 => F (iter5 F n)
theorem ck_some {β : Type} {z : Int} {E : Option β} {r : β} (h : ck z E = some r) : inR z ∧ E = some r := by
  unfold ck at h; split at h <;> first | exact ⟨by assumption, h⟩ | cases h
theorem ix_some {β : Type} {i n : Int} {E : Option β} {r : β} (h : ix i n E = some r) : (0 ≤ i ∧ i < n) ∧ E = some r := by
  unfold ix at h; split at h <;> first | exact ⟨by assumption, h⟩ | cases h
theorem bz_some {β : Type} {v : Int} {E : Option β} {r : β} (h : bz v E = some r) : (v = 0 ∨ v = 1) ∧ E = some r := by
  unfold bz at h; split at h <;> first | exact ⟨by assumption, h⟩ | cases h
theorem dv_some {β : Type} {x y : Int} {E : Option β} {r : β} (h : dv x y E = some r) : (0 ≤ x ∧ 0 < y) ∧ E = some r := by
  unfold dv at h; split at h <;> first | exact ⟨by assumption, h⟩ | cases h
theorem shc_some {β : Type} {x y : Int} {E : Option β} {r : β} (h : shc x y E = some r) : (0 ≤ x ∧ 0 ≤ y ∧ y < 31) ∧ E = some r := by
  unfold shc at h; split at h <;> first | exact ⟨by assumption, h⟩ | cases h
theorem orc_some {β : Type} {x y : Int} {E : Option β} {r : β} (h : orc x y E = some r) : (0 ≤ x ∧ 0 ≤ y) ∧ E = some r := by
  unfold orc at h; split at h <;> first | exact ⟨by assumption, h⟩ | cases h
theorem bd_some {α β : Type} {o : O α} {K : α → Hp → Option β} {r : β} (h : bd o K = some r) : ∃ a h1, o = some (a, h1) ∧ K a h1 = some r := by
  unfold bd at h
  cases o with
  | none => cases h
  | some q => exact ⟨q.1, q.2, rfl, h⟩
end
section
/-! ===== how the abstract machine's states lie in the machine's ===== -/
theorem i32_lt {x y : Int} (hx : inR x) (hy : inR y) : Int32.ofInt x < Int32.ofInt y ↔ x < y := by
  rw [Int32.lt_iff_toInt_lt, Int32.toInt_ofInt_of_le (by have := hx.1; omega) (by have := hx.2; omega), Int32.toInt_ofInt_of_le (by have := hy.1; omega) (by have := hy.2; omega)]
theorem i32_le {x y : Int} (hx : inR x) (hy : inR y) : Int32.ofInt x ≤ Int32.ofInt y ↔ x ≤ y := by
  rw [Int32.le_iff_toInt_le, Int32.toInt_ofInt_of_le (by have := hx.1; omega) (by have := hx.2; omega), Int32.toInt_ofInt_of_le (by have := hy.1; omega) (by have := hy.2; omega)]
theorem i32_eq {x y : Int} (hx : inR x) (hy : inR y) : Int32.ofInt x = Int32.ofInt y ↔ x = y := by
  rw [← Int32.toInt_inj, Int32.toInt_ofInt_of_le (by have := hx.1; omega) (by have := hx.2; omega), Int32.toInt_ofInt_of_le (by have := hy.1; omega) (by have := hy.2; omega)]
theorem i32_toInt {x : Int} (hx : inR x) : (Int32.ofInt x).toInt = x := Int32.toInt_ofInt_of_le (by have := hx.1; omega) (by have := hx.2; omega)
theorem inR0 : inR 0 := ⟨by decide, by decide⟩
theorem i32_0 : (0 : Int32) = Int32.ofInt 0 := rfl
theorem i32_cl {x : Int} (hx : inR x) : (Int32.ofInt x).toNatClampNeg = x.toNat := by rw [← Int32.toNat_toInt, i32_toInt hx]
theorem i32_in {i : Int} {n : Nat} (hi : inR i) (h : 0 ≤ i ∧ i < (n : Int)) : vp_in (Int32.ofInt i) n := by
  rw [vp_in_iff, i32_toInt hi]; exact h
def zc (base b : Nat) : V → Value
  | .inl x => .int (Int32.ofInt x)
  | .inr (.inl a) => .ref (base + a)
  | .inr (.inr (.inl x)) => .long (Int64.ofInt x)
  | .inr (.inr (.inr _)) => .ref b
def okV : V → Prop
  | .inl x => inR x
  | _ => True
/-- an object's slot: 0 a whole number, 1 a long, 2 a reference: how far behind the object its target lies, the how many-th reference to be set it is -/
def zfd (t k : Nat) : Nat × Nat × Nat :=
  match t with
  | 0 => [(2, 1, 0), (2, 14, 1), (2, 15, 2), (0, 0, 0), (0, 0, 0), (0, 0, 0), (2, 16, 3), (2, 17, 4), (2, 18, 5), (2, 19, 6), (2, 20, 7)].getD k (0, 0, 0)
  | 1 => [(2, 1, 0), (2, 2, 1), (2, 3, 2), (2, 4, 3), (2, 5, 4), (2, 6, 5), (2, 7, 6)].getD k (0, 0, 0)
  | 2 => [(2, 1, 0)].getD k (0, 0, 0)
  | 3 => [(2, 1, 0), (2, 2, 1), (2, 3, 2), (2, 4, 3), (2, 5, 4), (2, 6, 5), (0, 0, 0), (0, 0, 0), (0, 0, 0), (2, 7, 6), (2, 8, 7), (2, 9, 8), (2, 10, 9), (2, 11, 10), (2, 12, 11)].getD k (0, 0, 0)
  | 4 => [(2, 1, 0), (2, 2, 1)].getD k (0, 0, 0)
  | 5 => [(2, 1, 0), (2, 9, 1), (2, 75, 2), (2, 85, 3), (2, 98, 4), (2, 111, 5)].getD k (0, 0, 0)
  | _ => [(2, 1, 0), (0, 0, 0), (2, 2, 1), (0, 0, 0), (0, 0, 0), (0, 0, 0), (0, 0, 0), (0, 0, 0), (2, 3, 2), (2, 4, 3), (2, 5, 4), (2, 6, 5), (2, 7, 6), (2, 8, 7), (2, 9, 8), (1, 0, 0)].getD k (0, 0, 0)
/-- how many slots -/
def znf (t : Nat) : Nat := [11, 11, 3, 16, 7, 8, 16].getD t 0
def zval (base a p : Nat) (h : Int → Int) (d : Nat × Nat × Nat) (k : Nat) : Value :=
  match d.1 with
  | 0 => .int (Int32.ofInt (h k))
  | 1 => .long (Int64.ofInt (h k))
  | _ => if d.2.2 < p then .ref (base + a + d.2.1) else .null
def zfl (base a p t : Nat) (h : Int → Int) : List Value := (List.range (znf t)).map fun k => zval base a p h (zfd t k) k
abbrev zCI : Type := ClassId × ClassId × ClassId × ClassId
def zcell (ci : zCI) (base a : Nat) (k : LK) (h : Hp) : va_E :=
  match k.1 with
  | 0 => .inl (ci.1, k.2.1, .inl (fun j => Int32.ofInt (h a j)))
  | 1 => .inl (ci.2.1, k.2.1, .inl (fun j => Int32.ofInt (h a j)))
  | 2 => .inl (ci.2.2.1, k.2.1, .inr (.inr (.inr (.inr (fun i => if i < k.2.2.2 then some (base + (a + 1 + k.2.2.1 * i)) else none)))))
  | 3 => .inl (ci.2.2.2, k.2.1, .inr (.inr (.inr (.inr (fun i => if i < k.2.1 then some (base + (a + 1 + i)) else none)))))
  | t + 4 => .inr (t, zfl base a k.2.2.2 t (h a))
def zw (ci : zCI) (base : Nat) (lay : List LK) (h : Hp) : va_W := lay.mapIdx fun a k => (base + a, zcell ci base a k h)
theorem zw_at {ci : zCI} {base : Nat} {lay : List LK} {h : Hp} {a : Nat} {k : LK} (hk : lay[a]? = some k) : (zw ci base lay h)[a]? = some (base + a, zcell ci base a k h) := by
  simp [zw, hk]
theorem zw_inv {ci : zCI} {base : Nat} {lay : List LK} {h : Hp} {a : Nat} {q : Nat × va_E} (hq : (zw ci base lay h)[a]? = some q) : ∃ k, lay[a]? = some k ∧ q = (base + a, zcell ci base a k h) := by
  simp only [zw, List.getElem?_mapIdx, Option.map_eq_some_iff] at hq
  obtain ⟨k, h1, h2⟩ := hq
  exact ⟨k, h1, h2.symm⟩
def RelH (D : va_G) (ci : zCI) (base : Nat) (lay : List LK) (h : Hp) (H : Heap) : Prop := H.size = base + lay.length ∧ va_P D vwCl (zw ci base lay h) H
theorem zw_D {ci : zCI} {base : Nat} {lay : List LK} {h : Hp} : va_D (fun q => base ≤ q) (zw ci base lay h) := by
  refine ⟨fun i j p q hi hj e => ?_, fun k q hk => ?_⟩
  · obtain ⟨_, -, rfl⟩ := zw_inv hi
    obtain ⟨_, -, rfl⟩ := zw_inv hj
    have e : base + i = base + j := e
    omega
  · obtain ⟨_, -, rfl⟩ := zw_inv hk
    exact Nat.le_add_right _ _
def zint (k : LK) (i : Int) : Prop := k.1 < 4 ∨ (zfd (k.1 - 4) i.toNat).1 ≠ 1
def InR (lay : List LK) (h : Hp) : Prop := ∀ (a : Nat) (k : LK) (i : Int), lay[a]? = some k → zint k i → inR (h a i)
def NWs : List Cond := lw_tbl.filter fun w => match w with | .methodLinkNest .. => true | _ => false
def KK (D : va_G) (ci : zCI) (U : State) : Prop := va_K D vwCl [(ci.1, .int), (ci.2.1, .boolean), (ci.2.2.1, .object RX1), (ci.2.2.2, .array .int)] U ∧ ∀ w ∈ NWs, va_Nw w U
theorem nws_form {w : Cond} (h : w ∈ NWs) : ∃ a i x b, w = .methodLinkNest a i x b := by
  have h2 := (List.mem_filter.mp h).2
  cases w <;> first | exact ⟨_, _, _, _, rfl⟩ | simp at h2
theorem KK.warm {D : va_G} {ci : zCI} {s U : State} (hW : s.WarmedH U.vm) (h : KK D ci s) : KK D ci U := by
  refine ⟨va_K.moved hW.alike h.1, fun w hw => ?_⟩
  have h2 := h.2 w hw
  obtain ⟨a, i, x, b, rfl⟩ := nws_form hw
  exact va_Nw.warmM hW h2
theorem KK.call {D : va_G} {ci : zCI} {U : State} {g : JFrame} {mk : MethodId} {a : Array Value} (h : KK D ci U) : KK D ci (U.calling g mk a) := by
  refine ⟨va_K.moved (u := U) (U := U.calling g mk a) (Vm.Alike.refl U.vm) h.1, fun w hw => ?_⟩
  have h2 := h.2 w hw
  obtain ⟨x1, i, x, b, rfl⟩ := nws_form hw
  exact va_Nw.same rfl rfl h2
/-- a method: its name, code, locals, answer; frames, words, cells, slots of its room; the law's own script -/
abbrev MI : Type := MethodName × ByteArray × Nat × Option FieldType × Nat × Nat × Nat × Nat × Option (Nat × (Nat → Int32))
def CX (mi : MI) (p : Program) (R : Room) (s : State) (m : MethodId) (args : Array Value) (meth : Method) (c : Code) (D : va_G) (ci : zCI) (base b : Nat) : Prop :=
  p.tables.exec = Jvm.exec ∧ c.code = mi.2.1 ∧ c.maxLocals = mi.2.2.1 ∧ s.vm.findClass mi.1.cls = some m.cls ∧ (∀ w ∈ UW, w.before args s = true) ∧ KK D ci s ∧ meth.locks = false ∧ meth.sig.returnType = mi.2.2.2.1 ∧ meth.name = mi.1.name ∧
  R.frames = mi.2.2.2.2.1 ∧ R.locals = mi.2.2.2.2.2.1 ∧ R.cells = mi.2.2.2.2.2.2.1 ∧ R.slots = mi.2.2.2.2.2.2.2.1 ∧ base ≤ s.heap.size ∧
  ∀ L xs, mi.2.2.2.2.2.2.2.2 = some (L, xs) → va_X b L xs s s.heap ∧ b < base ∧ base = s.heap.size ∧ args = #[.ref b] ∧ mi.2.1 = code ∧ mi.2.2.2.1 = ret ∧ R = room_1
def zQ {α : Type} (enc : α → Option V) (FL : List LK → Prop) (D : va_G) (ci : zCI) (base b : Nat) (r : α) (h' : Hp) : Array Value → State → Outcome → State → Prop := fun _ st o t =>
  (o = .returned ((enc r).map (zc base b)) ∧ (∀ v, enc r = some v → okV v) ∧ ∃ layF, FL layF ∧ RelH D ci base layF h' t.heap ∧ InR layF h') ∧ va_F (fun q => base ≤ q) st t
def zpost {α : Type} (mi : MI) (enc : α → Option V) (FL : List LK → Prop) (D : va_G) (ci : zCI) (base b : Nat) (below : List Frame) (args : Array Value) (s : State) (r : α) (h' : Hp) : State → Prop :=
  match mi.2.2.2.2.2.2.2.2 with
  | none => MQ below (zQ enc FL D ci base b r h') args s mi.2.2.2.2.2.2.1 mi.2.2.2.2.2.2.2.1 (fun q => base ≤ q)
  | some _ => fun t => enc r = some (vi 1) → lw_Z below args s t
def SX (mi : MI) (D : va_G) (ci : zCI) (base b : Nat) (s : State) (lay : List LK) (lv : List (Nat × V)) (stk : List V) (h : Hp) (H : Heap) (locs : List Loc) (ls : Array Slot) : Prop :=
  (∀ q ∈ lv, okV q.2) ∧ (∀ v ∈ stk, okV v) ∧ InR lay h ∧ lv_has ls mi.2.2.1 (lv.map fun q => (q.1, zc base b q.2)) ∧ RelH D ci base lay h H ∧ va_S (fun q => base ≤ q) s.heap H locs
/-- from here on (place, locals, stack, heap) the method comes to its end with what E says -/
def J {α : Type} (mi : MI) (enc : α → Option V) (FL : List LK → Prop) (lay : List LK) (nc ns pc : Nat) (lv : List (Nat × V)) (stk : List V) (h : Hp) (E : O α) : Prop :=
  ∀ (p : Program) (l : Launch) (e : Env) (R : Room) (s : State) (m : MethodId) (args : Array Value) (below : List Frame) (meth : Method) (c : Code) (D : va_G) (ci : zCI) (base b : Nat), CX mi p R s m args meth c D ci base b →
    ∀ (H : Heap) (locs : List Loc) (ls : Array Slot) (r : α) (h' : Hp), E = some (r, h') → SX mi D ci base b s lay lv stk h H locs ls →
      W p l e R s m args below meth c H locs nc ns (zpost mi enc FL D ci base b below args s r h') (F0 m pc ls (stk.map (zc base b)))
section SXL
variable {mi : MI} {D : va_G} {ci : zCI} {base b : Nat} {s : State} {lay : List LK} {lv : List (Nat × V)} {stk stk' : List V} {h : Hp} {H : Heap} {locs : List Loc} {ls : Array Slot}
theorem SX.reStk (S : SX mi D ci base b s lay lv stk h H locs ls) (h2 : ∀ v ∈ stk', okV v) : SX mi D ci base b s lay lv stk' h H locs ls := ⟨S.1, h2, S.2.2⟩
theorem SX.push {v : V} (S : SX mi D ci base b s lay lv stk h H locs ls) (hv : okV v) : SX mi D ci base b s lay lv (v :: stk) h H locs ls := S.reStk fun w hw => by
  rcases List.mem_cons.mp hw with rfl | hw
  · exact hv
  · exact S.2.1 w hw
theorem SX.pop {v : V} (S : SX mi D ci base b s lay lv (v :: stk) h H locs ls) : SX mi D ci base b s lay lv stk h H locs ls := S.reStk fun w hw => S.2.1 w (List.mem_cons_of_mem _ hw)
theorem SX.top {v : V} (S : SX mi D ci base b s lay lv (v :: stk) h H locs ls) : okV v := S.2.1 v List.mem_cons_self
theorem SX.top2 {v w : V} (S : SX mi D ci base b s lay lv (v :: w :: stk) h H locs ls) : okV w := S.pop.top
theorem SX.heap {h1 : Hp} {H1 : Heap} {locs1 : List Loc} (S : SX mi D ci base b s lay lv stk h H locs ls) (hR : InR lay h1) (hP : RelH D ci base lay h1 H1) (hS : va_S (fun q => base ≤ q) s.heap H1 locs1) : SX mi D ci base b s lay lv stk h1 H1 locs1 ls := ⟨S.1, S.2.1, hR, S.2.2.2.1, hP, hS⟩
theorem SX.at (S : SX mi D ci base b s lay lv stk h H locs ls) (k : Nat) {i : Nat} {v : V} (hk : lv[k]? = some (i, v)) : ls[i]? = some (.val (zc base b v)) := lv_at S.2.2.2.1 k (by rw [List.getElem?_map, hk]; rfl)
theorem SX.ok (S : SX mi D ci base b s lay lv stk h H locs ls) (k : Nat) {i : Nat} {v : V} (hk : lv[k]? = some (i, v)) : okV v := S.1 _ (List.mem_of_getElem? hk)
theorem SX.reLv {lv' : List (Nat × V)} {ls' : Array Slot} (S : SX mi D ci base b s lay lv stk h H locs ls) (h1 : ∀ q ∈ lv', okV q.2) (h2 : lv_has ls' mi.2.2.1 (lv'.map fun q => (q.1, zc base b q.2))) : SX mi D ci base b s lay lv' stk h H locs ls' := ⟨h1, S.2.1, S.2.2.1, h2, S.2.2.2.2⟩
end SXL
def zst (lv : List (Nat × V)) (i : Nat) (v : V) : List (Nat × V) :=
  (i, v) :: lv.filter fun q => !(q.1 == i) && !(q.1 + 1 == i && (match q.2 with | .inr (.inr (.inl _)) => true | _ => false))
theorem zc_cat (base b : Nat) (v : V) : ((zc base b v).category == 2) = (match v with | .inr (.inr (.inl _)) => true | _ => false) := by
  rcases v with x | a | x | x <;> rfl
theorem zst_map (base b : Nat) (lv : List (Nat × V)) (i : Nat) (v : V) : (i, zc base b v) :: (lv.map fun q => (q.1, zc base b q.2)).filter (fun q => !(q.1 == i) && !(q.1 + 1 == i && q.2.category == 2)) = (zst lv i v).map fun q => (q.1, zc base b q.2) := by
  unfold zst
  rw [List.map_cons, List.filter_map]
  congr 2
  apply List.filter_congr
  intro q _
  simp only [Function.comp, zc_cat]
theorem zst_ok {lv : List (Nat × V)} {i : Nat} {v : V} (h : ∀ q ∈ lv, okV q.2) (hv : okV v) : ∀ q ∈ zst lv i v, okV q.2 := by
  intro q hq
  rcases List.mem_cons.mp hq with rfl | hq
  · exact hv
  · exact h q (List.mem_filter.mp hq).1
end
section
section JR
variable {α : Type} {mi : MI} {enc : α → Option V} {FL : List LK → Prop} {lay : List LK} {nc ns pc : Nat} {lv : List (Nat × V)} {stk : List V} {h : Hp} {E E2 : O α}
theorem j_iconst {n : Int} {x : Int} (hd : decode mi.2.1 pc = .ok (.iconst n, 1)) (hv : Int32.ofInt n = Int32.ofInt x) (hx : inR x) (k : J mi enc FL lay nc ns (pc + 1) lv (vi x :: stk) h E) : J mi enc FL lay nc ns pc lv stk h E := by
  intro p l e R s m args below meth c D ci base b C H locs ls r h2 hE S
  refine lv_iconst C.1 C.2.1 hd hv ?_
  exact k p l e R s m args below meth c D ci base b C H locs _ r h2 hE (S.push hx)
theorem j_bipush {n : Int} {x : Int} (hd : decode mi.2.1 pc = .ok (.bipush n, 2)) (hv : (Int8.ofInt n).toInt32 = Int32.ofInt x) (hx : inR x) (k : J mi enc FL lay nc ns (pc + 2) lv (vi x :: stk) h E) : J mi enc FL lay nc ns pc lv stk h E := by
  intro p l e R s m args below meth c D ci base b C H locs ls r h2 hE S
  refine lv_bipush C.1 C.2.1 hd hv ?_
  exact k p l e R s m args below meth c D ci base b C H locs _ r h2 hE (S.push hx)
theorem j_sipush {n : Int} {x : Int} (hd : decode mi.2.1 pc = .ok (.sipush n, 3)) (hv : (Int16.ofInt n).toInt32 = Int32.ofInt x) (hx : inR x) (k : J mi enc FL lay nc ns (pc + 3) lv (vi x :: stk) h E) : J mi enc FL lay nc ns pc lv stk h E := by
  intro p l e R s m args below meth c D ci base b C H locs ls r h2 hE S
  refine lv_sipush C.1 C.2.1 hd hv ?_
  exact k p l e R s m args below meth c D ci base b C H locs _ r h2 hE (S.push hx)
theorem j_ldc {index : Nat} {x : Int} (hd : decode mi.2.1 pc = .ok (.ldc index, 2)) (hw : Cond.constant mi.1.cls index (Int32.ofInt x) ∈ UW) (hx : inR x) (k : J mi enc FL lay nc ns (pc + 2) lv (vi x :: stk) h E) : J mi enc FL lay nc ns pc lv stk h E := by
  intro p l e R s m args below meth c D ci base b C H locs ls r h2 hE S
  refine lv_ldc C.1 C.2.1 C.2.2.2.1 (C.2.2.2.2.1 _ hw) hd ?_
  exact k p l e R s m args below meth c D ci base b C H locs _ r h2 hE (S.push hx)
theorem j_ldc2 {index : Nat} {x : Int} (hd : decode mi.2.1 pc = .ok (.ldc2_w index, 3)) (hw : Cond.constantLong mi.1.cls index (Int64.ofInt x) ∈ UW) (k : J mi enc FL lay nc ns (pc + 3) lv (vl x :: stk) h E) : J mi enc FL lay nc ns pc lv stk h E := by
  intro p l e R s m args below meth c D ci base b C H locs ls r h2 hE S
  refine lv_ldc2 C.1 C.2.1 C.2.2.2.1 (C.2.2.2.2.1 _ hw) hd ?_
  exact k p l e R s m args below meth c D ci base b C H locs _ r h2 hE (S.push trivial)
theorem j_iload_n {q : Fin 4} (i : Nat) {x : Int} (hd : decode mi.2.1 pc = .ok (.iload_n q, 1)) (hl : lv[i]? = some ((q : Nat), vi x)) (k : J mi enc FL lay nc ns (pc + 1) lv (vi x :: stk) h E) : J mi enc FL lay nc ns pc lv stk h E := by
  intro p l e R s m args below meth c D ci base b C H locs ls r h2 hE S
  refine lv_iload_n C.1 C.2.1 hd rfl (S.at i hl) ?_
  exact k p l e R s m args below meth c D ci base b C H locs _ r h2 hE (S.push (S.ok i hl))
theorem j_iload {q : Nat} (i : Nat) {x : Int} (hd : decode mi.2.1 pc = .ok (.iload q, 2)) (hl : lv[i]? = some (q, vi x)) (k : J mi enc FL lay nc ns (pc + 2) lv (vi x :: stk) h E) : J mi enc FL lay nc ns pc lv stk h E := by
  intro p l e R s m args below meth c D ci base b C H locs ls r h2 hE S
  refine lv_iload C.1 C.2.1 hd (S.at i hl) ?_
  exact k p l e R s m args below meth c D ci base b C H locs _ r h2 hE (S.push (S.ok i hl))
theorem j_lload_n {q : Fin 4} (i : Nat) {x : Int} (hd : decode mi.2.1 pc = .ok (.lload_n q, 1)) (hl : lv[i]? = some ((q : Nat), vl x)) (k : J mi enc FL lay nc ns (pc + 1) lv (vl x :: stk) h E) : J mi enc FL lay nc ns pc lv stk h E := by
  intro p l e R s m args below meth c D ci base b C H locs ls r h2 hE S
  refine lv_lload_n C.1 C.2.1 hd rfl (S.at i hl) ?_
  exact k p l e R s m args below meth c D ci base b C H locs _ r h2 hE (S.push (S.ok i hl))
theorem j_lload {q : Nat} (i : Nat) {x : Int} (hd : decode mi.2.1 pc = .ok (.lload q, 2)) (hl : lv[i]? = some (q, vl x)) (k : J mi enc FL lay nc ns (pc + 2) lv (vl x :: stk) h E) : J mi enc FL lay nc ns pc lv stk h E := by
  intro p l e R s m args below meth c D ci base b C H locs ls r h2 hE S
  refine lv_lload C.1 C.2.1 hd (S.at i hl) ?_
  exact k p l e R s m args below meth c D ci base b C H locs _ r h2 hE (S.push (S.ok i hl))
theorem j_aload_n {q : Fin 4} (i : Nat) {x : Nat} (hd : decode mi.2.1 pc = .ok (.aload_n q, 1)) (hl : lv[i]? = some ((q : Nat), vr x)) (k : J mi enc FL lay nc ns (pc + 1) lv (vr x :: stk) h E) : J mi enc FL lay nc ns pc lv stk h E := by
  intro p l e R s m args below meth c D ci base b C H locs ls r h2 hE S
  refine lv_aload_n C.1 C.2.1 hd rfl (S.at i hl) ?_
  exact k p l e R s m args below meth c D ci base b C H locs _ r h2 hE (S.push (S.ok i hl))
theorem j_aload {q : Nat} (i : Nat) {x : Nat} (hd : decode mi.2.1 pc = .ok (.aload q, 2)) (hl : lv[i]? = some (q, vr x)) (k : J mi enc FL lay nc ns (pc + 2) lv (vr x :: stk) h E) : J mi enc FL lay nc ns pc lv stk h E := by
  intro p l e R s m args below meth c D ci base b C H locs ls r h2 hE S
  refine lv_aload C.1 C.2.1 hd (S.at i hl) ?_
  exact k p l e R s m args below meth c D ci base b C H locs _ r h2 hE (S.push (S.ok i hl))
theorem j_sload_n {q : Fin 4} (i : Nat) (hd : decode mi.2.1 pc = .ok (.aload_n q, 1)) (hl : lv[i]? = some ((q : Nat), vsc)) (k : J mi enc FL lay nc ns (pc + 1) lv (vsc :: stk) h E) : J mi enc FL lay nc ns pc lv stk h E := by
  intro p l e R s m args below meth c D ci base b C H locs ls r h2 hE S
  refine lv_aload_n C.1 C.2.1 hd rfl (S.at i hl) ?_
  exact k p l e R s m args below meth c D ci base b C H locs _ r h2 hE (S.push (S.ok i hl))
theorem j_istore_n {q : Fin 4} {lv' : List (Nat × V)} {x : Int} (hd : decode mi.2.1 pc = .ok (.istore_n q, 1)) (hn : (q : Nat) < mi.2.2.1) (hl : zst lv q (vi x) = lv') (k : J mi enc FL lay nc ns (pc + 1) lv' stk h E) : J mi enc FL lay nc ns pc lv (vi x :: stk) h E := by
  intro p l e R s m args below meth c D ci base b C H locs ls r h2 hE S
  subst hl
  refine lv_istore_n C.1 C.2.1 hd rfl S.2.2.2.1 hn (zst_map base b lv q (vi x)) (fun ls' hl' => ?_)
  exact k p l e R s m args below meth c D ci base b C H locs _ r h2 hE (S.pop.reLv (zst_ok S.1 S.top) hl')
theorem j_istore {q : Nat} {lv' : List (Nat × V)} {x : Int} (hd : decode mi.2.1 pc = .ok (.istore q, 2)) (hn : q < mi.2.2.1) (hl : zst lv q (vi x) = lv') (k : J mi enc FL lay nc ns (pc + 2) lv' stk h E) : J mi enc FL lay nc ns pc lv (vi x :: stk) h E := by
  intro p l e R s m args below meth c D ci base b C H locs ls r h2 hE S
  subst hl
  refine lv_istore C.1 C.2.1 hd S.2.2.2.1 hn (zst_map base b lv q (vi x)) (fun ls' hl' => ?_)
  exact k p l e R s m args below meth c D ci base b C H locs _ r h2 hE (S.pop.reLv (zst_ok S.1 S.top) hl')
theorem j_astore_n {q : Fin 4} {lv' : List (Nat × V)} {x : Nat} (hd : decode mi.2.1 pc = .ok (.astore_n q, 1)) (hn : (q : Nat) < mi.2.2.1) (hl : zst lv q (vr x) = lv') (k : J mi enc FL lay nc ns (pc + 1) lv' stk h E) : J mi enc FL lay nc ns pc lv (vr x :: stk) h E := by
  intro p l e R s m args below meth c D ci base b C H locs ls r h2 hE S
  subst hl
  refine lv_astore_n C.1 C.2.1 hd rfl S.2.2.2.1 hn (zst_map base b lv q (vr x)) (fun ls' hl' => ?_)
  exact k p l e R s m args below meth c D ci base b C H locs _ r h2 hE (S.pop.reLv (zst_ok S.1 S.top) hl')
theorem j_astore {q : Nat} {lv' : List (Nat × V)} {x : Nat} (hd : decode mi.2.1 pc = .ok (.astore q, 2)) (hn : q < mi.2.2.1) (hl : zst lv q (vr x) = lv') (k : J mi enc FL lay nc ns (pc + 2) lv' stk h E) : J mi enc FL lay nc ns pc lv (vr x :: stk) h E := by
  intro p l e R s m args below meth c D ci base b C H locs ls r h2 hE S
  subst hl
  refine lv_astore C.1 C.2.1 hd S.2.2.2.1 hn (zst_map base b lv q (vr x)) (fun ls' hl' => ?_)
  exact k p l e R s m args below meth c D ci base b C H locs _ r h2 hE (S.pop.reLv (zst_ok S.1 S.top) hl')
theorem j_iinc {q : Nat} (i : Nat) {lv' : List (Nat × V)} {x n : Int} (hd : decode mi.2.1 pc = .ok (.iinc q n, 3)) (hi : lv[i]? = some (q, vi x)) (hn : q < mi.2.2.1) (hl : zst lv q (vi (x + n)) = lv') (k : J mi enc FL lay nc ns (pc + 3) lv' stk h E) : J mi enc FL lay nc ns pc lv stk h (ck (x + n) E) := by
  intro p l e R s m args below meth c D ci base b C H locs ls r h2 hE S
  subst hl
  obtain ⟨hz, hE⟩ := ck_some hE
  refine lv_iinc (v := Int32.ofInt (x + n)) (x := Int32.ofInt x) (k := i) C.1 C.2.1 hd S.2.2.2.1 (by rw [List.getElem?_map, hi]; rfl) (Int32.ofInt_add x n).symm hn (zst_map base b lv q (vi (x + n))) (fun ls' hl' => ?_)
  exact k p l e R s m args below meth c D ci base b C H locs _ r h2 hE (S.reLv (zst_ok S.1 hz) hl')
theorem j_iadd {x y : Int} (hd : decode mi.2.1 pc = .ok (.iadd, 1)) (k : J mi enc FL lay nc ns (pc + 1) lv (vi (x + y) :: stk) h E) : J mi enc FL lay nc ns pc lv (vi y :: vi x :: stk) h (ck (x + y) E) := by
  intro p l e R s m args below meth c D ci base b C H locs ls r h2 hE S
  obtain ⟨hz, hE⟩ := ck_some hE
  refine lv_iadd C.1 C.2.1 hd ?_
  rw [← Int32.ofInt_add x y]
  exact k p l e R s m args below meth c D ci base b C H locs _ r h2 hE (S.pop.pop.push (v := vi (x + y)) hz)
theorem j_isub {x y : Int} (hd : decode mi.2.1 pc = .ok (.isub, 1)) (k : J mi enc FL lay nc ns (pc + 1) lv (vi (x - y) :: stk) h E) : J mi enc FL lay nc ns pc lv (vi y :: vi x :: stk) h (ck (x - y) E) := by
  intro p l e R s m args below meth c D ci base b C H locs ls r h2 hE S
  obtain ⟨hz, hE⟩ := ck_some hE
  refine lv_isub C.1 C.2.1 hd ?_
  rw [← Int32.ofInt_sub x y]
  exact k p l e R s m args below meth c D ci base b C H locs _ r h2 hE (S.pop.pop.push (v := vi (x - y)) hz)
theorem j_imul {x y : Int} (hd : decode mi.2.1 pc = .ok (.imul, 1)) (k : J mi enc FL lay nc ns (pc + 1) lv (vi (x * y) :: stk) h E) : J mi enc FL lay nc ns pc lv (vi y :: vi x :: stk) h (ck (x * y) E) := by
  intro p l e R s m args below meth c D ci base b C H locs ls r h2 hE S
  obtain ⟨hz, hE⟩ := ck_some hE
  refine lv_imul C.1 C.2.1 hd ?_
  rw [← Int32.ofInt_mul x y]
  exact k p l e R s m args below meth c D ci base b C H locs _ r h2 hE (S.pop.pop.push (v := vi (x * y)) hz)
theorem j_ineg {x : Int} (hd : decode mi.2.1 pc = .ok (.ineg, 1)) (k : J mi enc FL lay nc ns (pc + 1) lv (vi (-x) :: stk) h E) : J mi enc FL lay nc ns pc lv (vi x :: stk) h (ck (-x) E) := by
  intro p l e R s m args below meth c D ci base b C H locs ls r h2 hE S
  obtain ⟨hz, hE⟩ := ck_some hE
  refine lv_ineg C.1 C.2.1 hd ?_
  rw [← Int32.ofInt_neg x]
  exact k p l e R s m args below meth c D ci base b C H locs _ r h2 hE (S.pop.push (v := vi (-x)) hz)
theorem j_idiv {x y : Int} (hd : decode mi.2.1 pc = .ok (.idiv, 1)) (k : J mi enc FL lay nc ns (pc + 1) lv (vi (x / y) :: stk) h E) : J mi enc FL lay nc ns pc lv (vi y :: vi x :: stk) h (dv x y E) := by
  intro p l e R s m args below meth c D ci base b C H locs ls r h2 hE S
  obtain ⟨hz, hE⟩ := dv_some hE
  have hy : inR y := S.top
  have hx : inR x := S.top2
  refine lv_idiv C.1 C.2.1 hd (fun h0 => ?_) ?_
  · have := (i32_eq hy inR0).mp h0
    omega
  · have ee : Int32.ofInt x / Int32.ofInt y = Int32.ofInt (x / y) := by
      rw [← Int.tdiv_eq_ediv_of_nonneg hz.1]
      exact (Int32.ofInt_tdiv hx.1 hx.2 hy.1 hy.2).symm
    rw [ee]
    have h1 : 0 ≤ x / y := Int.ediv_nonneg hz.1 (Int.le_of_lt hz.2)
    have h2' : x / y ≤ x := Int.ediv_le_self y hz.1
    exact k p l e R s m args below meth c D ci base b C H locs _ r h2 hE (S.pop.pop.push (v := vi (x / y)) ⟨by omega, by have := hx.2; omega⟩)
theorem j_irem {x y : Int} (hd : decode mi.2.1 pc = .ok (.irem, 1)) (k : J mi enc FL lay nc ns (pc + 1) lv (vi (x % y) :: stk) h E) : J mi enc FL lay nc ns pc lv (vi y :: vi x :: stk) h (dv x y E) := by
  intro p l e R s m args below meth c D ci base b C H locs ls r h2 hE S
  obtain ⟨hz, hE⟩ := dv_some hE
  have hy : inR y := S.top
  have hx : inR x := S.top2
  refine lv_irem C.1 C.2.1 hd (fun h0 => ?_) ?_
  · have := (i32_eq hy inR0).mp h0
    omega
  · have ee : Int32.ofInt x - Int32.ofInt x / Int32.ofInt y * Int32.ofInt y = Int32.ofInt (x % y) := by
      have e1 : Int32.ofInt x / Int32.ofInt y = Int32.ofInt (x / y) := by
        rw [← Int.tdiv_eq_ediv_of_nonneg hz.1]
        exact (Int32.ofInt_tdiv hx.1 hx.2 hy.1 hy.2).symm
      rw [e1, ← Int32.ofInt_mul, ← Int32.ofInt_sub, Int.emod_def, Int.mul_comm]
    rw [ee]
    have h1 := Int.emod_nonneg x (show y ≠ 0 by omega)
    have h2' := Int.emod_lt_of_pos x hz.2
    exact k p l e R s m args below meth c D ci base b C H locs _ r h2 hE (S.pop.pop.push (v := vi (x % y)) ⟨by omega, by have := hy.2; omega⟩)
theorem j_i2l {x : Int} (hd : decode mi.2.1 pc = .ok (.i2l, 1)) (k : J mi enc FL lay nc ns (pc + 1) lv (vl x :: stk) h E) : J mi enc FL lay nc ns pc lv (vi x :: stk) h E := by
  intro p l e R s m args below meth c D ci base b C H locs ls r h2 hE S
  have hx : inR x := S.top
  refine lv_i2l C.1 C.2.1 hd (Int32.toInt64_ofInt hx.1 hx.2) ?_
  exact k p l e R s m args below meth c D ci base b C H locs _ r h2 hE (S.pop.push (v := vl x) trivial)
theorem j_ladd {x y : Int} (hd : decode mi.2.1 pc = .ok (.ladd, 1)) (k : J mi enc FL lay nc ns (pc + 1) lv (vl (x + y) :: stk) h E) : J mi enc FL lay nc ns pc lv (vl y :: vl x :: stk) h E := by
  intro p l e R s m args below meth c D ci base b C H locs ls r h2 hE S
  refine lv_ladd C.1 C.2.1 hd ?_
  rw [← Int64.ofInt_add x y]
  exact k p l e R s m args below meth c D ci base b C H locs _ r h2 hE (S.pop.pop.push (v := vl (x + y)) trivial)
theorem j_lmul {x y : Int} (hd : decode mi.2.1 pc = .ok (.lmul, 1)) (k : J mi enc FL lay nc ns (pc + 1) lv (vl (x * y) :: stk) h E) : J mi enc FL lay nc ns pc lv (vl y :: vl x :: stk) h E := by
  intro p l e R s m args below meth c D ci base b C H locs ls r h2 hE S
  refine lv_lmul C.1 C.2.1 hd ?_
  rw [← Int64.ofInt_mul x y]
  exact k p l e R s m args below meth c D ci base b C H locs _ r h2 hE (S.pop.pop.push (v := vl (x * y)) trivial)
/-- long numbers are compared for being the same alone -/
theorem j_lcmp {x y : Int} (hd : decode mi.2.1 pc = .ok (.lcmp, 1)) (k : J mi enc FL lay nc ns (pc + 1) lv (vi 0 :: stk) h E) : J mi enc FL lay nc ns pc lv (vl y :: vl x :: stk) h (if x = y then E else none) := by
  intro p l e R s m args below meth c D ci base b C H locs ls r h2 hE S
  split at hE
  · rename_i hxy
    subst hxy
    refine W.lcmp C.1 C.2.1 hd ?_
    have ee : lg_cmp (Int64.ofInt x) (Int64.ofInt x) = Int32.ofInt 0 := by simp [lg_cmp]
    rw [ee]
    exact k p l e R s m args below meth c D ci base b C H locs _ r h2 hE (S.pop.pop.push (v := vi 0) inR0)
  · cases hE
theorem j_dup {v : V} (hd : decode mi.2.1 pc = .ok (.dup, 1)) (hc : ∀ base b, (zc base b v).category = 1) (k : J mi enc FL lay nc ns (pc + 1) lv (v :: v :: stk) h E) : J mi enc FL lay nc ns pc lv (v :: stk) h E := by
  intro p l e R s m args below meth c D ci base b C H locs ls r h2 hE S
  refine lv_dup C.1 C.2.1 hd (hc base b) ?_
  exact k p l e R s m args below meth c D ci base b C H locs _ r h2 hE (S.push S.top)
theorem j_dup2 {v w : V} (hd : decode mi.2.1 pc = .ok (.dup2, 1)) (hc : ∀ base b, (zc base b v).category = 1) (hc2 : ∀ base b, (zc base b w).category = 1) (k : J mi enc FL lay nc ns (pc + 1) lv (v :: w :: v :: w :: stk) h E) : J mi enc FL lay nc ns pc lv (v :: w :: stk) h E := by
  intro p l e R s m args below meth c D ci base b C H locs ls r h2 hE S
  refine lv_dup2_11 C.1 C.2.1 hd (hc base b) (hc2 base b) ?_
  exact k p l e R s m args below meth c D ci base b C H locs _ r h2 hE ((S.push S.top2).push S.top)
theorem j_goto {off : Int} {tgt : Nat} (hd : decode mi.2.1 pc = .ok (.goto off, 3)) (ht : (pc : Int) + off = (tgt : Int)) (k : J mi enc FL lay nc ns tgt lv stk h E) : J mi enc FL lay nc ns pc lv stk h E := by
  intro p l e R s m args below meth c D ci base b C H locs ls r h2 hE S
  refine lv_goto C.1 C.2.1 hd ht ?_
  exact k p l e R s m args below meth c D ci base b C H locs _ r h2 hE S
theorem j_icmp_eq {x y : Int} {off : Int} {tgt : Nat} (hd : decode mi.2.1 pc = .ok (.if_icmp .eq off, 3)) (ht : (pc : Int) + off = (tgt : Int)) (kA : J mi enc FL lay nc ns tgt lv stk h E) (kB : J mi enc FL lay nc ns (pc + 3) lv stk h E2) : J mi enc FL lay nc ns pc lv (vi y :: vi x :: stk) h (if x = y then E else E2) := by
  intro p l e R s m args below meth c D ci base b C H locs ls r h2 hE S
  have hy : inR y := S.top
  have hx : inR x := S.top2
  refine lv_icmp_eq C.1 C.2.1 hd ht (fun hc => ?_) (fun hc => ?_)
  · have hP : x = y := (i32_eq hx hy).mp hc
    rw [if_pos hP] at hE
    exact kA p l e R s m args below meth c D ci base b C H locs _ r h2 hE S.pop.pop
  · have hP : ¬ x = y := fun q => hc ((i32_eq hx hy).mpr q)
    rw [if_neg hP] at hE
    exact kB p l e R s m args below meth c D ci base b C H locs _ r h2 hE S.pop.pop
theorem j_if_eq {x : Int} {off : Int} {tgt : Nat} (hd : decode mi.2.1 pc = .ok (.ifCond .eq off, 3)) (ht : (pc : Int) + off = (tgt : Int)) (kA : J mi enc FL lay nc ns tgt lv stk h E) (kB : J mi enc FL lay nc ns (pc + 3) lv stk h E2) : J mi enc FL lay nc ns pc lv (vi x :: stk) h (if x = 0 then E else E2) := by
  intro p l e R s m args below meth c D ci base b C H locs ls r h2 hE S
  have hx : inR x := S.top
  have hy : inR 0 := inR0
  refine lv_if_eq C.1 C.2.1 hd ht (fun hc => ?_) (fun hc => ?_)
  · have hP : x = 0 := (i32_eq hx hy).mp hc
    rw [if_pos hP] at hE
    exact kA p l e R s m args below meth c D ci base b C H locs _ r h2 hE S.pop
  · have hP : ¬ x = 0 := fun q => hc ((i32_eq hx hy).mpr q)
    rw [if_neg hP] at hE
    exact kB p l e R s m args below meth c D ci base b C H locs _ r h2 hE S.pop
theorem j_icmp_ne {x y : Int} {off : Int} {tgt : Nat} (hd : decode mi.2.1 pc = .ok (.if_icmp .ne off, 3)) (ht : (pc : Int) + off = (tgt : Int)) (kA : J mi enc FL lay nc ns (pc + 3) lv stk h E) (kB : J mi enc FL lay nc ns tgt lv stk h E2) : J mi enc FL lay nc ns pc lv (vi y :: vi x :: stk) h (if x = y then E else E2) := by
  intro p l e R s m args below meth c D ci base b C H locs ls r h2 hE S
  have hy : inR y := S.top
  have hx : inR x := S.top2
  refine lv_icmp_ne C.1 C.2.1 hd ht (fun hc => ?_) (fun hc => ?_)
  · have hP : ¬ x = y := fun q => hc ((i32_eq hx hy).mpr q)
    rw [if_neg hP] at hE
    exact kB p l e R s m args below meth c D ci base b C H locs _ r h2 hE S.pop.pop
  · have hP : x = y := (i32_eq hx hy).mp hc
    rw [if_pos hP] at hE
    exact kA p l e R s m args below meth c D ci base b C H locs _ r h2 hE S.pop.pop
theorem j_if_ne {x : Int} {off : Int} {tgt : Nat} (hd : decode mi.2.1 pc = .ok (.ifCond .ne off, 3)) (ht : (pc : Int) + off = (tgt : Int)) (kA : J mi enc FL lay nc ns (pc + 3) lv stk h E) (kB : J mi enc FL lay nc ns tgt lv stk h E2) : J mi enc FL lay nc ns pc lv (vi x :: stk) h (if x = 0 then E else E2) := by
  intro p l e R s m args below meth c D ci base b C H locs ls r h2 hE S
  have hx : inR x := S.top
  have hy : inR 0 := inR0
  refine lv_if_ne C.1 C.2.1 hd ht (fun hc => ?_) (fun hc => ?_)
  · have hP : ¬ x = 0 := fun q => hc ((i32_eq hx hy).mpr q)
    rw [if_neg hP] at hE
    exact kB p l e R s m args below meth c D ci base b C H locs _ r h2 hE S.pop
  · have hP : x = 0 := (i32_eq hx hy).mp hc
    rw [if_pos hP] at hE
    exact kA p l e R s m args below meth c D ci base b C H locs _ r h2 hE S.pop
theorem j_icmp_lt {x y : Int} {off : Int} {tgt : Nat} (hd : decode mi.2.1 pc = .ok (.if_icmp .lt off, 3)) (ht : (pc : Int) + off = (tgt : Int)) (kA : J mi enc FL lay nc ns tgt lv stk h E) (kB : J mi enc FL lay nc ns (pc + 3) lv stk h E2) : J mi enc FL lay nc ns pc lv (vi y :: vi x :: stk) h (if x < y then E else E2) := by
  intro p l e R s m args below meth c D ci base b C H locs ls r h2 hE S
  have hy : inR y := S.top
  have hx : inR x := S.top2
  refine lv_icmp_lt C.1 C.2.1 hd ht (fun hc => ?_) (fun hc => ?_)
  · have hP : x < y := (i32_lt hx hy).mp hc
    rw [if_pos hP] at hE
    exact kA p l e R s m args below meth c D ci base b C H locs _ r h2 hE S.pop.pop
  · have hP : ¬ x < y := fun q => hc ((i32_lt hx hy).mpr q)
    rw [if_neg hP] at hE
    exact kB p l e R s m args below meth c D ci base b C H locs _ r h2 hE S.pop.pop
theorem j_if_lt {x : Int} {off : Int} {tgt : Nat} (hd : decode mi.2.1 pc = .ok (.ifCond .lt off, 3)) (ht : (pc : Int) + off = (tgt : Int)) (kA : J mi enc FL lay nc ns tgt lv stk h E) (kB : J mi enc FL lay nc ns (pc + 3) lv stk h E2) : J mi enc FL lay nc ns pc lv (vi x :: stk) h (if x < 0 then E else E2) := by
  intro p l e R s m args below meth c D ci base b C H locs ls r h2 hE S
  have hx : inR x := S.top
  have hy : inR 0 := inR0
  refine lv_if_lt C.1 C.2.1 hd ht (fun hc => ?_) (fun hc => ?_)
  · have hP : x < 0 := (i32_lt hx hy).mp hc
    rw [if_pos hP] at hE
    exact kA p l e R s m args below meth c D ci base b C H locs _ r h2 hE S.pop
  · have hP : ¬ x < 0 := fun q => hc ((i32_lt hx hy).mpr q)
    rw [if_neg hP] at hE
    exact kB p l e R s m args below meth c D ci base b C H locs _ r h2 hE S.pop
theorem j_icmp_ge {x y : Int} {off : Int} {tgt : Nat} (hd : decode mi.2.1 pc = .ok (.if_icmp .ge off, 3)) (ht : (pc : Int) + off = (tgt : Int)) (kA : J mi enc FL lay nc ns (pc + 3) lv stk h E) (kB : J mi enc FL lay nc ns tgt lv stk h E2) : J mi enc FL lay nc ns pc lv (vi y :: vi x :: stk) h (if x < y then E else E2) := by
  intro p l e R s m args below meth c D ci base b C H locs ls r h2 hE S
  have hy : inR y := S.top
  have hx : inR x := S.top2
  refine lv_icmp_ge C.1 C.2.1 hd ht (fun hc => ?_) (fun hc => ?_)
  · have hP : ¬ x < y := Int.not_lt.mpr ((i32_le hy hx).mp hc)
    rw [if_neg hP] at hE
    exact kB p l e R s m args below meth c D ci base b C H locs _ r h2 hE S.pop.pop
  · have hP : x < y := Int.not_le.mp (fun q => hc ((i32_le hy hx).mpr q))
    rw [if_pos hP] at hE
    exact kA p l e R s m args below meth c D ci base b C H locs _ r h2 hE S.pop.pop
theorem j_if_ge {x : Int} {off : Int} {tgt : Nat} (hd : decode mi.2.1 pc = .ok (.ifCond .ge off, 3)) (ht : (pc : Int) + off = (tgt : Int)) (kA : J mi enc FL lay nc ns (pc + 3) lv stk h E) (kB : J mi enc FL lay nc ns tgt lv stk h E2) : J mi enc FL lay nc ns pc lv (vi x :: stk) h (if x < 0 then E else E2) := by
  intro p l e R s m args below meth c D ci base b C H locs ls r h2 hE S
  have hx : inR x := S.top
  have hy : inR 0 := inR0
  refine lv_if_ge C.1 C.2.1 hd ht (fun hc => ?_) (fun hc => ?_)
  · have hP : ¬ x < 0 := Int.not_lt.mpr ((i32_le hy hx).mp hc)
    rw [if_neg hP] at hE
    exact kB p l e R s m args below meth c D ci base b C H locs _ r h2 hE S.pop
  · have hP : x < 0 := Int.not_le.mp (fun q => hc ((i32_le hy hx).mpr q))
    rw [if_pos hP] at hE
    exact kA p l e R s m args below meth c D ci base b C H locs _ r h2 hE S.pop
theorem j_icmp_gt {x y : Int} {off : Int} {tgt : Nat} (hd : decode mi.2.1 pc = .ok (.if_icmp .gt off, 3)) (ht : (pc : Int) + off = (tgt : Int)) (kA : J mi enc FL lay nc ns tgt lv stk h E) (kB : J mi enc FL lay nc ns (pc + 3) lv stk h E2) : J mi enc FL lay nc ns pc lv (vi y :: vi x :: stk) h (if y < x then E else E2) := by
  intro p l e R s m args below meth c D ci base b C H locs ls r h2 hE S
  have hy : inR y := S.top
  have hx : inR x := S.top2
  refine lv_icmp_gt C.1 C.2.1 hd ht (fun hc => ?_) (fun hc => ?_)
  · have hP : y < x := (i32_lt hy hx).mp hc
    rw [if_pos hP] at hE
    exact kA p l e R s m args below meth c D ci base b C H locs _ r h2 hE S.pop.pop
  · have hP : ¬ y < x := fun q => hc ((i32_lt hy hx).mpr q)
    rw [if_neg hP] at hE
    exact kB p l e R s m args below meth c D ci base b C H locs _ r h2 hE S.pop.pop
theorem j_if_gt {x : Int} {off : Int} {tgt : Nat} (hd : decode mi.2.1 pc = .ok (.ifCond .gt off, 3)) (ht : (pc : Int) + off = (tgt : Int)) (kA : J mi enc FL lay nc ns tgt lv stk h E) (kB : J mi enc FL lay nc ns (pc + 3) lv stk h E2) : J mi enc FL lay nc ns pc lv (vi x :: stk) h (if 0 < x then E else E2) := by
  intro p l e R s m args below meth c D ci base b C H locs ls r h2 hE S
  have hx : inR x := S.top
  have hy : inR 0 := inR0
  refine lv_if_gt C.1 C.2.1 hd ht (fun hc => ?_) (fun hc => ?_)
  · have hP : 0 < x := (i32_lt hy hx).mp hc
    rw [if_pos hP] at hE
    exact kA p l e R s m args below meth c D ci base b C H locs _ r h2 hE S.pop
  · have hP : ¬ 0 < x := fun q => hc ((i32_lt hy hx).mpr q)
    rw [if_neg hP] at hE
    exact kB p l e R s m args below meth c D ci base b C H locs _ r h2 hE S.pop
theorem j_icmp_le {x y : Int} {off : Int} {tgt : Nat} (hd : decode mi.2.1 pc = .ok (.if_icmp .le off, 3)) (ht : (pc : Int) + off = (tgt : Int)) (kA : J mi enc FL lay nc ns (pc + 3) lv stk h E) (kB : J mi enc FL lay nc ns tgt lv stk h E2) : J mi enc FL lay nc ns pc lv (vi y :: vi x :: stk) h (if y < x then E else E2) := by
  intro p l e R s m args below meth c D ci base b C H locs ls r h2 hE S
  have hy : inR y := S.top
  have hx : inR x := S.top2
  refine lv_icmp_le C.1 C.2.1 hd ht (fun hc => ?_) (fun hc => ?_)
  · have hP : ¬ y < x := Int.not_lt.mpr ((i32_le hx hy).mp hc)
    rw [if_neg hP] at hE
    exact kB p l e R s m args below meth c D ci base b C H locs _ r h2 hE S.pop.pop
  · have hP : y < x := Int.not_le.mp (fun q => hc ((i32_le hx hy).mpr q))
    rw [if_pos hP] at hE
    exact kA p l e R s m args below meth c D ci base b C H locs _ r h2 hE S.pop.pop
theorem j_if_le {x : Int} {off : Int} {tgt : Nat} (hd : decode mi.2.1 pc = .ok (.ifCond .le off, 3)) (ht : (pc : Int) + off = (tgt : Int)) (kA : J mi enc FL lay nc ns (pc + 3) lv stk h E) (kB : J mi enc FL lay nc ns tgt lv stk h E2) : J mi enc FL lay nc ns pc lv (vi x :: stk) h (if 0 < x then E else E2) := by
  intro p l e R s m args below meth c D ci base b C H locs ls r h2 hE S
  have hx : inR x := S.top
  have hy : inR 0 := inR0
  refine lv_if_le C.1 C.2.1 hd ht (fun hc => ?_) (fun hc => ?_)
  · have hP : ¬ 0 < x := Int.not_lt.mpr ((i32_le hx hy).mp hc)
    rw [if_neg hP] at hE
    exact kB p l e R s m args below meth c D ci base b C H locs _ r h2 hE S.pop
  · have hP : 0 < x := Int.not_le.mp (fun q => hc ((i32_le hx hy).mpr q))
    rw [if_pos hP] at hE
    exact kA p l e R s m args below meth c D ci base b C H locs _ r h2 hE S.pop
end JR
end
