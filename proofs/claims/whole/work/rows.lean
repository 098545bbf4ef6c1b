section
-- ===== PART A: goes FIRST, ahead of the names: the tables' words, and 'selects' of the private methods out of them =====
/-- a private method of a class that the tables say can be made, by its rows of tables_1 -/
def lw_okq (q : MethodName × Nat) : Prop := (q.1.cls ≠ "java/lang/invoke/MethodHandle" ∧ q.1.cls ≠ "java/lang/invoke/VarHandle") ∧ Cond.instantiable q.1.cls q.2 ∈ tables_1 ∧ Cond.privateMethod q.1 ∈ tables_1 ∧ Cond.instanceMethod q.1 ∈ tables_1
theorem lw_p0 : lw_okq (⟨"DimensionLines$TextReader", "expect", "(I)V"⟩, 7) := ⟨⟨by decide +kernel, by decide +kernel⟩, List.mem_of_getElem? (i := 112) (by decide +kernel), List.mem_of_getElem? (i := 310) (by decide +kernel), List.mem_of_getElem? (i := 311) (by decide +kernel)⟩
theorem lw_p1 : lw_okq (⟨"DimensionLines$TextReader", "accept", "(I)Z"⟩, 7) := ⟨⟨by decide +kernel, by decide +kernel⟩, List.mem_of_getElem? (i := 112) (by decide +kernel), List.mem_of_getElem? (i := 314) (by decide +kernel), List.mem_of_getElem? (i := 315) (by decide +kernel)⟩
theorem lw_p2 : lw_okq (⟨"DimensionLines$TextReader", "next", "()I"⟩, 7) := ⟨⟨by decide +kernel, by decide +kernel⟩, List.mem_of_getElem? (i := 112) (by decide +kernel), List.mem_of_getElem? (i := 318) (by decide +kernel), List.mem_of_getElem? (i := 319) (by decide +kernel)⟩
theorem lw_p3 : lw_okq (⟨"DimensionLines$TextReader", "fail", "(II)V"⟩, 7) := ⟨⟨by decide +kernel, by decide +kernel⟩, List.mem_of_getElem? (i := 112) (by decide +kernel), List.mem_of_getElem? (i := 322) (by decide +kernel), List.mem_of_getElem? (i := 323) (by decide +kernel)⟩
theorem lw_p4 : lw_okq (⟨"DimensionLines$TextReader", "readPosition", "()V"⟩, 7) := ⟨⟨by decide +kernel, by decide +kernel⟩, List.mem_of_getElem? (i := 112) (by decide +kernel), List.mem_of_getElem? (i := 326) (by decide +kernel), List.mem_of_getElem? (i := 327) (by decide +kernel)⟩
theorem lw_p5 : lw_okq (⟨"DimensionLines$TextReader", "readNumber", "(I)I"⟩, 7) := ⟨⟨by decide +kernel, by decide +kernel⟩, List.mem_of_getElem? (i := 112) (by decide +kernel), List.mem_of_getElem? (i := 330) (by decide +kernel), List.mem_of_getElem? (i := 331) (by decide +kernel)⟩
theorem lw_p6 : lw_okq (⟨"DimensionLines$TextReader", "isDigitNext", "()Z"⟩, 7) := ⟨⟨by decide +kernel, by decide +kernel⟩, List.mem_of_getElem? (i := 112) (by decide +kernel), List.mem_of_getElem? (i := 334) (by decide +kernel), List.mem_of_getElem? (i := 335) (by decide +kernel)⟩
theorem lw_p7 : lw_okq (⟨"DimensionLines$TextReader", "demand", "(Z)V"⟩, 7) := ⟨⟨by decide +kernel, by decide +kernel⟩, List.mem_of_getElem? (i := 112) (by decide +kernel), List.mem_of_getElem? (i := 339) (by decide +kernel), List.mem_of_getElem? (i := 340) (by decide +kernel)⟩
theorem lw_p8 : lw_okq (⟨"DimensionLines$TextReader", "readDimension", "()V"⟩, 7) := ⟨⟨by decide +kernel, by decide +kernel⟩, List.mem_of_getElem? (i := 112) (by decide +kernel), List.mem_of_getElem? (i := 343) (by decide +kernel), List.mem_of_getElem? (i := 344) (by decide +kernel)⟩
theorem lw_p9 : lw_okq (⟨"DimensionLines$TextReader", "readUpTo", "(II)I"⟩, 7) := ⟨⟨by decide +kernel, by decide +kernel⟩, List.mem_of_getElem? (i := 112) (by decide +kernel), List.mem_of_getElem? (i := 355) (by decide +kernel), List.mem_of_getElem? (i := 356) (by decide +kernel)⟩
theorem lw_p10 : lw_okq (⟨"DimensionLines", "beginChange", "()V"⟩, 8) := ⟨⟨by decide +kernel, by decide +kernel⟩, List.mem_of_getElem? (i := 12) (by decide +kernel), List.mem_of_getElem? (i := 359) (by decide +kernel), List.mem_of_getElem? (i := 360) (by decide +kernel)⟩
theorem lw_p11 : lw_okq (⟨"DimensionLines", "forgetWhatWasWorkedOut", "()V"⟩, 8) := ⟨⟨by decide +kernel, by decide +kernel⟩, List.mem_of_getElem? (i := 12) (by decide +kernel), List.mem_of_getElem? (i := 381) (by decide +kernel), List.mem_of_getElem? (i := 382) (by decide +kernel)⟩
theorem lw_p12 : lw_okq (⟨"DimensionLines$Drawing", "renumberEnds", "(II)V"⟩, 11) := ⟨⟨by decide +kernel, by decide +kernel⟩, List.mem_of_getElem? (i := 20) (by decide +kernel), List.mem_of_getElem? (i := 410) (by decide +kernel), List.mem_of_getElem? (i := 411) (by decide +kernel)⟩
theorem lw_p13 : lw_okq (⟨"DimensionLines", "areTwoPoints", "(II)Z"⟩, 8) := ⟨⟨by decide +kernel, by decide +kernel⟩, List.mem_of_getElem? (i := 12) (by decide +kernel), List.mem_of_getElem? (i := 450) (by decide +kernel), List.mem_of_getElem? (i := 451) (by decide +kernel)⟩
theorem lw_p14 : lw_okq (⟨"DimensionLines", "laidLanes", "()LDimensionLines$Lanes;"⟩, 8) := ⟨⟨by decide +kernel, by decide +kernel⟩, List.mem_of_getElem? (i := 12) (by decide +kernel), List.mem_of_getElem? (i := 493) (by decide +kernel), List.mem_of_getElem? (i := 494) (by decide +kernel)⟩
theorem lw_p15 : lw_okq (⟨"DimensionLines$Lanes", "measure", "(LDimensionLines$Drawing;II)V"⟩, 16) := ⟨⟨by decide +kernel, by decide +kernel⟩, List.mem_of_getElem? (i := 146) (by decide +kernel), List.mem_of_getElem? (i := 501) (by decide +kernel), List.mem_of_getElem? (i := 502) (by decide +kernel)⟩
def lw_privs_1 : List (MethodName × Nat) := [(⟨"DimensionLines$TextReader", "expect", "(I)V"⟩, 7), (⟨"DimensionLines$TextReader", "accept", "(I)Z"⟩, 7), (⟨"DimensionLines$TextReader", "next", "()I"⟩, 7), (⟨"DimensionLines$TextReader", "fail", "(II)V"⟩, 7), (⟨"DimensionLines$TextReader", "readPosition", "()V"⟩, 7), (⟨"DimensionLines$TextReader", "readNumber", "(I)I"⟩, 7), (⟨"DimensionLines$TextReader", "isDigitNext", "()Z"⟩, 7), (⟨"DimensionLines$TextReader", "demand", "(Z)V"⟩, 7), (⟨"DimensionLines$TextReader", "readDimension", "()V"⟩, 7), (⟨"DimensionLines$TextReader", "readUpTo", "(II)I"⟩, 7), (⟨"DimensionLines", "beginChange", "()V"⟩, 8), (⟨"DimensionLines", "forgetWhatWasWorkedOut", "()V"⟩, 8), (⟨"DimensionLines$Drawing", "renumberEnds", "(II)V"⟩, 11), (⟨"DimensionLines", "areTwoPoints", "(II)Z"⟩, 8), (⟨"DimensionLines", "laidLanes", "()LDimensionLines$Lanes;"⟩, 8), (⟨"DimensionLines$Lanes", "measure", "(LDimensionLines$Drawing;II)V"⟩, 16)]
theorem lw_r1 : ∀ q ∈ lw_privs_1, lw_okq q := List.forall_mem_cons.mpr ⟨lw_p0, List.forall_mem_cons.mpr ⟨lw_p1, List.forall_mem_cons.mpr ⟨lw_p2, List.forall_mem_cons.mpr ⟨lw_p3, List.forall_mem_cons.mpr ⟨lw_p4, List.forall_mem_cons.mpr ⟨lw_p5, List.forall_mem_cons.mpr ⟨lw_p6, List.forall_mem_cons.mpr ⟨lw_p7, List.forall_mem_cons.mpr ⟨lw_p8, List.forall_mem_cons.mpr ⟨lw_p9, List.forall_mem_cons.mpr ⟨lw_p10, List.forall_mem_cons.mpr ⟨lw_p11, List.forall_mem_cons.mpr ⟨lw_p12, List.forall_mem_cons.mpr ⟨lw_p13, List.forall_mem_cons.mpr ⟨lw_p14, List.forall_mem_cons.mpr ⟨lw_p15, fun _ h => absurd h List.not_mem_nil⟩⟩⟩⟩⟩⟩⟩⟩⟩⟩⟩⟩⟩⟩⟩⟩
theorem lw_p16 : lw_okq (⟨"DimensionLines$Lanes", "joinUnit", "(LDimensionLines$Drawing;I)V"⟩, 16) := ⟨⟨by decide +kernel, by decide +kernel⟩, List.mem_of_getElem? (i := 146) (by decide +kernel), List.mem_of_getElem? (i := 512) (by decide +kernel), List.mem_of_getElem? (i := 513) (by decide +kernel)⟩
theorem lw_p17 : lw_okq (⟨"DimensionLines$Lanes", "place", "(I)V"⟩, 16) := ⟨⟨by decide +kernel, by decide +kernel⟩, List.mem_of_getElem? (i := 146) (by decide +kernel), List.mem_of_getElem? (i := 521) (by decide +kernel), List.mem_of_getElem? (i := 522) (by decide +kernel)⟩
theorem lw_p18 : lw_okq (⟨"DimensionLines$Lanes", "comesBefore", "(II)Z"⟩, 16) := ⟨⟨by decide +kernel, by decide +kernel⟩, List.mem_of_getElem? (i := 146) (by decide +kernel), List.mem_of_getElem? (i := 525) (by decide +kernel), List.mem_of_getElem? (i := 526) (by decide +kernel)⟩
theorem lw_p19 : lw_okq (⟨"DimensionLines$Lanes", "lowestLaneFor", "(II)I"⟩, 16) := ⟨⟨by decide +kernel, by decide +kernel⟩, List.mem_of_getElem? (i := 146) (by decide +kernel), List.mem_of_getElem? (i := 529) (by decide +kernel), List.mem_of_getElem? (i := 530) (by decide +kernel)⟩
theorem lw_p20 : lw_okq (⟨"DimensionLines$Lanes", "isTaken", "(II)Z"⟩, 16) := ⟨⟨by decide +kernel, by decide +kernel⟩, List.mem_of_getElem? (i := 146) (by decide +kernel), List.mem_of_getElem? (i := 533) (by decide +kernel), List.mem_of_getElem? (i := 534) (by decide +kernel)⟩
theorem lw_p21 : lw_okq (⟨"DimensionLines$Lanes", "drawWitnessLines", "(LDimensionLines$Drawing;)V"⟩, 16) := ⟨⟨by decide +kernel, by decide +kernel⟩, List.mem_of_getElem? (i := 146) (by decide +kernel), List.mem_of_getElem? (i := 537) (by decide +kernel), List.mem_of_getElem? (i := 538) (by decide +kernel)⟩
theorem lw_p22 : lw_okq (⟨"DimensionLines$Lanes", "countCrossings", "(LDimensionLines$Drawing;I)V"⟩, 16) := ⟨⟨by decide +kernel, by decide +kernel⟩, List.mem_of_getElem? (i := 146) (by decide +kernel), List.mem_of_getElem? (i := 545) (by decide +kernel), List.mem_of_getElem? (i := 546) (by decide +kernel)⟩
theorem lw_p23 : lw_okq (⟨"DimensionLines", "knownBounds", "()LDimensionLines$Bounds;"⟩, 8) := ⟨⟨by decide +kernel, by decide +kernel⟩, List.mem_of_getElem? (i := 12) (by decide +kernel), List.mem_of_getElem? (i := 553) (by decide +kernel), List.mem_of_getElem? (i := 554) (by decide +kernel)⟩
theorem lw_p24 : lw_okq (⟨"DimensionLines$Bounds", "listSteps", "(LDimensionLines$Drawing;)V"⟩, 11) := ⟨⟨by decide +kernel, by decide +kernel⟩, List.mem_of_getElem? (i := 210) (by decide +kernel), List.mem_of_getElem? (i := 561) (by decide +kernel), List.mem_of_getElem? (i := 562) (by decide +kernel)⟩
theorem lw_p25 : lw_okq (⟨"DimensionLines$Bounds", "removeNone", "()V"⟩, 11) := ⟨⟨by decide +kernel, by decide +kernel⟩, List.mem_of_getElem? (i := 210) (by decide +kernel), List.mem_of_getElem? (i := 566) (by decide +kernel), List.mem_of_getElem? (i := 567) (by decide +kernel)⟩
theorem lw_p26 : lw_okq (⟨"DimensionLines$Bounds", "findWays", "(I[I)V"⟩, 11) := ⟨⟨by decide +kernel, by decide +kernel⟩, List.mem_of_getElem? (i := 210) (by decide +kernel), List.mem_of_getElem? (i := 570) (by decide +kernel), List.mem_of_getElem? (i := 571) (by decide +kernel)⟩
theorem lw_p27 : lw_okq (⟨"DimensionLines$Bounds", "formGroups", "(I)V"⟩, 11) := ⟨⟨by decide +kernel, by decide +kernel⟩, List.mem_of_getElem? (i := 210) (by decide +kernel), List.mem_of_getElem? (i := 576) (by decide +kernel), List.mem_of_getElem? (i := 577) (by decide +kernel)⟩
theorem lw_p28 : lw_okq (⟨"DimensionLines$Bounds", "isSuperfluous", "(I)Z"⟩, 11) := ⟨⟨by decide +kernel, by decide +kernel⟩, List.mem_of_getElem? (i := 210) (by decide +kernel), List.mem_of_getElem? (i := 584) (by decide +kernel), List.mem_of_getElem? (i := 585) (by decide +kernel)⟩
theorem lw_p29 : lw_okq (⟨"DimensionLines$Bounds", "greatestIfExact", "(LDimensionLines$Drawing;III)I"⟩, 11) := ⟨⟨by decide +kernel, by decide +kernel⟩, List.mem_of_getElem? (i := 210) (by decide +kernel), List.mem_of_getElem? (i := 610) (by decide +kernel), List.mem_of_getElem? (i := 611) (by decide +kernel)⟩
theorem lw_p30 : lw_okq (⟨"DimensionLines$Drawing", "nextInChain", "(II)I"⟩, 11) := ⟨⟨by decide +kernel, by decide +kernel⟩, List.mem_of_getElem? (i := 20) (by decide +kernel), List.mem_of_getElem? (i := 654) (by decide +kernel), List.mem_of_getElem? (i := 655) (by decide +kernel)⟩
theorem lw_p31 : lw_okq (⟨"DimensionLines", "hashOfPairs", "(J)J"⟩, 8) := ⟨⟨by decide +kernel, by decide +kernel⟩, List.mem_of_getElem? (i := 12) (by decide +kernel), List.mem_of_getElem? (i := 701) (by decide +kernel), List.mem_of_getElem? (i := 702) (by decide +kernel)⟩
def lw_privs_2 : List (MethodName × Nat) := [(⟨"DimensionLines$Lanes", "joinUnit", "(LDimensionLines$Drawing;I)V"⟩, 16), (⟨"DimensionLines$Lanes", "place", "(I)V"⟩, 16), (⟨"DimensionLines$Lanes", "comesBefore", "(II)Z"⟩, 16), (⟨"DimensionLines$Lanes", "lowestLaneFor", "(II)I"⟩, 16), (⟨"DimensionLines$Lanes", "isTaken", "(II)Z"⟩, 16), (⟨"DimensionLines$Lanes", "drawWitnessLines", "(LDimensionLines$Drawing;)V"⟩, 16), (⟨"DimensionLines$Lanes", "countCrossings", "(LDimensionLines$Drawing;I)V"⟩, 16), (⟨"DimensionLines", "knownBounds", "()LDimensionLines$Bounds;"⟩, 8), (⟨"DimensionLines$Bounds", "listSteps", "(LDimensionLines$Drawing;)V"⟩, 11), (⟨"DimensionLines$Bounds", "removeNone", "()V"⟩, 11), (⟨"DimensionLines$Bounds", "findWays", "(I[I)V"⟩, 11), (⟨"DimensionLines$Bounds", "formGroups", "(I)V"⟩, 11), (⟨"DimensionLines$Bounds", "isSuperfluous", "(I)Z"⟩, 11), (⟨"DimensionLines$Bounds", "greatestIfExact", "(LDimensionLines$Drawing;III)I"⟩, 11), (⟨"DimensionLines$Drawing", "nextInChain", "(II)I"⟩, 11), (⟨"DimensionLines", "hashOfPairs", "(J)J"⟩, 8)]
theorem lw_r2 : ∀ q ∈ lw_privs_2, lw_okq q := List.forall_mem_cons.mpr ⟨lw_p16, List.forall_mem_cons.mpr ⟨lw_p17, List.forall_mem_cons.mpr ⟨lw_p18, List.forall_mem_cons.mpr ⟨lw_p19, List.forall_mem_cons.mpr ⟨lw_p20, List.forall_mem_cons.mpr ⟨lw_p21, List.forall_mem_cons.mpr ⟨lw_p22, List.forall_mem_cons.mpr ⟨lw_p23, List.forall_mem_cons.mpr ⟨lw_p24, List.forall_mem_cons.mpr ⟨lw_p25, List.forall_mem_cons.mpr ⟨lw_p26, List.forall_mem_cons.mpr ⟨lw_p27, List.forall_mem_cons.mpr ⟨lw_p28, List.forall_mem_cons.mpr ⟨lw_p29, List.forall_mem_cons.mpr ⟨lw_p30, List.forall_mem_cons.mpr ⟨lw_p31, fun _ h => absurd h List.not_mem_nil⟩⟩⟩⟩⟩⟩⟩⟩⟩⟩⟩⟩⟩⟩⟩⟩
theorem lw_p32 : lw_okq (⟨"DimensionLinesModel", "copies", "(II)V"⟩, 16) := ⟨⟨by decide +kernel, by decide +kernel⟩, List.mem_of_getElem? (i := 709) (by decide +kernel), List.mem_of_getElem? (i := 768) (by decide +kernel), List.mem_of_getElem? (i := 769) (by decide +kernel)⟩
theorem lw_p33 : lw_okq (⟨"DimensionLinesModel", "pointWith", "(I)I"⟩, 16) := ⟨⟨by decide +kernel, by decide +kernel⟩, List.mem_of_getElem? (i := 709) (by decide +kernel), List.mem_of_getElem? (i := 779) (by decide +kernel), List.mem_of_getElem? (i := 780) (by decide +kernel)⟩
theorem lw_p34 : lw_okq (⟨"DimensionLinesModel", "position", "(I)I"⟩, 16) := ⟨⟨by decide +kernel, by decide +kernel⟩, List.mem_of_getElem? (i := 709) (by decide +kernel), List.mem_of_getElem? (i := 783) (by decide +kernel), List.mem_of_getElem? (i := 784) (by decide +kernel)⟩
theorem lw_p35 : lw_okq (⟨"DimensionLinesModel", "records", "()V"⟩, 16) := ⟨⟨by decide +kernel, by decide +kernel⟩, List.mem_of_getElem? (i := 709) (by decide +kernel), List.mem_of_getElem? (i := 787) (by decide +kernel), List.mem_of_getElem? (i := 788) (by decide +kernel)⟩
theorem lw_p36 : lw_okq (⟨"DimensionLinesModel", "comes", "(I)I"⟩, 16) := ⟨⟨by decide +kernel, by decide +kernel⟩, List.mem_of_getElem? (i := 709) (by decide +kernel), List.mem_of_getElem? (i := 791) (by decide +kernel), List.mem_of_getElem? (i := 792) (by decide +kernel)⟩
theorem lw_p37 : lw_okq (⟨"DimensionLinesModel", "of", "(II)I"⟩, 16) := ⟨⟨by decide +kernel, by decide +kernel⟩, List.mem_of_getElem? (i := 709) (by decide +kernel), List.mem_of_getElem? (i := 795) (by decide +kernel), List.mem_of_getElem? (i := 796) (by decide +kernel)⟩
theorem lw_p38 : lw_okq (⟨"DimensionLinesModel", "sets", "(III)V"⟩, 16) := ⟨⟨by decide +kernel, by decide +kernel⟩, List.mem_of_getElem? (i := 709) (by decide +kernel), List.mem_of_getElem? (i := 799) (by decide +kernel), List.mem_of_getElem? (i := 800) (by decide +kernel)⟩
theorem lw_p39 : lw_okq (⟨"DimensionLinesModel", "isPoint", "(I)Z"⟩, 16) := ⟨⟨by decide +kernel, by decide +kernel⟩, List.mem_of_getElem? (i := 709) (by decide +kernel), List.mem_of_getElem? (i := 807) (by decide +kernel), List.mem_of_getElem? (i := 808) (by decide +kernel)⟩
theorem lw_p40 : lw_okq (⟨"DimensionLinesModel", "goes", "(I)V"⟩, 16) := ⟨⟨by decide +kernel, by decide +kernel⟩, List.mem_of_getElem? (i := 709) (by decide +kernel), List.mem_of_getElem? (i := 811) (by decide +kernel), List.mem_of_getElem? (i := 812) (by decide +kernel)⟩
theorem lw_p41 : lw_okq (⟨"DimensionLinesModel", "ends", "(I)I"⟩, 16) := ⟨⟨by decide +kernel, by decide +kernel⟩, List.mem_of_getElem? (i := 709) (by decide +kernel), List.mem_of_getElem? (i := 819) (by decide +kernel), List.mem_of_getElem? (i := 820) (by decide +kernel)⟩
theorem lw_p42 : lw_okq (⟨"DimensionLinesModel", "lays", "(IIIII)V"⟩, 16) := ⟨⟨by decide +kernel, by decide +kernel⟩, List.mem_of_getElem? (i := 709) (by decide +kernel), List.mem_of_getElem? (i := 827) (by decide +kernel), List.mem_of_getElem? (i := 828) (by decide +kernel)⟩
theorem lw_p43 : lw_okq (⟨"DimensionLinesModel", "isDimension", "(I)Z"⟩, 16) := ⟨⟨by decide +kernel, by decide +kernel⟩, List.mem_of_getElem? (i := 709) (by decide +kernel), List.mem_of_getElem? (i := 835) (by decide +kernel), List.mem_of_getElem? (i := 836) (by decide +kernel)⟩
theorem lw_p44 : lw_okq (⟨"DimensionLinesModel", "becomes", "(III)I"⟩, 16) := ⟨⟨by decide +kernel, by decide +kernel⟩, List.mem_of_getElem? (i := 709) (by decide +kernel), List.mem_of_getElem? (i := 847) (by decide +kernel), List.mem_of_getElem? (i := 848) (by decide +kernel)⟩
theorem lw_p45 : lw_okq (⟨"DimensionLinesModel", "setting", "(II)I"⟩, 16) := ⟨⟨by decide +kernel, by decide +kernel⟩, List.mem_of_getElem? (i := 709) (by decide +kernel), List.mem_of_getElem? (i := 859) (by decide +kernel), List.mem_of_getElem? (i := 860) (by decide +kernel)⟩
theorem lw_p46 : lw_okq (⟨"DimensionLinesModel", "readsAll", "()V"⟩, 16) := ⟨⟨by decide +kernel, by decide +kernel⟩, List.mem_of_getElem? (i := 709) (by decide +kernel), List.mem_of_getElem? (i := 879) (by decide +kernel), List.mem_of_getElem? (i := 880) (by decide +kernel)⟩
theorem lw_p47 : lw_okq (⟨"DimensionLinesModel", "readsPositions", "()Z"⟩, 16) := ⟨⟨by decide +kernel, by decide +kernel⟩, List.mem_of_getElem? (i := 709) (by decide +kernel), List.mem_of_getElem? (i := 883) (by decide +kernel), List.mem_of_getElem? (i := 884) (by decide +kernel)⟩
def lw_privs_3 : List (MethodName × Nat) := [(⟨"DimensionLinesModel", "copies", "(II)V"⟩, 16), (⟨"DimensionLinesModel", "pointWith", "(I)I"⟩, 16), (⟨"DimensionLinesModel", "position", "(I)I"⟩, 16), (⟨"DimensionLinesModel", "records", "()V"⟩, 16), (⟨"DimensionLinesModel", "comes", "(I)I"⟩, 16), (⟨"DimensionLinesModel", "of", "(II)I"⟩, 16), (⟨"DimensionLinesModel", "sets", "(III)V"⟩, 16), (⟨"DimensionLinesModel", "isPoint", "(I)Z"⟩, 16), (⟨"DimensionLinesModel", "goes", "(I)V"⟩, 16), (⟨"DimensionLinesModel", "ends", "(I)I"⟩, 16), (⟨"DimensionLinesModel", "lays", "(IIIII)V"⟩, 16), (⟨"DimensionLinesModel", "isDimension", "(I)Z"⟩, 16), (⟨"DimensionLinesModel", "becomes", "(III)I"⟩, 16), (⟨"DimensionLinesModel", "setting", "(II)I"⟩, 16), (⟨"DimensionLinesModel", "readsAll", "()V"⟩, 16), (⟨"DimensionLinesModel", "readsPositions", "()Z"⟩, 16)]
theorem lw_r3 : ∀ q ∈ lw_privs_3, lw_okq q := List.forall_mem_cons.mpr ⟨lw_p32, List.forall_mem_cons.mpr ⟨lw_p33, List.forall_mem_cons.mpr ⟨lw_p34, List.forall_mem_cons.mpr ⟨lw_p35, List.forall_mem_cons.mpr ⟨lw_p36, List.forall_mem_cons.mpr ⟨lw_p37, List.forall_mem_cons.mpr ⟨lw_p38, List.forall_mem_cons.mpr ⟨lw_p39, List.forall_mem_cons.mpr ⟨lw_p40, List.forall_mem_cons.mpr ⟨lw_p41, List.forall_mem_cons.mpr ⟨lw_p42, List.forall_mem_cons.mpr ⟨lw_p43, List.forall_mem_cons.mpr ⟨lw_p44, List.forall_mem_cons.mpr ⟨lw_p45, List.forall_mem_cons.mpr ⟨lw_p46, List.forall_mem_cons.mpr ⟨lw_p47, fun _ h => absurd h List.not_mem_nil⟩⟩⟩⟩⟩⟩⟩⟩⟩⟩⟩⟩⟩⟩⟩⟩
theorem lw_p48 : lw_okq (⟨"DimensionLinesModel", "reads", "(I)Z"⟩, 16) := ⟨⟨by decide +kernel, by decide +kernel⟩, List.mem_of_getElem? (i := 709) (by decide +kernel), List.mem_of_getElem? (i := 887) (by decide +kernel), List.mem_of_getElem? (i := 888) (by decide +kernel)⟩
theorem lw_p49 : lw_okq (⟨"DimensionLinesModel", "here", "()I"⟩, 16) := ⟨⟨by decide +kernel, by decide +kernel⟩, List.mem_of_getElem? (i := 709) (by decide +kernel), List.mem_of_getElem? (i := 891) (by decide +kernel), List.mem_of_getElem? (i := 892) (by decide +kernel)⟩
theorem lw_p50 : lw_okq (⟨"DimensionLinesModel", "fails", "(II)Z"⟩, 16) := ⟨⟨by decide +kernel, by decide +kernel⟩, List.mem_of_getElem? (i := 709) (by decide +kernel), List.mem_of_getElem? (i := 895) (by decide +kernel), List.mem_of_getElem? (i := 896) (by decide +kernel)⟩
theorem lw_p51 : lw_okq (⟨"DimensionLinesModel", "readsNumber", "(III)Z"⟩, 16) := ⟨⟨by decide +kernel, by decide +kernel⟩, List.mem_of_getElem? (i := 709) (by decide +kernel), List.mem_of_getElem? (i := 899) (by decide +kernel), List.mem_of_getElem? (i := 900) (by decide +kernel)⟩
theorem lw_p52 : lw_okq (⟨"DimensionLinesModel", "isDigit", "()Z"⟩, 16) := ⟨⟨by decide +kernel, by decide +kernel⟩, List.mem_of_getElem? (i := 709) (by decide +kernel), List.mem_of_getElem? (i := 903) (by decide +kernel), List.mem_of_getElem? (i := 904) (by decide +kernel)⟩
theorem lw_p53 : lw_okq (⟨"DimensionLinesModel", "readsDimension", "()Z"⟩, 16) := ⟨⟨by decide +kernel, by decide +kernel⟩, List.mem_of_getElem? (i := 709) (by decide +kernel), List.mem_of_getElem? (i := 907) (by decide +kernel), List.mem_of_getElem? (i := 908) (by decide +kernel)⟩
theorem lw_p54 : lw_okq (⟨"DimensionLinesModel", "readsBehind", "(IIII)Z"⟩, 16) := ⟨⟨by decide +kernel, by decide +kernel⟩, List.mem_of_getElem? (i := 709) (by decide +kernel), List.mem_of_getElem? (i := 911) (by decide +kernel), List.mem_of_getElem? (i := 912) (by decide +kernel)⟩
theorem lw_p55 : lw_okq (⟨"DimensionLinesModel", "laysDistances", "(II)V"⟩, 16) := ⟨⟨by decide +kernel, by decide +kernel⟩, List.mem_of_getElem? (i := 709) (by decide +kernel), List.mem_of_getElem? (i := 923) (by decide +kernel), List.mem_of_getElem? (i := 924) (by decide +kernel)⟩
theorem lw_p56 : lw_okq (⟨"DimensionLinesModel", "value", "(I)I"⟩, 16) := ⟨⟨by decide +kernel, by decide +kernel⟩, List.mem_of_getElem? (i := 709) (by decide +kernel), List.mem_of_getElem? (i := 928) (by decide +kernel), List.mem_of_getElem? (i := 929) (by decide +kernel)⟩
theorem lw_p57 : lw_okq (⟨"DimensionLinesModel", "to", "(I)I"⟩, 16) := ⟨⟨by decide +kernel, by decide +kernel⟩, List.mem_of_getElem? (i := 709) (by decide +kernel), List.mem_of_getElem? (i := 932) (by decide +kernel), List.mem_of_getElem? (i := 933) (by decide +kernel)⟩
theorem lw_p58 : lw_okq (⟨"DimensionLinesModel", "from", "(I)I"⟩, 16) := ⟨⟨by decide +kernel, by decide +kernel⟩, List.mem_of_getElem? (i := 709) (by decide +kernel), List.mem_of_getElem? (i := 936) (by decide +kernel), List.mem_of_getElem? (i := 937) (by decide +kernel)⟩
theorem lw_p59 : lw_okq (⟨"DimensionLinesModel", "bounds", "(III)V"⟩, 16) := ⟨⟨by decide +kernel, by decide +kernel⟩, List.mem_of_getElem? (i := 709) (by decide +kernel), List.mem_of_getElem? (i := 940) (by decide +kernel), List.mem_of_getElem? (i := 941) (by decide +kernel)⟩
theorem lw_p60 : lw_okq (⟨"DimensionLinesModel", "group", "(I)I"⟩, 16) := ⟨⟨by decide +kernel, by decide +kernel⟩, List.mem_of_getElem? (i := 709) (by decide +kernel), List.mem_of_getElem? (i := 944) (by decide +kernel), List.mem_of_getElem? (i := 945) (by decide +kernel)⟩
theorem lw_p61 : lw_okq (⟨"DimensionLinesModel", "areBound", "(II)Z"⟩, 16) := ⟨⟨by decide +kernel, by decide +kernel⟩, List.mem_of_getElem? (i := 709) (by decide +kernel), List.mem_of_getElem? (i := 948) (by decide +kernel), List.mem_of_getElem? (i := 949) (by decide +kernel)⟩
theorem lw_p62 : lw_okq (⟨"DimensionLinesModel", "groupOfFirst", "(I)I"⟩, 16) := ⟨⟨by decide +kernel, by decide +kernel⟩, List.mem_of_getElem? (i := 709) (by decide +kernel), List.mem_of_getElem? (i := 952) (by decide +kernel), List.mem_of_getElem? (i := 953) (by decide +kernel)⟩
theorem lw_p63 : lw_okq (⟨"DimensionLinesModel", "isFirst", "(I)Z"⟩, 16) := ⟨⟨by decide +kernel, by decide +kernel⟩, List.mem_of_getElem? (i := 709) (by decide +kernel), List.mem_of_getElem? (i := 956) (by decide +kernel), List.mem_of_getElem? (i := 957) (by decide +kernel)⟩
def lw_privs_4 : List (MethodName × Nat) := [(⟨"DimensionLinesModel", "reads", "(I)Z"⟩, 16), (⟨"DimensionLinesModel", "here", "()I"⟩, 16), (⟨"DimensionLinesModel", "fails", "(II)Z"⟩, 16), (⟨"DimensionLinesModel", "readsNumber", "(III)Z"⟩, 16), (⟨"DimensionLinesModel", "isDigit", "()Z"⟩, 16), (⟨"DimensionLinesModel", "readsDimension", "()Z"⟩, 16), (⟨"DimensionLinesModel", "readsBehind", "(IIII)Z"⟩, 16), (⟨"DimensionLinesModel", "laysDistances", "(II)V"⟩, 16), (⟨"DimensionLinesModel", "value", "(I)I"⟩, 16), (⟨"DimensionLinesModel", "to", "(I)I"⟩, 16), (⟨"DimensionLinesModel", "from", "(I)I"⟩, 16), (⟨"DimensionLinesModel", "bounds", "(III)V"⟩, 16), (⟨"DimensionLinesModel", "group", "(I)I"⟩, 16), (⟨"DimensionLinesModel", "areBound", "(II)Z"⟩, 16), (⟨"DimensionLinesModel", "groupOfFirst", "(I)I"⟩, 16), (⟨"DimensionLinesModel", "isFirst", "(I)Z"⟩, 16)]
theorem lw_r4 : ∀ q ∈ lw_privs_4, lw_okq q := List.forall_mem_cons.mpr ⟨lw_p48, List.forall_mem_cons.mpr ⟨lw_p49, List.forall_mem_cons.mpr ⟨lw_p50, List.forall_mem_cons.mpr ⟨lw_p51, List.forall_mem_cons.mpr ⟨lw_p52, List.forall_mem_cons.mpr ⟨lw_p53, List.forall_mem_cons.mpr ⟨lw_p54, List.forall_mem_cons.mpr ⟨lw_p55, List.forall_mem_cons.mpr ⟨lw_p56, List.forall_mem_cons.mpr ⟨lw_p57, List.forall_mem_cons.mpr ⟨lw_p58, List.forall_mem_cons.mpr ⟨lw_p59, List.forall_mem_cons.mpr ⟨lw_p60, List.forall_mem_cons.mpr ⟨lw_p61, List.forall_mem_cons.mpr ⟨lw_p62, List.forall_mem_cons.mpr ⟨lw_p63, fun _ h => absurd h List.not_mem_nil⟩⟩⟩⟩⟩⟩⟩⟩⟩⟩⟩⟩⟩⟩⟩⟩
theorem lw_p64 : lw_okq (⟨"DimensionLinesModel", "laysLanes", "()V"⟩, 16) := ⟨⟨by decide +kernel, by decide +kernel⟩, List.mem_of_getElem? (i := 709) (by decide +kernel), List.mem_of_getElem? (i := 960) (by decide +kernel), List.mem_of_getElem? (i := 961) (by decide +kernel)⟩
theorem lw_p65 : lw_okq (⟨"DimensionLinesModel", "laysUnits", "()V"⟩, 16) := ⟨⟨by decide +kernel, by decide +kernel⟩, List.mem_of_getElem? (i := 709) (by decide +kernel), List.mem_of_getElem? (i := 964) (by decide +kernel), List.mem_of_getElem? (i := 965) (by decide +kernel)⟩
theorem lw_p66 : lw_okq (⟨"DimensionLinesModel", "unitOf", "(I)I"⟩, 16) := ⟨⟨by decide +kernel, by decide +kernel⟩, List.mem_of_getElem? (i := 709) (by decide +kernel), List.mem_of_getElem? (i := 968) (by decide +kernel), List.mem_of_getElem? (i := 969) (by decide +kernel)⟩
theorem lw_p67 : lw_okq (⟨"DimensionLinesModel", "nextUnit", "()I"⟩, 16) := ⟨⟨by decide +kernel, by decide +kernel⟩, List.mem_of_getElem? (i := 709) (by decide +kernel), List.mem_of_getElem? (i := 972) (by decide +kernel), List.mem_of_getElem? (i := 973) (by decide +kernel)⟩
theorem lw_p68 : lw_okq (⟨"DimensionLinesModel", "isUnit", "(I)Z"⟩, 16) := ⟨⟨by decide +kernel, by decide +kernel⟩, List.mem_of_getElem? (i := 709) (by decide +kernel), List.mem_of_getElem? (i := 976) (by decide +kernel), List.mem_of_getElem? (i := 977) (by decide +kernel)⟩
theorem lw_p69 : lw_okq (⟨"DimensionLinesModel", "isSooner", "(II)Z"⟩, 16) := ⟨⟨by decide +kernel, by decide +kernel⟩, List.mem_of_getElem? (i := 709) (by decide +kernel), List.mem_of_getElem? (i := 980) (by decide +kernel), List.mem_of_getElem? (i := 981) (by decide +kernel)⟩
theorem lw_p70 : lw_okq (⟨"DimensionLinesModel", "covers", "(II)Z"⟩, 16) := ⟨⟨by decide +kernel, by decide +kernel⟩, List.mem_of_getElem? (i := 709) (by decide +kernel), List.mem_of_getElem? (i := 984) (by decide +kernel), List.mem_of_getElem? (i := 985) (by decide +kernel)⟩
theorem lw_p71 : lw_okq (⟨"DimensionLinesModel", "meets", "(II)Z"⟩, 16) := ⟨⟨by decide +kernel, by decide +kernel⟩, List.mem_of_getElem? (i := 709) (by decide +kernel), List.mem_of_getElem? (i := 988) (by decide +kernel), List.mem_of_getElem? (i := 989) (by decide +kernel)⟩
theorem lw_p72 : lw_okq (⟨"DimensionLinesModel", "begins", "(I)I"⟩, 16) := ⟨⟨by decide +kernel, by decide +kernel⟩, List.mem_of_getElem? (i := 709) (by decide +kernel), List.mem_of_getElem? (i := 992) (by decide +kernel), List.mem_of_getElem? (i := 993) (by decide +kernel)⟩
theorem lw_p73 : lw_okq (⟨"DimensionLinesModel", "form", "(I)I"⟩, 16) := ⟨⟨by decide +kernel, by decide +kernel⟩, List.mem_of_getElem? (i := 709) (by decide +kernel), List.mem_of_getElem? (i := 996) (by decide +kernel), List.mem_of_getElem? (i := 997) (by decide +kernel)⟩
theorem lw_p74 : lw_okq (⟨"DimensionLinesModel", "width", "(I)I"⟩, 16) := ⟨⟨by decide +kernel, by decide +kernel⟩, List.mem_of_getElem? (i := 709) (by decide +kernel), List.mem_of_getElem? (i := 1000) (by decide +kernel), List.mem_of_getElem? (i := 1001) (by decide +kernel)⟩
theorem lw_p75 : lw_okq (⟨"DimensionLinesModel", "reaches", "(I)I"⟩, 16) := ⟨⟨by decide +kernel, by decide +kernel⟩, List.mem_of_getElem? (i := 709) (by decide +kernel), List.mem_of_getElem? (i := 1004) (by decide +kernel), List.mem_of_getElem? (i := 1005) (by decide +kernel)⟩
theorem lw_p76 : lw_okq (⟨"DimensionLinesModel", "witness", "(I)I"⟩, 16) := ⟨⟨by decide +kernel, by decide +kernel⟩, List.mem_of_getElem? (i := 709) (by decide +kernel), List.mem_of_getElem? (i := 1008) (by decide +kernel), List.mem_of_getElem? (i := 1009) (by decide +kernel)⟩
theorem lw_p77 : lw_okq (⟨"DimensionLinesModel", "laneOf", "(I)I"⟩, 16) := ⟨⟨by decide +kernel, by decide +kernel⟩, List.mem_of_getElem? (i := 709) (by decide +kernel), List.mem_of_getElem? (i := 1012) (by decide +kernel), List.mem_of_getElem? (i := 1013) (by decide +kernel)⟩
theorem lw_p78 : lw_okq (⟨"DimensionLinesModel", "crossings", "(II)I"⟩, 16) := ⟨⟨by decide +kernel, by decide +kernel⟩, List.mem_of_getElem? (i := 709) (by decide +kernel), List.mem_of_getElem? (i := 1016) (by decide +kernel), List.mem_of_getElem? (i := 1017) (by decide +kernel)⟩
theorem lw_p79 : lw_okq (⟨"DimensionLinesModel", "crosses", "(II)Z"⟩, 16) := ⟨⟨by decide +kernel, by decide +kernel⟩, List.mem_of_getElem? (i := 709) (by decide +kernel), List.mem_of_getElem? (i := 1020) (by decide +kernel), List.mem_of_getElem? (i := 1021) (by decide +kernel)⟩
def lw_privs_5 : List (MethodName × Nat) := [(⟨"DimensionLinesModel", "laysLanes", "()V"⟩, 16), (⟨"DimensionLinesModel", "laysUnits", "()V"⟩, 16), (⟨"DimensionLinesModel", "unitOf", "(I)I"⟩, 16), (⟨"DimensionLinesModel", "nextUnit", "()I"⟩, 16), (⟨"DimensionLinesModel", "isUnit", "(I)Z"⟩, 16), (⟨"DimensionLinesModel", "isSooner", "(II)Z"⟩, 16), (⟨"DimensionLinesModel", "covers", "(II)Z"⟩, 16), (⟨"DimensionLinesModel", "meets", "(II)Z"⟩, 16), (⟨"DimensionLinesModel", "begins", "(I)I"⟩, 16), (⟨"DimensionLinesModel", "form", "(I)I"⟩, 16), (⟨"DimensionLinesModel", "width", "(I)I"⟩, 16), (⟨"DimensionLinesModel", "reaches", "(I)I"⟩, 16), (⟨"DimensionLinesModel", "witness", "(I)I"⟩, 16), (⟨"DimensionLinesModel", "laneOf", "(I)I"⟩, 16), (⟨"DimensionLinesModel", "crossings", "(II)I"⟩, 16), (⟨"DimensionLinesModel", "crosses", "(II)Z"⟩, 16)]
theorem lw_r5 : ∀ q ∈ lw_privs_5, lw_okq q := List.forall_mem_cons.mpr ⟨lw_p64, List.forall_mem_cons.mpr ⟨lw_p65, List.forall_mem_cons.mpr ⟨lw_p66, List.forall_mem_cons.mpr ⟨lw_p67, List.forall_mem_cons.mpr ⟨lw_p68, List.forall_mem_cons.mpr ⟨lw_p69, List.forall_mem_cons.mpr ⟨lw_p70, List.forall_mem_cons.mpr ⟨lw_p71, List.forall_mem_cons.mpr ⟨lw_p72, List.forall_mem_cons.mpr ⟨lw_p73, List.forall_mem_cons.mpr ⟨lw_p74, List.forall_mem_cons.mpr ⟨lw_p75, List.forall_mem_cons.mpr ⟨lw_p76, List.forall_mem_cons.mpr ⟨lw_p77, List.forall_mem_cons.mpr ⟨lw_p78, List.forall_mem_cons.mpr ⟨lw_p79, fun _ h => absurd h List.not_mem_nil⟩⟩⟩⟩⟩⟩⟩⟩⟩⟩⟩⟩⟩⟩⟩⟩
theorem lw_p80 : lw_okq (⟨"DimensionLinesModel", "isSuperfluous", "(II)Z"⟩, 16) := ⟨⟨by decide +kernel, by decide +kernel⟩, List.mem_of_getElem? (i := 709) (by decide +kernel), List.mem_of_getElem? (i := 1028) (by decide +kernel), List.mem_of_getElem? (i := 1029) (by decide +kernel)⟩
theorem lw_p81 : lw_okq (⟨"DimensionLinesModel", "arePoints", "(II)Z"⟩, 16) := ⟨⟨by decide +kernel, by decide +kernel⟩, List.mem_of_getElem? (i := 709) (by decide +kernel), List.mem_of_getElem? (i := 1043) (by decide +kernel), List.mem_of_getElem? (i := 1044) (by decide +kernel)⟩
theorem lw_p82 : lw_okq (⟨"DimensionLinesModel", "adds", "(III)I"⟩, 16) := ⟨⟨by decide +kernel, by decide +kernel⟩, List.mem_of_getElem? (i := 709) (by decide +kernel), List.mem_of_getElem? (i := 1051) (by decide +kernel), List.mem_of_getElem? (i := 1052) (by decide +kernel)⟩
theorem lw_p83 : lw_okq (⟨"DimensionLinesModel", "range", "(II)I"⟩, 16) := ⟨⟨by decide +kernel, by decide +kernel⟩, List.mem_of_getElem? (i := 709) (by decide +kernel), List.mem_of_getElem? (i := 1055) (by decide +kernel), List.mem_of_getElem? (i := 1056) (by decide +kernel)⟩
theorem lw_p84 : lw_okq (⟨"DimensionLinesModel", "sumOf", "(II)I"⟩, 16) := ⟨⟨by decide +kernel, by decide +kernel⟩, List.mem_of_getElem? (i := 709) (by decide +kernel), List.mem_of_getElem? (i := 1071) (by decide +kernel), List.mem_of_getElem? (i := 1072) (by decide +kernel)⟩
theorem lw_p85 : lw_okq (⟨"DimensionLinesModel", "endOf", "(IZ)I"⟩, 16) := ⟨⟨by decide +kernel, by decide +kernel⟩, List.mem_of_getElem? (i := 709) (by decide +kernel), List.mem_of_getElem? (i := 1075) (by decide +kernel), List.mem_of_getElem? (i := 1076) (by decide +kernel)⟩
theorem lw_p86 : lw_okq (⟨"DimensionLinesModel", "isClosed", "(I)Z"⟩, 16) := ⟨⟨by decide +kernel, by decide +kernel⟩, List.mem_of_getElem? (i := 709) (by decide +kernel), List.mem_of_getElem? (i := 1079) (by decide +kernel), List.mem_of_getElem? (i := 1080) (by decide +kernel)⟩
theorem lw_p87 : lw_okq (⟨"DimensionLinesModel", "over", "(I)I"⟩, 16) := ⟨⟨by decide +kernel, by decide +kernel⟩, List.mem_of_getElem? (i := 709) (by decide +kernel), List.mem_of_getElem? (i := 1083) (by decide +kernel), List.mem_of_getElem? (i := 1084) (by decide +kernel)⟩
theorem lw_p88 : lw_okq (⟨"DimensionLinesModel", "laneOfChain", "(I)I"⟩, 16) := ⟨⟨by decide +kernel, by decide +kernel⟩, List.mem_of_getElem? (i := 709) (by decide +kernel), List.mem_of_getElem? (i := 1087) (by decide +kernel), List.mem_of_getElem? (i := 1088) (by decide +kernel)⟩
theorem lw_p89 : lw_okq (⟨"DimensionLinesModel", "lanes", "()I"⟩, 16) := ⟨⟨by decide +kernel, by decide +kernel⟩, List.mem_of_getElem? (i := 709) (by decide +kernel), List.mem_of_getElem? (i := 1095) (by decide +kernel), List.mem_of_getElem? (i := 1096) (by decide +kernel)⟩
theorem lw_p90 : lw_okq (⟨"DimensionLinesModel", "units", "()I"⟩, 16) := ⟨⟨by decide +kernel, by decide +kernel⟩, List.mem_of_getElem? (i := 709) (by decide +kernel), List.mem_of_getElem? (i := 1103) (by decide +kernel), List.mem_of_getElem? (i := 1104) (by decide +kernel)⟩
theorem lw_p91 : lw_okq (⟨"DimensionLinesModel", "groups", "()I"⟩, 16) := ⟨⟨by decide +kernel, by decide +kernel⟩, List.mem_of_getElem? (i := 709) (by decide +kernel), List.mem_of_getElem? (i := 1107) (by decide +kernel), List.mem_of_getElem? (i := 1108) (by decide +kernel)⟩
theorem lw_p92 : lw_okq (⟨"DimensionLinesModel", "superfluous", "()I"⟩, 16) := ⟨⟨by decide +kernel, by decide +kernel⟩, List.mem_of_getElem? (i := 709) (by decide +kernel), List.mem_of_getElem? (i := 1111) (by decide +kernel), List.mem_of_getElem? (i := 1112) (by decide +kernel)⟩
theorem lw_p93 : lw_okq (⟨"DimensionLinesModel", "mixes", "(I)V"⟩, 16) := ⟨⟨by decide +kernel, by decide +kernel⟩, List.mem_of_getElem? (i := 709) (by decide +kernel), List.mem_of_getElem? (i := 1121) (by decide +kernel), List.mem_of_getElem? (i := 1122) (by decide +kernel)⟩
def lw_privs_6 : List (MethodName × Nat) := [(⟨"DimensionLinesModel", "isSuperfluous", "(II)Z"⟩, 16), (⟨"DimensionLinesModel", "arePoints", "(II)Z"⟩, 16), (⟨"DimensionLinesModel", "adds", "(III)I"⟩, 16), (⟨"DimensionLinesModel", "range", "(II)I"⟩, 16), (⟨"DimensionLinesModel", "sumOf", "(II)I"⟩, 16), (⟨"DimensionLinesModel", "endOf", "(IZ)I"⟩, 16), (⟨"DimensionLinesModel", "isClosed", "(I)Z"⟩, 16), (⟨"DimensionLinesModel", "over", "(I)I"⟩, 16), (⟨"DimensionLinesModel", "laneOfChain", "(I)I"⟩, 16), (⟨"DimensionLinesModel", "lanes", "()I"⟩, 16), (⟨"DimensionLinesModel", "units", "()I"⟩, 16), (⟨"DimensionLinesModel", "groups", "()I"⟩, 16), (⟨"DimensionLinesModel", "superfluous", "()I"⟩, 16), (⟨"DimensionLinesModel", "mixes", "(I)V"⟩, 16)]
theorem lw_r6 : ∀ q ∈ lw_privs_6, lw_okq q := List.forall_mem_cons.mpr ⟨lw_p80, List.forall_mem_cons.mpr ⟨lw_p81, List.forall_mem_cons.mpr ⟨lw_p82, List.forall_mem_cons.mpr ⟨lw_p83, List.forall_mem_cons.mpr ⟨lw_p84, List.forall_mem_cons.mpr ⟨lw_p85, List.forall_mem_cons.mpr ⟨lw_p86, List.forall_mem_cons.mpr ⟨lw_p87, List.forall_mem_cons.mpr ⟨lw_p88, List.forall_mem_cons.mpr ⟨lw_p89, List.forall_mem_cons.mpr ⟨lw_p90, List.forall_mem_cons.mpr ⟨lw_p91, List.forall_mem_cons.mpr ⟨lw_p92, List.forall_mem_cons.mpr ⟨lw_p93, fun _ h => absurd h List.not_mem_nil⟩⟩⟩⟩⟩⟩⟩⟩⟩⟩⟩⟩⟩⟩
def lw_privs : List (MethodName × Nat) := lw_privs_1 ++ (lw_privs_2 ++ (lw_privs_3 ++ (lw_privs_4 ++ (lw_privs_5 ++ (lw_privs_6)))))
def lw_tbl : List Cond := k2_sels lw_privs ++ tables_1
theorem lw_privs_ok : ∀ q ∈ lw_privs, lw_okq q := by
  show ∀ q ∈ lw_privs_1 ++ (lw_privs_2 ++ (lw_privs_3 ++ (lw_privs_4 ++ (lw_privs_5 ++ (lw_privs_6))))), lw_okq q
  exact List.forall_mem_append.mpr ⟨lw_r1, List.forall_mem_append.mpr ⟨lw_r2, List.forall_mem_append.mpr ⟨lw_r3, List.forall_mem_append.mpr ⟨lw_r4, List.forall_mem_append.mpr ⟨lw_r5, lw_r6⟩⟩⟩⟩⟩
end
section
def RX0 : String := "DimensionLines$Bounds"
def TX0 : u_T := fun k => match k with
  | 0 => ("DimensionLines$Bounds", "greatest", "[[I", true)
  | 1 => ("DimensionLines$Bounds", "group", "[I", true)
  | 2 => ("DimensionLines$Bounds", "superfluous", "[Z", true)
  | 3 => ("DimensionLines$Bounds", "groupCount", "I", false)
  | 4 => ("DimensionLines$Bounds", "superfluousCount", "I", false)
  | 5 => ("DimensionLines$Bounds", "dimensionCount", "I", false)
  | 6 => ("DimensionLines$Bounds", "removed", "[Z", true)
  | 7 => ("DimensionLines$Bounds", "ways", "[I", true)
  | 8 => ("DimensionLines$Bounds", "stepFrom", "[I", true)
  | 9 => ("DimensionLines$Bounds", "stepTo", "[I", true)
  | _ => ("DimensionLines$Bounds", "stepLength", "[I", true)
def tyX0 : Nat → FieldType := fun k => match k with
  | 0 => .array (.array .int)
  | 1 => .array .int
  | 2 => .array .boolean
  | 3 => .int
  | 4 => .int
  | 5 => .int
  | 6 => .array .boolean
  | 7 => .array .int
  | 8 => .array .int
  | 9 => .array .int
  | _ => .array .int
abbrev wsX00 : List Cond := u_ws RX0 TX0 11
theorem nmX0 : ∀ a, a < 11 → ∀ b, b < 11 → a ≠ b → (TX0 a).2.1 ≠ (TX0 b).2.1 := by decide +kernel
theorem tyX0_ok : ∀ k, k < 11 → parseFieldDescriptor (TX0 k).2.2.1 = some (tyX0 k) := by decide +kernel
abbrev cX0_init : ByteArray := prog_2_method_1_code
def yX0_init : MethodName := ⟨RX0, "<init>", "()V"⟩
abbrev cX0_workOut : ByteArray := prog_2_method_2_code
def yX0_workOut : MethodName := ⟨RX0, "workOut", "(LDimensionLines$Drawing;)V"⟩
abbrev cX0_areBound : ByteArray := prog_2_method_3_code
def yX0_areBound : MethodName := ⟨RX0, "areBound", "(II)Z"⟩
abbrev cX0_gain : ByteArray := prog_2_method_4_code
def yX0_gain : MethodName := ⟨RX0, "gain", "(LDimensionLines$Drawing;III)I"⟩
abbrev cX0_bestToMakeExact : ByteArray := prog_2_method_5_code
def yX0_bestToMakeExact : MethodName := ⟨RX0, "bestToMakeExact", "(LDimensionLines$Drawing;II)I"⟩
abbrev cX0_countLeft : ByteArray := prog_2_method_6_code
def yX0_countLeft : MethodName := ⟨RX0, "countLeft", "()I"⟩
abbrev cX0_greatestIfExact : ByteArray := prog_2_method_7_code
def yX0_greatestIfExact : MethodName := ⟨RX0, "greatestIfExact", "(LDimensionLines$Drawing;III)I"⟩
abbrev cX0_listSteps : ByteArray := prog_2_method_8_code
def yX0_listSteps : MethodName := ⟨RX0, "listSteps", "(LDimensionLines$Drawing;)V"⟩
abbrev cX0_removeNone : ByteArray := prog_2_method_9_code
def yX0_removeNone : MethodName := ⟨RX0, "removeNone", "()V"⟩
abbrev cX0_isSuperfluous : ByteArray := prog_2_method_10_code
def yX0_isSuperfluous : MethodName := ⟨RX0, "isSuperfluous", "(I)Z"⟩
abbrev cX0_findWays : ByteArray := prog_2_method_11_code
def yX0_findWays : MethodName := ⟨RX0, "findWays", "(I[I)V"⟩
abbrev cX0_formGroups : ByteArray := prog_2_method_12_code
def yX0_formGroups : MethodName := ⟨RX0, "formGroups", "(I)V"⟩
def RX1 : String := "DimensionLines$Drawing"
def TX1 : u_T := fun k => match k with
  | 0 => ("DimensionLines$Drawing", "positions", "[I", true)
  | 1 => ("DimensionLines$Drawing", "first", "[I", true)
  | 2 => ("DimensionLines$Drawing", "second", "[I", true)
  | 3 => ("DimensionLines$Drawing", "minus", "[I", true)
  | 4 => ("DimensionLines$Drawing", "plus", "[I", true)
  | 5 => ("DimensionLines$Drawing", "chainOf", "[I", true)
  | 6 => ("DimensionLines$Drawing", "least", "[I", true)
  | 7 => ("DimensionLines$Drawing", "pointCount", "I", false)
  | 8 => ("DimensionLines$Drawing", "dimensionCount", "I", false)
  | 9 => ("DimensionLines$Drawing", "letter", "I", false)
  | _ => ("DimensionLines$Drawing", "arrow", "I", false)
def tyX1 : Nat → FieldType := fun k => match k with
  | 0 => .array .int
  | 1 => .array .int
  | 2 => .array .int
  | 3 => .array .int
  | 4 => .array .int
  | 5 => .array .int
  | 6 => .array .int
  | 7 => .int
  | 8 => .int
  | 9 => .int
  | _ => .int
abbrev wsX10 : List Cond := u_ws RX1 TX1 11
theorem nmX1 : ∀ a, a < 11 → ∀ b, b < 11 → a ≠ b → (TX1 a).2.1 ≠ (TX1 b).2.1 := by decide +kernel
theorem tyX1_ok : ∀ k, k < 11 → parseFieldDescriptor (TX1 k).2.2.1 = some (tyX1 k) := by decide +kernel
abbrev cX1_init : ByteArray := prog_3_method_1_code
def yX1_init : MethodName := ⟨RX1, "<init>", "()V"⟩
abbrev cX1_copyFrom : ByteArray := prog_3_method_2_code
def yX1_copyFrom : MethodName := ⟨RX1, "copyFrom", "(LDimensionLines$Drawing;)V"⟩
abbrev cX1_copyContentFrom : ByteArray := prog_3_method_3_code
def yX1_copyContentFrom : MethodName := ⟨RX1, "copyContentFrom", "(LDimensionLines$Drawing;)V"⟩
abbrev cX1_hasPoint : ByteArray := prog_3_method_4_code
def yX1_hasPoint : MethodName := ⟨RX1, "hasPoint", "(I)Z"⟩
abbrev cX1_hasDimension : ByteArray := prog_3_method_5_code
def yX1_hasDimension : MethodName := ⟨RX1, "hasDimension", "(I)Z"⟩
abbrev cX1_hasPointAt : ByteArray := prog_3_method_6_code
def yX1_hasPointAt : MethodName := ⟨RX1, "hasPointAt", "(I)Z"⟩
abbrev cX1_countPointsBefore : ByteArray := prog_3_method_7_code
def yX1_countPointsBefore : MethodName := ⟨RX1, "countPointsBefore", "(I)I"⟩
abbrev cX1_isEnd : ByteArray := prog_3_method_8_code
def yX1_isEnd : MethodName := ⟨RX1, "isEnd", "(II)Z"⟩
abbrev cX1_countDimensionsAt : ByteArray := prog_3_method_9_code
def yX1_countDimensionsAt : MethodName := ⟨RX1, "countDimensionsAt", "(I)I"⟩
abbrev cX1_valueOf : ByteArray := prog_3_method_10_code
def yX1_valueOf : MethodName := ⟨RX1, "valueOf", "(I)I"⟩
abbrev cX1_insertPoint : ByteArray := prog_3_method_11_code
def yX1_insertPoint : MethodName := ⟨RX1, "insertPoint", "(I)I"⟩
abbrev cX1_shiftPoint : ByteArray := prog_3_method_12_code
def yX1_shiftPoint : MethodName := ⟨RX1, "shiftPoint", "(II)I"⟩
abbrev cX1_removePoint : ByteArray := prog_3_method_13_code
def yX1_removePoint : MethodName := ⟨RX1, "removePoint", "(I)V"⟩
abbrev cX1_renumberEnds : ByteArray := prog_3_method_14_code
def yX1_renumberEnds : MethodName := ⟨RX1, "renumberEnds", "(II)V"⟩
abbrev cX1_renumbered : ByteArray := prog_3_method_15_code
def yX1_renumbered : MethodName := ⟨RX1, "renumbered", "(III)I"⟩
abbrev cX1_closeGap : ByteArray := prog_3_method_16_code
def yX1_closeGap : MethodName := ⟨RX1, "closeGap", "([III)V"⟩
abbrev cX1_append : ByteArray := prog_3_method_17_code
def yX1_append : MethodName := ⟨RX1, "append", "(II)I"⟩
abbrev cX1_removeDimension : ByteArray := prog_3_method_18_code
def yX1_removeDimension : MethodName := ⟨RX1, "removeDimension", "(I)V"⟩
abbrev cX1_countOfChain : ByteArray := prog_3_method_19_code
def yX1_countOfChain : MethodName := ⟨RX1, "countOfChain", "(I)I"⟩
abbrev cX1_sumOfChain : ByteArray := prog_3_method_20_code
def yX1_sumOfChain : MethodName := ⟨RX1, "sumOfChain", "(I[I)I"⟩
abbrev cX1_sumOfValues : ByteArray := prog_3_method_21_code
def yX1_sumOfValues : MethodName := ⟨RX1, "sumOfValues", "(I)I"⟩
abbrev cX1_beginOfChain : ByteArray := prog_3_method_22_code
def yX1_beginOfChain : MethodName := ⟨RX1, "beginOfChain", "(I)I"⟩
abbrev cX1_endOfChain : ByteArray := prog_3_method_23_code
def yX1_endOfChain : MethodName := ⟨RX1, "endOfChain", "(I)I"⟩
abbrev cX1_isClosed : ByteArray := prog_3_method_24_code
def yX1_isClosed : MethodName := ⟨RX1, "isClosed", "(I)Z"⟩
abbrev cX1_nextInChain : ByteArray := prog_3_method_25_code
def yX1_nextInChain : MethodName := ⟨RX1, "nextInChain", "(II)I"⟩
abbrev cX1_smallestOver : ByteArray := prog_3_method_26_code
def yX1_smallestOver : MethodName := ⟨RX1, "smallestOver", "(I)I"⟩
def RX2 : String := "DimensionLines$History"
def TX2 : u_T := fun k => match k with
  | 0 => ("DimensionLines$History", "states", "[LDimensionLines$Drawing;", true)
  | 1 => ("DimensionLines$History", "latest", "I", false)
  | _ => ("DimensionLines$History", "kept", "I", false)
def tyX2 : Nat → FieldType := fun k => match k with
  | 0 => .array (.object "DimensionLines$Drawing")
  | 1 => .int
  | _ => .int
abbrev wsX20 : List Cond := u_ws RX2 TX2 3
theorem nmX2 : ∀ a, a < 3 → ∀ b, b < 3 → a ≠ b → (TX2 a).2.1 ≠ (TX2 b).2.1 := by decide +kernel
theorem tyX2_ok : ∀ k, k < 3 → parseFieldDescriptor (TX2 k).2.2.1 = some (tyX2 k) := by decide +kernel
abbrev cX2_init : ByteArray := prog_4_method_1_code
def yX2_init : MethodName := ⟨RX2, "<init>", "()V"⟩
abbrev cX2_record : ByteArray := prog_4_method_2_code
def yX2_record : MethodName := ⟨RX2, "record", "(LDimensionLines$Drawing;)V"⟩
abbrev cX2_restore : ByteArray := prog_4_method_3_code
def yX2_restore : MethodName := ⟨RX2, "restore", "(LDimensionLines$Drawing;)V"⟩
def RX3 : String := "DimensionLines$Lanes"
def TX3 : u_T := fun k => match k with
  | 0 => ("DimensionLines$Lanes", "form", "[I", true)
  | 1 => ("DimensionLines$Lanes", "begin", "[I", true)
  | 2 => ("DimensionLines$Lanes", "end", "[I", true)
  | 3 => ("DimensionLines$Lanes", "lane", "[I", true)
  | 4 => ("DimensionLines$Lanes", "crossed", "[I", true)
  | 5 => ("DimensionLines$Lanes", "crossings", "[I", true)
  | 6 => ("DimensionLines$Lanes", "unitCount", "I", false)
  | 7 => ("DimensionLines$Lanes", "laneCount", "I", false)
  | 8 => ("DimensionLines$Lanes", "crossingCount", "I", false)
  | 9 => ("DimensionLines$Lanes", "top", "[I", true)
  | 10 => ("DimensionLines$Lanes", "leader", "[I", true)
  | 11 => ("DimensionLines$Lanes", "spanBegin", "[I", true)
  | 12 => ("DimensionLines$Lanes", "spanEnd", "[I", true)
  | 13 => ("DimensionLines$Lanes", "leastOfUnit", "[I", true)
  | 14 => ("DimensionLines$Lanes", "order", "[I", true)
  | _ => ("DimensionLines$Lanes", "dimensionCount", "I", false)
def tyX3 : Nat → FieldType := fun k => match k with
  | 0 => .array .int
  | 1 => .array .int
  | 2 => .array .int
  | 3 => .array .int
  | 4 => .array .int
  | 5 => .array .int
  | 6 => .int
  | 7 => .int
  | 8 => .int
  | 9 => .array .int
  | 10 => .array .int
  | 11 => .array .int
  | 12 => .array .int
  | 13 => .array .int
  | 14 => .array .int
  | _ => .int
abbrev wsX30 : List Cond := u_ws RX3 TX3 16
theorem nmX3 : ∀ a, a < 16 → ∀ b, b < 16 → a ≠ b → (TX3 a).2.1 ≠ (TX3 b).2.1 := by decide +kernel
theorem tyX3_ok : ∀ k, k < 16 → parseFieldDescriptor (TX3 k).2.2.1 = some (tyX3 k) := by decide +kernel
abbrev cX3_init : ByteArray := prog_5_method_1_code
def yX3_init : MethodName := ⟨RX3, "<init>", "()V"⟩
abbrev cX3_layOut : ByteArray := prog_5_method_2_code
def yX3_layOut : MethodName := ⟨RX3, "layOut", "(LDimensionLines$Drawing;I)V"⟩
abbrev cX3_topOf : ByteArray := prog_5_method_3_code
def yX3_topOf : MethodName := ⟨RX3, "topOf", "(I)I"⟩
abbrev cX3_laneOfChain : ByteArray := prog_5_method_4_code
def yX3_laneOfChain : MethodName := ⟨RX3, "laneOfChain", "(LDimensionLines$Drawing;I)I"⟩
abbrev cX3_measure : ByteArray := prog_5_method_5_code
def yX3_measure : MethodName := ⟨RX3, "measure", "(LDimensionLines$Drawing;II)V"⟩
abbrev cX3_digitsOf : ByteArray := prog_5_method_6_code
def yX3_digitsOf : MethodName := ⟨RX3, "digitsOf", "(I)I"⟩
abbrev cX3_joinUnit : ByteArray := prog_5_method_7_code
def yX3_joinUnit : MethodName := ⟨RX3, "joinUnit", "(LDimensionLines$Drawing;I)V"⟩
abbrev cX3_leaderOf : ByteArray := prog_5_method_8_code
def yX3_leaderOf : MethodName := ⟨RX3, "leaderOf", "(LDimensionLines$Drawing;I)I"⟩
abbrev cX3_place : ByteArray := prog_5_method_9_code
def yX3_place : MethodName := ⟨RX3, "place", "(I)V"⟩
abbrev cX3_comesBefore : ByteArray := prog_5_method_10_code
def yX3_comesBefore : MethodName := ⟨RX3, "comesBefore", "(II)Z"⟩
abbrev cX3_lowestLaneFor : ByteArray := prog_5_method_11_code
def yX3_lowestLaneFor : MethodName := ⟨RX3, "lowestLaneFor", "(II)I"⟩
abbrev cX3_isTaken : ByteArray := prog_5_method_12_code
def yX3_isTaken : MethodName := ⟨RX3, "isTaken", "(II)Z"⟩
abbrev cX3_drawWitnessLines : ByteArray := prog_5_method_13_code
def yX3_drawWitnessLines : MethodName := ⟨RX3, "drawWitnessLines", "(LDimensionLines$Drawing;)V"⟩
abbrev cX3_countCrossings : ByteArray := prog_5_method_14_code
def yX3_countCrossings : MethodName := ⟨RX3, "countCrossings", "(LDimensionLines$Drawing;I)V"⟩
def RX4 : String := "DimensionLines$TextReader"
def TX4 : u_T := fun k => match k with
  | 0 => ("DimensionLines$TextReader", "text", "[I", true)
  | 1 => ("DimensionLines$TextReader", "result", "LDimensionLines$Drawing;", true)
  | 2 => ("DimensionLines$TextReader", "length", "I", false)
  | 3 => ("DimensionLines$TextReader", "fault", "I", false)
  | 4 => ("DimensionLines$TextReader", "faultIndex", "I", false)
  | 5 => ("DimensionLines$TextReader", "cursor", "I", false)
  | _ => ("DimensionLines$TextReader", "numberStart", "I", false)
def tyX4 : Nat → FieldType := fun k => match k with
  | 0 => .array .int
  | 1 => .object "DimensionLines$Drawing"
  | 2 => .int
  | 3 => .int
  | 4 => .int
  | 5 => .int
  | _ => .int
abbrev wsX40 : List Cond := u_ws RX4 TX4 7
theorem nmX4 : ∀ a, a < 7 → ∀ b, b < 7 → a ≠ b → (TX4 a).2.1 ≠ (TX4 b).2.1 := by decide +kernel
theorem tyX4_ok : ∀ k, k < 7 → parseFieldDescriptor (TX4 k).2.2.1 = some (tyX4 k) := by decide +kernel
abbrev cX4_init : ByteArray := prog_6_method_1_code
def yX4_init : MethodName := ⟨RX4, "<init>", "()V"⟩
abbrev cX4_append : ByteArray := prog_6_method_2_code
def yX4_append : MethodName := ⟨RX4, "append", "(I)I"⟩
abbrev cX4_empty : ByteArray := prog_6_method_3_code
def yX4_empty : MethodName := ⟨RX4, "empty", "()I"⟩
abbrev cX4_read : ByteArray := prog_6_method_4_code
def yX4_read : MethodName := ⟨RX4, "read", "()V"⟩
abbrev cX4_readPosition : ByteArray := prog_6_method_5_code
def yX4_readPosition : MethodName := ⟨RX4, "readPosition", "()V"⟩
abbrev cX4_readDimension : ByteArray := prog_6_method_6_code
def yX4_readDimension : MethodName := ⟨RX4, "readDimension", "()V"⟩
abbrev cX4_readUpTo : ByteArray := prog_6_method_7_code
def yX4_readUpTo : MethodName := ⟨RX4, "readUpTo", "(II)I"⟩
abbrev cX4_readNumber : ByteArray := prog_6_method_8_code
def yX4_readNumber : MethodName := ⟨RX4, "readNumber", "(I)I"⟩
abbrev cX4_demand : ByteArray := prog_6_method_9_code
def yX4_demand : MethodName := ⟨RX4, "demand", "(Z)V"⟩
abbrev cX4_expect : ByteArray := prog_6_method_10_code
def yX4_expect : MethodName := ⟨RX4, "expect", "(I)V"⟩
abbrev cX4_accept : ByteArray := prog_6_method_11_code
def yX4_accept : MethodName := ⟨RX4, "accept", "(I)Z"⟩
abbrev cX4_isDigitNext : ByteArray := prog_6_method_12_code
def yX4_isDigitNext : MethodName := ⟨RX4, "isDigitNext", "()Z"⟩
abbrev cX4_next : ByteArray := prog_6_method_13_code
def yX4_next : MethodName := ⟨RX4, "next", "()I"⟩
abbrev cX4_fail : ByteArray := prog_6_method_14_code
def yX4_fail : MethodName := ⟨RX4, "fail", "(II)V"⟩
def RX5 : String := "DimensionLines"
def TX5 : u_T := fun k => match k with
  | 0 => ("DimensionLines", "drawing", "LDimensionLines$Drawing;", true)
  | 1 => ("DimensionLines", "history", "LDimensionLines$History;", true)
  | 2 => ("DimensionLines", "reader", "LDimensionLines$TextReader;", true)
  | 3 => ("DimensionLines", "lanes", "LDimensionLines$Lanes;", true)
  | 4 => ("DimensionLines", "lanesIf", "LDimensionLines$Lanes;", true)
  | 5 => ("DimensionLines", "bounds", "LDimensionLines$Bounds;", true)
  | 6 => ("DimensionLines", "lanesFresh", "Z", false)
  | _ => ("DimensionLines", "boundsFresh", "Z", false)
def tyX5 : Nat → FieldType := fun k => match k with
  | 0 => .object "DimensionLines$Drawing"
  | 1 => .object "DimensionLines$History"
  | 2 => .object "DimensionLines$TextReader"
  | 3 => .object "DimensionLines$Lanes"
  | 4 => .object "DimensionLines$Lanes"
  | 5 => .object "DimensionLines$Bounds"
  | 6 => .boolean
  | _ => .boolean
abbrev wsX50 : List Cond := u_ws RX5 TX5 8
theorem nmX5 : ∀ a, a < 8 → ∀ b, b < 8 → a ≠ b → (TX5 a).2.1 ≠ (TX5 b).2.1 := by decide +kernel
theorem tyX5_ok : ∀ k, k < 8 → parseFieldDescriptor (TX5 k).2.2.1 = some (tyX5 k) := by decide +kernel
abbrev cX5_init : ByteArray := prog_1_method_1_code
def yX5_init : MethodName := ⟨RX5, "<init>", "()V"⟩
abbrev cX5_type : ByteArray := prog_1_method_2_code
def yX5_type : MethodName := ⟨RX5, "type", "(I)I"⟩
abbrev cX5_clearText : ByteArray := prog_1_method_3_code
def yX5_clearText : MethodName := ⟨RX5, "clearText", "()I"⟩
abbrev cX5_load : ByteArray := prog_1_method_4_code
def yX5_load : MethodName := ⟨RX5, "load", "()I"⟩
abbrev cX5_faultKind : ByteArray := prog_1_method_5_code
def yX5_faultKind : MethodName := ⟨RX5, "faultKind", "()I"⟩
abbrev cX5_addPoint : ByteArray := prog_1_method_6_code
def yX5_addPoint : MethodName := ⟨RX5, "addPoint", "(I)I"⟩
abbrev cX5_movePoint : ByteArray := prog_1_method_7_code
def yX5_movePoint : MethodName := ⟨RX5, "movePoint", "(II)I"⟩
abbrev cX5_dropPoint : ByteArray := prog_1_method_8_code
def yX5_dropPoint : MethodName := ⟨RX5, "dropPoint", "(I)I"⟩
abbrev cX5_add : ByteArray := prog_1_method_9_code
def yX5_add : MethodName := ⟨RX5, "add", "(II)I"⟩
abbrev cX5_drop : ByteArray := prog_1_method_10_code
def yX5_drop : MethodName := ⟨RX5, "drop", "(I)I"⟩
abbrev cX5_setTolerance : ByteArray := prog_1_method_11_code
def yX5_setTolerance : MethodName := ⟨RX5, "setTolerance", "(III)I"⟩
abbrev cX5_setChain : ByteArray := prog_1_method_12_code
def yX5_setChain : MethodName := ⟨RX5, "setChain", "(II)I"⟩
abbrev cX5_setLeast : ByteArray := prog_1_method_13_code
def yX5_setLeast : MethodName := ⟨RX5, "setLeast", "(II)I"⟩
abbrev cX5_setLetter : ByteArray := prog_1_method_14_code
def yX5_setLetter : MethodName := ⟨RX5, "setLetter", "(I)I"⟩
abbrev cX5_setArrow : ByteArray := prog_1_method_15_code
def yX5_setArrow : MethodName := ⟨RX5, "setArrow", "(I)I"⟩
abbrev cX5_point : ByteArray := prog_1_method_16_code
def yX5_point : MethodName := ⟨RX5, "point", "(II)I"⟩
abbrev cX5_dimension : ByteArray := prog_1_method_17_code
def yX5_dimension : MethodName := ⟨RX5, "dimension", "(II)I"⟩
abbrev cX5_at : ByteArray := prog_1_method_18_code
def yX5_at : MethodName := ⟨RX5, "at", "(II)I"⟩
abbrev cX5_distance : ByteArray := prog_1_method_19_code
def yX5_distance : MethodName := ⟨RX5, "distance", "(IIZ)I"⟩
abbrev cX5_ifExact : ByteArray := prog_1_method_20_code
def yX5_ifExact : MethodName := ⟨RX5, "ifExact", "(III)I"⟩
abbrev cX5_critical : ByteArray := prog_1_method_21_code
def yX5_critical : MethodName := ⟨RX5, "critical", "(II)I"⟩
abbrev cX5_needed : ByteArray := prog_1_method_22_code
def yX5_needed : MethodName := ⟨RX5, "needed", "()I"⟩
abbrev cX5_chain : ByteArray := prog_1_method_23_code
def yX5_chain : MethodName := ⟨RX5, "chain", "(II)I"⟩
abbrev cX5_ifArrow : ByteArray := prog_1_method_24_code
def yX5_ifArrow : MethodName := ⟨RX5, "ifArrow", "(I)I"⟩
abbrev cX5_undo : ByteArray := prog_1_method_25_code
def yX5_undo : MethodName := ⟨RX5, "undo", "()I"⟩
abbrev cX5_count : ByteArray := prog_1_method_26_code
def yX5_count : MethodName := ⟨RX5, "count", "(I)I"⟩
abbrev cX5_digest : ByteArray := prog_1_method_27_code
def yX5_digest : MethodName := ⟨RX5, "digest", "()J"⟩
abbrev cX5_hashOfPairs : ByteArray := prog_1_method_28_code
def yX5_hashOfPairs : MethodName := ⟨RX5, "hashOfPairs", "(J)J"⟩
abbrev cX5_isWithin : ByteArray := prog_1_method_29_code
def yX5_isWithin : MethodName := ⟨RX5, "isWithin", "(III)Z"⟩
abbrev cX5_areTwoPoints : ByteArray := prog_1_method_30_code
def yX5_areTwoPoints : MethodName := ⟨RX5, "areTwoPoints", "(II)Z"⟩
abbrev cX5_beginChange : ByteArray := prog_1_method_31_code
def yX5_beginChange : MethodName := ⟨RX5, "beginChange", "()V"⟩
abbrev cX5_forgetWhatWasWorkedOut : ByteArray := prog_1_method_32_code
def yX5_forgetWhatWasWorkedOut : MethodName := ⟨RX5, "forgetWhatWasWorkedOut", "()V"⟩
abbrev cX5_laidLanes : ByteArray := prog_1_method_33_code
def yX5_laidLanes : MethodName := ⟨RX5, "laidLanes", "()LDimensionLines$Lanes;"⟩
abbrev cX5_knownBounds : ByteArray := prog_1_method_34_code
def yX5_knownBounds : MethodName := ⟨RX5, "knownBounds", "()LDimensionLines$Bounds;"⟩
def RX6 : String := "DimensionLinesModel"
def TX6 : u_T := fun k => match k with
  | 0 => ("DimensionLinesModel", "page", "[I", true)
  | 1 => ("DimensionLinesModel", "backMany", "I", false)
  | 2 => ("DimensionLinesModel", "text", "[I", true)
  | 3 => ("DimensionLinesModel", "typed", "I", false)
  | 4 => ("DimensionLinesModel", "fault", "I", false)
  | 5 => ("DimensionLinesModel", "faultAt", "I", false)
  | 6 => ("DimensionLinesModel", "spot", "I", false)
  | 7 => ("DimensionLinesModel", "number", "I", false)
  | 8 => ("DimensionLinesModel", "unit", "[I", true)
  | 9 => ("DimensionLinesModel", "spanFrom", "[I", true)
  | 10 => ("DimensionLinesModel", "spanTo", "[I", true)
  | 11 => ("DimensionLinesModel", "leastLane", "[I", true)
  | 12 => ("DimensionLinesModel", "lane", "[I", true)
  | 13 => ("DimensionLinesModel", "isPlaced", "[Z", true)
  | 14 => ("DimensionLinesModel", "greatest", "[I", true)
  | _ => ("DimensionLinesModel", "hash", "J", false)
def tyX6 : Nat → FieldType := fun k => match k with
  | 0 => .array .int
  | 1 => .int
  | 2 => .array .int
  | 3 => .int
  | 4 => .int
  | 5 => .int
  | 6 => .int
  | 7 => .int
  | 8 => .array .int
  | 9 => .array .int
  | 10 => .array .int
  | 11 => .array .int
  | 12 => .array .int
  | 13 => .array .boolean
  | 14 => .array .int
  | _ => .long
abbrev wsX60 : List Cond := u_ws RX6 TX6 16
theorem nmX6 : ∀ a, a < 16 → ∀ b, b < 16 → a ≠ b → (TX6 a).2.1 ≠ (TX6 b).2.1 := by decide +kernel
theorem tyX6_ok : ∀ k, k < 16 → parseFieldDescriptor (TX6 k).2.2.1 = some (tyX6 k) := by decide +kernel
abbrev cX6_init : ByteArray := prog_8_method_1_code
def yX6_init : MethodName := ⟨RX6, "<init>", "()V"⟩
abbrev cX6_in : ByteArray := prog_8_method_3_code
def yX6_in : MethodName := ⟨RX6, "in", "(III)Z"⟩
abbrev cX6_copies : ByteArray := prog_8_method_4_code
def yX6_copies : MethodName := ⟨RX6, "copies", "(II)V"⟩
abbrev cX6_records : ByteArray := prog_8_method_5_code
def yX6_records : MethodName := ⟨RX6, "records", "()V"⟩
abbrev cX6_undo : ByteArray := prog_8_method_6_code
def yX6_undo : MethodName := ⟨RX6, "undo", "()I"⟩
abbrev cX6_isPoint : ByteArray := prog_8_method_7_code
def yX6_isPoint : MethodName := ⟨RX6, "isPoint", "(I)Z"⟩
abbrev cX6_isDimension : ByteArray := prog_8_method_8_code
def yX6_isDimension : MethodName := ⟨RX6, "isDimension", "(I)Z"⟩
abbrev cX6_of : ByteArray := prog_8_method_9_code
def yX6_of : MethodName := ⟨RX6, "of", "(II)I"⟩
abbrev cX6_sets : ByteArray := prog_8_method_10_code
def yX6_sets : MethodName := ⟨RX6, "sets", "(III)V"⟩
abbrev cX6_position : ByteArray := prog_8_method_11_code
def yX6_position : MethodName := ⟨RX6, "position", "(I)I"⟩
abbrev cX6_from : ByteArray := prog_8_method_12_code
def yX6_from : MethodName := ⟨RX6, "from", "(I)I"⟩
abbrev cX6_to : ByteArray := prog_8_method_13_code
def yX6_to : MethodName := ⟨RX6, "to", "(I)I"⟩
abbrev cX6_value : ByteArray := prog_8_method_14_code
def yX6_value : MethodName := ⟨RX6, "value", "(I)I"⟩
abbrev cX6_pointWith : ByteArray := prog_8_method_15_code
def yX6_pointWith : MethodName := ⟨RX6, "pointWith", "(I)I"⟩
abbrev cX6_comes : ByteArray := prog_8_method_16_code
def yX6_comes : MethodName := ⟨RX6, "comes", "(I)I"⟩
abbrev cX6_addPoint : ByteArray := prog_8_method_17_code
def yX6_addPoint : MethodName := ⟨RX6, "addPoint", "(I)I"⟩
abbrev cX6_goes : ByteArray := prog_8_method_18_code
def yX6_goes : MethodName := ⟨RX6, "goes", "(I)V"⟩
abbrev cX6_movePoint : ByteArray := prog_8_method_19_code
def yX6_movePoint : MethodName := ⟨RX6, "movePoint", "(II)I"⟩
abbrev cX6_ends : ByteArray := prog_8_method_20_code
def yX6_ends : MethodName := ⟨RX6, "ends", "(I)I"⟩
abbrev cX6_dropPoint : ByteArray := prog_8_method_21_code
def yX6_dropPoint : MethodName := ⟨RX6, "dropPoint", "(I)I"⟩
abbrev cX6_lays : ByteArray := prog_8_method_22_code
def yX6_lays : MethodName := ⟨RX6, "lays", "(IIIII)V"⟩
abbrev cX6_add : ByteArray := prog_8_method_23_code
def yX6_add : MethodName := ⟨RX6, "add", "(II)I"⟩
abbrev cX6_drop : ByteArray := prog_8_method_24_code
def yX6_drop : MethodName := ⟨RX6, "drop", "(I)I"⟩
abbrev cX6_setTolerance : ByteArray := prog_8_method_25_code
def yX6_setTolerance : MethodName := ⟨RX6, "setTolerance", "(III)I"⟩
abbrev cX6_becomes : ByteArray := prog_8_method_26_code
def yX6_becomes : MethodName := ⟨RX6, "becomes", "(III)I"⟩
abbrev cX6_setChain : ByteArray := prog_8_method_27_code
def yX6_setChain : MethodName := ⟨RX6, "setChain", "(II)I"⟩
abbrev cX6_setLeast : ByteArray := prog_8_method_28_code
def yX6_setLeast : MethodName := ⟨RX6, "setLeast", "(II)I"⟩
abbrev cX6_setting : ByteArray := prog_8_method_29_code
def yX6_setting : MethodName := ⟨RX6, "setting", "(II)I"⟩
abbrev cX6_setLetter : ByteArray := prog_8_method_30_code
def yX6_setLetter : MethodName := ⟨RX6, "setLetter", "(I)I"⟩
abbrev cX6_setArrow : ByteArray := prog_8_method_31_code
def yX6_setArrow : MethodName := ⟨RX6, "setArrow", "(I)I"⟩
abbrev cX6_type : ByteArray := prog_8_method_32_code
def yX6_type : MethodName := ⟨RX6, "type", "(I)I"⟩
abbrev cX6_clearText : ByteArray := prog_8_method_33_code
def yX6_clearText : MethodName := ⟨RX6, "clearText", "()I"⟩
abbrev cX6_here : ByteArray := prog_8_method_34_code
def yX6_here : MethodName := ⟨RX6, "here", "()I"⟩
abbrev cX6_isDigit : ByteArray := prog_8_method_35_code
def yX6_isDigit : MethodName := ⟨RX6, "isDigit", "()Z"⟩
abbrev cX6_fails : ByteArray := prog_8_method_36_code
def yX6_fails : MethodName := ⟨RX6, "fails", "(II)Z"⟩
abbrev cX6_readsNumber : ByteArray := prog_8_method_37_code
def yX6_readsNumber : MethodName := ⟨RX6, "readsNumber", "(III)Z"⟩
abbrev cX6_reads : ByteArray := prog_8_method_38_code
def yX6_reads : MethodName := ⟨RX6, "reads", "(I)Z"⟩
abbrev cX6_readsPositions : ByteArray := prog_8_method_39_code
def yX6_readsPositions : MethodName := ⟨RX6, "readsPositions", "()Z"⟩
abbrev cX6_readsBehind : ByteArray := prog_8_method_40_code
def yX6_readsBehind : MethodName := ⟨RX6, "readsBehind", "(IIII)Z"⟩
abbrev cX6_readsDimension : ByteArray := prog_8_method_41_code
def yX6_readsDimension : MethodName := ⟨RX6, "readsDimension", "()Z"⟩
abbrev cX6_readsAll : ByteArray := prog_8_method_42_code
def yX6_readsAll : MethodName := ⟨RX6, "readsAll", "()V"⟩
abbrev cX6_load : ByteArray := prog_8_method_43_code
def yX6_load : MethodName := ⟨RX6, "load", "()I"⟩
abbrev cX6_faultKind : ByteArray := prog_8_method_44_code
def yX6_faultKind : MethodName := ⟨RX6, "faultKind", "()I"⟩
abbrev cX6_width : ByteArray := prog_8_method_45_code
def yX6_width : MethodName := ⟨RX6, "width", "(I)I"⟩
abbrev cX6_form : ByteArray := prog_8_method_46_code
def yX6_form : MethodName := ⟨RX6, "form", "(I)I"⟩
abbrev cX6_begins : ByteArray := prog_8_method_47_code
def yX6_begins : MethodName := ⟨RX6, "begins", "(I)I"⟩
abbrev cX6_reaches : ByteArray := prog_8_method_48_code
def yX6_reaches : MethodName := ⟨RX6, "reaches", "(I)I"⟩
abbrev cX6_unitOf : ByteArray := prog_8_method_49_code
def yX6_unitOf : MethodName := ⟨RX6, "unitOf", "(I)I"⟩
abbrev cX6_laysUnits : ByteArray := prog_8_method_50_code
def yX6_laysUnits : MethodName := ⟨RX6, "laysUnits", "()V"⟩
abbrev cX6_isUnit : ByteArray := prog_8_method_51_code
def yX6_isUnit : MethodName := ⟨RX6, "isUnit", "(I)Z"⟩
abbrev cX6_isSooner : ByteArray := prog_8_method_52_code
def yX6_isSooner : MethodName := ⟨RX6, "isSooner", "(II)Z"⟩
abbrev cX6_nextUnit : ByteArray := prog_8_method_53_code
def yX6_nextUnit : MethodName := ⟨RX6, "nextUnit", "()I"⟩
abbrev cX6_covers : ByteArray := prog_8_method_54_code
def yX6_covers : MethodName := ⟨RX6, "covers", "(II)Z"⟩
abbrev cX6_meets : ByteArray := prog_8_method_55_code
def yX6_meets : MethodName := ⟨RX6, "meets", "(II)Z"⟩
abbrev cX6_laysLanes : ByteArray := prog_8_method_56_code
def yX6_laysLanes : MethodName := ⟨RX6, "laysLanes", "()V"⟩
abbrev cX6_laneOf : ByteArray := prog_8_method_57_code
def yX6_laneOf : MethodName := ⟨RX6, "laneOf", "(I)I"⟩
abbrev cX6_lanes : ByteArray := prog_8_method_58_code
def yX6_lanes : MethodName := ⟨RX6, "lanes", "()I"⟩
abbrev cX6_witness : ByteArray := prog_8_method_59_code
def yX6_witness : MethodName := ⟨RX6, "witness", "(I)I"⟩
abbrev cX6_crosses : ByteArray := prog_8_method_60_code
def yX6_crosses : MethodName := ⟨RX6, "crosses", "(II)Z"⟩
abbrev cX6_crossings : ByteArray := prog_8_method_61_code
def yX6_crossings : MethodName := ⟨RX6, "crossings", "(II)I"⟩
abbrev cX6_bounds : ByteArray := prog_8_method_62_code
def yX6_bounds : MethodName := ⟨RX6, "bounds", "(III)V"⟩
abbrev cX6_laysDistances : ByteArray := prog_8_method_63_code
def yX6_laysDistances : MethodName := ⟨RX6, "laysDistances", "(II)V"⟩
abbrev cX6_areBound : ByteArray := prog_8_method_64_code
def yX6_areBound : MethodName := ⟨RX6, "areBound", "(II)Z"⟩
abbrev cX6_range : ByteArray := prog_8_method_65_code
def yX6_range : MethodName := ⟨RX6, "range", "(II)I"⟩
abbrev cX6_isSuperfluous : ByteArray := prog_8_method_66_code
def yX6_isSuperfluous : MethodName := ⟨RX6, "isSuperfluous", "(II)Z"⟩
abbrev cX6_group : ByteArray := prog_8_method_67_code
def yX6_group : MethodName := ⟨RX6, "group", "(I)I"⟩
abbrev cX6_isFirst : ByteArray := prog_8_method_68_code
def yX6_isFirst : MethodName := ⟨RX6, "isFirst", "(I)Z"⟩
abbrev cX6_groupOfFirst : ByteArray := prog_8_method_69_code
def yX6_groupOfFirst : MethodName := ⟨RX6, "groupOfFirst", "(I)I"⟩
abbrev cX6_point : ByteArray := prog_8_method_70_code
def yX6_point : MethodName := ⟨RX6, "point", "(II)I"⟩
abbrev cX6_placeOf : ByteArray := prog_8_method_71_code
def yX6_placeOf : MethodName := ⟨RX6, "placeOf", "(I)I"⟩
abbrev cX6_dimension : ByteArray := prog_8_method_72_code
def yX6_dimension : MethodName := ⟨RX6, "dimension", "(II)I"⟩
abbrev cX6_at : ByteArray := prog_8_method_73_code
def yX6_at : MethodName := ⟨RX6, "at", "(II)I"⟩
abbrev cX6_arePoints : ByteArray := prog_8_method_74_code
def yX6_arePoints : MethodName := ⟨RX6, "arePoints", "(II)Z"⟩
abbrev cX6_distance : ByteArray := prog_8_method_75_code
def yX6_distance : MethodName := ⟨RX6, "distance", "(IIZ)I"⟩
abbrev cX6_adds : ByteArray := prog_8_method_76_code
def yX6_adds : MethodName := ⟨RX6, "adds", "(III)I"⟩
abbrev cX6_ifExact : ByteArray := prog_8_method_77_code
def yX6_ifExact : MethodName := ⟨RX6, "ifExact", "(III)I"⟩
abbrev cX6_critical : ByteArray := prog_8_method_78_code
def yX6_critical : MethodName := ⟨RX6, "critical", "(II)I"⟩
abbrev cX6_needed : ByteArray := prog_8_method_79_code
def yX6_needed : MethodName := ⟨RX6, "needed", "()I"⟩
abbrev cX6_sumOf : ByteArray := prog_8_method_80_code
def yX6_sumOf : MethodName := ⟨RX6, "sumOf", "(II)I"⟩
abbrev cX6_endOf : ByteArray := prog_8_method_81_code
def yX6_endOf : MethodName := ⟨RX6, "endOf", "(IZ)I"⟩
abbrev cX6_isClosed : ByteArray := prog_8_method_82_code
def yX6_isClosed : MethodName := ⟨RX6, "isClosed", "(I)Z"⟩
abbrev cX6_over : ByteArray := prog_8_method_83_code
def yX6_over : MethodName := ⟨RX6, "over", "(I)I"⟩
abbrev cX6_laneOfChain : ByteArray := prog_8_method_84_code
def yX6_laneOfChain : MethodName := ⟨RX6, "laneOfChain", "(I)I"⟩
abbrev cX6_chain : ByteArray := prog_8_method_85_code
def yX6_chain : MethodName := ⟨RX6, "chain", "(II)I"⟩
abbrev cX6_ifArrow : ByteArray := prog_8_method_86_code
def yX6_ifArrow : MethodName := ⟨RX6, "ifArrow", "(I)I"⟩
abbrev cX6_units : ByteArray := prog_8_method_87_code
def yX6_units : MethodName := ⟨RX6, "units", "()I"⟩
abbrev cX6_groups : ByteArray := prog_8_method_88_code
def yX6_groups : MethodName := ⟨RX6, "groups", "()I"⟩
abbrev cX6_superfluous : ByteArray := prog_8_method_89_code
def yX6_superfluous : MethodName := ⟨RX6, "superfluous", "()I"⟩
abbrev cX6_count : ByteArray := prog_8_method_90_code
def yX6_count : MethodName := ⟨RX6, "count", "(I)I"⟩
abbrev cX6_mixes : ByteArray := prog_8_method_91_code
def yX6_mixes : MethodName := ⟨RX6, "mixes", "(I)V"⟩
abbrev cX6_digest : ByteArray := prog_8_method_92_code
def yX6_digest : MethodName := ⟨RX6, "digest", "()J"⟩
def RJ9 : String := "java/lang/Math"
def TJ9 : u_T := fun k => match k with
  | _ => ("", "", "", false)
def tyJ9 : Nat → FieldType := fun k => match k with
  | _ => .int
abbrev cJ9_max_7cf53 : ByteArray := prog_9_method_65_code
def yJ9_max_7cf53 : MethodName := ⟨RJ9, "max", "(II)I"⟩
abbrev cJ9_min_7cf53 : ByteArray := prog_9_method_69_code
def yJ9_min_7cf53 : MethodName := ⟨RJ9, "min", "(II)I"⟩
def RJ10 : String := "java/lang/System"
def TJ10 : u_T := fun k => match k with
  | _ => ("", "", "", false)
def tyJ10 : Nat → FieldType := fun k => match k with
  | _ => .int
def RJ7 : String := "java/util/Arrays"
def TJ7 : u_T := fun k => match k with
  | _ => ("", "", "", false)
def tyJ7 : Nat → FieldType := fun k => match k with
  | _ => .int
abbrev cJ7_fill_53178 : ByteArray := prog_11_method_103_code
def yJ7_fill_53178 : MethodName := ⟨RJ7, "fill", "([II)V"⟩
def RL : String := "DimensionLinesLaw"
abbrev cL_law : ByteArray := code
def yL_law : MethodName := ⟨RL, "law", "([I)Z"⟩
abbrev vwCl : List vw_C := [(RX0, TX0, 11), (RX1, TX1, 11), (RX2, TX2, 3), (RX3, TX3, 16), (RX4, TX4, 7), (RX5, TX5, 8), (RX6, TX6, 16)]
def R_law : String := "DimensionLinesLaw"
def lw_P (b : Addr) (xs : List Int32) (args : Array Value) (s : State) : Prop := args = #[.ref b] ∧ s.IntsAt b xs ∧ xs.length ≤ 2048 ∧ (Jvm.Cond.and given_1 narrow_1).before args s = true
def lw_Q (_ : Array Value) (s : State) (o : Outcome) (t : State) : Prop := o = .returned (some (.int 1)) ∧ Framed s o t [] 600000 7302250
def lw_Z (below : List Frame) (a : Array Value) (s : State) : State → Prop := fun t => ∃ o, t.status = .running ∧ Ended t below o ∧ lw_Q a s o t
/-- the law's own end, with 1 on the stack, nothing written that was there before, its room as the claim has it -/
theorem lw_ret {p : Program} {l : Launch} {e : Env} {s : State} {m : MethodId} {below : List Frame} {meth : Method} {c : Code} {b : Nat} (hx : p.tables.exec = Jvm.exec) (hb : c.code = code) (hr : meth.sig.returnType = ret) (hlocks : meth.locks = false) {pc : Nat} {H : Heap} {ls : Array Slot} (hdg : decode code pc = .ok (.ireturn, 1)) : W p l e room_1 s m #[Value.ref b] below meth c H [] 600000 7302250 (lw_Z below #[Value.ref b] s) (F0 m pc ls [.int 1]) := by
  intro T hT X
  obtain ⟨fs, hret, hrun, hended, hW, hframe⟩ := X.leave (v := some (.int 1)) (hlocks := hlocks) (fun h => by rw [hr] at h; cases h)
  have hmeth' : T.vm.method? m = some meth := X.method'
  refine ⟨T.setFrames fs, ?_, .returned (some (.int 1)), hrun, hended, rfl, ⟨_, rfl⟩, hW, hframe⟩
  jvm_step X.here [X.here.top, hx, hb, hdg, hmeth', hr, ret, narrow_b1]
  (try refine ⟨rfl, ?_⟩); (try refine ⟨rfl, ?_⟩)
  first | (intro acts; rw [hret _ acts rfl rfl rfl]) | rw [hret _ _ rfl rfl rfl]
  exact Steps.refl _
/-- what holds at the law's entry: the machine, the code, the tables' words (any of lw_tbl by 'hts w (by decide +kernel)'), the script of L ints xs at the cell b, what the Statement gives of the start (any of its parts by flat_of_before) -/
def lw_At (p : Program) (s : State) (m : MethodId) (meth : Method) (c : Code) (b L : Nat) (xs : Nat → Int32) : Prop :=
  p.tables.exec = Jvm.exec ∧ c.code = code ∧ meth.sig.returnType = ret ∧ c.maxLocals = 4 ∧ s.vm.findClass R_law = some m.cls ∧ (∀ w ∈ lw_tbl, w.before #[Value.ref b] s = true) ∧ va_X b L xs s s.heap ∧ b < s.heap.size ∧ meth.locks = false ∧ (Jvm.Cond.and given_1 narrow_1).before #[Value.ref b] s = true

/-! the words that every method is proved under -/
def UW : List Cond := lw_tbl.filter goodWord
theorem uw_t {w : Cond} (i : Nat) (h : tables_1[i]? = some w) (hg : goodWord w = true) : w ∈ UW := List.mem_filter.mpr ⟨List.mem_append_right _ (List.mem_of_getElem? h), hg⟩
theorem uw_s {q : MethodName × Nat} (i : Nat) (h : lw_privs[i]? = some q) : Cond.selects q.1.cls q.1 q.1 ∈ UW := List.mem_filter.mpr ⟨List.mem_append_left _ (List.mem_map.mpr ⟨q, List.mem_of_getElem? h, rfl⟩), rfl⟩
theorem uw_good : GoodIn UW UW := fun w h => ⟨h, good_of_word (List.mem_filter.mp h).2⟩
theorem uw_ps {ws : List Cond} (ps : List Nat) (h : ws = ps.filterMap (fun i => tables_1[i]?)) (hg : ws.all goodWord = true) : ∀ w ∈ ws, w ∈ UW := by
  intro w hw
  have h1 := List.all_eq_true.mp hg w hw
  rw [h] at hw
  obtain ⟨i, -, hi⟩ := List.mem_filterMap.mp hw
  exact uw_t i hi h1
def ZC (t : Nat) (C : String) (T : u_T) (N : Nat) (ty : Nat → FieldType) : Prop := vwCl[t]? = some (C, T, N) ∧ (∀ w ∈ u_ws C T N, w ∈ UW) ∧ (∀ k, k < N → parseFieldDescriptor (T k).2.2.1 = some (ty k)) ∧ (∀ a, a < N → ∀ b, b < N → a ≠ b → (T a).2.1 ≠ (T b).2.1)
theorem zc_0 : ZC 0 RX0 TX0 11 tyX0 := ⟨rfl, uw_ps [233, 235, 237, 239, 241, 243, 245, 247, 249, 251, 253] (by decide +kernel) (by decide +kernel), tyX0_ok, nmX0⟩
theorem zc_1 : ZC 1 RX1 TX1 11 tyX1 := ⟨rfl, uw_ps [67, 69, 71, 73, 75, 77, 79, 81, 83, 85, 87] (by decide +kernel) (by decide +kernel), tyX1_ok, nmX1⟩
theorem zc_2 : ZC 2 RX2 TX2 3 tyX2 := ⟨rfl, uw_ps [104, 106, 108] (by decide +kernel) (by decide +kernel), tyX2_ok, nmX2⟩
theorem zc_3 : ZC 3 RX3 TX3 16 tyX3 := ⟨rfl, uw_ps [176, 178, 180, 182, 184, 186, 188, 190, 192, 194, 196, 198, 200, 202, 204, 206] (by decide +kernel) (by decide +kernel), tyX3_ok, nmX3⟩
theorem zc_4 : ZC 4 RX4 TX4 7 tyX4 := ⟨rfl, uw_ps [130, 132, 134, 136, 138, 140, 142] (by decide +kernel) (by decide +kernel), tyX4_ok, nmX4⟩
theorem zc_5 : ZC 5 RX5 TX5 8 tyX5 := ⟨rfl, uw_ps [265, 267, 269, 271, 273, 275, 277, 279] (by decide +kernel) (by decide +kernel), tyX5_ok, nmX5⟩
theorem zc_6 : ZC 6 RX6 TX6 16 tyX6 := ⟨rfl, uw_ps [730, 732, 734, 736, 738, 740, 742, 744, 746, 748, 750, 752, 754, 756, 758, 760] (by decide +kernel) (by decide +kernel), tyX6_ok, nmX6⟩
end
section
/-! ===== the abstract machine: values, heaps, programs as functions ===== -/
abbrev V : Type := Int ⊕ Nat ⊕ Int ⊕ Unit
abbrev vi (x : Int) : V := Sum.inl x
abbrev vr (a : Nat) : V := Sum.inr (Sum.inl a)
abbrev vl (x : Int) : V := Sum.inr (Sum.inr (Sum.inl x))
abbrev vsc : V := Sum.inr (Sum.inr (Sum.inr ()))
/-- cell, place, what it holds -/
abbrev Hp : Type := Nat → Int → Int
/-- a cell's kind: 0 int[n], 1 boolean[n], 2 Drawing[n] (stride, how many set), 3 int[n][], 4 + c an object of class c (.., how many of its references are set) -/
abbrev LK : Type := Nat × Nat × Nat × Nat
abbrev inR (x : Int) : Prop := -2147483648 ≤ x ∧ x ≤ 2147483647
abbrev O (α : Type) : Type := Option (α × Hp)
def hu (h : Hp) (a : Nat) (i v : Int) : Hp := fun c j => if c = a ∧ j = i then v else h c j
/-- System.arraycopy of n places, from place 0 to place 0 -/
def hcp (h : Hp) (src dst : Nat) (n : Int) : Hp := fun c j => if c = dst ∧ 0 ≤ j ∧ j < n then h src j else h c j
def hz (h : Hp) (a : Nat) : Hp := fun c j => if c = a then 0 else h c j
def ck {β : Type} (z : Int) (E : Option β) : Option β := if inR z then E else none
def ix {β : Type} (i n : Int) (E : Option β) : Option β := if 0 ≤ i ∧ i < n then E else none
def bz {β : Type} (v : Int) (E : Option β) : Option β := if v = 0 ∨ v = 1 then E else none
/-- a division, by what is known to be above 0, of what is known not to be below -/
def dv {β : Type} (x y : Int) (E : Option β) : Option β := if 0 ≤ x ∧ 0 < y then E else none
def shc {β : Type} (x y : Int) (E : Option β) : Option β := if 0 ≤ x ∧ 0 ≤ y ∧ y < 31 then E else none
def orc {β : Type} (x y : Int) (E : Option β) : Option β := if 0 ≤ x ∧ 0 ≤ y then E else none
def p2 (d : Int) : Int := ((2 ^ d.toNat : Nat) : Int)
def orI (x y : Int) : Int := ((x.toNat ||| y.toNat : Nat) : Int)
def lt {β : Type} (h : Hp) (K : Hp → β) : β := K h
def bd {α β : Type} (o : O α) (K : α → Hp → Option β) : Option β := o.bind fun q => K q.1 q.2
def swt {β : Type} (x lo : Int) (Es : List (Option β)) (d : Option β) : Option β := if lo ≤ x ∧ x < lo + (Es.length : Int) then Es.getD (x - lo).toNat none else d
def fuel : Nat := 3000
def iter1 {β : Type} (F : (Int → Hp → Option β) → Int → Hp → Option β) : Nat → Int → Hp → Option β
  | 0 => fun _ _ => none
  | n + 1 => F (iter1 F n)
def iter0 {β : Type} (F : (Hp → Option β) → Hp → Option β) : Nat → Hp → Option β
  | 0 => fun _ => none
  | n + 1 => F (iter0 F n)
def iter2 {β : Type} (F : (Int → Int → Hp → Option β) → Int → Int → Hp → Option β) : Nat → Int → Int → Hp → Option β
  | 0 => fun _ _ _ => none
  | n + 1 => F (iter2 F n)
def iter3 {β : Type} (F : (Int → Int → Int → Hp → Option β) → Int → Int → Int → Hp → Option β) : Nat → Int → Int → Int → Hp → Option β
  | 0 => fun _ _ _ _ => none
  | n + 1 => F (iter3 F n)
def iter4 {β : Type} (F : (Int → Int → Int → Int → Hp → Option β) → Int → Int → Int → Int → Hp → Option β) : Nat → Int → Int → Int → Int → Hp → Option β
  | 0 => fun _ _ _ _ _ => none
  | n + 1 => F (iter4 F n)
def iter5 {β : Type} (F : (Int → Int → Int → Int → Int → Hp → Option β) → Int → Int → Int → Int → Int → Hp → Option β) : Nat → Int → Int → Int → Int → Int → Hp → Option β
  | 0 => fun _ _ _ _ _ _ => none
  | n + 1 => F (iter5 F n)
theorem ck_some {β : Type} {z : Int} {E : Option β} {r : β} (h : ck z E = some r) : inR z ∧ E = some r := by
  unfold ck at h; split at h <;> first | exact ⟨by assumption, h⟩ | cases h
theorem ix_some {β : Type} {i n : Int} {E : Option β} {r : β} (h : ix i n E = some r) : (0 ≤ i ∧ i < n) ∧ E = some r := by
  unfold ix at h; split at h <;> first | exact ⟨by assumption, h⟩ | cases h
theorem bz_some {β : Type} {v : Int} {E : Option β} {r : β} (h : bz v E = some r) : (v = 0 ∨ v = 1) ∧ E = some r := by
  unfold bz at h; split at h <;> first | exact ⟨by assumption, h⟩ | cases h
theorem dv_some {β : Type} {x y : Int} {E : Option β} {r : β} (h : dv x y E = some r) : (0 ≤ x ∧ 0 < y) ∧ E = some r := by
  unfold dv at h; split at h <;> first | exact ⟨by assumption, h⟩ | cases h
theorem shc_some {β : Type} {x y : Int} {E : Option β} {r : β} (h : shc x y E = some r) : (0 ≤ x ∧ 0 ≤ y ∧ y < 31) ∧ E = some r := by
  unfold shc at h; split at h <;> first | exact ⟨by assumption, h⟩ | cases h
theorem orc_some {β : Type} {x y : Int} {E : Option β} {r : β} (h : orc x y E = some r) : (0 ≤ x ∧ 0 ≤ y) ∧ E = some r := by
  unfold orc at h; split at h <;> first | exact ⟨by assumption, h⟩ | cases h
theorem bd_some {α β : Type} {o : O α} {K : α → Hp → Option β} {r : β} (h : bd o K = some r) : ∃ a h1, o = some (a, h1) ∧ K a h1 = some r := by
  unfold bd at h
  cases o with
  | none => cases h
  | some q => exact ⟨q.1, q.2, rfl, h⟩
end
section
/-! ===== how the abstract machine's states lie in the machine's ===== -/
theorem i32_lt {x y : Int} (hx : inR x) (hy : inR y) : Int32.ofInt x < Int32.ofInt y ↔ x < y := by
  rw [Int32.lt_iff_toInt_lt, Int32.toInt_ofInt_of_le (by have := hx.1; omega) (by have := hx.2; omega), Int32.toInt_ofInt_of_le (by have := hy.1; omega) (by have := hy.2; omega)]
theorem i32_le {x y : Int} (hx : inR x) (hy : inR y) : Int32.ofInt x ≤ Int32.ofInt y ↔ x ≤ y := by
  rw [Int32.le_iff_toInt_le, Int32.toInt_ofInt_of_le (by have := hx.1; omega) (by have := hx.2; omega), Int32.toInt_ofInt_of_le (by have := hy.1; omega) (by have := hy.2; omega)]
theorem i32_eq {x y : Int} (hx : inR x) (hy : inR y) : Int32.ofInt x = Int32.ofInt y ↔ x = y := by
  rw [← Int32.toInt_inj, Int32.toInt_ofInt_of_le (by have := hx.1; omega) (by have := hx.2; omega), Int32.toInt_ofInt_of_le (by have := hy.1; omega) (by have := hy.2; omega)]
theorem i32_toInt {x : Int} (hx : inR x) : (Int32.ofInt x).toInt = x := Int32.toInt_ofInt_of_le (by have := hx.1; omega) (by have := hx.2; omega)
theorem inR0 : inR 0 := ⟨by decide, by decide⟩
theorem i32_0 : (0 : Int32) = Int32.ofInt 0 := rfl
theorem i32_cl {x : Int} (hx : inR x) : (Int32.ofInt x).toNatClampNeg = x.toNat := by rw [← Int32.toNat_toInt, i32_toInt hx]
theorem i32_in {i : Int} {n : Nat} (hi : inR i) (h : 0 ≤ i ∧ i < (n : Int)) : vp_in (Int32.ofInt i) n := by
  rw [vp_in_iff, i32_toInt hi]; exact h
def zc (base b : Nat) : V → Value
  | .inl x => .int (Int32.ofInt x)
  | .inr (.inl a) => .ref (base + a)
  | .inr (.inr (.inl x)) => .long (Int64.ofInt x)
  | .inr (.inr (.inr _)) => .ref b
def okV : V → Prop
  | .inl x => inR x
  | _ => True
/-- an object's slot: 0 a whole number, 1 a long, 2 a reference: how far behind the object its target lies, the how many-th reference to be set it is -/
def zfd (t k : Nat) : Nat × Nat × Nat :=
  match t with
  | 0 => [(2, 1, 0), (2, 14, 1), (2, 15, 2), (0, 0, 0), (0, 0, 0), (0, 0, 0), (2, 16, 3), (2, 17, 4), (2, 18, 5), (2, 19, 6), (2, 20, 7)].getD k (0, 0, 0)
  | 1 => [(2, 1, 0), (2, 2, 1), (2, 3, 2), (2, 4, 3), (2, 5, 4), (2, 6, 5), (2, 7, 6)].getD k (0, 0, 0)
  | 2 => [(2, 1, 0)].getD k (0, 0, 0)
  | 3 => [(2, 1, 0), (2, 2, 1), (2, 3, 2), (2, 4, 3), (2, 5, 4), (2, 6, 5), (0, 0, 0), (0, 0, 0), (0, 0, 0), (2, 7, 6), (2, 8, 7), (2, 9, 8), (2, 10, 9), (2, 11, 10), (2, 12, 11)].getD k (0, 0, 0)
  | 4 => [(2, 1, 0), (2, 2, 1)].getD k (0, 0, 0)
  | 5 => [(2, 1, 0), (2, 9, 1), (2, 75, 2), (2, 85, 3), (2, 98, 4), (2, 111, 5)].getD k (0, 0, 0)
  | _ => [(2, 1, 0), (0, 0, 0), (2, 2, 1), (0, 0, 0), (0, 0, 0), (0, 0, 0), (0, 0, 0), (0, 0, 0), (2, 3, 2), (2, 4, 3), (2, 5, 4), (2, 6, 5), (2, 7, 6), (2, 8, 7), (2, 9, 8), (1, 0, 0)].getD k (0, 0, 0)
/-- how many slots -/
def znf (t : Nat) : Nat := [11, 11, 3, 16, 7, 8, 16].getD t 0
def zval (base a p : Nat) (h : Int → Int) (d : Nat × Nat × Nat) (k : Nat) : Value :=
  match d.1 with
  | 0 => .int (Int32.ofInt (h k))
  | 1 => .long (Int64.ofInt (h k))
  | _ => if d.2.2 < p then .ref (base + a + d.2.1) else .null
def zfl (base a p t : Nat) (h : Int → Int) : List Value := (List.range (znf t)).map fun k => zval base a p h (zfd t k) k
abbrev zCI : Type := ClassId × ClassId × ClassId × ClassId
def zcell (ci : zCI) (base a : Nat) (k : LK) (h : Hp) : va_E :=
  match k.1 with
  | 0 => .inl (ci.1, k.2.1, .inl (fun j => Int32.ofInt (h a j)))
  | 1 => .inl (ci.2.1, k.2.1, .inl (fun j => Int32.ofInt (h a j)))
  | 2 => .inl (ci.2.2.1, k.2.1, .inr (.inr (.inr (.inr (fun i => if i < k.2.2.2 then some (base + (a + 1 + k.2.2.1 * i)) else none)))))
  | 3 => .inl (ci.2.2.2, k.2.1, .inr (.inr (.inr (.inr (fun i => if i < k.2.1 then some (base + (a + 1 + i)) else none)))))
  | t + 4 => .inr (t, zfl base a k.2.2.2 t (h a))
def zw (ci : zCI) (base : Nat) (lay : List LK) (h : Hp) : va_W := lay.mapIdx fun a k => (base + a, zcell ci base a k h)
theorem zw_at {ci : zCI} {base : Nat} {lay : List LK} {h : Hp} {a : Nat} {k : LK} (hk : lay[a]? = some k) : (zw ci base lay h)[a]? = some (base + a, zcell ci base a k h) := by
  simp [zw, hk]
theorem zw_inv {ci : zCI} {base : Nat} {lay : List LK} {h : Hp} {a : Nat} {q : Nat × va_E} (hq : (zw ci base lay h)[a]? = some q) : ∃ k, lay[a]? = some k ∧ q = (base + a, zcell ci base a k h) := by
  simp only [zw, List.getElem?_mapIdx, Option.map_eq_some_iff] at hq
  obtain ⟨k, h1, h2⟩ := hq
  exact ⟨k, h1, h2.symm⟩
def RelH (D : va_G) (ci : zCI) (base : Nat) (lay : List LK) (h : Hp) (H : Heap) : Prop := H.size = base + lay.length ∧ va_P D vwCl (zw ci base lay h) H
theorem zw_D {ci : zCI} {base : Nat} {lay : List LK} {h : Hp} : va_D (fun q => base ≤ q) (zw ci base lay h) := by
  refine ⟨fun i j p q hi hj e => ?_, fun k q hk => ?_⟩
  · obtain ⟨_, -, rfl⟩ := zw_inv hi
    obtain ⟨_, -, rfl⟩ := zw_inv hj
    have e : base + i = base + j := e
    omega
  · obtain ⟨_, -, rfl⟩ := zw_inv hk
    exact Nat.le_add_right _ _
def zint (k : LK) (i : Int) : Prop := k.1 < 4 ∨ (zfd (k.1 - 4) i.toNat).1 ≠ 1
def InR (lay : List LK) (h : Hp) : Prop := ∀ (a : Nat) (k : LK) (i : Int), lay[a]? = some k → zint k i → inR (h a i)
def isNest : Cond → Bool
  | .methodLinkNest .. => true
  | _ => false
def NWs : List Cond := lw_tbl.filter isNest
def KK (D : va_G) (ci : zCI) (U : State) : Prop := va_K D vwCl [(ci.1, .int), (ci.2.1, .boolean), (ci.2.2.1, .object RX1), (ci.2.2.2, .array .int)] U ∧ ∀ w ∈ NWs, va_Nw w U
theorem nws_form {w : Cond} (h : w ∈ NWs) : ∃ a i x b, w = .methodLinkNest a i x b := by
  have h2 := (List.mem_filter.mp h).2
  cases w <;> first | exact ⟨_, _, _, _, rfl⟩ | simp [isNest] at h2
theorem KK.warm {D : va_G} {ci : zCI} {s U : State} (hW : s.WarmedH U.vm) (h : KK D ci s) : KK D ci U := by
  refine ⟨va_K.moved hW.alike h.1, fun w hw => ?_⟩
  have h2 := h.2 w hw
  obtain ⟨a, i, x, b, rfl⟩ := nws_form hw
  exact va_Nw.warmM hW h2
theorem KK.call {D : va_G} {ci : zCI} {U : State} {g : JFrame} {mk : MethodId} {a : Array Value} (h : KK D ci U) : KK D ci (U.calling g mk a) := by
  refine ⟨va_K.moved (u := U) (U := U.calling g mk a) (Vm.Alike.refl U.vm) h.1, fun w hw => ?_⟩
  have h2 := h.2 w hw
  obtain ⟨x1, i, x, b, rfl⟩ := nws_form hw
  exact va_Nw.same rfl rfl h2
/-- a method: its name, code, locals, answer; frames, words, cells, slots of its room; the law's own script -/
abbrev MI : Type := MethodName × ByteArray × Nat × Option FieldType × Nat × Nat × Nat × Nat × Option (Nat × (Nat → Int32))
def CX (mi : MI) (p : Program) (R : Room) (s : State) (m : MethodId) (args : Array Value) (meth : Method) (c : Code) (D : va_G) (ci : zCI) (base b : Nat) : Prop :=
  p.tables.exec = Jvm.exec ∧ c.code = mi.2.1 ∧ c.maxLocals = mi.2.2.1 ∧ s.vm.findClass mi.1.cls = some m.cls ∧ (∀ w ∈ UW, w.before args s = true) ∧ KK D ci s ∧ meth.locks = false ∧ meth.sig.returnType = mi.2.2.2.1 ∧ meth.name = mi.1.name ∧
  R.frames = mi.2.2.2.2.1 ∧ R.locals = mi.2.2.2.2.2.1 ∧ R.cells = mi.2.2.2.2.2.2.1 ∧ R.slots = mi.2.2.2.2.2.2.2.1 ∧ base ≤ s.heap.size ∧
  ∀ L xs, mi.2.2.2.2.2.2.2.2 = some (L, xs) → va_X b L xs s s.heap ∧ b < base ∧ base = s.heap.size ∧ args = #[.ref b] ∧ mi.2.1 = code ∧ mi.2.2.2.1 = ret ∧ R = room_1
def zQ {α : Type} (enc : α → Option V) (FL : List LK → Prop) (D : va_G) (ci : zCI) (base b : Nat) (r : α) (h' : Hp) : Array Value → State → Outcome → State → Prop := fun _ st o t =>
  (o = .returned ((enc r).map (zc base b)) ∧ (∀ v, enc r = some v → okV v) ∧ ∃ layF, FL layF ∧ RelH D ci base layF h' t.heap ∧ InR layF h') ∧ va_F (fun q => base ≤ q) st t
def zpost {α : Type} (mi : MI) (enc : α → Option V) (FL : List LK → Prop) (D : va_G) (ci : zCI) (base b : Nat) (below : List Frame) (args : Array Value) (s : State) (r : α) (h' : Hp) : State → Prop :=
  match mi.2.2.2.2.2.2.2.2 with
  | none => MQ below (zQ enc FL D ci base b r h') args s mi.2.2.2.2.2.2.1 mi.2.2.2.2.2.2.2.1 (fun q => base ≤ q)
  | some _ => fun t => enc r = some (vi 1) → lw_Z below args s t
def SX (mi : MI) (D : va_G) (ci : zCI) (base b : Nat) (s : State) (lay : List LK) (lv : List (Nat × V)) (stk : List V) (h : Hp) (H : Heap) (locs : List Loc) (ls : Array Slot) : Prop :=
  (∀ q ∈ lv, okV q.2) ∧ (∀ v ∈ stk, okV v) ∧ InR lay h ∧ lv_has ls mi.2.2.1 (lv.map fun q => (q.1, zc base b q.2)) ∧ RelH D ci base lay h H ∧ va_S (fun q => base ≤ q) s.heap H locs
/-- from here on (place, locals, stack, heap) the method comes to its end with what E says -/
def J {α : Type} (mi : MI) (enc : α → Option V) (FL : List LK → Prop) (lay : List LK) (nc ns pc : Nat) (lv : List (Nat × V)) (stk : List V) (h : Hp) (E : O α) : Prop :=
  ∀ (p : Program) (l : Launch) (e : Env) (R : Room) (s : State) (m : MethodId) (args : Array Value) (below : List Frame) (meth : Method) (c : Code) (D : va_G) (ci : zCI) (base b : Nat), CX mi p R s m args meth c D ci base b →
    ∀ (H : Heap) (locs : List Loc) (ls : Array Slot) (r : α) (h' : Hp), E = some (r, h') → SX mi D ci base b s lay lv stk h H locs ls →
      W p l e R s m args below meth c H locs nc ns (zpost mi enc FL D ci base b below args s r h') (F0 m pc ls (stk.map (zc base b)))
section SXL
variable {mi : MI} {D : va_G} {ci : zCI} {base b : Nat} {s : State} {lay : List LK} {lv : List (Nat × V)} {stk stk' : List V} {h : Hp} {H : Heap} {locs : List Loc} {ls : Array Slot}
theorem SX.reStk (S : SX mi D ci base b s lay lv stk h H locs ls) (h2 : ∀ v ∈ stk', okV v) : SX mi D ci base b s lay lv stk' h H locs ls := ⟨S.1, h2, S.2.2⟩
theorem SX.push {v : V} (S : SX mi D ci base b s lay lv stk h H locs ls) (hv : okV v) : SX mi D ci base b s lay lv (v :: stk) h H locs ls := S.reStk fun w hw => by
  rcases List.mem_cons.mp hw with rfl | hw
  · exact hv
  · exact S.2.1 w hw
theorem SX.pop {v : V} (S : SX mi D ci base b s lay lv (v :: stk) h H locs ls) : SX mi D ci base b s lay lv stk h H locs ls := S.reStk fun w hw => S.2.1 w (List.mem_cons_of_mem _ hw)
theorem SX.top {v : V} (S : SX mi D ci base b s lay lv (v :: stk) h H locs ls) : okV v := S.2.1 v List.mem_cons_self
theorem SX.top2 {v w : V} (S : SX mi D ci base b s lay lv (v :: w :: stk) h H locs ls) : okV w := S.pop.top
theorem SX.heap {h1 : Hp} {H1 : Heap} {locs1 : List Loc} (S : SX mi D ci base b s lay lv stk h H locs ls) (hR : InR lay h1) (hP : RelH D ci base lay h1 H1) (hS : va_S (fun q => base ≤ q) s.heap H1 locs1) : SX mi D ci base b s lay lv stk h1 H1 locs1 ls := ⟨S.1, S.2.1, hR, S.2.2.2.1, hP, hS⟩
theorem SX.at (S : SX mi D ci base b s lay lv stk h H locs ls) (k : Nat) {i : Nat} {v : V} (hk : lv[k]? = some (i, v)) : ls[i]? = some (.val (zc base b v)) := lv_at S.2.2.2.1 k (by rw [List.getElem?_map, hk]; rfl)
theorem SX.ok (S : SX mi D ci base b s lay lv stk h H locs ls) (k : Nat) {i : Nat} {v : V} (hk : lv[k]? = some (i, v)) : okV v := S.1 _ (List.mem_of_getElem? hk)
theorem SX.reLv {lv' : List (Nat × V)} {ls' : Array Slot} (S : SX mi D ci base b s lay lv stk h H locs ls) (h1 : ∀ q ∈ lv', okV q.2) (h2 : lv_has ls' mi.2.2.1 (lv'.map fun q => (q.1, zc base b q.2))) : SX mi D ci base b s lay lv' stk h H locs ls' := ⟨h1, S.2.1, S.2.2.1, h2, S.2.2.2.2⟩
end SXL
def zst (lv : List (Nat × V)) (i : Nat) (v : V) : List (Nat × V) :=
  (i, v) :: lv.filter fun q => !(q.1 == i) && !(q.1 + 1 == i && (match q.2 with | .inr (.inr (.inl _)) => true | _ => false))
theorem zc_cat (base b : Nat) (v : V) : ((zc base b v).category == 2) = (match v with | .inr (.inr (.inl _)) => true | _ => false) := by
  rcases v with x | a | x | x <;> rfl
theorem zst_map (base b : Nat) (lv : List (Nat × V)) (i : Nat) (v : V) : (i, zc base b v) :: (lv.map fun q => (q.1, zc base b q.2)).filter (fun q => !(q.1 == i) && !(q.1 + 1 == i && q.2.category == 2)) = (zst lv i v).map fun q => (q.1, zc base b q.2) := by
  unfold zst
  rw [List.map_cons, List.filter_map]
  congr 2
  apply List.filter_congr
  intro q _
  simp only [Function.comp, zc_cat]
theorem zst_ok {lv : List (Nat × V)} {i : Nat} {v : V} (h : ∀ q ∈ lv, okV q.2) (hv : okV v) : ∀ q ∈ zst lv i v, okV q.2 := by
  intro q hq
  rcases List.mem_cons.mp hq with rfl | hq
  · exact hv
  · exact h q (List.mem_filter.mp hq).1
end
section
section JR
variable {α : Type} {mi : MI} {enc : α → Option V} {FL : List LK → Prop} {lay : List LK} {nc ns pc : Nat} {lv : List (Nat × V)} {stk : List V} {h : Hp} {E E2 : O α}
theorem j_iconst {n : Int} {x : Int} (hd : decode mi.2.1 pc = .ok (.iconst n, 1)) (hv : Int32.ofInt n = Int32.ofInt x) (hx : inR x) (k : J mi enc FL lay nc ns (pc + 1) lv (vi x :: stk) h E) : J mi enc FL lay nc ns pc lv stk h E := by
  intro p l e R s m args below meth c D ci base b C H locs ls r h2 hE S
  refine lv_iconst C.1 C.2.1 hd hv ?_
  exact k p l e R s m args below meth c D ci base b C H locs _ r h2 hE (S.push hx)
theorem j_bipush {n : Int} {x : Int} (hd : decode mi.2.1 pc = .ok (.bipush n, 2)) (hv : (Int8.ofInt n).toInt32 = Int32.ofInt x) (hx : inR x) (k : J mi enc FL lay nc ns (pc + 2) lv (vi x :: stk) h E) : J mi enc FL lay nc ns pc lv stk h E := by
  intro p l e R s m args below meth c D ci base b C H locs ls r h2 hE S
  refine lv_bipush C.1 C.2.1 hd hv ?_
  exact k p l e R s m args below meth c D ci base b C H locs _ r h2 hE (S.push hx)
theorem j_sipush {n : Int} {x : Int} (hd : decode mi.2.1 pc = .ok (.sipush n, 3)) (hv : (Int16.ofInt n).toInt32 = Int32.ofInt x) (hx : inR x) (k : J mi enc FL lay nc ns (pc + 3) lv (vi x :: stk) h E) : J mi enc FL lay nc ns pc lv stk h E := by
  intro p l e R s m args below meth c D ci base b C H locs ls r h2 hE S
  refine lv_sipush C.1 C.2.1 hd hv ?_
  exact k p l e R s m args below meth c D ci base b C H locs _ r h2 hE (S.push hx)
theorem j_ldc {index : Nat} {x : Int} (hd : decode mi.2.1 pc = .ok (.ldc index, 2)) (hw : Cond.constant mi.1.cls index (Int32.ofInt x) ∈ UW) (hx : inR x) (k : J mi enc FL lay nc ns (pc + 2) lv (vi x :: stk) h E) : J mi enc FL lay nc ns pc lv stk h E := by
  intro p l e R s m args below meth c D ci base b C H locs ls r h2 hE S
  refine lv_ldc C.1 C.2.1 C.2.2.2.1 (C.2.2.2.2.1 _ hw) hd ?_
  exact k p l e R s m args below meth c D ci base b C H locs _ r h2 hE (S.push hx)
theorem j_ldc2 {index : Nat} {x : Int} (hd : decode mi.2.1 pc = .ok (.ldc2_w index, 3)) (hw : Cond.constantLong mi.1.cls index (Int64.ofInt x) ∈ UW) (k : J mi enc FL lay nc ns (pc + 3) lv (vl x :: stk) h E) : J mi enc FL lay nc ns pc lv stk h E := by
  intro p l e R s m args below meth c D ci base b C H locs ls r h2 hE S
  refine lv_ldc2 C.1 C.2.1 C.2.2.2.1 (C.2.2.2.2.1 _ hw) hd ?_
  exact k p l e R s m args below meth c D ci base b C H locs _ r h2 hE (S.push trivial)
theorem j_iload_n {q : Fin 4} (i : Nat) {x : Int} (hd : decode mi.2.1 pc = .ok (.iload_n q, 1)) (hl : lv[i]? = some ((q : Nat), vi x)) (k : J mi enc FL lay nc ns (pc + 1) lv (vi x :: stk) h E) : J mi enc FL lay nc ns pc lv stk h E := by
  intro p l e R s m args below meth c D ci base b C H locs ls r h2 hE S
  refine lv_iload_n C.1 C.2.1 hd rfl (S.at i hl) ?_
  exact k p l e R s m args below meth c D ci base b C H locs _ r h2 hE (S.push (S.ok i hl))
theorem j_iload {q : Nat} (i : Nat) {x : Int} (hd : decode mi.2.1 pc = .ok (.iload q, 2)) (hl : lv[i]? = some (q, vi x)) (k : J mi enc FL lay nc ns (pc + 2) lv (vi x :: stk) h E) : J mi enc FL lay nc ns pc lv stk h E := by
  intro p l e R s m args below meth c D ci base b C H locs ls r h2 hE S
  refine lv_iload C.1 C.2.1 hd (S.at i hl) ?_
  exact k p l e R s m args below meth c D ci base b C H locs _ r h2 hE (S.push (S.ok i hl))
theorem j_lload_n {q : Fin 4} (i : Nat) {x : Int} (hd : decode mi.2.1 pc = .ok (.lload_n q, 1)) (hl : lv[i]? = some ((q : Nat), vl x)) (k : J mi enc FL lay nc ns (pc + 1) lv (vl x :: stk) h E) : J mi enc FL lay nc ns pc lv stk h E := by
  intro p l e R s m args below meth c D ci base b C H locs ls r h2 hE S
  refine lv_lload_n C.1 C.2.1 hd rfl (S.at i hl) ?_
  exact k p l e R s m args below meth c D ci base b C H locs _ r h2 hE (S.push (S.ok i hl))
theorem j_lload {q : Nat} (i : Nat) {x : Int} (hd : decode mi.2.1 pc = .ok (.lload q, 2)) (hl : lv[i]? = some (q, vl x)) (k : J mi enc FL lay nc ns (pc + 2) lv (vl x :: stk) h E) : J mi enc FL lay nc ns pc lv stk h E := by
  intro p l e R s m args below meth c D ci base b C H locs ls r h2 hE S
  refine lv_lload C.1 C.2.1 hd (S.at i hl) ?_
  exact k p l e R s m args below meth c D ci base b C H locs _ r h2 hE (S.push (S.ok i hl))
theorem j_aload_n {q : Fin 4} (i : Nat) {x : Nat} (hd : decode mi.2.1 pc = .ok (.aload_n q, 1)) (hl : lv[i]? = some ((q : Nat), vr x)) (k : J mi enc FL lay nc ns (pc + 1) lv (vr x :: stk) h E) : J mi enc FL lay nc ns pc lv stk h E := by
  intro p l e R s m args below meth c D ci base b C H locs ls r h2 hE S
  refine lv_aload_n C.1 C.2.1 hd rfl (S.at i hl) ?_
  exact k p l e R s m args below meth c D ci base b C H locs _ r h2 hE (S.push (S.ok i hl))
theorem j_aload {q : Nat} (i : Nat) {x : Nat} (hd : decode mi.2.1 pc = .ok (.aload q, 2)) (hl : lv[i]? = some (q, vr x)) (k : J mi enc FL lay nc ns (pc + 2) lv (vr x :: stk) h E) : J mi enc FL lay nc ns pc lv stk h E := by
  intro p l e R s m args below meth c D ci base b C H locs ls r h2 hE S
  refine lv_aload C.1 C.2.1 hd (S.at i hl) ?_
  exact k p l e R s m args below meth c D ci base b C H locs _ r h2 hE (S.push (S.ok i hl))
theorem j_sload_n {q : Fin 4} (i : Nat) (hd : decode mi.2.1 pc = .ok (.aload_n q, 1)) (hl : lv[i]? = some ((q : Nat), vsc)) (k : J mi enc FL lay nc ns (pc + 1) lv (vsc :: stk) h E) : J mi enc FL lay nc ns pc lv stk h E := by
  intro p l e R s m args below meth c D ci base b C H locs ls r h2 hE S
  refine lv_aload_n C.1 C.2.1 hd rfl (S.at i hl) ?_
  exact k p l e R s m args below meth c D ci base b C H locs _ r h2 hE (S.push (S.ok i hl))
theorem j_istore_n {q : Fin 4} {lv' : List (Nat × V)} {x : Int} (hd : decode mi.2.1 pc = .ok (.istore_n q, 1)) (hn : (q : Nat) < mi.2.2.1) (hl : zst lv q (vi x) = lv') (k : J mi enc FL lay nc ns (pc + 1) lv' stk h E) : J mi enc FL lay nc ns pc lv (vi x :: stk) h E := by
  intro p l e R s m args below meth c D ci base b C H locs ls r h2 hE S
  subst hl
  refine lv_istore_n C.1 C.2.1 hd rfl S.2.2.2.1 hn (zst_map base b lv q (vi x)) (fun ls' hl' => ?_)
  exact k p l e R s m args below meth c D ci base b C H locs _ r h2 hE (S.pop.reLv (zst_ok S.1 S.top) hl')
theorem j_istore {q : Nat} {lv' : List (Nat × V)} {x : Int} (hd : decode mi.2.1 pc = .ok (.istore q, 2)) (hn : q < mi.2.2.1) (hl : zst lv q (vi x) = lv') (k : J mi enc FL lay nc ns (pc + 2) lv' stk h E) : J mi enc FL lay nc ns pc lv (vi x :: stk) h E := by
  intro p l e R s m args below meth c D ci base b C H locs ls r h2 hE S
  subst hl
  refine lv_istore C.1 C.2.1 hd S.2.2.2.1 hn (zst_map base b lv q (vi x)) (fun ls' hl' => ?_)
  exact k p l e R s m args below meth c D ci base b C H locs _ r h2 hE (S.pop.reLv (zst_ok S.1 S.top) hl')
theorem j_astore_n {q : Fin 4} {lv' : List (Nat × V)} {x : Nat} (hd : decode mi.2.1 pc = .ok (.astore_n q, 1)) (hn : (q : Nat) < mi.2.2.1) (hl : zst lv q (vr x) = lv') (k : J mi enc FL lay nc ns (pc + 1) lv' stk h E) : J mi enc FL lay nc ns pc lv (vr x :: stk) h E := by
  intro p l e R s m args below meth c D ci base b C H locs ls r h2 hE S
  subst hl
  refine lv_astore_n C.1 C.2.1 hd rfl S.2.2.2.1 hn (zst_map base b lv q (vr x)) (fun ls' hl' => ?_)
  exact k p l e R s m args below meth c D ci base b C H locs _ r h2 hE (S.pop.reLv (zst_ok S.1 S.top) hl')
theorem j_astore {q : Nat} {lv' : List (Nat × V)} {x : Nat} (hd : decode mi.2.1 pc = .ok (.astore q, 2)) (hn : q < mi.2.2.1) (hl : zst lv q (vr x) = lv') (k : J mi enc FL lay nc ns (pc + 2) lv' stk h E) : J mi enc FL lay nc ns pc lv (vr x :: stk) h E := by
  intro p l e R s m args below meth c D ci base b C H locs ls r h2 hE S
  subst hl
  refine lv_astore C.1 C.2.1 hd S.2.2.2.1 hn (zst_map base b lv q (vr x)) (fun ls' hl' => ?_)
  exact k p l e R s m args below meth c D ci base b C H locs _ r h2 hE (S.pop.reLv (zst_ok S.1 S.top) hl')
theorem j_iinc {q : Nat} (i : Nat) {lv' : List (Nat × V)} {x n : Int} (hd : decode mi.2.1 pc = .ok (.iinc q n, 3)) (hi : lv[i]? = some (q, vi x)) (hn : q < mi.2.2.1) (hl : zst lv q (vi (x + n)) = lv') (k : J mi enc FL lay nc ns (pc + 3) lv' stk h E) : J mi enc FL lay nc ns pc lv stk h (ck (x + n) E) := by
  intro p l e R s m args below meth c D ci base b C H locs ls r h2 hE S
  subst hl
  obtain ⟨hz, hE⟩ := ck_some hE
  refine lv_iinc (v := Int32.ofInt (x + n)) (x := Int32.ofInt x) (k := i) C.1 C.2.1 hd S.2.2.2.1 (by rw [List.getElem?_map, hi]; rfl) (Int32.ofInt_add x n).symm hn (zst_map base b lv q (vi (x + n))) (fun ls' hl' => ?_)
  exact k p l e R s m args below meth c D ci base b C H locs _ r h2 hE (S.reLv (zst_ok S.1 hz) hl')
theorem j_iadd {x y : Int} (hd : decode mi.2.1 pc = .ok (.iadd, 1)) (k : J mi enc FL lay nc ns (pc + 1) lv (vi (x + y) :: stk) h E) : J mi enc FL lay nc ns pc lv (vi y :: vi x :: stk) h (ck (x + y) E) := by
  intro p l e R s m args below meth c D ci base b C H locs ls r h2 hE S
  obtain ⟨hz, hE⟩ := ck_some hE
  refine lv_iadd C.1 C.2.1 hd ?_
  rw [← Int32.ofInt_add x y]
  exact k p l e R s m args below meth c D ci base b C H locs _ r h2 hE (S.pop.pop.push (v := vi (x + y)) hz)
theorem j_isub {x y : Int} (hd : decode mi.2.1 pc = .ok (.isub, 1)) (k : J mi enc FL lay nc ns (pc + 1) lv (vi (x - y) :: stk) h E) : J mi enc FL lay nc ns pc lv (vi y :: vi x :: stk) h (ck (x - y) E) := by
  intro p l e R s m args below meth c D ci base b C H locs ls r h2 hE S
  obtain ⟨hz, hE⟩ := ck_some hE
  refine lv_isub C.1 C.2.1 hd ?_
  rw [← Int32.ofInt_sub x y]
  exact k p l e R s m args below meth c D ci base b C H locs _ r h2 hE (S.pop.pop.push (v := vi (x - y)) hz)
theorem j_imul {x y : Int} (hd : decode mi.2.1 pc = .ok (.imul, 1)) (k : J mi enc FL lay nc ns (pc + 1) lv (vi (x * y) :: stk) h E) : J mi enc FL lay nc ns pc lv (vi y :: vi x :: stk) h (ck (x * y) E) := by
  intro p l e R s m args below meth c D ci base b C H locs ls r h2 hE S
  obtain ⟨hz, hE⟩ := ck_some hE
  refine lv_imul C.1 C.2.1 hd ?_
  rw [← Int32.ofInt_mul x y]
  exact k p l e R s m args below meth c D ci base b C H locs _ r h2 hE (S.pop.pop.push (v := vi (x * y)) hz)
theorem j_ineg {x : Int} (hd : decode mi.2.1 pc = .ok (.ineg, 1)) (k : J mi enc FL lay nc ns (pc + 1) lv (vi (-x) :: stk) h E) : J mi enc FL lay nc ns pc lv (vi x :: stk) h (ck (-x) E) := by
  intro p l e R s m args below meth c D ci base b C H locs ls r h2 hE S
  obtain ⟨hz, hE⟩ := ck_some hE
  refine lv_ineg C.1 C.2.1 hd ?_
  rw [← Int32.ofInt_neg x]
  exact k p l e R s m args below meth c D ci base b C H locs _ r h2 hE (S.pop.push (v := vi (-x)) hz)
theorem j_idiv {x y : Int} (hd : decode mi.2.1 pc = .ok (.idiv, 1)) (k : J mi enc FL lay nc ns (pc + 1) lv (vi (x / y) :: stk) h E) : J mi enc FL lay nc ns pc lv (vi y :: vi x :: stk) h (dv x y E) := by
  intro p l e R s m args below meth c D ci base b C H locs ls r h2 hE S
  obtain ⟨hz, hE⟩ := dv_some hE
  have hy : inR y := S.top
  have hx : inR x := S.top2
  refine lv_idiv C.1 C.2.1 hd (fun h0 => ?_) ?_
  · have := (i32_eq hy inR0).mp h0
    omega
  · have ee : Int32.ofInt x / Int32.ofInt y = Int32.ofInt (x / y) := by
      rw [← Int.tdiv_eq_ediv_of_nonneg hz.1]
      exact (Int32.ofInt_tdiv hx.1 hx.2 hy.1 hy.2).symm
    rw [ee]
    have h1 : 0 ≤ x / y := Int.ediv_nonneg hz.1 (Int.le_of_lt hz.2)
    have h2' : x / y ≤ x := Int.ediv_le_self y hz.1
    exact k p l e R s m args below meth c D ci base b C H locs _ r h2 hE (S.pop.pop.push (v := vi (x / y)) ⟨by omega, by have := hx.2; omega⟩)
theorem j_irem {x y : Int} (hd : decode mi.2.1 pc = .ok (.irem, 1)) (k : J mi enc FL lay nc ns (pc + 1) lv (vi (x % y) :: stk) h E) : J mi enc FL lay nc ns pc lv (vi y :: vi x :: stk) h (dv x y E) := by
  intro p l e R s m args below meth c D ci base b C H locs ls r h2 hE S
  obtain ⟨hz, hE⟩ := dv_some hE
  have hy : inR y := S.top
  have hx : inR x := S.top2
  refine lv_irem C.1 C.2.1 hd (fun h0 => ?_) ?_
  · have := (i32_eq hy inR0).mp h0
    omega
  · have ee : Int32.ofInt x - Int32.ofInt x / Int32.ofInt y * Int32.ofInt y = Int32.ofInt (x % y) := by
      have e1 : Int32.ofInt x / Int32.ofInt y = Int32.ofInt (x / y) := by
        rw [← Int.tdiv_eq_ediv_of_nonneg hz.1]
        exact (Int32.ofInt_tdiv hx.1 hx.2 hy.1 hy.2).symm
      rw [e1, ← Int32.ofInt_mul, ← Int32.ofInt_sub, Int.emod_def, Int.mul_comm]
    rw [ee]
    have h1 := Int.emod_nonneg x (show y ≠ 0 by omega)
    have h2' := Int.emod_lt_of_pos x hz.2
    exact k p l e R s m args below meth c D ci base b C H locs _ r h2 hE (S.pop.pop.push (v := vi (x % y)) ⟨by omega, by have := hy.2; omega⟩)
theorem j_i2l {x : Int} (hd : decode mi.2.1 pc = .ok (.i2l, 1)) (k : J mi enc FL lay nc ns (pc + 1) lv (vl x :: stk) h E) : J mi enc FL lay nc ns pc lv (vi x :: stk) h E := by
  intro p l e R s m args below meth c D ci base b C H locs ls r h2 hE S
  have hx : inR x := S.top
  refine lv_i2l C.1 C.2.1 hd (Int32.toInt64_ofInt hx.1 hx.2) ?_
  exact k p l e R s m args below meth c D ci base b C H locs _ r h2 hE (S.pop.push (v := vl x) trivial)
theorem j_ladd {x y : Int} (hd : decode mi.2.1 pc = .ok (.ladd, 1)) (k : J mi enc FL lay nc ns (pc + 1) lv (vl (x + y) :: stk) h E) : J mi enc FL lay nc ns pc lv (vl y :: vl x :: stk) h E := by
  intro p l e R s m args below meth c D ci base b C H locs ls r h2 hE S
  refine lv_ladd C.1 C.2.1 hd ?_
  rw [← Int64.ofInt_add x y]
  exact k p l e R s m args below meth c D ci base b C H locs _ r h2 hE (S.pop.pop.push (v := vl (x + y)) trivial)
theorem j_lmul {x y : Int} (hd : decode mi.2.1 pc = .ok (.lmul, 1)) (k : J mi enc FL lay nc ns (pc + 1) lv (vl (x * y) :: stk) h E) : J mi enc FL lay nc ns pc lv (vl y :: vl x :: stk) h E := by
  intro p l e R s m args below meth c D ci base b C H locs ls r h2 hE S
  refine lv_lmul C.1 C.2.1 hd ?_
  rw [← Int64.ofInt_mul x y]
  exact k p l e R s m args below meth c D ci base b C H locs _ r h2 hE (S.pop.pop.push (v := vl (x * y)) trivial)
/-- long numbers are compared for being the same alone -/
theorem j_lcmp {x y : Int} (hd : decode mi.2.1 pc = .ok (.lcmp, 1)) (k : J mi enc FL lay nc ns (pc + 1) lv (vi 0 :: stk) h E) : J mi enc FL lay nc ns pc lv (vl y :: vl x :: stk) h (if x = y then E else none) := by
  intro p l e R s m args below meth c D ci base b C H locs ls r h2 hE S
  split at hE
  · rename_i hxy
    subst hxy
    refine W.lcmp C.1 C.2.1 hd ?_
    have ee : lg_cmp (Int64.ofInt x) (Int64.ofInt x) = Int32.ofInt 0 := by simp [lg_cmp]
    rw [ee]
    exact k p l e R s m args below meth c D ci base b C H locs _ r h2 hE (S.pop.pop.push (v := vi 0) inR0)
  · cases hE
theorem j_dup {v : V} (hd : decode mi.2.1 pc = .ok (.dup, 1)) (hc : ∀ base b, (zc base b v).category = 1) (k : J mi enc FL lay nc ns (pc + 1) lv (v :: v :: stk) h E) : J mi enc FL lay nc ns pc lv (v :: stk) h E := by
  intro p l e R s m args below meth c D ci base b C H locs ls r h2 hE S
  refine lv_dup C.1 C.2.1 hd (hc base b) ?_
  exact k p l e R s m args below meth c D ci base b C H locs _ r h2 hE (S.push S.top)
theorem j_dup2 {v w : V} (hd : decode mi.2.1 pc = .ok (.dup2, 1)) (hc : ∀ base b, (zc base b v).category = 1) (hc2 : ∀ base b, (zc base b w).category = 1) (k : J mi enc FL lay nc ns (pc + 1) lv (v :: w :: v :: w :: stk) h E) : J mi enc FL lay nc ns pc lv (v :: w :: stk) h E := by
  intro p l e R s m args below meth c D ci base b C H locs ls r h2 hE S
  refine lv_dup2_11 C.1 C.2.1 hd (hc base b) (hc2 base b) ?_
  exact k p l e R s m args below meth c D ci base b C H locs _ r h2 hE ((S.push S.top2).push S.top)
theorem j_goto {off : Int} {tgt : Nat} (hd : decode mi.2.1 pc = .ok (.goto off, 3)) (ht : (pc : Int) + off = (tgt : Int)) (k : J mi enc FL lay nc ns tgt lv stk h E) : J mi enc FL lay nc ns pc lv stk h E := by
  intro p l e R s m args below meth c D ci base b C H locs ls r h2 hE S
  refine lv_goto C.1 C.2.1 hd ht ?_
  exact k p l e R s m args below meth c D ci base b C H locs _ r h2 hE S
theorem j_icmp_eq {x y : Int} {off : Int} {tgt : Nat} (hd : decode mi.2.1 pc = .ok (.if_icmp .eq off, 3)) (ht : (pc : Int) + off = (tgt : Int)) (kA : J mi enc FL lay nc ns tgt lv stk h E) (kB : J mi enc FL lay nc ns (pc + 3) lv stk h E2) : J mi enc FL lay nc ns pc lv (vi y :: vi x :: stk) h (if x = y then E else E2) := by
  intro p l e R s m args below meth c D ci base b C H locs ls r h2 hE S
  have hy : inR y := S.top
  have hx : inR x := S.top2
  refine lv_icmp_eq C.1 C.2.1 hd ht (fun hc => ?_) (fun hc => ?_)
  · have hP : x = y := (i32_eq hx hy).mp hc
    rw [if_pos hP] at hE
    exact kA p l e R s m args below meth c D ci base b C H locs _ r h2 hE S.pop.pop
  · have hP : ¬ x = y := fun q => hc ((i32_eq hx hy).mpr q)
    rw [if_neg hP] at hE
    exact kB p l e R s m args below meth c D ci base b C H locs _ r h2 hE S.pop.pop
theorem j_if_eq {x : Int} {off : Int} {tgt : Nat} (hd : decode mi.2.1 pc = .ok (.ifCond .eq off, 3)) (ht : (pc : Int) + off = (tgt : Int)) (kA : J mi enc FL lay nc ns tgt lv stk h E) (kB : J mi enc FL lay nc ns (pc + 3) lv stk h E2) : J mi enc FL lay nc ns pc lv (vi x :: stk) h (if x = 0 then E else E2) := by
  intro p l e R s m args below meth c D ci base b C H locs ls r h2 hE S
  have hx : inR x := S.top
  have hy : inR 0 := inR0
  refine lv_if_eq C.1 C.2.1 hd ht (fun hc => ?_) (fun hc => ?_)
  · have hP : x = 0 := (i32_eq hx hy).mp hc
    rw [if_pos hP] at hE
    exact kA p l e R s m args below meth c D ci base b C H locs _ r h2 hE S.pop
  · have hP : ¬ x = 0 := fun q => hc ((i32_eq hx hy).mpr q)
    rw [if_neg hP] at hE
    exact kB p l e R s m args below meth c D ci base b C H locs _ r h2 hE S.pop
theorem j_icmp_ne {x y : Int} {off : Int} {tgt : Nat} (hd : decode mi.2.1 pc = .ok (.if_icmp .ne off, 3)) (ht : (pc : Int) + off = (tgt : Int)) (kA : J mi enc FL lay nc ns (pc + 3) lv stk h E) (kB : J mi enc FL lay nc ns tgt lv stk h E2) : J mi enc FL lay nc ns pc lv (vi y :: vi x :: stk) h (if x = y then E else E2) := by
  intro p l e R s m args below meth c D ci base b C H locs ls r h2 hE S
  have hy : inR y := S.top
  have hx : inR x := S.top2
  refine lv_icmp_ne C.1 C.2.1 hd ht (fun hc => ?_) (fun hc => ?_)
  · have hP : ¬ x = y := fun q => hc ((i32_eq hx hy).mpr q)
    rw [if_neg hP] at hE
    exact kB p l e R s m args below meth c D ci base b C H locs _ r h2 hE S.pop.pop
  · have hP : x = y := (i32_eq hx hy).mp hc
    rw [if_pos hP] at hE
    exact kA p l e R s m args below meth c D ci base b C H locs _ r h2 hE S.pop.pop
theorem j_if_ne {x : Int} {off : Int} {tgt : Nat} (hd : decode mi.2.1 pc = .ok (.ifCond .ne off, 3)) (ht : (pc : Int) + off = (tgt : Int)) (kA : J mi enc FL lay nc ns (pc + 3) lv stk h E) (kB : J mi enc FL lay nc ns tgt lv stk h E2) : J mi enc FL lay nc ns pc lv (vi x :: stk) h (if x = 0 then E else E2) := by
  intro p l e R s m args below meth c D ci base b C H locs ls r h2 hE S
  have hx : inR x := S.top
  have hy : inR 0 := inR0
  refine lv_if_ne C.1 C.2.1 hd ht (fun hc => ?_) (fun hc => ?_)
  · have hP : ¬ x = 0 := fun q => hc ((i32_eq hx hy).mpr q)
    rw [if_neg hP] at hE
    exact kB p l e R s m args below meth c D ci base b C H locs _ r h2 hE S.pop
  · have hP : x = 0 := (i32_eq hx hy).mp hc
    rw [if_pos hP] at hE
    exact kA p l e R s m args below meth c D ci base b C H locs _ r h2 hE S.pop
theorem j_icmp_lt {x y : Int} {off : Int} {tgt : Nat} (hd : decode mi.2.1 pc = .ok (.if_icmp .lt off, 3)) (ht : (pc : Int) + off = (tgt : Int)) (kA : J mi enc FL lay nc ns tgt lv stk h E) (kB : J mi enc FL lay nc ns (pc + 3) lv stk h E2) : J mi enc FL lay nc ns pc lv (vi y :: vi x :: stk) h (if x < y then E else E2) := by
  intro p l e R s m args below meth c D ci base b C H locs ls r h2 hE S
  have hy : inR y := S.top
  have hx : inR x := S.top2
  refine lv_icmp_lt C.1 C.2.1 hd ht (fun hc => ?_) (fun hc => ?_)
  · have hP : x < y := (i32_lt hx hy).mp hc
    rw [if_pos hP] at hE
    exact kA p l e R s m args below meth c D ci base b C H locs _ r h2 hE S.pop.pop
  · have hP : ¬ x < y := fun q => hc ((i32_lt hx hy).mpr q)
    rw [if_neg hP] at hE
    exact kB p l e R s m args below meth c D ci base b C H locs _ r h2 hE S.pop.pop
theorem j_if_lt {x : Int} {off : Int} {tgt : Nat} (hd : decode mi.2.1 pc = .ok (.ifCond .lt off, 3)) (ht : (pc : Int) + off = (tgt : Int)) (kA : J mi enc FL lay nc ns tgt lv stk h E) (kB : J mi enc FL lay nc ns (pc + 3) lv stk h E2) : J mi enc FL lay nc ns pc lv (vi x :: stk) h (if x < 0 then E else E2) := by
  intro p l e R s m args below meth c D ci base b C H locs ls r h2 hE S
  have hx : inR x := S.top
  have hy : inR 0 := inR0
  refine lv_if_lt C.1 C.2.1 hd ht (fun hc => ?_) (fun hc => ?_)
  · have hP : x < 0 := (i32_lt hx hy).mp hc
    rw [if_pos hP] at hE
    exact kA p l e R s m args below meth c D ci base b C H locs _ r h2 hE S.pop
  · have hP : ¬ x < 0 := fun q => hc ((i32_lt hx hy).mpr q)
    rw [if_neg hP] at hE
    exact kB p l e R s m args below meth c D ci base b C H locs _ r h2 hE S.pop
theorem j_icmp_ge {x y : Int} {off : Int} {tgt : Nat} (hd : decode mi.2.1 pc = .ok (.if_icmp .ge off, 3)) (ht : (pc : Int) + off = (tgt : Int)) (kA : J mi enc FL lay nc ns (pc + 3) lv stk h E) (kB : J mi enc FL lay nc ns tgt lv stk h E2) : J mi enc FL lay nc ns pc lv (vi y :: vi x :: stk) h (if x < y then E else E2) := by
  intro p l e R s m args below meth c D ci base b C H locs ls r h2 hE S
  have hy : inR y := S.top
  have hx : inR x := S.top2
  refine lv_icmp_ge C.1 C.2.1 hd ht (fun hc => ?_) (fun hc => ?_)
  · have hP : ¬ x < y := Int.not_lt.mpr ((i32_le hy hx).mp hc)
    rw [if_neg hP] at hE
    exact kB p l e R s m args below meth c D ci base b C H locs _ r h2 hE S.pop.pop
  · have hP : x < y := Int.not_le.mp (fun q => hc ((i32_le hy hx).mpr q))
    rw [if_pos hP] at hE
    exact kA p l e R s m args below meth c D ci base b C H locs _ r h2 hE S.pop.pop
theorem j_if_ge {x : Int} {off : Int} {tgt : Nat} (hd : decode mi.2.1 pc = .ok (.ifCond .ge off, 3)) (ht : (pc : Int) + off = (tgt : Int)) (kA : J mi enc FL lay nc ns (pc + 3) lv stk h E) (kB : J mi enc FL lay nc ns tgt lv stk h E2) : J mi enc FL lay nc ns pc lv (vi x :: stk) h (if x < 0 then E else E2) := by
  intro p l e R s m args below meth c D ci base b C H locs ls r h2 hE S
  have hx : inR x := S.top
  have hy : inR 0 := inR0
  refine lv_if_ge C.1 C.2.1 hd ht (fun hc => ?_) (fun hc => ?_)
  · have hP : ¬ x < 0 := Int.not_lt.mpr ((i32_le hy hx).mp hc)
    rw [if_neg hP] at hE
    exact kB p l e R s m args below meth c D ci base b C H locs _ r h2 hE S.pop
  · have hP : x < 0 := Int.not_le.mp (fun q => hc ((i32_le hy hx).mpr q))
    rw [if_pos hP] at hE
    exact kA p l e R s m args below meth c D ci base b C H locs _ r h2 hE S.pop
theorem j_icmp_gt {x y : Int} {off : Int} {tgt : Nat} (hd : decode mi.2.1 pc = .ok (.if_icmp .gt off, 3)) (ht : (pc : Int) + off = (tgt : Int)) (kA : J mi enc FL lay nc ns tgt lv stk h E) (kB : J mi enc FL lay nc ns (pc + 3) lv stk h E2) : J mi enc FL lay nc ns pc lv (vi y :: vi x :: stk) h (if y < x then E else E2) := by
  intro p l e R s m args below meth c D ci base b C H locs ls r h2 hE S
  have hy : inR y := S.top
  have hx : inR x := S.top2
  refine lv_icmp_gt C.1 C.2.1 hd ht (fun hc => ?_) (fun hc => ?_)
  · have hP : y < x := (i32_lt hy hx).mp hc
    rw [if_pos hP] at hE
    exact kA p l e R s m args below meth c D ci base b C H locs _ r h2 hE S.pop.pop
  · have hP : ¬ y < x := fun q => hc ((i32_lt hy hx).mpr q)
    rw [if_neg hP] at hE
    exact kB p l e R s m args below meth c D ci base b C H locs _ r h2 hE S.pop.pop
theorem j_if_gt {x : Int} {off : Int} {tgt : Nat} (hd : decode mi.2.1 pc = .ok (.ifCond .gt off, 3)) (ht : (pc : Int) + off = (tgt : Int)) (kA : J mi enc FL lay nc ns tgt lv stk h E) (kB : J mi enc FL lay nc ns (pc + 3) lv stk h E2) : J mi enc FL lay nc ns pc lv (vi x :: stk) h (if 0 < x then E else E2) := by
  intro p l e R s m args below meth c D ci base b C H locs ls r h2 hE S
  have hx : inR x := S.top
  have hy : inR 0 := inR0
  refine lv_if_gt C.1 C.2.1 hd ht (fun hc => ?_) (fun hc => ?_)
  · have hP : 0 < x := (i32_lt hy hx).mp hc
    rw [if_pos hP] at hE
    exact kA p l e R s m args below meth c D ci base b C H locs _ r h2 hE S.pop
  · have hP : ¬ 0 < x := fun q => hc ((i32_lt hy hx).mpr q)
    rw [if_neg hP] at hE
    exact kB p l e R s m args below meth c D ci base b C H locs _ r h2 hE S.pop
theorem j_icmp_le {x y : Int} {off : Int} {tgt : Nat} (hd : decode mi.2.1 pc = .ok (.if_icmp .le off, 3)) (ht : (pc : Int) + off = (tgt : Int)) (kA : J mi enc FL lay nc ns (pc + 3) lv stk h E) (kB : J mi enc FL lay nc ns tgt lv stk h E2) : J mi enc FL lay nc ns pc lv (vi y :: vi x :: stk) h (if y < x then E else E2) := by
  intro p l e R s m args below meth c D ci base b C H locs ls r h2 hE S
  have hy : inR y := S.top
  have hx : inR x := S.top2
  refine lv_icmp_le C.1 C.2.1 hd ht (fun hc => ?_) (fun hc => ?_)
  · have hP : ¬ y < x := Int.not_lt.mpr ((i32_le hx hy).mp hc)
    rw [if_neg hP] at hE
    exact kB p l e R s m args below meth c D ci base b C H locs _ r h2 hE S.pop.pop
  · have hP : y < x := Int.not_le.mp (fun q => hc ((i32_le hx hy).mpr q))
    rw [if_pos hP] at hE
    exact kA p l e R s m args below meth c D ci base b C H locs _ r h2 hE S.pop.pop
theorem j_if_le {x : Int} {off : Int} {tgt : Nat} (hd : decode mi.2.1 pc = .ok (.ifCond .le off, 3)) (ht : (pc : Int) + off = (tgt : Int)) (kA : J mi enc FL lay nc ns (pc + 3) lv stk h E) (kB : J mi enc FL lay nc ns tgt lv stk h E2) : J mi enc FL lay nc ns pc lv (vi x :: stk) h (if 0 < x then E else E2) := by
  intro p l e R s m args below meth c D ci base b C H locs ls r h2 hE S
  have hx : inR x := S.top
  have hy : inR 0 := inR0
  refine lv_if_le C.1 C.2.1 hd ht (fun hc => ?_) (fun hc => ?_)
  · have hP : ¬ 0 < x := Int.not_lt.mpr ((i32_le hx hy).mp hc)
    rw [if_neg hP] at hE
    exact kB p l e R s m args below meth c D ci base b C H locs _ r h2 hE S.pop
  · have hP : 0 < x := Int.not_le.mp (fun q => hc ((i32_le hx hy).mpr q))
    rw [if_pos hP] at hE
    exact kA p l e R s m args below meth c D ci base b C H locs _ r h2 hE S.pop
end JR
end
section
section HR
theorem RelH.upd {D : va_G} {ci : zCI} {base : Nat} {lay : List LK} {h h1 : Hp} {H H1 : Heap} (hP : RelH D ci base lay h H) {a : Nat} {k : LK} (hk : lay[a]? = some k) (hz : H1.size = H.size) (ho : ∀ q, q ≠ base + a → H1[q]? = H[q]?) (hat : va_at D vwCl (base + a, zcell ci base a k h1) H1) (hh : ∀ j, j ≠ a → h1 j = h j) : RelH D ci base lay h1 H1 := by
  refine ⟨by rw [hz]; exact hP.1, fun j q hq => ?_⟩
  obtain ⟨k', hk', rfl⟩ := zw_inv hq
  by_cases hj : j = a
  · subst hj
    cases hk.symm.trans hk'
    exact hat
  · have h2 := hP.2 j _ (zw_at hk')
    have e : zcell ci base j k' h1 = zcell ci base j k' h := by
      unfold zcell
      rw [hh j hj]
    rw [e]
    exact h2.kept (ho _ (by show base + j ≠ base + a; omega))
theorem zfl_at {base a p t k : Nat} {f : Int → Int} (hk : k < znf t) : (zfl base a p t f)[k]? = some (zval base a p f (zfd t k) k) := by
  simp [zfl, hk]
theorem zfl_len {base a p t : Nat} {f : Int → Int} : (zfl base a p t f).length = znf t := by simp [zfl]
theorem zfl_V {base a p t k : Nat} {f : Int → Int} (hk : k < znf t) : vp_V (zfl base a p t f) k = zval base a p f (zfd t k) k := by
  unfold vp_V
  rw [List.getD_eq_getElem?_getD, zfl_at hk]
  rfl
theorem hu_ne {h : Hp} {a : Nat} {i v : Int} {j : Nat} (hj : j ≠ a) : hu h a i v j = h j := by
  funext x
  unfold hu
  rw [if_neg (fun q => hj q.1)]
theorem zval_hu {base a p : Nat} {h : Hp} {i x : Int} {d : Nat × Nat × Nat} {k : Nat} (hki : (k : Int) ≠ i) : zval base a p (hu h a i x a) d k = zval base a p (h a) d k := by
  have e : hu h a i x a k = h a k := by
    unfold hu
    rw [if_neg (fun q => hki q.2)]
  unfold zval
  rw [e]
theorem inR_hu {lay : List LK} {h : Hp} (hR : InR lay h) {a : Nat} {i x : Int} (hx : inR x) : InR lay (hu h a i x) := by
  intro c k j hk hj
  unfold hu
  split
  · exact hx
  · exact hR c k j hk hj
theorem inR_huL {lay : List LK} {h : Hp} (hR : InR lay h) {a : Nat} {k0 : LK} {i x : Int} (hk0 : lay[a]? = some k0) (hi : ¬ zint k0 i) : InR lay (hu h a i x) := by
  intro c k j hk hj
  unfold hu
  split
  · rename_i q
    obtain ⟨rfl, rfl⟩ := q
    cases hk0.symm.trans hk
    exact absurd hj hi
  · exact hR c k j hk hj
variable {α : Type} {mi : MI} {enc : α → Option V} {FL : List LK → Prop} {lay : List LK} {nc ns pc : Nat} {lv : List (Nat × V)} {stk : List V} {h : Hp} {E E2 : O α}
theorem j_get {t k N n st p a index : Nat} {C : String} {T : u_T} {ty : Nat → FieldType} {v : V} (hd : decode mi.2.1 pc = .ok (.getfield index, 3)) (hZ : ZC t C T N ty) (hN : znf t = N) (hk : lay[a]? = some (t + 4, n, st, p)) (hkN : k < N)
    (hw : Cond.fieldLink mi.1.cls index (T k).1 (T k).2.1 (T k).2.2.1 ∈ UW) (hv : ∀ base b, zval base a p (h a) (zfd t k) k = zc base b v) (ho : InR lay h → okV v) (kk : J mi enc FL lay nc ns (pc + 3) lv (v :: stk) h E) : J mi enc FL lay nc ns pc lv (vr a :: stk) h E := by
  intro p' l e R s m args below meth c D ci base b CC H locs ls r h2 hE S
  refine va_get (D := D) (cl := vwCl) (ci := t) (v := zc base b v) (C := C) (T := T) (N := N) (fs := zfl base a p t (h a)) CC.1 CC.2.1 CC.2.2.2.2.1 hZ.2.1 CC.2.2.2.1 CC.2.2.2.2.2.1.1 S.2.2.2.2.1.2 a (zw_at hk) hZ.1 k hkN (CC.2.2.2.2.1 _ hw) (fun _ h9 => h9) (by rw [zfl_at (by rw [hN]; exact hkN), hv base b]) hd ?_
  exact kk p' l e R s m args below meth c D ci base b CC H locs _ r h2 hE (S.pop.push (ho S.2.2.1))
theorem j_getI (k : Nat) (kI : Int) {t N n st p a index : Nat} {C : String} {T : u_T} {ty : Nat → FieldType} (hd : decode mi.2.1 pc = .ok (.getfield index, 3)) (hZ : ZC t C T N ty) (hN : znf t = N) (hk : lay[a]? = some (t + 4, n, st, p)) (hkN : k < N)
    (hw : Cond.fieldLink mi.1.cls index (T k).1 (T k).2.1 (T k).2.2.1 ∈ UW) (hz : (zfd t k).1 = 0) (hkI : (k : Int) = kI) (kk : J mi enc FL lay nc ns (pc + 3) lv (vi (h a kI) :: stk) h E) : J mi enc FL lay nc ns pc lv (vr a :: stk) h E := by
  subst hkI
  refine j_get hd hZ hN hk hkN hw (v := vi (h a k)) (fun base b => ?_) (fun hR => ?_) kk
  · unfold zval
    rw [hz]
    rfl
  · refine hR a _ _ hk (Or.inr ?_)
    show (zfd (t + 4 - 4) (Int.toNat k)).1 ≠ 1
    rw [Nat.add_sub_cancel, Int.toNat_natCast, hz]
    decide
theorem j_getL (k : Nat) (kI : Int) {t N n st p a index : Nat} {C : String} {T : u_T} {ty : Nat → FieldType} (hd : decode mi.2.1 pc = .ok (.getfield index, 3)) (hZ : ZC t C T N ty) (hN : znf t = N) (hk : lay[a]? = some (t + 4, n, st, p)) (hkN : k < N)
    (hw : Cond.fieldLink mi.1.cls index (T k).1 (T k).2.1 (T k).2.2.1 ∈ UW) (hz : (zfd t k).1 = 1) (hkI : (k : Int) = kI) (kk : J mi enc FL lay nc ns (pc + 3) lv (vl (h a kI) :: stk) h E) : J mi enc FL lay nc ns pc lv (vr a :: stk) h E := by
  subst hkI
  refine j_get hd hZ hN hk hkN hw (v := vl (h a k)) (fun base b => ?_) (fun _ => trivial) kk
  unfold zval
  rw [hz]
  rfl
theorem j_getR (k o j : Nat) {t N n st p a index : Nat} {C : String} {T : u_T} {ty : Nat → FieldType} (hd : decode mi.2.1 pc = .ok (.getfield index, 3)) (hZ : ZC t C T N ty) (hN : znf t = N) (hk : lay[a]? = some (t + 4, n, st, p)) (hkN : k < N)
    (hw : Cond.fieldLink mi.1.cls index (T k).1 (T k).2.1 (T k).2.2.1 ∈ UW) (hz : zfd t k = (2, o, j)) (hj : j < p) (kk : J mi enc FL lay nc ns (pc + 3) lv (vr (a + o) :: stk) h E) : J mi enc FL lay nc ns pc lv (vr a :: stk) h E := by
  refine j_get hd hZ hN hk hkN hw (v := vr (a + o)) (fun base b => ?_) (fun _ => trivial) kk
  unfold zval
  rw [hz]
  show (if j < p then Value.ref (base + a + o) else .null) = .ref (base + (a + o))
  rw [if_pos hj, Nat.add_assoc]
theorem j_put {t k N n st p a index : Nat} {kI x : Int} {C : String} {T : u_T} {ty : Nat → FieldType} {v : V} {K : Hp → O α} (hd : decode mi.2.1 pc = .ok (.putfield index, 3)) (hZ : ZC t C T N ty) (hN : znf t = N) (hk : lay[a]? = some (t + 4, n, st, p)) (hkN : k < N)
    (hw : Cond.fieldLink mi.1.cls index (T k).1 (T k).2.1 (T k).2.2.1 ∈ UW) (hfin : (T k).2.2.2 = false) (hkI : (k : Int) = kI)
    (hn : ∀ base b, okV v → narrow (ty k) (zc base b v) = zc base b v ∧ fits (ty k) (zc base b v) = true) (hv : ∀ base b, zval base a p (hu h a kI x a) (zfd t k) k = zc base b v) (ho : InR lay h → okV v → InR lay (hu h a kI x)) (kk : ∀ h1, h1 = hu h a kI x → J mi enc FL lay nc ns (pc + 3) lv stk h1 (K h1)) : J mi enc FL lay nc ns pc lv (v :: vr a :: stk) h (lt (hu h a kI x) K) := by
  intro p' l e R s m args below meth c D ci base b CC H locs ls r h2 hE S
  have hts := CC.2.2.2.2.1
  have hK := CC.2.2.2.2.2.1.1
  have hc := hZ.1
  have hap := va_apart (own := mi.1.cls) hts hZ.2.1 ty hZ.2.2.1 hZ.2.2.2 hK hc
  obtain ⟨rr, h1, cell, q1, q2, q3, q4⟩ := S.2.2.2.2.1.2 a _ (zw_at hk)
  have hr : rr = (C, T, N) := Option.some.inj (h1.symm.trans hc)
  subst hr
  obtain ⟨hS, hfc, kC, hkC, hkind⟩ := hK.1 t _ hc
  obtain ⟨cf, kf, fi, f, hi, hsl⟩ := hS k hkN
  have hlay := hts _ (hZ.2.1 _ (u_in_lay hkN))
  unfold u_lay at hlay
  rw [if_neg (by rw [hfin]; decide)] at hlay
  have hst := (u_facts hfc hkC (u_lays hts hZ.2.1 hkN) hi).1
  obtain ⟨n1, n2⟩ := hn base b S.top
  have h6 := u_store hfc hkC hkind hlay hi (hZ.2.2.1 k hkN) n1 n2
  refine W.putK CC.1 CC.2.1 (f := f) ⟨CC.2.2.2.1, hts _ hw, ⟨_, _, _, hi⟩, hst⟩ (by rw [q2]; exact h6) q1 q3 (by rw [hsl]; exact k2_hasslot (q4 k hkN)) rfl rfl hd fun H' e1 e2 e3 => ?_
  rw [hsl] at e1 ⊢
  subst hkI
  have hP' : RelH D ci base lay (hu h a k x) H' := by
    refine RelH.upd S.2.2.2.2.1 hk e2 e3 ⟨_, hc, t_OB.to (V := updV (vp_V (zfl base a p t (h a))) k (zc base b v)) ⟨_, e1, q2, q3, t_set q4 hap hkN _⟩ (fun j hj => ?_)⟩ (fun j hj => hu_ne hj)
    have hj' : j < znf t := by rw [hN]; exact hj
    unfold updV
    show _ = vp_V (zfl base a p t (hu h a k x a)) j
    rw [zfl_V hj', zfl_V hj']
    split
    · rename_i hjk
      subst hjk
      exact (hv base b).symm
    · rename_i hjk
      exact (zval_hu (fun q => hjk (by omega))).symm
  exact kk _ rfl p' l e R s m args below meth c D ci base b CC H' _ _ r h2 hE (S.pop.pop.heap (ho S.2.2.1 S.top) hP' (S.2.2.2.2.2.put e2 e3 (Nat.le_add_right _ _)))
theorem j_putI (k : Nat) (kI : Int) {t N n st p a index : Nat} {x : Int} {C : String} {T : u_T} {ty : Nat → FieldType} {K : Hp → O α} (hd : decode mi.2.1 pc = .ok (.putfield index, 3)) (hZ : ZC t C T N ty) (hN : znf t = N) (hk : lay[a]? = some (t + 4, n, st, p)) (hkN : k < N)
    (hw : Cond.fieldLink mi.1.cls index (T k).1 (T k).2.1 (T k).2.2.1 ∈ UW) (hfin : (T k).2.2.2 = false) (hty : ty k = .int) (hz : (zfd t k).1 = 0) (hkI : (k : Int) = kI) (kk : ∀ h1, h1 = hu h a kI x → J mi enc FL lay nc ns (pc + 3) lv stk h1 (K h1)) : J mi enc FL lay nc ns pc lv (vi x :: vr a :: stk) h (lt (hu h a kI x) K) := by
  refine j_put hd hZ hN hk hkN hw hfin hkI (fun base b _ => by rw [hty]; exact ⟨rfl, rfl⟩) (fun base b => ?_) (fun hR hx => inR_hu hR hx) kk
  unfold zval
  rw [hz]
  simp [hu, hkI, zc]
theorem j_putL (k : Nat) (kI : Int) {t N n st p a index : Nat} {x : Int} {C : String} {T : u_T} {ty : Nat → FieldType} {K : Hp → O α} (hd : decode mi.2.1 pc = .ok (.putfield index, 3)) (hZ : ZC t C T N ty) (hN : znf t = N) (hk : lay[a]? = some (t + 4, n, st, p)) (hkN : k < N)
    (hw : Cond.fieldLink mi.1.cls index (T k).1 (T k).2.1 (T k).2.2.1 ∈ UW) (hfin : (T k).2.2.2 = false) (hty : ty k = .long) (hz : (zfd t k).1 = 1) (hkI : (k : Int) = kI) (kk : ∀ h1, h1 = hu h a kI x → J mi enc FL lay nc ns (pc + 3) lv stk h1 (K h1)) : J mi enc FL lay nc ns pc lv (vl x :: vr a :: stk) h (lt (hu h a kI x) K) := by
  refine j_put hd hZ hN hk hkN hw hfin hkI (fun base b _ => by rw [hty]; exact ⟨rfl, rfl⟩) (fun base b => ?_) (fun hR _ => inR_huL hR hk ?_) kk
  · unfold zval
    rw [hz]
    simp [hu, hkI, zc]
  · rintro (q | q)
    · exact absurd (show t + 4 < 4 from q) (by omega)
    · refine q ?_
      show (zfd (t + 4 - 4) kI.toNat).1 = 1
      rw [Nat.add_sub_cancel, ← hkI, Int.toNat_natCast, hz]
theorem j_putZ (k : Nat) (kI : Int) {t N n st p a index : Nat} {x : Int} {C : String} {T : u_T} {ty : Nat → FieldType} {K : Hp → O α} (hd : decode mi.2.1 pc = .ok (.putfield index, 3)) (hZ : ZC t C T N ty) (hN : znf t = N) (hk : lay[a]? = some (t + 4, n, st, p)) (hkN : k < N)
    (hw : Cond.fieldLink mi.1.cls index (T k).1 (T k).2.1 (T k).2.2.1 ∈ UW) (hfin : (T k).2.2.2 = false) (hty : ty k = .boolean) (hz : (zfd t k).1 = 0) (hkI : (k : Int) = kI) (kk : ∀ h1, h1 = hu h a kI x → J mi enc FL lay nc ns (pc + 3) lv stk h1 (K h1)) : J mi enc FL lay nc ns pc lv (vi x :: vr a :: stk) h (bz x (lt (hu h a kI x) K)) := by
  intro p' l e R s m args below meth c D ci base b CC H locs ls r h2 hE S
  obtain ⟨h01, hE⟩ := bz_some hE
  refine j_put (v := vi x) (x := x) hd hZ hN hk hkN hw hfin hkI (fun base b _ => ?_) (fun base b => ?_) (fun hR hx => inR_hu hR hx) kk p' l e R s m args below meth c D ci base b CC H locs ls r h2 hE S
  · rw [hty]
    rcases h01 with rfl | rfl <;> exact ⟨rfl, rfl⟩
  · unfold zval
    rw [hz]
    simp [hu, hkI, zc]
end HR
end
section
section AR
variable {α : Type} {mi : MI} {enc : α → Option V} {FL : List LK → Prop} {lay : List LK} {nc ns pc : Nat} {lv : List (Nat × V)} {stk : List V} {h : Hp} {E E2 : O α}
theorem KK.arr {D : va_G} {ci : zCI} {U : State} (h : KK D ci U) (t : Nat) {q : ClassId × FieldType} (hq : [(ci.1, FieldType.int), (ci.2.1, .boolean), (ci.2.2.1, .object RX1), (ci.2.2.2, .array .int)][t]? = some q) : ArrOfT U q.1 q.2 ∧ va_RA U q.1 q.2 := h.1.2 t q hq
theorem zarr_set {cA : ClassId} {n : Nat} {h : Hp} {a : Nat} {i x : Int} (h0 : 0 ≤ i) : (vp_cell cA (n, .inl (fun j => Int32.ofInt (h a j)))).setSlot i.toNat (.int (Int32.ofInt x)) = vp_cell cA (n, .inl (fun j => Int32.ofInt (hu h a i x a j))) := by
  rw [vp_cell_i, vp_cell_i, arrV_store]
  congr 1
  funext q
  unfold updV hu
  by_cases hq : q = i.toNat
  · rw [if_pos hq, if_pos ⟨rfl, by omega⟩]
  · rw [if_neg hq, if_neg (fun z => hq (by omega))]
theorem j_iald {a n st p : Nat} {i nI : Int} (hd : decode mi.2.1 pc = .ok (.iaload, 1)) (hk : lay[a]? = some (0, n, st, p)) (hn : (n : Int) = nI) (kk : J mi enc FL lay nc ns (pc + 1) lv (vi (h a i) :: stk) h E) : J mi enc FL lay nc ns pc lv (vi i :: vr a :: stk) h (ix i nI E) := by
  intro p' l e R s m args below meth c D ci base b CC H locs ls r h2 hE S
  subst hn
  obtain ⟨hin, hE⟩ := ix_some hE
  have hi : inR i := S.top
  refine va_iald CC.1 CC.2.1 CC.2.2.2.2.2.1.1 S.2.2.2.2.1.2 a 0 (zw_at hk) rfl (i32_in hi hin) hd ?_
  rw [i32_cl hi, Int.toNat_of_nonneg hin.1]
  exact kk p' l e R s m args below meth c D ci base b CC H locs _ r h2 hE (S.pop.pop.push (v := vi (h a i)) (S.2.2.1 a _ _ hk (Or.inl (show _ < 4 by simp))))
theorem j_zald {a n st p : Nat} {i nI : Int} (hd : decode mi.2.1 pc = .ok (.baload, 1)) (hk : lay[a]? = some (1, n, st, p)) (hn : (n : Int) = nI) (kk : J mi enc FL lay nc ns (pc + 1) lv (vi (h a i) :: stk) h E) : J mi enc FL lay nc ns pc lv (vi i :: vr a :: stk) h (ix i nI E) := by
  intro p' l e R s m args below meth c D ci base b CC H locs ls r h2 hE S
  subst hn
  obtain ⟨hin, hE⟩ := ix_some hE
  have hi : inR i := S.top
  refine va_zald CC.1 CC.2.1 CC.2.2.2.2.2.1.1 S.2.2.2.2.1.2 a 1 (zw_at hk) rfl (i32_in hi hin) hd ?_
  rw [i32_cl hi, Int.toNat_of_nonneg hin.1]
  exact kk p' l e R s m args below meth c D ci base b CC H locs _ r h2 hE (S.pop.pop.push (v := vi (h a i)) (S.2.2.1 a _ _ hk (Or.inl (show _ < 4 by simp))))
theorem j_iast {a n st p : Nat} {i x nI : Int} {K : Hp → O α} (hd : decode mi.2.1 pc = .ok (.iastore, 1)) (hk : lay[a]? = some (0, n, st, p)) (hn : (n : Int) = nI) (kk : ∀ h1, h1 = hu h a i x → J mi enc FL lay nc ns (pc + 1) lv stk h1 (K h1)) : J mi enc FL lay nc ns pc lv (vi x :: vi i :: vr a :: stk) h (ix i nI (lt (hu h a i x) K)) := by
  intro p' l e R s m args below meth c D ci base b CC H locs ls r h2 hE S
  subst hn
  obtain ⟨hin, hE⟩ := ix_some hE
  have hx : inR x := S.top
  have hi : inR i := S.top2
  have hcell := S.2.2.2.2.1.2 a _ (zw_at hk)
  refine W.iast CC.1 CC.2.1 hcell ((CC.2.2.2.2.2.1.arr 0 rfl).1 n (fun j => .int (Int32.ofInt (h a j)))) (fun q => by cases q) (by show ¬ (_ ∨ (arrV _ _ _).slots.size ≤ _); rw [arrV_size]; exact i32_in hi hin) rfl rfl hd fun H1 e1 z oq => ?_
  rw [i32_cl hi] at e1 ⊢
  have hP' : RelH D ci base lay (hu h a i x) H1 := RelH.upd S.2.2.2.2.1 hk z oq (by rw [zarr_set hin.1] at e1; exact e1) (fun j hj => hu_ne hj)
  exact kk _ rfl p' l e R s m args below meth c D ci base b CC H1 _ _ r h2 hE (S.pop.pop.pop.heap (inR_hu S.2.2.1 hx) hP' (S.2.2.2.2.2.put z oq (Nat.le_add_right _ _)))
theorem j_zast {a n st p : Nat} {i x nI : Int} {K : Hp → O α} (hd : decode mi.2.1 pc = .ok (.bastore, 1)) (hk : lay[a]? = some (1, n, st, p)) (hn : (n : Int) = nI) (kk : ∀ h1, h1 = hu h a i x → J mi enc FL lay nc ns (pc + 1) lv stk h1 (K h1)) : J mi enc FL lay nc ns pc lv (vi x :: vi i :: vr a :: stk) h (ix i nI (bz x (lt (hu h a i x) K))) := by
  intro p' l e R s m args below meth c D ci base b CC H locs ls r h2 hE S
  subst hn
  obtain ⟨hin, hE⟩ := ix_some hE
  obtain ⟨h01, hE⟩ := bz_some hE
  have hx : inR x := S.top
  have hi : inR i := S.top2
  have hcell := S.2.2.2.2.1.2 a _ (zw_at hk)
  refine W.zast CC.1 CC.2.1 hcell ((CC.2.2.2.2.2.1.arr 1 rfl).1 n (fun j => .int (Int32.ofInt (h a j)))) (fun q => by cases q) (by show ¬ (_ ∨ (arrV _ _ _).slots.size ≤ _); rw [arrV_size]; exact i32_in hi hin) rfl rfl hd fun H1 e1 z oq => ?_
  have hn : narrow .boolean (.int (Int32.ofInt x)) = .int (Int32.ofInt x) := by rcases h01 with rfl | rfl <;> rfl
  rw [i32_cl hi, hn] at e1
  rw [i32_cl hi]
  have hP' : RelH D ci base lay (hu h a i x) H1 := RelH.upd S.2.2.2.2.1 hk z oq (by rw [zarr_set hin.1] at e1; exact e1) (fun j hj => hu_ne hj)
  exact kk _ rfl p' l e R s m args below meth c D ci base b CC H1 _ _ r h2 hE (S.pop.pop.pop.heap (inR_hu S.2.2.1 hx) hP' (S.2.2.2.2.2.put z oq (Nat.le_add_right _ _)))
/-- a Drawing out of a row of them -/
theorem j_aaldD {a n st p : Nat} {i nI : Int} (hd : decode mi.2.1 pc = .ok (.aaload, 1)) (hk : lay[a]? = some (2, n, st, p)) (hp : n ≤ p) (hn : (n : Int) = nI) (kk : 0 ≤ i → i < nI → J mi enc FL lay nc ns (pc + 1) lv (vr (a + 1 + st * i.toNat) :: stk) h E) : J mi enc FL lay nc ns pc lv (vi i :: vr a :: stk) h (ix i nI E) := by
  intro p' l e R s m args below meth c D ci base b CC H locs ls r h2 hE S
  subst hn
  obtain ⟨hin, hE⟩ := ix_some hE
  have hi : inR i := S.top
  refine va_aldq (C := RX1) CC.1 CC.2.1 CC.2.2.2.2.2.1.1 S.2.2.2.2.1.2 a 2 (zw_at hk) rfl (i32_in hi hin) hd ?_
  rw [i32_cl hi]
  dsimp only
  rw [if_pos (by omega)]
  exact kk hin.1 hin.2 p' l e R s m args below meth c D ci base b CC H locs _ r h2 hE (S.pop.pop.push (v := vr (a + 1 + st * i.toNat)) trivial)
/-- a row out of a row of rows -/
theorem j_aaldI {a n st p : Nat} {i nI : Int} (hd : decode mi.2.1 pc = .ok (.aaload, 1)) (hk : lay[a]? = some (3, n, st, p)) (hn : (n : Int) = nI) (kk : 0 ≤ i → i < nI → J mi enc FL lay nc ns (pc + 1) lv (vr (a + 1 + i.toNat) :: stk) h E) : J mi enc FL lay nc ns pc lv (vi i :: vr a :: stk) h (ix i nI E) := by
  intro p' l e R s m args below meth c D ci base b CC H locs ls r h2 hE S
  subst hn
  obtain ⟨hin, hE⟩ := ix_some hE
  have hi : inR i := S.top
  have hlt : i.toNat < n := by omega
  have hcell := S.2.2.2.2.1.2 a _ (zw_at hk)
  refine W.aald (ty := .array .int) (v := .ref (base + (a + 1 + i.toNat))) CC.1 CC.2.1 hcell ((CC.2.2.2.2.2.1.arr 3 rfl).1 n (fun j => va_rf (if j < n then some (base + (a + 1 + j)) else none))) rfl (fun q => by cases q) (by show ¬ (_ ∨ (arrV _ _ _).slots.size ≤ _); rw [arrV_size]; exact i32_in hi hin) ?_ rfl rfl hd ?_
  · rw [i32_cl hi]
    show (arrV _ _ _).slots[_]? = _
    rw [arrV_read _ _ hlt]
    dsimp only
    rw [if_pos hlt]
    rfl
  · exact kk hin.1 hin.2 p' l e R s m args below meth c D ci base b CC H locs _ r h2 hE (S.pop.pop.push (v := vr (a + 1 + i.toNat)) trivial)
theorem j_alen {a n st p : Nat} {nI : Int} (hd : decode mi.2.1 pc = .ok (.arraylength, 1)) (hk : lay[a]? = some (0, n, st, p)) (hn : (n : Int) = nI) (hnr : inR nI) (kk : J mi enc FL lay nc ns (pc + 1) lv (vi nI :: stk) h E) : J mi enc FL lay nc ns pc lv (vr a :: stk) h E := by
  intro p' l e R s m args below meth c D ci base b CC H locs ls r h2 hE S
  refine va_alen CC.1 CC.2.1 CC.2.2.2.2.2.1.1 S.2.2.2.2.1.2 a 0 (zw_at hk) rfl (v := Int32.ofInt nI) (by subst hn; exact Int32.ofInt_eq_ofNat.symm) hd ?_
  exact kk p' l e R s m args below meth c D ci base b CC H locs _ r h2 hE (S.pop.push (v := vi nI) hnr)
/-- the law's own script -/
theorem j_slen {L : Nat} {xs : Nat → Int32} (hd : decode mi.2.1 pc = .ok (.arraylength, 1)) (hs : mi.2.2.2.2.2.2.2.2 = some (L, xs)) (hL : inR L) (kk : J mi enc FL lay nc ns (pc + 1) lv (vi L :: stk) h E) : J mi enc FL lay nc ns pc lv (vsc :: stk) h E := by
  intro p' l e R s m args below meth c D ci base b CC H locs ls r h2 hE S
  obtain ⟨hX, hb, hbs, -⟩ := CC.2.2.2.2.2.2.2.2.2.2.2.2.2.2 L xs hs
  refine va_slen CC.1 CC.2.1 hX (by omega) (by omega) S.2.2.2.2.2 hd ?_
  rw [show Int32.ofNat L = Int32.ofInt (L : Int) from Int32.ofInt_eq_ofNat.symm]
  exact kk p' l e R s m args below meth c D ci base b CC H locs _ r h2 hE (S.pop.push (v := vi L) hL)
theorem j_sld {L : Nat} {xs : Nat → Int32} {i : Int} (hd : decode mi.2.1 pc = .ok (.iaload, 1)) (hs : mi.2.2.2.2.2.2.2.2 = some (L, xs)) (kk : J mi enc FL lay nc ns (pc + 1) lv (vi (xs i.toNat).toInt :: stk) h E) : J mi enc FL lay nc ns pc lv (vi i :: vsc :: stk) h (ix i L E) := by
  intro p' l e R s m args below meth c D ci base b CC H locs ls r h2 hE S
  obtain ⟨hX, hb, hbs, -⟩ := CC.2.2.2.2.2.2.2.2.2.2.2.2.2.2 L xs hs
  obtain ⟨hin, hE⟩ := ix_some hE
  have hi : inR i := S.top
  refine va_sld CC.1 CC.2.1 hX (by omega) (by omega) S.2.2.2.2.2 (i32_in hi hin) hd ?_
  rw [i32_cl hi, ← Int32.ofInt_toInt (xs i.toNat)]
  exact kk p' l e R s m args below meth c D ci base b CC H locs _ r h2 hE (S.pop.pop.push (v := vi (xs i.toNat).toInt) ⟨(xs i.toNat).minValue_le_toInt, (xs i.toNat).toInt_le⟩)
/-- masks -/
theorem and_mask {x : Int} (k : Nat) {m : Int} (hm : (Int32.ofInt m).toBitVec.toNat = 2 ^ k - 1) (hk : k ≤ 30) : Int32.ofInt x &&& Int32.ofInt m = Int32.ofInt (x % ((2 ^ k : Nat) : Int)) := by
  rw [pk_and (Int32.ofInt x) k hm]
  show Int32.ofNat _ = _
  rw [← Int32.ofInt_eq_ofNat]
  congr 1
  have h1 : (Int32.ofInt x).toBitVec.toNat = (x % (2 ^ 32 : Int)).toNat := by
    show (BitVec.ofInt 32 x).toNat = _
    rw [BitVec.toNat_ofInt]
    rfl
  rw [h1]
  have h2 : (2 ^ 32 : Int) = ((2 ^ k : Nat) : Int) * ((2 ^ (32 - k) : Nat) : Int) := by
    rw [← Int.natCast_mul, ← Nat.pow_add, show k + (32 - k) = 32 by omega]
    rfl
  have h3 : 0 ≤ x % (2 ^ 32 : Int) := Int.emod_nonneg _ (by decide)
  rw [Int.natCast_emod, Int.toNat_of_nonneg h3, h2, Int.emod_emod_of_dvd _ (Int.dvd_mul_right _ _)]
theorem j_iand (k : Nat) (q : Int) {x m : Int} (hd : decode mi.2.1 pc = .ok (.iand, 1)) (hm : (Int32.ofInt m).toBitVec.toNat = 2 ^ k - 1) (hk : k ≤ 30) (hq : ((2 ^ k : Nat) : Int) = q) (hq2 : 0 < q ∧ q ≤ 1073741824) (kk : J mi enc FL lay nc ns (pc + 1) lv (vi (x % q) :: stk) h E) : J mi enc FL lay nc ns pc lv (vi m :: vi x :: stk) h E := by
  intro p' l e R s m' args below meth c D ci base b CC H locs ls r h2 hE S
  refine lv_iand CC.1 CC.2.1 hd ?_
  rw [and_mask k hm hk, hq]
  have h1 := Int.emod_nonneg x (show q ≠ 0 by omega)
  have h3 := Int.emod_lt_of_pos x hq2.1
  exact kk p' l e R s m' args below meth c D ci base b CC H locs _ r h2 hE (S.pop.pop.push (v := vi (x % q)) ⟨by omega, by omega⟩)
theorem i32_nI {x : Int} (hx : 0 ≤ x) : Int32.ofInt x = nI x.toNat := by
  show _ = Int32.ofNat _
  rw [← Int32.ofInt_eq_ofNat, Int.toNat_of_nonneg hx]
theorem zs_l : ∀ n, n < 32 → ((nI n &&& 31).toBitVec.smod 32).toNat = n := by decide +kernel
theorem j_ishl1 {y : Int} (hd : decode mi.2.1 pc = .ok (.ishl, 1)) (kk : J mi enc FL lay nc ns (pc + 1) lv (vi (p2 y) :: stk) h E) : J mi enc FL lay nc ns pc lv (vi y :: vi 1 :: stk) h (shc 1 y (ck (p2 y) E)) := by
  intro p' l e R s m' args below meth c D ci base b CC H locs ls r h2 hE S
  obtain ⟨hz, hE⟩ := shc_some hE
  obtain ⟨hr, hE⟩ := ck_some hE
  refine lv_ishl CC.1 CC.2.1 hd ?_
  have hy : y.toNat < 31 := by omega
  have hlt : 2 ^ y.toNat < 2 ^ 31 := Nat.pow_lt_pow_right (by decide) hy
  have e1 : Int32.ofInt 1 <<< (Int32.ofInt y &&& 31) = Int32.ofInt (p2 y) := by
    rw [i32_nI hz.2.1, show Int32.ofInt 1 = nI 1 from rfl, pk_shlN (nI y.toNat &&& 31) y.toNat (zs_l _ (by omega)) (by omega), Nat.one_mul]
    unfold p2
    rw [i32_nI (Int.natCast_nonneg _), Int.toNat_natCast]
  rw [e1]
  exact kk p' l e R s m' args below meth c D ci base b CC H locs _ r h2 hE (S.pop.pop.push (v := vi (p2 y)) hr)
theorem j_ishr {x y : Int} (hd : decode mi.2.1 pc = .ok (.ishr, 1)) (kk : J mi enc FL lay nc ns (pc + 1) lv (vi (x / p2 y) :: stk) h E) : J mi enc FL lay nc ns pc lv (vi y :: vi x :: stk) h (shc x y E) := by
  intro p' l e R s m' args below meth c D ci base b CC H locs ls r h2 hE S
  obtain ⟨hz, hE⟩ := shc_some hE
  have hx : inR x := S.top2
  refine lv_ishr CC.1 CC.2.1 hd ?_
  have e1 : Int32.ofInt x >>> (Int32.ofInt y &&& 31) = Int32.ofInt (x / p2 y) := by
    have hxn : x.toNat < 2 ^ 31 := by have := hx.2; omega
    rw [i32_nI hz.2.1, i32_nI hz.1, pk_shrN hxn (nI y.toNat &&& 31) y.toNat (zs_l _ (by omega))]
    unfold p2
    rw [i32_nI (Int.ediv_nonneg hz.1 (Int.natCast_nonneg _))]
    congr 1
    apply Int.ofNat.inj
    show ((x.toNat / 2 ^ y.toNat : Nat) : Int) = ((x / ((2 ^ y.toNat : Nat) : Int)).toNat : Int)
    rw [Int.toNat_of_nonneg (Int.ediv_nonneg hz.1 (Int.natCast_nonneg _)), Int.natCast_ediv, Int.toNat_of_nonneg hz.1]
  rw [e1]
  have h1 : 0 ≤ x / p2 y := Int.ediv_nonneg hz.1 (Int.natCast_nonneg _)
  have h3 : x / p2 y ≤ x := Int.ediv_le_self _ hz.1
  exact kk p' l e R s m' args below meth c D ci base b CC H locs _ r h2 hE (S.pop.pop.push (v := vi (x / p2 y)) ⟨by omega, by have := hx.2; omega⟩)
theorem j_ior {x y : Int} (hd : decode mi.2.1 pc = .ok (.ior, 1)) (kk : J mi enc FL lay nc ns (pc + 1) lv (vi (orI x y) :: stk) h E) : J mi enc FL lay nc ns pc lv (vi y :: vi x :: stk) h (orc x y E) := by
  intro p' l e R s m' args below meth c D ci base b CC H locs ls r h2 hE S
  obtain ⟨hz, hE⟩ := orc_some hE
  have hx : inR x := S.top2
  have hy : inR y := S.top
  refine lv_ior CC.1 CC.2.1 hd ?_
  have hlt : x.toNat ||| y.toNat < 2 ^ 31 := Nat.or_lt_two_pow (by have := hx.2; omega) (by have := hy.2; omega)
  have e1 : Int32.ofInt x ||| Int32.ofInt y = Int32.ofInt (orI x y) := by
    unfold orI
    rw [i32_nI hz.1, i32_nI hz.2, i32_nI (Int.natCast_nonneg _), Int.toNat_natCast]
    apply Int32.toBitVec.inj
    apply BitVec.eq_of_toNat_eq
    show ((nI x.toNat).toBitVec ||| (nI y.toNat).toBitVec).toNat = _
    rw [BitVec.toNat_or, pk_tn (by have := hx.2; omega), pk_tn (by have := hy.2; omega), pk_tn (by omega)]
  rw [e1]
  have h1 : 0 ≤ orI x y := Int.natCast_nonneg _
  have h3 : orI x y < 2147483648 := by unfold orI; omega
  exact kk p' l e R s m' args below meth c D ci base b CC H locs _ r h2 hE (S.pop.pop.push (v := vi (orI x y)) ⟨by omega, by omega⟩)
end AR
end
section
section CR
theorem i32_min {x y : Int} (hx : inR x) (hy : inR y) : (if Int32.ofInt y < Int32.ofInt x then Int32.ofInt y else Int32.ofInt x) = Int32.ofInt (min x y) := by
  by_cases h : y < x
  · rw [if_pos ((i32_lt hy hx).mpr h), Int.min_eq_right (Int.le_of_lt h)]
  · rw [if_neg (fun q => h ((i32_lt hy hx).mp q)), Int.min_eq_left (by omega)]
theorem i32_max {x y : Int} (hx : inR x) (hy : inR y) : (if Int32.ofInt x < Int32.ofInt y then Int32.ofInt y else Int32.ofInt x) = Int32.ofInt (max x y) := by
  by_cases h : x < y
  · rw [if_pos ((i32_lt hx hy).mpr h), Int.max_eq_right (Int.le_of_lt h)]
  · rw [if_neg (fun q => h ((i32_lt hx hy).mp q)), Int.max_eq_left (by omega)]
def zcat : V → Nat
  | .inr (.inr (.inl _)) => 2
  | _ => 1
theorem zc_zcat (base b : Nat) (v : V) : (zc base b v).category = zcat v := by rcases v with x | a | x | x <;> rfl
theorem zc_sum (base b : Nat) (stk : List V) : ((stk.map (zc base b)).map fun v => v.category).sum = (stk.map zcat).sum := by
  rw [List.map_map]
  congr 1
  apply List.map_congr_left
  intro v _
  exact zc_zcat base b v
variable {α : Type} {mi : MI} {enc : α → Option V} {FL : List LK → Prop} {lay : List LK} {nc ns pc : Nat} {lv : List (Nat × V)} {stk : List V} {h : Hp} {E E2 : O α}
theorem uw_nest {w : Cond} (i : Nat) (h : tables_1[i]? = some w) (hg : isNest w = true) : w ∈ NWs := List.mem_filter.mpr ⟨List.mem_append_right _ (List.mem_of_getElem? h), hg⟩
abbrev MM (own : String) (index : Nat) (y : MethodName) : Prop := Cond.methodLink own index y ∈ UW
theorem j_mmin {index : Nat} {x y : Int} (hd : decode mi.2.1 pc = .ok (.invokestatic index, 3)) (hl : MM mi.1.cls index Lib.Math.min.name) (h1 : Cond.static Lib.Math.min.name ∈ UW) (h2' : Cond.initialized "java/lang/Math" ∈ UW) (h3 : Cond.code Lib.Math.min.name Lib.Math.min.code 2 (some .int) ∈ UW)
    (hf : 1 ≤ mi.2.2.2.2.1) (hlo : (stk.map zcat).sum + 13 ≤ mi.2.2.2.2.2.1) (hc : nc ≤ mi.2.2.2.2.2.2.1) (hs : ns ≤ mi.2.2.2.2.2.2.2.1) (kk : J mi enc FL lay nc ns (pc + 3) lv (vi (min x y) :: stk) h E) : J mi enc FL lay nc ns pc lv (vi y :: vi x :: stk) h E := by
  intro p' l e R s m args below meth c D ci base b CC H locs ls r h2 hE S
  have hts := CC.2.2.2.2.1
  have hR := CC.2.2.2.2.2.2.2.2.2
  refine va_mmin CC.1 CC.2.1 (by rw [CC.2.2.1]; exact S.2.2.2.1.1.symm) CC.2.2.2.1 (hts _ hl) (hts _ h1) (hts _ h2') (hts _ h3) (by rw [hR.1]; exact hf) (by rw [hR.2.1, zc_sum]; exact hlo) (by rw [hR.2.2.1]; exact hc) (by rw [hR.2.2.2.1]; exact hs) hd ?_
  rw [i32_min S.top2 S.top]
  have hx : inR x := S.top2
  have hy : inR y := S.top
  exact kk p' l e R s m args below meth c D ci base b CC H locs _ r h2 hE (S.pop.pop.push (v := vi (min x y)) (by show inR _; rcases Int.le_total x y with q | q; (rw [Int.min_eq_left q]; exact hx); (rw [Int.min_eq_right q]; exact hy)))
theorem j_mmax {index : Nat} {x y : Int} (hd : decode mi.2.1 pc = .ok (.invokestatic index, 3)) (hl : MM mi.1.cls index Lib.Math.max.name) (h1 : Cond.static Lib.Math.max.name ∈ UW) (h2' : Cond.initialized "java/lang/Math" ∈ UW) (h3 : Cond.code Lib.Math.max.name Lib.Math.max.code 2 (some .int) ∈ UW)
    (hf : 1 ≤ mi.2.2.2.2.1) (hlo : (stk.map zcat).sum + 13 ≤ mi.2.2.2.2.2.1) (hc : nc ≤ mi.2.2.2.2.2.2.1) (hs : ns ≤ mi.2.2.2.2.2.2.2.1) (kk : J mi enc FL lay nc ns (pc + 3) lv (vi (max x y) :: stk) h E) : J mi enc FL lay nc ns pc lv (vi y :: vi x :: stk) h E := by
  intro p' l e R s m args below meth c D ci base b CC H locs ls r h2 hE S
  have hts := CC.2.2.2.2.1
  have hR := CC.2.2.2.2.2.2.2.2.2
  refine va_mmax CC.1 CC.2.1 (by rw [CC.2.2.1]; exact S.2.2.2.1.1.symm) CC.2.2.2.1 (hts _ hl) (hts _ h1) (hts _ h2') (hts _ h3) (by rw [hR.1]; exact hf) (by rw [hR.2.1, zc_sum]; exact hlo) (by rw [hR.2.2.1]; exact hc) (by rw [hR.2.2.2.1]; exact hs) hd ?_
  rw [i32_max S.top2 S.top]
  have hx : inR x := S.top2
  have hy : inR y := S.top
  exact kk p' l e R s m args below meth c D ci base b CC H locs _ r h2 hE (S.pop.pop.push (v := vi (max x y)) (by show inR _; rcases Int.le_total x y with q | q; (rw [Int.max_eq_right q]; exact hy); (rw [Int.max_eq_left q]; exact hx)))
/-- switches: a goal for each road -/
def zsw (mi : MI) (enc : α → Option V) (FL : List LK → Prop) (lay : List LK) (nc ns : Nat) (lv : List (Nat × V)) (stk : List V) (h : Hp) : List Nat → List (O α) → Prop
  | t :: ts, E :: Es => J mi enc FL lay nc ns t lv stk h E ∧ zsw mi enc FL lay nc ns lv stk h ts Es
  | [], [] => True
  | _, _ => False
theorem zsw_at : ∀ {ts : List Nat} {Es : List (O α)}, zsw mi enc FL lay nc ns lv stk h ts Es → ts.length = Es.length ∧ ∀ (i : Nat) (E : O α), Es[i]? = some E → ∃ t, ts[i]? = some t ∧ J mi enc FL lay nc ns t lv stk h E := by
  intro ts
  induction ts with
  | nil =>
    intro Es hz
    cases Es with
    | nil => exact ⟨rfl, fun i E hE => by simp at hE⟩
    | cons => exact hz.elim
  | cons t ts ih =>
    intro Es hz
    cases Es with
    | nil => exact hz.elim
    | cons E Es =>
      obtain ⟨h1, h2⟩ := ih hz.2
      refine ⟨by simp [h1], fun i F hF => ?_⟩
      cases i with
      | zero => simp at hF; subst hF; exact ⟨t, rfl, hz.1⟩
      | succ i => simp at hF; obtain ⟨u, hu, hj⟩ := h2 i F hF; exact ⟨u, by simpa using hu, hj⟩
theorem j_table {dflt lo hi : Int} {offs : Array Int} {len : Nat} {x : Int} (tgts : List Nat) (td : Nat) {Es : List (O α)} {Ed : O α} (hd : decode mi.2.1 pc = .ok (.tableswitch dflt lo hi offs, len)) (ho : offs.toList = tgts.map (fun (t : Nat) => (t : Int) - (pc : Int))) (hh : hi = lo + (tgts.length : Int) - 1) (htd : (pc : Int) + dflt = (td : Int))
    (kz : zsw mi enc FL lay nc ns lv stk h tgts Es) (kd : J mi enc FL lay nc ns td lv stk h Ed) : J mi enc FL lay nc ns pc lv (vi x :: stk) h (swt x lo Es Ed) := by
  intro p' l e R s m args below meth c D ci base b CC H locs ls r h2 hE S
  have hx : inR x := S.top
  obtain ⟨hlen, hall⟩ := zsw_at kz
  unfold swt at hE
  split at hE
  · rename_i hin
    have hlt : (x - lo).toNat < Es.length := by omega
    have hEs : Es[(x - lo).toNat]? = some (Es[(x - lo).toNat]) := List.getElem?_eq_getElem hlt
    obtain ⟨t, ht, hJ⟩ := hall _ _ hEs
    rw [List.getD_eq_getElem?_getD, hEs] at hE
    have hoff : offs[((Int32.ofInt x).toInt - lo).toNat]? = some ((t : Int) - (pc : Int)) := by
      rw [i32_toInt hx, ← Array.getElem?_toList, ho, List.getElem?_map, ht]
      rfl
    refine lv_tableIn (tgt := t) CC.1 CC.2.1 hd (by rw [i32_toInt hx]; omega) (by rw [i32_toInt hx]; omega) hoff (by omega) ?_
    exact hJ p' l e R s m args below meth c D ci base b CC H locs _ r h2 hE S.pop
  · rename_i hin
    refine lv_tableOut CC.1 CC.2.1 hd (by rw [i32_toInt hx]; omega) htd ?_
    exact kd p' l e R s m args below meth c D ci base b CC H locs _ r h2 hE S.pop
/-- the ends -/
theorem zpost_none {α : Type} {mi : MI} (hs : mi.2.2.2.2.2.2.2.2 = none) {enc : α → Option V} {FL : List LK → Prop} {D : va_G} {ci : zCI} {base b : Nat} {below : List Frame} {args : Array Value} {s : State} {r : α} {h' : Hp} : zpost mi enc FL D ci base b below args s r h' = MQ below (zQ enc FL D ci base b r h') args s mi.2.2.2.2.2.2.1 mi.2.2.2.2.2.2.2.1 (fun q => base ≤ q) := by
  unfold zpost
  rw [hs]
theorem j_retI {x : Int} {h0 : Hp} {mi : MI} {r : Int} {enc : Int → Option V} {E : O Int} (hE0 : E = some (x, h)) (henc : enc x = some (vi x)) (hs : mi.2.2.2.2.2.2.2.2 = none) (hd : decode mi.2.1 pc = .ok (.ireturn, 1)) (hr : mi.2.2.2.1 = some .int) (hc : nc ≤ mi.2.2.2.2.2.2.1 ∧ ns ≤ mi.2.2.2.2.2.2.2.1) (hFL : FL lay) : J mi enc FL lay nc ns pc lv [vi x] h E := by
  intro p' l e R s m args below meth c D ci base b CC H locs ls r h2 hE S
  rw [hE0] at hE
  cases hE
  rw [zpost_none hs]
  refine W.widen hc.1 hc.2 ?_
  exact W.iret (v := Int32.ofInt x) CC.1 CC.2.1 (by rw [CC.2.2.2.2.2.2.2.1]; exact hr) (fun t ht hW => ⟨⟨by rw [henc]; rfl, fun v hv => by rw [henc] at hv; cases hv; exact S.top, lay, hFL, by rw [ht]; exact S.2.2.2.2.1, S.2.2.1⟩, S.2.2.2.2.2.F ht⟩) S.2.2.2.2.2.2.2 hd CC.2.2.2.2.2.2.1
theorem j_retZ {x : Int} {mi : MI} {enc : Int → Option V} {E : O Int} (hE0 : E = bz x (some (x, h))) (henc : enc x = some (vi x)) (hs : mi.2.2.2.2.2.2.2.2 = none) (hd : decode mi.2.1 pc = .ok (.ireturn, 1)) (hr : mi.2.2.2.1 = some .boolean) (hc : nc ≤ mi.2.2.2.2.2.2.1 ∧ ns ≤ mi.2.2.2.2.2.2.2.1) (hFL : FL lay) : J mi enc FL lay nc ns pc lv [vi x] h E := by
  intro p' l e R s m args below meth c D ci base b CC H locs ls r h2 hE S
  rw [hE0] at hE
  obtain ⟨h01, hE⟩ := bz_some hE
  cases hE
  rw [zpost_none hs]
  refine W.widen hc.1 hc.2 ?_
  exact W.zret (ty := .boolean) (v := Int32.ofInt x) CC.1 CC.2.1 (by rw [CC.2.2.2.2.2.2.2.1]; exact hr) (by rcases h01 with rfl | rfl <;> rfl) (fun t ht hW => ⟨⟨by rw [henc]; rfl, fun v hv => by rw [henc] at hv; cases hv; exact S.top, lay, hFL, by rw [ht]; exact S.2.2.2.2.1, S.2.2.1⟩, S.2.2.2.2.2.F ht⟩) S.2.2.2.2.2.2.2 hd CC.2.2.2.2.2.2.1
theorem j_retL {x : Int} {mi : MI} {enc : Int → Option V} {E : O Int} (hE0 : E = some (x, h)) (henc : enc x = some (vl x)) (hs : mi.2.2.2.2.2.2.2.2 = none) (hd : decode mi.2.1 pc = .ok (.lreturn, 1)) (hr : mi.2.2.2.1 = some .long) (hc : nc ≤ mi.2.2.2.2.2.2.1 ∧ ns ≤ mi.2.2.2.2.2.2.2.1) (hFL : FL lay) : J mi enc FL lay nc ns pc lv [vl x] h E := by
  intro p' l e R s m args below meth c D ci base b CC H locs ls r h2 hE S
  rw [hE0] at hE
  cases hE
  rw [zpost_none hs]
  refine W.widen hc.1 hc.2 ?_
  exact W.lret (v := Int64.ofInt x) CC.1 CC.2.1 (by rw [CC.2.2.2.2.2.2.2.1]; exact hr) (fun t ht hW => ⟨⟨by rw [henc]; rfl, fun v hv => by rw [henc] at hv; cases hv; trivial, lay, hFL, by rw [ht]; exact S.2.2.2.2.1, S.2.2.1⟩, S.2.2.2.2.2.F ht⟩) S.2.2.2.2.2.2.2 hd CC.2.2.2.2.2.2.1
theorem j_retR {a : Nat} {mi : MI} {enc : Nat → Option V} {n : String} {E : O Nat} (hE0 : E = some (a, h)) (henc : enc a = some (vr a)) (hs : mi.2.2.2.2.2.2.2.2 = none) (hd : decode mi.2.1 pc = .ok (.areturn, 1)) (hr : mi.2.2.2.1 = some (.object n)) (hc : nc ≤ mi.2.2.2.2.2.2.1 ∧ ns ≤ mi.2.2.2.2.2.2.2.1) (hFL : FL lay) : J mi enc FL lay nc ns pc lv [vr a] h E := by
  intro p' l e R s m args below meth c D ci base b CC H locs ls r h2 hE S
  rw [hE0] at hE
  cases hE
  rw [zpost_none hs]
  refine W.widen hc.1 hc.2 ?_
  exact W.aret (v := .ref (base + a)) CC.1 CC.2.1 (by rw [CC.2.2.2.2.2.2.2.1]; exact hr) (Or.inl ⟨n, rfl⟩) (Or.inr ⟨_, rfl⟩) (fun t ht hW => ⟨⟨by rw [henc]; rfl, fun v hv => by rw [henc] at hv; cases hv; trivial, lay, hFL, by rw [ht]; exact S.2.2.2.2.1, S.2.2.1⟩, S.2.2.2.2.2.F ht⟩) S.2.2.2.2.2.2.2 hd CC.2.2.2.2.2.2.1
theorem j_retV {mi : MI} {enc : Unit → Option V} {E : O Unit} (hE0 : E = some ((), h)) (henc : enc () = none) (hs : mi.2.2.2.2.2.2.2.2 = none) (hd : decode mi.2.1 pc = .ok (.return_, 1)) (hr : mi.2.2.2.1 = none) (hc : nc ≤ mi.2.2.2.2.2.2.1 ∧ ns ≤ mi.2.2.2.2.2.2.2.1) (hFL : FL lay) : J mi enc FL lay nc ns pc lv [] h E := by
  intro p' l e R s m args below meth c D ci base b CC H locs ls r h2 hE S
  rw [hE0] at hE
  cases hE
  rw [zpost_none hs]
  refine W.widen hc.1 hc.2 ?_
  exact W.vret CC.1 CC.2.1 (by rw [CC.2.2.2.2.2.2.2.1]; exact hr) (fun t ht hW => ⟨⟨by rw [henc]; rfl, (fun v hv => by rw [henc] at hv; cases hv), lay, hFL, by rw [ht]; exact S.2.2.2.2.1, S.2.2.1⟩, S.2.2.2.2.2.F ht⟩) S.2.2.2.2.2.2.2 hd CC.2.2.2.2.2.2.1
/-- the law's own end: with 1; with anything else nothing is said -/
theorem j_retLaw {x : Int} {L : Nat} {xs : Nat → Int32} {mi : MI} {enc : Int → Option V} {E : O Int} (hE0 : E = some (x, h)) (henc : enc x = some (vi x)) (hs : mi.2.2.2.2.2.2.2.2 = some (L, xs)) (hd : decode code pc = .ok (.ireturn, 1)) (hc : nc ≤ 600000 ∧ ns ≤ 7302250) : J mi enc FL lay nc ns pc lv [vi x] h E := by
  intro p' l e R s m args below meth c D ci base b CC H locs ls r h2 hE S
  rw [hE0] at hE
  cases hE
  obtain ⟨-, -, hb, ha, hcode, hret, hR⟩ := CC.2.2.2.2.2.2.2.2.2.2.2.2.2.2 L xs hs
  unfold zpost
  rw [hs]
  by_cases hx : x = 1
  · subst hx
    subst ha
    subst hR
    refine va_forget (fun q hq => by have := S.2.2.2.2.2.2.2 q hq; omega) ?_
    refine W.widen hc.1 hc.2 ?_
    intro T hT X
    obtain ⟨t, h1, h3⟩ := lw_ret (l := l) CC.1 (CC.2.1.trans hcode) (CC.2.2.2.2.2.2.2.1.trans hret) CC.2.2.2.2.2.2.1 hd T hT X
    exact ⟨t, h1, fun _ => h3⟩
  · intro T hT X
    exact ⟨_, Steps.refl _, fun q => by rw [henc] at q; cases q; exact absurd rfl hx⟩
end CR
end
section
section ME
/-- what a method does, as a contract: it comes to its end with what E says -/
def CT {α : Type} (mi : MI) (enc : α → Option V) (FL : List LK → Prop) (lay : List LK) (avs : List V) (h : Hp) (E : O α) : Prop :=
  ∀ (l : Launch) (D : va_G) (ci : zCI) (base b : Nat) (r : α) (h' : Hp), E = some (r, h') →
    Met l mi.1 (.code mi.1 mi.2.1 mi.2.2.1 mi.2.2.2.1 :: UW) ({ frames := mi.2.2.2.2.1, cells := mi.2.2.2.2.2.2.1, slots := mi.2.2.2.2.2.2.2.1, locals := mi.2.2.2.2.2.1 } : Room) (va_Pc (avs.map (zc base b)) (fun U => RelH D ci base lay h U.heap ∧ KK D ci U ∧ InR lay h ∧ ∀ v ∈ avs, okV v)) (zQ enc FL D ci base b r h') mi.2.2.2.2.2.2.1 mi.2.2.2.2.2.2.2.1 (fun q => base ≤ q)
def zargs : Nat → List V → List (Nat × V)
  | _, [] => []
  | i, v :: vs => (i, v) :: zargs (i + zcat v) vs
theorem zargs_eq (base b : Nat) : ∀ (vs : List V) (i : Nat), lv_args i (vs.map (zc base b)) = (zargs i vs).map fun q => (q.1, zc base b q.2)
  | [], i => rfl
  | v :: vs, i => by
    show (i, zc base b v) :: lv_args (if (zc base b v).category = 2 then i + 2 else i + 1) (vs.map (zc base b)) = (i, zc base b v) :: (zargs (i + zcat v) vs).map _
    rw [zc_zcat, ← zargs_eq base b vs]
    congr 2
    rcases v with x | a | x | x <;> rfl
theorem zargs_mem : ∀ (vs : List V) (i : Nat) (q : Nat × V), q ∈ zargs i vs → q.2 ∈ vs
  | [], _, _, h => absurd h List.not_mem_nil
  | v :: vs, i, q, h => by
    rcases List.mem_cons.mp h with rfl | h
    · exact List.mem_cons_self
    · exact List.mem_cons_of_mem _ (zargs_mem vs _ q h)
theorem lg_len (base b : Nat) : ∀ vs : List V, (lg_sl (vs.map (zc base b))).length = (vs.map zcat).sum
  | [] => rfl
  | v :: vs => by
    have ih := lg_len base b vs
    unfold lg_sl at ih ⊢
    rw [List.map_cons, List.flatMap_cons, List.length_append, ih, List.map_cons, List.sum_cons]
    congr 1
    rw [zc_zcat]
    rcases v with x | a | x | x <;> rfl
/-- a method's words, once for all -/
def MV (mi : MI) (n : Nat) : Prop := Cond.code mi.1 mi.2.1 mi.2.2.1 mi.2.2.2.1 ∈ UW ∧ Cond.initialized mi.1.cls ∈ UW ∧ (mi.1.cls ≠ "java/lang/invoke/MethodHandle" ∧ mi.1.cls ≠ "java/lang/invoke/VarHandle") ∧ (parseMethodDescriptor mi.1.desc).map (fun d => d.parameters.length) = some n
theorem mv_good {mi : MI} {n : Nat} (h : MV mi n) : GoodIn UW (.code mi.1 mi.2.1 mi.2.2.1 mi.2.2.2.1 :: UW) := by
  intro w hw
  rcases List.mem_cons.mp hw with rfl | hw
  · exact uw_good _ h.1
  · exact uw_good _ hw
theorem CT.of {α : Type} {mi : MI} {enc : α → Option V} {FL : List LK → Prop} {lay : List LK} {avs : List V} {h : Hp} {E : O α} (hy : plainName mi.1.cls = true) (hs : mi.2.2.2.2.2.2.2.2 = none) (hl : (avs.map zcat).sum ≤ mi.2.2.1) (hJ : J mi enc FL lay 0 0 0 (zargs 0 avs) [] h E) : CT mi enc FL lay avs h E := by
  intro l D ci base b r h' hE
  refine Met.ofW (cc := mi.2.1) (maxL := mi.2.2.1) (ret := mi.2.2.2.1) hy rfl ?_
  intro p e s m args below meth c s₁ B hml hv
  obtain ⟨rfl, hP, hK, hR, hok⟩ := hv
  have hts := atoms_spec (ws := .code mi.1 mi.2.1 mi.2.2.1 mi.2.2.2.1 :: UW) B.pre
  have hbase : base ≤ s.heap.size := by rw [hP.1]; exact Nat.le_add_right _ _
  have hlv := lv_entry (avs.map (zc base b)) (n := mi.2.2.1) (by rw [lg_len]; exact hl)
  rw [lg_entry_eq]
  rw [zargs_eq base b avs 0] at hlv
  have C : CX mi p ({ frames := mi.2.2.2.2.1, cells := mi.2.2.2.2.2.2.1, slots := mi.2.2.2.2.2.2.2.1, locals := mi.2.2.2.2.2.1 } : Room) s m ((avs.map (zc base b)).toArray) meth c D ci base b :=
    ⟨B.exec, B.bytes, hml, findClass_of_methodNamed B.named, fun w hw => hts w (List.mem_cons_of_mem _ hw), hK, B.notSynchronized, B.returns, (name_of_methodNamed B.named B.method).1, rfl, rfl, rfl, rfl, hbase, fun L xs q => by rw [hs] at q; cases q⟩
  have hW := hJ p l e _ s m _ below meth c D ci base b C s.heap [] _ r h' hE ⟨fun q hq => hok _ (zargs_mem avs 0 q hq), (fun v hv => absurd hv List.not_mem_nil), hR, hlv, hP, va_S.rf⟩
  rw [zpost_none hs] at hW
  exact hW
section CALLS
variable {α : Type} {mi : MI} {enc : α → Option V} {FL : List LK → Prop} {lay : List LK} {nc ns pc : Nat} {lv : List (Nat × V)} {stk : List V} {h : Hp}
/-- behind a call that was run -/
theorem j_back {β : Type} {mi2 : MI} {enc2 : β → Option V} {FL2 : List LK → Prop} {E0 : O β} {K : β → Hp → O α}
    (kk : ∀ r h1 lay', FL2 lay' → E0 = some (r, h1) → J mi enc FL lay' (nc + mi2.2.2.2.2.2.2.1) (ns + mi2.2.2.2.2.2.2.2.1) (pc + 3) lv ((enc2 r).toList ++ stk) h1 (K r h1))
    {p : Program} {l : Launch} {e : Env} {R : Room} {s : State} {m : MethodId} {args : Array Value} {below : List Frame} {meth : Method} {c : Code} {D : va_G} {ci : zCI} {base b : Nat} (CC : CX mi p R s m args meth c D ci base b)
    {H : Heap} {locs : List Loc} {ls : Array Slot} {r : α} {h' : Hp} (hE : bd E0 K = some (r, h')) {stk0 : List V} (S : SX mi D ci base b s lay lv stk0 h H locs ls) (hsub : ∀ v ∈ stk, v ∈ stk0) {a : Array Value}
    (hrun : ∀ r0 h1, E0 = some (r0, h1) → va_Run p l e R s m args below meth c H locs nc ns mi2.2.2.2.2.2.2.1 mi2.2.2.2.2.2.2.2.1 (F0 m pc ls (stk0.map (zc base b))) (stk.map (zc base b)) (zQ enc2 FL2 D ci base b r0 h1 a) (fun q => base ≤ q)) :
    W p l e R s m args below meth c H locs nc ns (zpost mi enc FL D ci base b below args s r h') (F0 m pc ls (stk0.map (zc base b))) := by
  obtain ⟨r0, h1, hE0, hEK⟩ := bd_some hE
  intro T hT X
  obtain ⟨v, st₀, t, T', L, h0, X', hL, e1, e2, ⟨⟨hv, hov, layF, hFL, hRel, hIn⟩, hz, hk⟩, st⟩ := hrun r0 h1 hE0 T hT X
  have hv' : v = (enc2 r0).map (zc base b) := by cases hv; rfl
  subst hv'
  rw [h0] at hz hk
  have hRel' : RelH D ci base layF h1 T'.heap := by rw [e1]; exact hRel
  have hS2 : va_S (fun q => base ≤ q) s.heap T'.heap (locs ++ L) := ⟨Nat.le_trans S.2.2.2.2.2.1 (by rw [e1]; exact hz), fun q g1 g2 => by rw [e1, hk q (Nat.lt_of_lt_of_le g1 S.2.2.2.2.2.1) g2]; exact S.2.2.2.2.2.2.1 q g1 g2, fun q hq => by
      rcases List.mem_append.mp hq with g | g
      · exact S.2.2.2.2.2.2.2 q g
      · exact hL q g⟩
  have hst : ∀ w ∈ (enc2 r0).toList ++ stk, okV w := by
    intro w hw
    rcases List.mem_append.mp hw with g | g
    · exact hov w (by simpa using g)
    · exact S.2.1 w (hsub w g)
  have hW := kk r0 h1 layF hFL hE0 p l e R s m args below meth c D ci base b CC T'.heap (locs ++ L) ls r h' hEK ⟨S.1, hst, hIn, S.2.2.2.1, hRel', hS2⟩ T' rfl X'
  obtain ⟨t2, a1, b1⟩ := hW
  refine ⟨t2, st t2 ?_, b1⟩
  have hstk : ((enc2 r0).toList ++ stk).map (zc base b) = ((enc2 r0).map (zc base b)).toList ++ stk.map (zc base b) := by
    rw [List.map_append]
    cases enc2 r0 <;> rfl
  rw [hstk] at a1
  exact a1
theorem j_pre {mi2 : MI} {avs : List V} {D : va_G} {ci : zCI} {base b : Nat} {s : State} {ls : Array Slot} {locs : List Loc} {H : Heap} {stk0 : List V} (hK : KK D ci s) (S : SX mi D ci base b s lay lv stk0 h H locs ls) (hsub : ∀ v ∈ avs, v ∈ stk0) :
    PreS s H (va_Pc (avs.map (zc base b)) (fun U => RelH D ci base lay h U.heap ∧ KK D ci U ∧ InR lay h ∧ ∀ v ∈ avs, okV v)) (avs.map (zc base b)) :=
  ⟨fun a U g mk q => ⟨q.1, q.2.1, q.2.2.1.call, q.2.2.2⟩, fun U hU hW => ⟨rfl, by rw [hU]; exact S.2.2.2.2.1, hK.warm hW, S.2.2.1, fun v hv => S.2.1 v (hsub v hv)⟩⟩
theorem cx_fix {p : Program} {R : Room} {s : State} {m : MethodId} {args : Array Value} {meth : Method} {c : Code} {D : va_G} {ci : zCI} {base b : Nat} (CC : CX mi p R s m args meth c D ci base b) : CallFix p m c mi.2.1 mi.2.2.1 s args UW mi.1.cls := ⟨CC.1, CC.2.1, CC.2.2.1, CC.2.2.2.1, CC.2.2.2.2.1⟩
abbrev RoomOk (mi mi2 : MI) (nc ns : Nat) : Prop := (mi2.2.2.2.2.1 + 1 ≤ mi.2.2.2.2.1 ∧ 8 + (mi2.2.2.1 + 11) + mi2.2.2.2.2.2.1 ≤ mi.2.2.2.2.2.1) ∧ nc + mi2.2.2.2.2.2.2.1 ≤ mi.2.2.2.2.2.2.1 ∧ ns + mi2.2.2.2.2.2.2.2.1 ≤ mi.2.2.2.2.2.2.2.1
theorem j_callV {β : Type} {mi2 : MI} {enc2 : β → Option V} {FL2 : List LK → Prop} {E0 : O β} {K : β → Hp → O α} {index n t nn sd pr : Nat} {T : u_T} {N : Nat} {ty : Nat → FieldType} (avs : List V) (a : Nat) {stk0 : List V} (hd : decode mi.2.1 pc = .ok (.invokevirtual index, 3)) (hMV : MV mi2 n) (hi : Cond.instanceMethod mi2.1 ∈ UW) (hse : Cond.selects mi2.1.cls mi2.1 mi2.1 ∈ UW) (hl : MM mi.1.cls index mi2.1)
    (hk : lay[a]? = some (t + 4, nn, sd, pr)) (hZ : ZC t mi2.1.cls T N ty) (hCT : CT mi2 enc2 FL2 lay (vr a :: avs) h E0) (hn : avs.length = n) (hst : stk0 = avs.reverse ++ vr a :: stk) (hroom : RoomOk mi mi2 nc ns) (hW : (stk.map zcat).sum ≤ 8)
    (kk : ∀ r h1 lay', FL2 lay' → E0 = some (r, h1) → J mi enc FL lay' (nc + mi2.2.2.2.2.2.2.1) (ns + mi2.2.2.2.2.2.2.2.1) (pc + 3) lv ((enc2 r).toList ++ stk) h1 (K r h1)) : J mi enc FL lay nc ns pc lv stk0 h (bd E0 K) := by
  intro p l e R s m args below meth c D ci base b CC H locs ls r h2 hE S
  subst hst
  have hR := CC.2.2.2.2.2.2.2.2.2
  refine j_back (stk := stk) (mi2 := mi2) (a := (Value.ref (base + a) :: avs.map (zc base b)).toArray) kk CC hE S (fun v hv => List.mem_append_right _ (List.mem_cons_of_mem _ hv)) (fun r0 h1 hE0 => ?_)
  have hpre := j_pre (mi2 := mi2) (avs := vr a :: avs) CC.2.2.2.2.2.1 S (fun v hv => by
    rcases List.mem_cons.mp hv with rfl | hv
    · exact List.mem_append_right _ List.mem_cons_self
    · exact List.mem_append_left _ (List.mem_reverse.mpr hv))
  have hts := CC.2.2.2.2.1
  refine va_runV (C := mi2.1.cls) (As := avs.map (zc base b)) (b := base + a) (n := n) (ret := mi2.2.2.2.1) (cx_fix CC) (hCT l D ci base b r0 h1 hE0) ⟨callB_of n hts (mv_good hMV) rfl rfl rfl (hts _ hMV.2.1) (hts _ hl) ⟨hMV.2.2.1.1, hMV.2.2.1.2, hMV.2.2.2⟩ (by rw [hR.1, hR.2.1]; exact hroom.1), hts _ hi, hts _ hse⟩ ⟨hpre.1, va_recv CC.2.2.2.2.2.1.1 S.2.2.2.2.1.2 (ci := t) (q0 := a) hZ.1 (zw_at hk), hpre.2⟩ rfl (by rw [List.length_map]; exact hn) S.2.2.2.1.1 ?_ (lv_room (by rw [zc_sum]; exact hW)) hd (by rw [hR.2.2.1, hR.2.2.2.1]; exact hroom.2)
  show (avs.reverse ++ vr a :: stk).map (zc base b) = _
  rw [List.map_append, List.map_reverse]
  rfl
theorem j_callS {β : Type} {mi2 : MI} {enc2 : β → Option V} {FL2 : List LK → Prop} {E0 : O β} {K : β → Hp → O α} {index n : Nat} (avs : List V) {stk0 : List V} (hd : decode mi.2.1 pc = .ok (.invokestatic index, 3)) (hMV : MV mi2 n) (hi : Cond.static mi2.1 ∈ UW) (hl : MM mi.1.cls index mi2.1)
    (hCT : CT mi2 enc2 FL2 lay avs h E0) (hn : avs.length = n) (hst : stk0 = avs.reverse ++ stk) (hroom : RoomOk mi mi2 nc ns) (hW : (stk.map zcat).sum ≤ 8)
    (kk : ∀ r h1 lay', FL2 lay' → E0 = some (r, h1) → J mi enc FL lay' (nc + mi2.2.2.2.2.2.2.1) (ns + mi2.2.2.2.2.2.2.2.1) (pc + 3) lv ((enc2 r).toList ++ stk) h1 (K r h1)) : J mi enc FL lay nc ns pc lv stk0 h (bd E0 K) := by
  intro p l e R s m args below meth c D ci base b CC H locs ls r h2 hE S
  subst hst
  have hR := CC.2.2.2.2.2.2.2.2.2
  refine j_back (stk := stk) (mi2 := mi2) (a := (avs.map (zc base b)).toArray) kk CC hE S (fun v hv => List.mem_append_right _ hv) (fun r0 h1 hE0 => ?_)
  have hpre := j_pre (mi2 := mi2) (avs := avs) CC.2.2.2.2.2.1 S (fun v hv => List.mem_append_left _ (List.mem_reverse.mpr hv))
  have hts := CC.2.2.2.2.1
  refine va_runS (As := avs.map (zc base b)) (n := n) (ret := mi2.2.2.2.1) (cx_fix CC) (hCT l D ci base b r0 h1 hE0) ⟨callB_of n hts (mv_good hMV) rfl rfl rfl (hts _ hMV.2.1) (hts _ hl) ⟨hMV.2.2.1.1, hMV.2.2.1.2, hMV.2.2.2⟩ (by rw [hR.1, hR.2.1]; exact hroom.1), hts _ hi⟩ hpre rfl (by rw [List.length_map]; exact hn) S.2.2.2.1.1 ?_ (lv_room (by rw [zc_sum]; exact hW)) hd (by rw [hR.2.2.1, hR.2.2.2.1]; exact hroom.2)
  show (avs.reverse ++ stk).map (zc base b) = _
  rw [List.map_append, List.map_reverse]
/-- a nest mate's private static method -/
theorem j_callSN {β : Type} {mi2 : MI} {enc2 : β → Option V} {FL2 : List LK → Prop} {E0 : O β} {K : β → Hp → O α} {index n : Nat} {host : String} (avs : List V) {stk0 : List V} (hd : decode mi.2.1 pc = .ok (.invokestatic index, 3)) (hMV : MV mi2 n) (hi : Cond.static mi2.1 ∈ UW) (hl : Cond.methodLinkNest mi.1.cls index mi2.1 host ∈ NWs)
    (hCT : CT mi2 enc2 FL2 lay avs h E0) (hn : avs.length = n) (hst : stk0 = avs.reverse ++ stk) (hroom : RoomOk mi mi2 nc ns) (hW : (stk.map zcat).sum ≤ 8)
    (kk : ∀ r h1 lay', FL2 lay' → E0 = some (r, h1) → J mi enc FL lay' (nc + mi2.2.2.2.2.2.2.1) (ns + mi2.2.2.2.2.2.2.2.1) (pc + 3) lv ((enc2 r).toList ++ stk) h1 (K r h1)) : J mi enc FL lay nc ns pc lv stk0 h (bd E0 K) := by
  intro p l e R s m args below meth c D ci base b CC H locs ls r h2 hE S
  subst hst
  have hR := CC.2.2.2.2.2.2.2.2.2
  refine j_back (stk := stk) (mi2 := mi2) (a := (avs.map (zc base b)).toArray) kk CC hE S (fun v hv => List.mem_append_right _ hv) (fun r0 h1 hE0 => ?_)
  have hpre := j_pre (mi2 := mi2) (avs := avs) CC.2.2.2.2.2.1 S (fun v hv => List.mem_append_left _ (List.mem_reverse.mpr hv))
  have hts := CC.2.2.2.2.1
  refine va_runSN (As := avs.map (zc base b)) (n := n) (ret := mi2.2.2.2.1) (cx_fix CC) (hCT l D ci base b r0 h1 hE0) ⟨va_cnB n hts (mv_good hMV) rfl rfl rfl (CC.2.2.2.2.2.1.2 _ hl) (hts _ hMV.2.1) ⟨hMV.2.2.1.1, hMV.2.2.1.2, hMV.2.2.2⟩ (by rw [hR.1, hR.2.1]; exact hroom.1), hts _ hi, trivial⟩ hpre rfl (by rw [List.length_map]; exact hn) S.2.2.2.1.1 ?_ (lv_room (by rw [zc_sum]; exact hW)) hd (by rw [hR.2.2.1, hR.2.2.2.1]; exact hroom.2)
  show (avs.reverse ++ stk).map (zc base b) = _
  rw [List.map_append, List.map_reverse]
/-- a constructor -/
theorem j_callI {β : Type} {mi2 : MI} {enc2 : β → Option V} {FL2 : List LK → Prop} {E0 : O β} {K : β → Hp → O α} {index n : Nat} (avs : List V) (a : Nat) {stk0 : List V} (hd : decode mi.2.1 pc = .ok (.invokespecial index, 3)) (hMV : MV mi2 n) (hret : mi2.2.2.2.1 = none) (hi : Cond.instanceMethod mi2.1 ∈ UW) (hnm : mi2.1.name = "<init>") (hl : MM mi.1.cls index mi2.1)
    (hCT : CT mi2 enc2 FL2 lay (vr a :: avs) h E0) (hn : avs.length = n) (hst : stk0 = avs.reverse ++ vr a :: stk) (hroom : RoomOk mi mi2 nc ns) (hW : (stk.map zcat).sum ≤ 8)
    (kk : ∀ r h1 lay', FL2 lay' → E0 = some (r, h1) → J mi enc FL lay' (nc + mi2.2.2.2.2.2.2.1) (ns + mi2.2.2.2.2.2.2.2.1) (pc + 3) lv ((enc2 r).toList ++ stk) h1 (K r h1)) : J mi enc FL lay nc ns pc lv stk0 h (bd E0 K) := by
  intro p l e R s m args below meth c D ci base b CC H locs ls r h2 hE S
  subst hst
  have hR := CC.2.2.2.2.2.2.2.2.2
  refine j_back (stk := stk) (mi2 := mi2) (a := (Value.ref (base + a) :: avs.map (zc base b)).toArray) kk CC hE S (fun v hv => List.mem_append_right _ (List.mem_cons_of_mem _ hv)) (fun r0 h1 hE0 => ?_)
  have hpre := j_pre (mi2 := mi2) (avs := vr a :: avs) CC.2.2.2.2.2.1 S (fun v hv => by
    rcases List.mem_cons.mp hv with rfl | hv
    · exact List.mem_append_right _ List.mem_cons_self
    · exact List.mem_append_left _ (List.mem_reverse.mpr hv))
  have hts := CC.2.2.2.2.1
  have hCT' := hCT l D ci base b r0 h1 hE0
  have hMV' := hMV
  unfold MV at hMV'
  have hgood := mv_good hMV
  rw [hret] at hCT' hMV' hgood
  refine va_runI (As := avs.map (zc base b)) (b := base + a) (n := n) (cx_fix CC) hCT' ⟨callB_of n hts hgood rfl rfl rfl (hts _ hMV'.2.1) (hts _ hl) ⟨hMV'.2.2.1.1, hMV'.2.2.1.2, hMV'.2.2.2⟩ (by rw [hR.1, hR.2.1]; exact hroom.1), hnm, hts _ hi⟩ hpre rfl (by rw [List.length_map]; exact hn) S.2.2.2.1.1 ?_ (lv_room (by rw [zc_sum]; exact hW)) hd (by rw [hR.2.2.1, hR.2.2.2.1]; exact hroom.2)
  show (avs.reverse ++ vr a :: stk).map (zc base b) = _
  rw [List.map_append, List.map_reverse]
  rfl
theorem j_callIN {β : Type} {mi2 : MI} {enc2 : β → Option V} {FL2 : List LK → Prop} {E0 : O β} {K : β → Hp → O α} {index n : Nat} {host : String} (avs : List V) (a : Nat) {stk0 : List V} (hd : decode mi.2.1 pc = .ok (.invokespecial index, 3)) (hMV : MV mi2 n) (hret : mi2.2.2.2.1 = none) (hi : Cond.instanceMethod mi2.1 ∈ UW) (hnm : mi2.1.name = "<init>") (hl : Cond.methodLinkNest mi.1.cls index mi2.1 host ∈ NWs)
    (hCT : CT mi2 enc2 FL2 lay (vr a :: avs) h E0) (hn : avs.length = n) (hst : stk0 = avs.reverse ++ vr a :: stk) (hroom : RoomOk mi mi2 nc ns) (hW : (stk.map zcat).sum ≤ 8)
    (kk : ∀ r h1 lay', FL2 lay' → E0 = some (r, h1) → J mi enc FL lay' (nc + mi2.2.2.2.2.2.2.1) (ns + mi2.2.2.2.2.2.2.2.1) (pc + 3) lv ((enc2 r).toList ++ stk) h1 (K r h1)) : J mi enc FL lay nc ns pc lv stk0 h (bd E0 K) := by
  intro p l e R s m args below meth c D ci base b CC H locs ls r h2 hE S
  subst hst
  have hR := CC.2.2.2.2.2.2.2.2.2
  refine j_back (stk := stk) (mi2 := mi2) (a := (Value.ref (base + a) :: avs.map (zc base b)).toArray) kk CC hE S (fun v hv => List.mem_append_right _ (List.mem_cons_of_mem _ hv)) (fun r0 h1 hE0 => ?_)
  have hpre := j_pre (mi2 := mi2) (avs := vr a :: avs) CC.2.2.2.2.2.1 S (fun v hv => by
    rcases List.mem_cons.mp hv with rfl | hv
    · exact List.mem_append_right _ List.mem_cons_self
    · exact List.mem_append_left _ (List.mem_reverse.mpr hv))
  have hts := CC.2.2.2.2.1
  have hCT' := hCT l D ci base b r0 h1 hE0
  have hMV' := hMV
  unfold MV at hMV'
  have hgood := mv_good hMV
  rw [hret] at hCT' hMV' hgood
  refine va_runIN (As := avs.map (zc base b)) (b := base + a) (n := n) (cx_fix CC) hCT' ⟨va_cnB n hts hgood rfl rfl rfl (CC.2.2.2.2.2.1.2 _ hl) (hts _ hMV'.2.1) ⟨hMV'.2.2.1.1, hMV'.2.2.1.2, hMV'.2.2.2⟩ (by rw [hR.1, hR.2.1]; exact hroom.1), hnm, hts _ hi⟩ hpre rfl (by rw [List.length_map]; exact hn) S.2.2.2.1.1 ?_ (lv_room (by rw [zc_sum]; exact hW)) hd (by rw [hR.2.2.1, hR.2.2.2.1]; exact hroom.2)
  show (avs.reverse ++ vr a :: stk).map (zc base b) = _
  rw [List.map_append, List.map_reverse]
  rfl
end CALLS
end ME
end
section
section MR
abbrev encI : Int → Option V := fun x => some (vi x)
abbrev encL : Int → Option V := fun x => some (vl x)
abbrev encR : Nat → Option V := fun a => some (vr a)
abbrev encV : Unit → Option V := fun _ => none
/-- no cell is made -/
abbrev Same (lay : List LK) : List LK → Prop := fun l => l = lay
/-- a block of cells lies at a -/
def sub (lay : List LK) (a : Nat) (blk : List LK) : Prop := ∀ (i : Nat) (k : LK), blk[i]? = some k → lay[a + i]? = some k
theorem sub_drop {lay : List LK} {a : Nat} {blk blk' : List LK} (hs : sub lay a blk) (o : Nat) (he : (blk.drop o).take blk'.length = blk') {a' : Nat} (ha : a + o = a') : sub lay a' blk' := by
  intro i k hk
  subst ha
  rw [Nat.add_assoc]
  refine hs (o + i) k ?_
  rw [← he] at hk
  rw [List.getElem?_take] at hk
  split at hk
  · rwa [List.getElem?_drop] at hk
  · cases hk
abbrev blkDrawing : List LK := [(5, 0, 0, 7), (0, 12, 0, 0), (0, 16, 0, 0), (0, 16, 0, 0), (0, 16, 0, 0), (0, 16, 0, 0), (0, 16, 0, 0), (0, 16, 0, 0)]
abbrev blkHistory : List LK := [(6, 0, 0, 1), (2, 8, 8, 8)] ++ (blkDrawing ++ (blkDrawing ++ (blkDrawing ++ (blkDrawing ++ (blkDrawing ++ (blkDrawing ++ (blkDrawing ++ blkDrawing)))))))
abbrev blkReader : List LK := [(8, 0, 0, 2), (0, 80, 0, 0)] ++ blkDrawing
abbrev blkLanes : List LK := [(7, 0, 0, 12), (0, 16, 0, 0), (0, 16, 0, 0), (0, 16, 0, 0), (0, 16, 0, 0), (0, 16, 0, 0), (0, 12, 0, 0), (0, 12, 0, 0), (0, 16, 0, 0), (0, 16, 0, 0), (0, 16, 0, 0), (0, 16, 0, 0), (0, 16, 0, 0)]
abbrev blkBounds : List LK := [(4, 0, 0, 8), (3, 12, 0, 0), (0, 12, 0, 0), (0, 12, 0, 0), (0, 12, 0, 0), (0, 12, 0, 0), (0, 12, 0, 0), (0, 12, 0, 0), (0, 12, 0, 0), (0, 12, 0, 0), (0, 12, 0, 0), (0, 12, 0, 0), (0, 12, 0, 0), (0, 12, 0, 0), (0, 12, 0, 0), (1, 16, 0, 0), (1, 16, 0, 0), (0, 12, 0, 0), (0, 32, 0, 0), (0, 32, 0, 0), (0, 32, 0, 0)]
abbrev blkLines : List LK := [(9, 0, 0, 6)] ++ (blkDrawing ++ (blkHistory ++ (blkReader ++ (blkLanes ++ (blkLanes ++ blkBounds)))))
abbrev blkModel : List LK := [(10, 0, 0, 9), (0, 1120, 0, 0), (0, 80, 0, 0), (0, 16, 0, 0), (0, 16, 0, 0), (0, 16, 0, 0), (0, 16, 0, 0), (0, 16, 0, 0), (1, 16, 0, 0), (0, 144, 0, 0)]
theorem sub_hist {lay : List LK} {a : Nat} (hs : sub lay a blkHistory) {i : Int} (h0 : 0 ≤ i) (h1 : i < 8) {a' : Nat} (ha : a + 1 + 1 + 8 * i.toNat = a') : sub lay a' blkDrawing := by
  have hj : ∀ j : Nat, j < 8 → a + 1 + 1 + 8 * j = a' → sub lay a' blkDrawing := by
    intro j hj e
    match j, hj with
    | 0, _ => exact sub_drop hs 2 rfl (by omega)
    | 1, _ => exact sub_drop hs 10 rfl (by omega)
    | 2, _ => exact sub_drop hs 18 rfl (by omega)
    | 3, _ => exact sub_drop hs 26 rfl (by omega)
    | 4, _ => exact sub_drop hs 34 rfl (by omega)
    | 5, _ => exact sub_drop hs 42 rfl (by omega)
    | 6, _ => exact sub_drop hs 50 rfl (by omega)
    | 7, _ => exact sub_drop hs 58 rfl (by omega)
  exact hj i.toNat (by omega) ha
theorem sub_row {lay : List LK} {a : Nat} (hs : sub lay a blkBounds) {i : Int} (h0 : 0 ≤ i) (h1 : i < 12) {a' : Nat} (ha : a + 1 + 1 + i.toNat = a') : lay[a']? = some (0, 12, 0, 0) := by
  have hj : ∀ j : Nat, j < 12 → a + 1 + 1 + j = a' → lay[a']? = some (0, 12, 0, 0) := by
    intro j hj e
    subst e
    rw [Nat.add_assoc, Nat.add_assoc]
    refine hs (1 + (1 + j)) _ ?_
    match j, hj with
    | 0, _ => rfl
    | 1, _ => rfl
    | 2, _ => rfl
    | 3, _ => rfl
    | 4, _ => rfl
    | 5, _ => rfl
    | 6, _ => rfl
    | 7, _ => rfl
    | 8, _ => rfl
    | 9, _ => rfl
    | 10, _ => rfl
    | 11, _ => rfl
  exact hj i.toNat (by omega) ha
variable {α : Type} {mi : MI} {enc : α → Option V} {FL : List LK → Prop} {lay : List LK} {nc ns pc : Nat} {lv : List (Nat × V)} {stk : List V} {h : Hp}
theorem j_sub {lv' : List (Nat × V)} {E : O α} (is : List Nat) (hs : is.filterMap (fun i => lv[i]?) = lv') (k : J mi enc FL lay nc ns pc lv' stk h E) : J mi enc FL lay nc ns pc lv stk h E := by
  intro p l e R s m args below meth c D ci base b C H locs ls r h2 hE S
  have hm : ∀ q ∈ lv', q ∈ lv := by
    intro q hq
    rw [← hs] at hq
    obtain ⟨i, -, hi⟩ := List.mem_filterMap.mp hq
    exact List.mem_of_getElem? hi
  refine k p l e R s m args below meth c D ci base b C H locs _ r h2 hE (S.reLv (fun q hq => S.1 q (hm q hq)) ⟨S.2.2.2.1.1, S.2.2.2.1.2.1, fun q hq => ?_⟩)
  obtain ⟨q', hq', rfl⟩ := List.mem_map.mp hq
  exact S.2.2.2.1.2.2 _ (List.mem_map.mpr ⟨q', hm q' hq', rfl⟩)
theorem j_lay {lay' : List LK} {E : O α} (hl : lay' = lay) (k : J mi enc FL lay' nc ns pc lv stk h E) : J mi enc FL lay nc ns pc lv stk h E := hl ▸ k
theorem j_cnt {nc' ns' : Nat} {E : O α} (h1 : nc = nc') (h2 : ns = ns') (k : J mi enc FL lay nc' ns' pc lv stk h E) : J mi enc FL lay nc ns pc lv stk h E := by subst h1; subst h2; exact k
/-- calls of methods that make no cell -/
theorem j_cV {β : Type} {mi2 : MI} {enc2 : β → Option V} {E0 : O β} {K : β → Hp → O α} {index n t nn sd pr : Nat} {T : u_T} {N : Nat} {ty : Nat → FieldType} (avs : List V) (a : Nat) {stk0 : List V} (hd : decode mi.2.1 pc = .ok (.invokevirtual index, 3)) (hMV : MV mi2 n ∧ Cond.instanceMethod mi2.1 ∈ UW ∧ Cond.selects mi2.1.cls mi2.1 mi2.1 ∈ UW) (hl : MM mi.1.cls index mi2.1)
    (hk : lay[a]? = some (t + 4, nn, sd, pr)) (hZ : ZC t mi2.1.cls T N ty) (hCT : CT mi2 enc2 (Same lay) lay (vr a :: avs) h E0) (hn : avs.length = n) (hst : stk0 = avs.reverse ++ vr a :: stk) (hroom : RoomOk mi mi2 nc ns) (hW : (stk.map zcat).sum ≤ 8) (hmc : mi2.2.2.2.2.2.2.1 = 0) (hms : mi2.2.2.2.2.2.2.2.1 = 0)
    (kk : ∀ r h1, E0 = some (r, h1) → J mi enc FL lay nc ns (pc + 3) lv ((enc2 r).toList ++ stk) h1 (K r h1)) : J mi enc FL lay nc ns pc lv stk0 h (bd E0 K) :=
  j_callV (FL2 := Same lay) avs a hd hMV.1 hMV.2.1 hMV.2.2 hl hk hZ hCT hn hst hroom hW (fun r h1 lay' hL hE => by subst hL; exact j_cnt (by rw [hmc, Nat.add_zero]) (by rw [hms, Nat.add_zero]) (kk r h1 hE))
theorem j_cS {β : Type} {mi2 : MI} {enc2 : β → Option V} {E0 : O β} {K : β → Hp → O α} {index n : Nat} (avs : List V) {stk0 : List V} (hd : decode mi.2.1 pc = .ok (.invokestatic index, 3)) (hMV : MV mi2 n ∧ Cond.static mi2.1 ∈ UW) (hl : MM mi.1.cls index mi2.1)
    (hCT : CT mi2 enc2 (Same lay) lay avs h E0) (hn : avs.length = n) (hst : stk0 = avs.reverse ++ stk) (hroom : RoomOk mi mi2 nc ns) (hW : (stk.map zcat).sum ≤ 8) (hmc : mi2.2.2.2.2.2.2.1 = 0) (hms : mi2.2.2.2.2.2.2.2.1 = 0)
    (kk : ∀ r h1, E0 = some (r, h1) → J mi enc FL lay nc ns (pc + 3) lv ((enc2 r).toList ++ stk) h1 (K r h1)) : J mi enc FL lay nc ns pc lv stk0 h (bd E0 K) :=
  j_callS (FL2 := Same lay) avs hd hMV.1 hMV.2 hl hCT hn hst hroom hW (fun r h1 lay' hL hE => by subst hL; exact j_cnt (by rw [hmc, Nat.add_zero]) (by rw [hms, Nat.add_zero]) (kk r h1 hE))
theorem j_cSN {β : Type} {mi2 : MI} {enc2 : β → Option V} {E0 : O β} {K : β → Hp → O α} {index n : Nat} {host : String} (avs : List V) {stk0 : List V} (hd : decode mi.2.1 pc = .ok (.invokestatic index, 3)) (hMV : MV mi2 n ∧ Cond.static mi2.1 ∈ UW) (hl : Cond.methodLinkNest mi.1.cls index mi2.1 host ∈ NWs)
    (hCT : CT mi2 enc2 (Same lay) lay avs h E0) (hn : avs.length = n) (hst : stk0 = avs.reverse ++ stk) (hroom : RoomOk mi mi2 nc ns) (hW : (stk.map zcat).sum ≤ 8) (hmc : mi2.2.2.2.2.2.2.1 = 0) (hms : mi2.2.2.2.2.2.2.2.1 = 0)
    (kk : ∀ r h1, E0 = some (r, h1) → J mi enc FL lay nc ns (pc + 3) lv ((enc2 r).toList ++ stk) h1 (K r h1)) : J mi enc FL lay nc ns pc lv stk0 h (bd E0 K) :=
  j_callSN (FL2 := Same lay) avs hd hMV.1 hMV.2 hl hCT hn hst hroom hW (fun r h1 lay' hL hE => by subst hL; exact j_cnt (by rw [hmc, Nat.add_zero]) (by rw [hms, Nat.add_zero]) (kk r h1 hE))
/-- loops -/
theorem j_iter0 {F : (Hp → O α) → Hp → O α} (hF : ∀ k : Hp → O α, (∀ h, J mi enc FL lay nc ns pc lv stk h (k h)) → ∀ h, J mi enc FL lay nc ns pc lv stk h (F k h)) : ∀ (n : Nat) (h : Hp), J mi enc FL lay nc ns pc lv stk h (iter0 F n h)
  | 0, h => fun _ _ _ _ _ _ _ _ _ _ _ _ _ _ _ _ _ _ _ _ hE => by cases hE
  | n + 1, h => hF _ (j_iter0 hF n) h
theorem j_iter1 {lf : Int → List (Nat × V)} {F : (Int → Hp → O α) → Int → Hp → O α} (hF : ∀ k : Int → Hp → O α, (∀ x h, J mi enc FL lay nc ns pc (lf x) stk h (k x h)) → ∀ x h, J mi enc FL lay nc ns pc (lf x) stk h (F k x h)) : ∀ (n : Nat) (x : Int) (h : Hp), J mi enc FL lay nc ns pc (lf x) stk h (iter1 F n x h)
  | 0, x, h => fun _ _ _ _ _ _ _ _ _ _ _ _ _ _ _ _ _ _ _ _ hE => by cases hE
  | n + 1, x, h => hF _ (j_iter1 hF n) x h
theorem j_iter2 {lf : Int → Int → List (Nat × V)} {F : (Int → Int → Hp → O α) → Int → Int → Hp → O α} (hF : ∀ k : Int → Int → Hp → O α, (∀ x y h, J mi enc FL lay nc ns pc (lf x y) stk h (k x y h)) → ∀ x y h, J mi enc FL lay nc ns pc (lf x y) stk h (F k x y h)) : ∀ (n : Nat) (x y : Int) (h : Hp), J mi enc FL lay nc ns pc (lf x y) stk h (iter2 F n x y h)
  | 0, x, y, h => fun _ _ _ _ _ _ _ _ _ _ _ _ _ _ _ _ _ _ _ _ hE => by cases hE
  | n + 1, x, y, h => hF _ (j_iter2 hF n) x y h
theorem j_iter3 {lf : Int → Int → Int → List (Nat × V)} {F : (Int → Int → Int → Hp → O α) → Int → Int → Int → Hp → O α} (hF : ∀ k : Int → Int → Int → Hp → O α, (∀ x y z h, J mi enc FL lay nc ns pc (lf x y z) stk h (k x y z h)) → ∀ x y z h, J mi enc FL lay nc ns pc (lf x y z) stk h (F k x y z h)) : ∀ (n : Nat) (x y z : Int) (h : Hp), J mi enc FL lay nc ns pc (lf x y z) stk h (iter3 F n x y z h)
  | 0, x, y, z, h => fun _ _ _ _ _ _ _ _ _ _ _ _ _ _ _ _ _ _ _ _ hE => by cases hE
  | n + 1, x, y, z, h => hF _ (j_iter3 hF n) x y z h
theorem j_iter4 {lf : Int → Int → Int → Int → List (Nat × V)} {F : (Int → Int → Int → Int → Hp → O α) → Int → Int → Int → Int → Hp → O α} (hF : ∀ k : Int → Int → Int → Int → Hp → O α, (∀ x y z w h, J mi enc FL lay nc ns pc (lf x y z w) stk h (k x y z w h)) → ∀ x y z w h, J mi enc FL lay nc ns pc (lf x y z w) stk h (F k x y z w h)) : ∀ (n : Nat) (x y z w : Int) (h : Hp), J mi enc FL lay nc ns pc (lf x y z w) stk h (iter4 F n x y z w h)
  | 0, x, y, z, w, h => fun _ _ _ _ _ _ _ _ _ _ _ _ _ _ _ _ _ _ _ _ hE => by cases hE
  | n + 1, x, y, z, w, h => hF _ (j_iter4 hF n) x y z w h
theorem j_iter5 {lf : Int → Int → Int → Int → Int → List (Nat × V)} {F : (Int → Int → Int → Int → Int → Hp → O α) → Int → Int → Int → Int → Int → Hp → O α} (hF : ∀ k : Int → Int → Int → Int → Int → Hp → O α, (∀ x y z w u h, J mi enc FL lay nc ns pc (lf x y z w u) stk h (k x y z w u h)) → ∀ x y z w u h, J mi enc FL lay nc ns pc (lf x y z w u) stk h (F k x y z w u h)) : ∀ (n : Nat) (x y z w u : Int) (h : Hp), J mi enc FL lay nc ns pc (lf x y z w u) stk h (iter5 F n x y z w u h)
  | 0, x, y, z, w, u, h => fun _ _ _ _ _ _ _ _ _ _ _ _ _ _ _ _ _ _ _ _ hE => by cases hE
  | n + 1, x, y, z, w, u, h => hF _ (j_iter5 hF n) x y z w u h
end MR
end
section
section CP
variable {α : Type} {mi : MI} {enc : α → Option V} {FL : List LK → Prop} {lay : List LK} {nc ns pc : Nat} {lv : List (Nat × V)} {stk : List V} {h : Hp}
theorem j_copy {index a0 a n0 n1 st0 st1 p0 p1 : Nat} {n : Int} {K : Hp → O α} (hd : decode mi.2.1 pc = .ok (.invokestatic index, 3)) (hl : MM mi.1.cls index arraycopyName) (w1 : Cond.native arraycopyName ∈ UW) (w2 : Cond.static arraycopyName ∈ UW) (w3 : Cond.initialized "java/lang/System" ∈ UW)
    (hk0 : lay[a0]? = some (0, n0, st0, p0)) (hk1 : lay[a]? = some (0, n1, st1, p1)) (hn0 : 0 ≤ n) (hn1 : n ≤ n0) (hn2 : n ≤ n1) (hf : 1 ≤ mi.2.2.2.2.1) (hlo : (stk.map zcat).sum + (nativeFrameWords "java/lang/System" "arraycopy" 5 + 11) ≤ mi.2.2.2.2.2.1)
    (kk : ∀ h1, h1 = hcp h a0 a n → J mi enc FL lay nc ns (pc + 3) lv stk h1 (K h1)) : J mi enc FL lay nc ns pc lv (vi n :: vi 0 :: vr a :: vi 0 :: vr a0 :: stk) h (lt (hcp h a0 a n) K) := by
  intro p l e R s m args below meth c D ci base b CC H locs ls r h2 hE S
  have hR := CC.2.2.2.2.2.2.2.2.2
  have hts := CC.2.2.2.2.1
  have hnr : inR n := S.top
  have hc0 := S.2.2.2.2.1.2 a0 _ (zw_at hk0)
  have hc1 := S.2.2.2.2.1.2 a _ (zw_at hk1)
  have hc0' : H[base + a0]? = some (vp_cell ci.1 (n0, .inl (fun j => Int32.ofInt (h a0 j)))) := hc0
  have hc1' : H[base + a]? = some (vp_cell ci.1 (n1, .inl (fun j => Int32.ofInt (h a j)))) := hc1
  obtain ⟨-, k0, hk0', cm0, hkk0⟩ := (CC.2.2.2.2.2.1.arr 0 rfl).1 n0 (fun j => .int (Int32.ofInt (h a0 j)))
  obtain ⟨-, k1, hk1', cm1, hkk1⟩ := (CC.2.2.2.2.2.1.arr 0 rfl).1 n1 (fun j => .int (Int32.ofInt (h a j)))
  have z0 : ¬ Int32.ofInt 0 < 0 := by decide
  have z1 : ¬ Int32.ofInt n < 0 := fun q => by have := (i32_lt hnr inR0).mp q; omega
  have e0 : (Int32.ofInt 0).toInt = 0 := rfl
  have en : (Int32.ofInt n).toInt = n := i32_toInt hnr
  intro T hT X
  obtain ⟨vm', X', step⟩ := X.arraycopy CC.1 CC.2.2.2.1 (hts _ hl) (hts _ w1) (hts _ w2) (hts _ w3) (src := base + a0) (dst := base + a) (cs := vp_cell ci.1 (n0, .inl (fun j => Int32.ofInt (h a0 j)))) (cd := vp_cell ci.1 (n1, .inl (fun j => Int32.ofInt (h a j)))) (srcPos := Int32.ofInt 0) (destPos := Int32.ofInt 0) (n := Int32.ofInt n) (by rw [hT]; exact hc0') (by rw [hT]; exact hc1')
    (fun _ h => by cases h) (fun _ h => by cases h) (fun h => by cases h) (fun h => by cases h) hk0' hk1' hkk0 hkk1 (by simp [refKind]) z0 z0 z1
    (by rw [e0, en]; show ¬ _ > ((arrV ci.1 n0 (fun j => .int (Int32.ofInt (h a0 j)))).slots.size : Int); rw [arrV_size]; omega)
    (by rw [e0, en]; show ¬ _ > ((arrV ci.1 n1 (fun j => .int (Int32.ofInt (h a j)))).slots.size : Int); rw [arrV_size]; omega)
    (fun vm₁ _ i hi => by
      have hi' : i < n0 := by rw [i32_cl hnr] at hi; omega
      have e : (vp_cell ci.1 (n0, .inl (fun j => Int32.ofInt (h a0 j)))).slots.getD ((Int32.ofInt 0).toNatClampNeg + i) .null = .int (Int32.ofInt (h a0 i)) := by
        show (arrV ci.1 n0 (fun j => .int (Int32.ofInt (h a0 j)))).slots.getD (0 + i) _ = _
        rw [Nat.zero_add, Array.getD_eq_getD_getElem?, arrV_read _ _ hi']
        rfl
      refine ⟨?_, ?_⟩
      · rw [e]
        rfl
      · rw [e]
        exact trivial)
    (g := F0 m pc ls (.int (Int32.ofInt n) :: .int (Int32.ofInt 0) :: .ref (base + a) :: .int (Int32.ofInt 0) :: .ref (base + a0) :: stk.map (zc base b))) rfl (by rw [CC.2.2.1]; exact S.2.2.2.1.1) (rest := stk.map (zc base b)) rfl (by rw [CC.2.1]; exact hd) (by rw [hR.1]; exact hf) (by rw [hR.2.1]; show 2 * 0 + _ + _ ≤ _; rw [zc_sum]; omega)
  have e1 : copied (vp_cell ci.1 (n0, .inl (fun j => Int32.ofInt (h a0 j)))) (vp_cell ci.1 (n1, .inl (fun j => Int32.ofInt (h a j)))) (Int32.ofInt 0) (Int32.ofInt 0) (Int32.ofInt n) = vp_cell ci.1 (n1, .inl (fun j => Int32.ofInt (hcp h a0 a n a j))) := by
    have e2 := va_copied (fun z => Value.int z) ci.1 ci.1 (n1 := n1) (dp := (Int32.ofInt 0).toNatClampNeg) (fun j => Int32.ofInt (h a0 j)) (fun j => Int32.ofInt (h a j)) (sp := (Int32.ofInt 0).toNatClampNeg) (n := (Int32.ofInt n).toNatClampNeg) (n0 := n0) (by rw [i32_cl hnr]; show 0 + _ ≤ _; omega)
    refine e2.trans ?_
    rw [vp_cell_i]
    congr 1
    funext j
    congr 1
    show va_cpy _ _ 0 0 (Int32.ofInt n).toNatClampNeg j = _
    rw [i32_cl hnr]
    unfold va_cpy hcp
    by_cases hj : j < n.toNat
    · rw [if_pos ⟨Nat.zero_le _, by omega⟩, if_pos ⟨rfl, by omega, by omega⟩]
      simp
    · rw [if_neg (fun q => hj (by omega)), if_neg (fun q => hj (by omega))]
  rw [e1] at X' step
  have hlt : base + a < H.size := (Array.getElem?_eq_some_iff.mp hc1').1
  have hheap : ((T.setVm vm').setCell (base + a) (vp_cell ci.1 (n1, .inl (fun j => Int32.ofInt (hcp h a0 a n a j))))).heap = H.setIfInBounds (base + a) (vp_cell ci.1 (n1, .inl (fun j => Int32.ofInt (hcp h a0 a n a j)))) := by rw [← hT]; rfl
  have oq : ∀ q : Nat, q ≠ base + a → (H.setIfInBounds (base + a) (vp_cell ci.1 (n1, .inl (fun j => Int32.ofInt (hcp h a0 a n a j)))))[q]? = H[q]? := fun q hq => by simp [Array.getElem?_setIfInBounds, Ne.symm hq]
  have hRel : RelH D ci base lay (hcp h a0 a n) (H.setIfInBounds (base + a) (vp_cell ci.1 (n1, .inl (fun j => Int32.ofInt (hcp h a0 a n a j))))) :=
    RelH.upd S.2.2.2.2.1 hk1 (by simp) oq (show (H.setIfInBounds (base + a) _)[base + a]? = some _ by simp [Array.getElem?_setIfInBounds, hlt]) (fun j hj => by
      funext x
      unfold hcp
      rw [if_neg (fun q => hj q.1)])
  have hIn : InR lay (hcp h a0 a n) := by
    intro c2 k2 j hk2 hj
    unfold hcp
    split
    · exact S.2.2.1 a0 _ _ hk0 (Or.inl (show 0 < 4 by decide))
    · exact S.2.2.1 c2 k2 j hk2 hj
  have hS5 := S.2.2.2.2.2
  obtain ⟨t, a1, b1⟩ := kk _ rfl p l e R s m args below meth c D ci base b CC _ _ ls r h2 hE (S.pop.pop.pop.pop.pop.heap hIn hRel ⟨by simp; exact hS5.1, fun q g1 g2 => by
      rw [oq q (fun e => g2 (by omega))]
      exact hS5.2.1 q g1 g2, fun q hq => by
      rcases List.mem_append.mp hq with g | g
      · exact hS5.2.2 q g
      · obtain ⟨z, -, hz⟩ := List.mem_map.mp g
        rw [← hz]
        exact Nat.le_add_right _ _⟩) _ hheap X'
  exact ⟨t, step t a1, b1⟩
end CP
end
