-- ===== PART A: goes FIRST, ahead of the names: the tables' words, and 'selects' of the private methods out of them =====
/-- a private method of a class that the tables say can be made, by its rows of tables_1 -/
def lw_okq (q : MethodName × Nat) : Prop := (q.1.cls ≠ "java/lang/invoke/MethodHandle" ∧ q.1.cls ≠ "java/lang/invoke/VarHandle") ∧ Cond.instantiable q.1.cls q.2 ∈ tables_1 ∧ Cond.privateMethod q.1 ∈ tables_1 ∧ Cond.instanceMethod q.1 ∈ tables_1
theorem lw_p0 : lw_okq (⟨"ColdPanes$History", "dropOldest", "()V"⟩, 2) := ⟨⟨by decide +kernel, by decide +kernel⟩, List.mem_of_getElem? (i := 80) (by decide +kernel), List.mem_of_getElem? (i := 202) (by decide +kernel), List.mem_of_getElem? (i := 203) (by decide +kernel)⟩
theorem lw_p1 : lw_okq (⟨"ColdPanes$History", "stateAt", "(I)LColdPanes$Pane;"⟩, 2) := ⟨⟨by decide +kernel, by decide +kernel⟩, List.mem_of_getElem? (i := 80) (by decide +kernel), List.mem_of_getElem? (i := 206) (by decide +kernel), List.mem_of_getElem? (i := 207) (by decide +kernel)⟩
theorem lw_p2 : lw_okq (⟨"ColdPanes$Pane", "moveFurnace", "()V"⟩, 12) := ⟨⟨by decide +kernel, by decide +kernel⟩, List.mem_of_getElem? (i := 21) (by decide +kernel), List.mem_of_getElem? (i := 238) (by decide +kernel), List.mem_of_getElem? (i := 239) (by decide +kernel)⟩
theorem lw_p3 : lw_okq (⟨"ColdPanes$Pane", "flowOverJoints", "()V"⟩, 12) := ⟨⟨by decide +kernel, by decide +kernel⟩, List.mem_of_getElem? (i := 21) (by decide +kernel), List.mem_of_getElem? (i := 248) (by decide +kernel), List.mem_of_getElem? (i := 249) (by decide +kernel)⟩
theorem lw_p4 : lw_okq (⟨"ColdPanes$Pane", "gain", "(II)V"⟩, 12) := ⟨⟨by decide +kernel, by decide +kernel⟩, List.mem_of_getElem? (i := 21) (by decide +kernel), List.mem_of_getElem? (i := 266) (by decide +kernel), List.mem_of_getElem? (i := 267) (by decide +kernel)⟩
theorem lw_p5 : lw_okq (⟨"ColdPanes$Pane", "flowAtRim", "()V"⟩, 12) := ⟨⟨by decide +kernel, by decide +kernel⟩, List.mem_of_getElem? (i := 21) (by decide +kernel), List.mem_of_getElem? (i := 273) (by decide +kernel), List.mem_of_getElem? (i := 274) (by decide +kernel)⟩
theorem lw_p6 : lw_okq (⟨"ColdPanes$Pane", "mostStrained", "()I"⟩, 12) := ⟨⟨by decide +kernel, by decide +kernel⟩, List.mem_of_getElem? (i := 21) (by decide +kernel), List.mem_of_getElem? (i := 284) (by decide +kernel), List.mem_of_getElem? (i := 285) (by decide +kernel)⟩
theorem lw_p7 : lw_okq (⟨"ColdPanes$Pane", "weakenBeside", "(I)V"⟩, 12) := ⟨⟨by decide +kernel, by decide +kernel⟩, List.mem_of_getElem? (i := 21) (by decide +kernel), List.mem_of_getElem? (i := 306) (by decide +kernel), List.mem_of_getElem? (i := 307) (by decide +kernel)⟩
theorem lw_p8 : lw_okq (⟨"ColdPanes$Pad", "reads", "(C)Z"⟩, 8) := ⟨⟨by decide +kernel, by decide +kernel⟩, List.mem_of_getElem? (i := 97) (by decide +kernel), List.mem_of_getElem? (i := 374) (by decide +kernel), List.mem_of_getElem? (i := 375) (by decide +kernel)⟩
theorem lw_p9 : lw_okq (⟨"ColdPanes$Pad", "readsDigit", "(I)Z"⟩, 8) := ⟨⟨by decide +kernel, by decide +kernel⟩, List.mem_of_getElem? (i := 97) (by decide +kernel), List.mem_of_getElem? (i := 378) (by decide +kernel), List.mem_of_getElem? (i := 379) (by decide +kernel)⟩
theorem lw_p10 : lw_okq (⟨"ColdPanes$Pad", "leastOfPart", "()I"⟩, 8) := ⟨⟨by decide +kernel, by decide +kernel⟩, List.mem_of_getElem? (i := 97) (by decide +kernel), List.mem_of_getElem? (i := 382) (by decide +kernel), List.mem_of_getElem? (i := 383) (by decide +kernel)⟩
theorem lw_p11 : lw_okq (⟨"ColdPanes$Pad", "mostOfPart", "()I"⟩, 8) := ⟨⟨by decide +kernel, by decide +kernel⟩, List.mem_of_getElem? (i := 97) (by decide +kernel), List.mem_of_getElem? (i := 386) (by decide +kernel), List.mem_of_getElem? (i := 387) (by decide +kernel)⟩
theorem lw_p12 : lw_okq (⟨"ColdPanes$Pad", "readsHold", "(C)Z"⟩, 8) := ⟨⟨by decide +kernel, by decide +kernel⟩, List.mem_of_getElem? (i := 97) (by decide +kernel), List.mem_of_getElem? (i := 390) (by decide +kernel), List.mem_of_getElem? (i := 391) (by decide +kernel)⟩
theorem lw_p13 : lw_okq (⟨"ColdPanes$Pad", "keepIn", "([II)V"⟩, 8) := ⟨⟨by decide +kernel, by decide +kernel⟩, List.mem_of_getElem? (i := 97) (by decide +kernel), List.mem_of_getElem? (i := 394) (by decide +kernel), List.mem_of_getElem? (i := 395) (by decide +kernel)⟩
theorem lw_p14 : lw_okq (⟨"ColdPanes$Pad", "endOfPart", "()C"⟩, 8) := ⟨⟨by decide +kernel, by decide +kernel⟩, List.mem_of_getElem? (i := 97) (by decide +kernel), List.mem_of_getElem? (i := 398) (by decide +kernel), List.mem_of_getElem? (i := 399) (by decide +kernel)⟩
theorem lw_p15 : lw_okq (⟨"ColdPanes$Pad", "endNumber", "()V"⟩, 8) := ⟨⟨by decide +kernel, by decide +kernel⟩, List.mem_of_getElem? (i := 97) (by decide +kernel), List.mem_of_getElem? (i := 402) (by decide +kernel), List.mem_of_getElem? (i := 403) (by decide +kernel)⟩
def lw_privs_1 : List (MethodName × Nat) := [(⟨"ColdPanes$History", "dropOldest", "()V"⟩, 2), (⟨"ColdPanes$History", "stateAt", "(I)LColdPanes$Pane;"⟩, 2), (⟨"ColdPanes$Pane", "moveFurnace", "()V"⟩, 12), (⟨"ColdPanes$Pane", "flowOverJoints", "()V"⟩, 12), (⟨"ColdPanes$Pane", "gain", "(II)V"⟩, 12), (⟨"ColdPanes$Pane", "flowAtRim", "()V"⟩, 12), (⟨"ColdPanes$Pane", "mostStrained", "()I"⟩, 12), (⟨"ColdPanes$Pane", "weakenBeside", "(I)V"⟩, 12), (⟨"ColdPanes$Pad", "reads", "(C)Z"⟩, 8), (⟨"ColdPanes$Pad", "readsDigit", "(I)Z"⟩, 8), (⟨"ColdPanes$Pad", "leastOfPart", "()I"⟩, 8), (⟨"ColdPanes$Pad", "mostOfPart", "()I"⟩, 8), (⟨"ColdPanes$Pad", "readsHold", "(C)Z"⟩, 8), (⟨"ColdPanes$Pad", "keepIn", "([II)V"⟩, 8), (⟨"ColdPanes$Pad", "endOfPart", "()C"⟩, 8), (⟨"ColdPanes$Pad", "endNumber", "()V"⟩, 8)]
theorem lw_r1 : ∀ q ∈ lw_privs_1, lw_okq q := List.forall_mem_cons.mpr ⟨lw_p0, List.forall_mem_cons.mpr ⟨lw_p1, List.forall_mem_cons.mpr ⟨lw_p2, List.forall_mem_cons.mpr ⟨lw_p3, List.forall_mem_cons.mpr ⟨lw_p4, List.forall_mem_cons.mpr ⟨lw_p5, List.forall_mem_cons.mpr ⟨lw_p6, List.forall_mem_cons.mpr ⟨lw_p7, List.forall_mem_cons.mpr ⟨lw_p8, List.forall_mem_cons.mpr ⟨lw_p9, List.forall_mem_cons.mpr ⟨lw_p10, List.forall_mem_cons.mpr ⟨lw_p11, List.forall_mem_cons.mpr ⟨lw_p12, List.forall_mem_cons.mpr ⟨lw_p13, List.forall_mem_cons.mpr ⟨lw_p14, List.forall_mem_cons.mpr ⟨lw_p15, fun _ h => absurd h List.not_mem_nil⟩⟩⟩⟩⟩⟩⟩⟩⟩⟩⟩⟩⟩⟩⟩⟩
theorem lw_p16 : lw_okq (⟨"ColdPanes$Pieces", "spreadFrom", "(LColdPanes$Pane;I)V"⟩, 3) := ⟨⟨by decide +kernel, by decide +kernel⟩, List.mem_of_getElem? (i := 131) (by decide +kernel), List.mem_of_getElem? (i := 435) (by decide +kernel), List.mem_of_getElem? (i := 436) (by decide +kernel)⟩
theorem lw_p17 : lw_okq (⟨"ColdPanes$Pieces", "reach", "(II)V"⟩, 3) := ⟨⟨by decide +kernel, by decide +kernel⟩, List.mem_of_getElem? (i := 131) (by decide +kernel), List.mem_of_getElem? (i := 439) (by decide +kernel), List.mem_of_getElem? (i := 440) (by decide +kernel)⟩
theorem lw_p18 : lw_okq (⟨"ColdPanes$Pane", "placeOf", "(I)I"⟩, 12) := ⟨⟨by decide +kernel, by decide +kernel⟩, List.mem_of_getElem? (i := 21) (by decide +kernel), List.mem_of_getElem? (i := 489) (by decide +kernel), List.mem_of_getElem? (i := 490) (by decide +kernel)⟩
theorem lw_p19 : lw_okq (⟨"ColdPanes$Pieces", "join", "(II)Z"⟩, 3) := ⟨⟨by decide +kernel, by decide +kernel⟩, List.mem_of_getElem? (i := 131) (by decide +kernel), List.mem_of_getElem? (i := 503) (by decide +kernel), List.mem_of_getElem? (i := 504) (by decide +kernel)⟩
theorem lw_p20 : lw_okq (⟨"ColdPanes$Pieces", "sizeOf", "(I)I"⟩, 3) := ⟨⟨by decide +kernel, by decide +kernel⟩, List.mem_of_getElem? (i := 131) (by decide +kernel), List.mem_of_getElem? (i := 533) (by decide +kernel), List.mem_of_getElem? (i := 534) (by decide +kernel)⟩
theorem lw_p21 : lw_okq (⟨"ColdPanesModel", "goBegin", "(I)I"⟩, 17) := ⟨⟨by decide +kernel, by decide +kernel⟩, List.mem_of_getElem? (i := 589) (by decide +kernel), List.mem_of_getElem? (i := 595) (by decide +kernel), List.mem_of_getElem? (i := 596) (by decide +kernel)⟩
theorem lw_p22 : lw_okq (⟨"ColdPanesModel", "records", "()V"⟩, 17) := ⟨⟨by decide +kernel, by decide +kernel⟩, List.mem_of_getElem? (i := 589) (by decide +kernel), List.mem_of_getElem? (i := 658) (by decide +kernel), List.mem_of_getElem? (i := 659) (by decide +kernel)⟩
theorem lw_p23 : lw_okq (⟨"ColdPanesModel", "laysAim", "(II)V"⟩, 17) := ⟨⟨by decide +kernel, by decide +kernel⟩, List.mem_of_getElem? (i := 589) (by decide +kernel), List.mem_of_getElem? (i := 669) (by decide +kernel), List.mem_of_getElem? (i := 670) (by decide +kernel)⟩
theorem lw_p24 : lw_okq (⟨"ColdPanesModel", "goPass", "(I)I"⟩, 17) := ⟨⟨by decide +kernel, by decide +kernel⟩, List.mem_of_getElem? (i := 589) (by decide +kernel), List.mem_of_getElem? (i := 677) (by decide +kernel), List.mem_of_getElem? (i := 678) (by decide +kernel)⟩
theorem lw_p25 : lw_okq (⟨"ColdPanesModel", "minute", "()I"⟩, 17) := ⟨⟨by decide +kernel, by decide +kernel⟩, List.mem_of_getElem? (i := 589) (by decide +kernel), List.mem_of_getElem? (i := 681) (by decide +kernel), List.mem_of_getElem? (i := 682) (by decide +kernel)⟩
theorem lw_p26 : lw_okq (⟨"ColdPanesModel", "flows", "()V"⟩, 17) := ⟨⟨by decide +kernel, by decide +kernel⟩, List.mem_of_getElem? (i := 589) (by decide +kernel), List.mem_of_getElem? (i := 688) (by decide +kernel), List.mem_of_getElem? (i := 689) (by decide +kernel)⟩
theorem lw_p27 : lw_okq (⟨"ColdPanesModel", "isWhole", "(I)Z"⟩, 17) := ⟨⟨by decide +kernel, by decide +kernel⟩, List.mem_of_getElem? (i := 589) (by decide +kernel), List.mem_of_getElem? (i := 692) (by decide +kernel), List.mem_of_getElem? (i := 693) (by decide +kernel)⟩
theorem lw_p28 : lw_okq (⟨"ColdPanesModel", "greatestStress", "()I"⟩, 17) := ⟨⟨by decide +kernel, by decide +kernel⟩, List.mem_of_getElem? (i := 589) (by decide +kernel), List.mem_of_getElem? (i := 705) (by decide +kernel), List.mem_of_getElem? (i := 706) (by decide +kernel)⟩
theorem lw_p29 : lw_okq (⟨"ColdPanesModel", "stressOf", "(I)I"⟩, 17) := ⟨⟨by decide +kernel, by decide +kernel⟩, List.mem_of_getElem? (i := 589) (by decide +kernel), List.mem_of_getElem? (i := 709) (by decide +kernel), List.mem_of_getElem? (i := 710) (by decide +kernel)⟩
theorem lw_p30 : lw_okq (⟨"ColdPanesModel", "worst", "()I"⟩, 17) := ⟨⟨by decide +kernel, by decide +kernel⟩, List.mem_of_getElem? (i := 589) (by decide +kernel), List.mem_of_getElem? (i := 713) (by decide +kernel), List.mem_of_getElem? (i := 714) (by decide +kernel)⟩
theorem lw_p31 : lw_okq (⟨"ColdPanesModel", "marginOf", "(I)I"⟩, 17) := ⟨⟨by decide +kernel, by decide +kernel⟩, List.mem_of_getElem? (i := 589) (by decide +kernel), List.mem_of_getElem? (i := 717) (by decide +kernel), List.mem_of_getElem? (i := 718) (by decide +kernel)⟩
def lw_privs_2 : List (MethodName × Nat) := [(⟨"ColdPanes$Pieces", "spreadFrom", "(LColdPanes$Pane;I)V"⟩, 3), (⟨"ColdPanes$Pieces", "reach", "(II)V"⟩, 3), (⟨"ColdPanes$Pane", "placeOf", "(I)I"⟩, 12), (⟨"ColdPanes$Pieces", "join", "(II)Z"⟩, 3), (⟨"ColdPanes$Pieces", "sizeOf", "(I)I"⟩, 3), (⟨"ColdPanesModel", "goBegin", "(I)I"⟩, 17), (⟨"ColdPanesModel", "records", "()V"⟩, 17), (⟨"ColdPanesModel", "laysAim", "(II)V"⟩, 17), (⟨"ColdPanesModel", "goPass", "(I)I"⟩, 17), (⟨"ColdPanesModel", "minute", "()I"⟩, 17), (⟨"ColdPanesModel", "flows", "()V"⟩, 17), (⟨"ColdPanesModel", "isWhole", "(I)Z"⟩, 17), (⟨"ColdPanesModel", "greatestStress", "()I"⟩, 17), (⟨"ColdPanesModel", "stressOf", "(I)I"⟩, 17), (⟨"ColdPanesModel", "worst", "()I"⟩, 17), (⟨"ColdPanesModel", "marginOf", "(I)I"⟩, 17)]
theorem lw_r2 : ∀ q ∈ lw_privs_2, lw_okq q := List.forall_mem_cons.mpr ⟨lw_p16, List.forall_mem_cons.mpr ⟨lw_p17, List.forall_mem_cons.mpr ⟨lw_p18, List.forall_mem_cons.mpr ⟨lw_p19, List.forall_mem_cons.mpr ⟨lw_p20, List.forall_mem_cons.mpr ⟨lw_p21, List.forall_mem_cons.mpr ⟨lw_p22, List.forall_mem_cons.mpr ⟨lw_p23, List.forall_mem_cons.mpr ⟨lw_p24, List.forall_mem_cons.mpr ⟨lw_p25, List.forall_mem_cons.mpr ⟨lw_p26, List.forall_mem_cons.mpr ⟨lw_p27, List.forall_mem_cons.mpr ⟨lw_p28, List.forall_mem_cons.mpr ⟨lw_p29, List.forall_mem_cons.mpr ⟨lw_p30, List.forall_mem_cons.mpr ⟨lw_p31, fun _ h => absurd h List.not_mem_nil⟩⟩⟩⟩⟩⟩⟩⟩⟩⟩⟩⟩⟩⟩⟩⟩
theorem lw_p32 : lw_okq (⟨"ColdPanesModel", "cracked", "()I"⟩, 17) := ⟨⟨by decide +kernel, by decide +kernel⟩, List.mem_of_getElem? (i := 589) (by decide +kernel), List.mem_of_getElem? (i := 738) (by decide +kernel), List.mem_of_getElem? (i := 739) (by decide +kernel)⟩
theorem lw_p33 : lw_okq (⟨"ColdPanesModel", "isProgram", "()Z"⟩, 17) := ⟨⟨by decide +kernel, by decide +kernel⟩, List.mem_of_getElem? (i := 589) (by decide +kernel), List.mem_of_getElem? (i := 765) (by decide +kernel), List.mem_of_getElem? (i := 766) (by decide +kernel)⟩
theorem lw_p34 : lw_okq (⟨"ColdPanesModel", "takesSegment", "()V"⟩, 17) := ⟨⟨by decide +kernel, by decide +kernel⟩, List.mem_of_getElem? (i := 589) (by decide +kernel), List.mem_of_getElem? (i := 769) (by decide +kernel), List.mem_of_getElem? (i := 770) (by decide +kernel)⟩
theorem lw_p35 : lw_okq (⟨"ColdPanesModel", "here", "()I"⟩, 17) := ⟨⟨by decide +kernel, by decide +kernel⟩, List.mem_of_getElem? (i := 589) (by decide +kernel), List.mem_of_getElem? (i := 773) (by decide +kernel), List.mem_of_getElem? (i := 774) (by decide +kernel)⟩
theorem lw_p36 : lw_okq (⟨"ColdPanesModel", "takes", "(Z)V"⟩, 17) := ⟨⟨by decide +kernel, by decide +kernel⟩, List.mem_of_getElem? (i := 589) (by decide +kernel), List.mem_of_getElem? (i := 777) (by decide +kernel), List.mem_of_getElem? (i := 778) (by decide +kernel)⟩
theorem lw_p37 : lw_okq (⟨"ColdPanesModel", "takesNumber", "(II)I"⟩, 17) := ⟨⟨by decide +kernel, by decide +kernel⟩, List.mem_of_getElem? (i := 589) (by decide +kernel), List.mem_of_getElem? (i := 781) (by decide +kernel), List.mem_of_getElem? (i := 782) (by decide +kernel)⟩
theorem lw_p38 : lw_okq (⟨"ColdPanesModel", "names", "()V"⟩, 17) := ⟨⟨by decide +kernel, by decide +kernel⟩, List.mem_of_getElem? (i := 589) (by decide +kernel), List.mem_of_getElem? (i := 793) (by decide +kernel), List.mem_of_getElem? (i := 794) (by decide +kernel)⟩
theorem lw_p39 : lw_okq (⟨"ColdPanesModel", "cellsOf", "(I)I"⟩, 17) := ⟨⟨by decide +kernel, by decide +kernel⟩, List.mem_of_getElem? (i := 589) (by decide +kernel), List.mem_of_getElem? (i := 802) (by decide +kernel), List.mem_of_getElem? (i := 803) (by decide +kernel)⟩
theorem lw_p40 : lw_okq (⟨"ColdPanesModel", "pieceOf", "(I)I"⟩, 17) := ⟨⟨by decide +kernel, by decide +kernel⟩, List.mem_of_getElem? (i := 589) (by decide +kernel), List.mem_of_getElem? (i := 810) (by decide +kernel), List.mem_of_getElem? (i := 811) (by decide +kernel)⟩
theorem lw_p41 : lw_okq (⟨"ColdPanesModel", "wholeOf", "(I)I"⟩, 17) := ⟨⟨by decide +kernel, by decide +kernel⟩, List.mem_of_getElem? (i := 589) (by decide +kernel), List.mem_of_getElem? (i := 814) (by decide +kernel), List.mem_of_getElem? (i := 815) (by decide +kernel)⟩
theorem lw_p42 : lw_okq (⟨"ColdPanesModel", "stressAt", "(I)I"⟩, 17) := ⟨⟨by decide +kernel, by decide +kernel⟩, List.mem_of_getElem? (i := 589) (by decide +kernel), List.mem_of_getElem? (i := 818) (by decide +kernel), List.mem_of_getElem? (i := 819) (by decide +kernel)⟩
theorem lw_p43 : lw_okq (⟨"ColdPanesModel", "touching", "(I)I"⟩, 17) := ⟨⟨by decide +kernel, by decide +kernel⟩, List.mem_of_getElem? (i := 589) (by decide +kernel), List.mem_of_getElem? (i := 826) (by decide +kernel), List.mem_of_getElem? (i := 827) (by decide +kernel)⟩
theorem lw_p44 : lw_okq (⟨"ColdPanesModel", "isAhead", "(II)Z"⟩, 17) := ⟨⟨by decide +kernel, by decide +kernel⟩, List.mem_of_getElem? (i := 589) (by decide +kernel), List.mem_of_getElem? (i := 834) (by decide +kernel), List.mem_of_getElem? (i := 835) (by decide +kernel)⟩
theorem lw_p45 : lw_okq (⟨"ColdPanesModel", "sumOfHeats", "()I"⟩, 17) := ⟨⟨by decide +kernel, by decide +kernel⟩, List.mem_of_getElem? (i := 589) (by decide +kernel), List.mem_of_getElem? (i := 842) (by decide +kernel), List.mem_of_getElem? (i := 843) (by decide +kernel)⟩
theorem lw_p46 : lw_okq (⟨"ColdPanesModel", "heatMost", "(Z)I"⟩, 17) := ⟨⟨by decide +kernel, by decide +kernel⟩, List.mem_of_getElem? (i := 589) (by decide +kernel), List.mem_of_getElem? (i := 846) (by decide +kernel), List.mem_of_getElem? (i := 847) (by decide +kernel)⟩
theorem lw_p47 : lw_okq (⟨"ColdPanesModel", "leastMargin", "()I"⟩, 17) := ⟨⟨by decide +kernel, by decide +kernel⟩, List.mem_of_getElem? (i := 589) (by decide +kernel), List.mem_of_getElem? (i := 850) (by decide +kernel), List.mem_of_getElem? (i := 851) (by decide +kernel)⟩
def lw_privs_3 : List (MethodName × Nat) := [(⟨"ColdPanesModel", "cracked", "()I"⟩, 17), (⟨"ColdPanesModel", "isProgram", "()Z"⟩, 17), (⟨"ColdPanesModel", "takesSegment", "()V"⟩, 17), (⟨"ColdPanesModel", "here", "()I"⟩, 17), (⟨"ColdPanesModel", "takes", "(Z)V"⟩, 17), (⟨"ColdPanesModel", "takesNumber", "(II)I"⟩, 17), (⟨"ColdPanesModel", "names", "()V"⟩, 17), (⟨"ColdPanesModel", "cellsOf", "(I)I"⟩, 17), (⟨"ColdPanesModel", "pieceOf", "(I)I"⟩, 17), (⟨"ColdPanesModel", "wholeOf", "(I)I"⟩, 17), (⟨"ColdPanesModel", "stressAt", "(I)I"⟩, 17), (⟨"ColdPanesModel", "touching", "(I)I"⟩, 17), (⟨"ColdPanesModel", "isAhead", "(II)Z"⟩, 17), (⟨"ColdPanesModel", "sumOfHeats", "()I"⟩, 17), (⟨"ColdPanesModel", "heatMost", "(Z)I"⟩, 17), (⟨"ColdPanesModel", "leastMargin", "()I"⟩, 17)]
theorem lw_r3 : ∀ q ∈ lw_privs_3, lw_okq q := List.forall_mem_cons.mpr ⟨lw_p32, List.forall_mem_cons.mpr ⟨lw_p33, List.forall_mem_cons.mpr ⟨lw_p34, List.forall_mem_cons.mpr ⟨lw_p35, List.forall_mem_cons.mpr ⟨lw_p36, List.forall_mem_cons.mpr ⟨lw_p37, List.forall_mem_cons.mpr ⟨lw_p38, List.forall_mem_cons.mpr ⟨lw_p39, List.forall_mem_cons.mpr ⟨lw_p40, List.forall_mem_cons.mpr ⟨lw_p41, List.forall_mem_cons.mpr ⟨lw_p42, List.forall_mem_cons.mpr ⟨lw_p43, List.forall_mem_cons.mpr ⟨lw_p44, List.forall_mem_cons.mpr ⟨lw_p45, List.forall_mem_cons.mpr ⟨lw_p46, List.forall_mem_cons.mpr ⟨lw_p47, fun _ h => absurd h List.not_mem_nil⟩⟩⟩⟩⟩⟩⟩⟩⟩⟩⟩⟩⟩⟩⟩⟩
theorem lw_p48 : lw_okq (⟨"ColdPanesModel", "greatestPiece", "()I"⟩, 17) := ⟨⟨by decide +kernel, by decide +kernel⟩, List.mem_of_getElem? (i := 589) (by decide +kernel), List.mem_of_getElem? (i := 855) (by decide +kernel), List.mem_of_getElem? (i := 856) (by decide +kernel)⟩
theorem lw_p49 : lw_okq (⟨"ColdPanesModel", "isHarmless", "(III)Z"⟩, 17) := ⟨⟨by decide +kernel, by decide +kernel⟩, List.mem_of_getElem? (i := 589) (by decide +kernel), List.mem_of_getElem? (i := 867) (by decide +kernel), List.mem_of_getElem? (i := 868) (by decide +kernel)⟩
def lw_privs_4 : List (MethodName × Nat) := [(⟨"ColdPanesModel", "greatestPiece", "()I"⟩, 17), (⟨"ColdPanesModel", "isHarmless", "(III)Z"⟩, 17)]
theorem lw_r4 : ∀ q ∈ lw_privs_4, lw_okq q := List.forall_mem_cons.mpr ⟨lw_p48, List.forall_mem_cons.mpr ⟨lw_p49, fun _ h => absurd h List.not_mem_nil⟩⟩
def lw_privs : List (MethodName × Nat) := lw_privs_1 ++ (lw_privs_2 ++ (lw_privs_3 ++ (lw_privs_4)))
def lw_tbl : List Cond := k2_sels lw_privs ++ tables_1
theorem lw_privs_ok : ∀ q ∈ lw_privs, lw_okq q := by
  show ∀ q ∈ lw_privs_1 ++ (lw_privs_2 ++ (lw_privs_3 ++ (lw_privs_4))), lw_okq q
  exact List.forall_mem_append.mpr ⟨lw_r1, List.forall_mem_append.mpr ⟨lw_r2, List.forall_mem_append.mpr ⟨lw_r3, lw_r4⟩⟩⟩
/-- the streams that the claim lets the run draw from -/
abbrev lw_cs : List Choice := [Jvm.Choice.named "NaN.bits"]
theorem lw_bits : nanBits ∈ lw_cs := by first | decide | exact List.mem_cons_self | simp [lw_cs, nanBits]
/-! ===== BEGIN words of one list among another's, by their places ===== -/
theorem goodIn_r {big : List Cond} (ws : List Cond) (ps : List Nat) (hp : ws = ps.filterMap (fun i => big[i]?)) (h : ws.all goodWord = true) : GoodIn big ws := by
  intro w hw
  have h1 := List.all_eq_true.mp h w hw
  rw [hp] at hw
  obtain ⟨i, -, hi⟩ := List.mem_filterMap.mp hw
  have hm : w ∈ big := by first | exact List.mem_of_getElem? hi | exact List.getElem?_mem hi
  exact ⟨hm, good_of_word h1⟩
theorem goodIn_app {big a b : List Cond} (ha : GoodIn big a) (hb : GoodIn big b) : GoodIn big (a ++ b) := fun w h => (List.mem_append.mp h).elim (ha w) (hb w)
theorem goodIn_ca {big a b : List Cond} {c : Cond} (ha : GoodIn big (c :: a)) (hb : GoodIn big b) : GoodIn big (c :: (a ++ b)) := fun w h => (List.mem_cons.mp h).elim (fun e => ha w (List.mem_cons.mpr (Or.inl e))) (fun h => (List.mem_append.mp h).elim (fun h => ha w (List.mem_cons.mpr (Or.inr h))) (hb w))
theorem goodIn_sub {big ws : List Cond} (hm : ∀ w ∈ ws, w ∈ big) (h : ws.all goodWord = true) : GoodIn big ws := fun w hw => ⟨hm w hw, good_of_word (List.all_eq_true.mp h w hw)⟩
/-! ===== END ===== -/

/-! ===== BEGIN printed: names, fields, word lists, decode rows ===== -/
def RX0 : String := "ColdPanes$Forecast"
def TX0 : u_T := fun k => match k with
  | 0 => ("ColdPanes$Forecast", "cracks", "I", false)
  | 1 => ("ColdPanes$Forecast", "firstCrack", "I", false)
  | _ => ("ColdPanes$Forecast", "greatestStress", "I", false)
def tyX0 : Nat → FieldType := fun k => match k with
  | 0 => .int
  | 1 => .int
  | _ => .int
abbrev wsX00 : List Cond := u_ws RX0 TX0 3
theorem nmX0 : ∀ a, a < 3 → ∀ b, b < 3 → a ≠ b → (TX0 a).2.1 ≠ (TX0 b).2.1 := by decide +kernel
theorem tyX0_ok : ∀ k, k < 3 → parseFieldDescriptor (TX0 k).2.2.1 = some (tyX0 k) := by decide +kernel
abbrev cX0_init : ByteArray := prog_2_method_1_code
def yX0_init : MethodName := ⟨RX0, "<init>", "()V"⟩
abbrev cX0_look : ByteArray := prog_2_method_2_code
def yX0_look : MethodName := ⟨RX0, "look", "(LColdPanes$Pane;I)V"⟩
def RX1 : String := "ColdPanes$Grid"
def TX1 : u_T := fun k => match k with
  | _ => ("", "", "", false)
def tyX1 : Nat → FieldType := fun k => match k with
  | _ => .int
abbrev wsX10 : List Cond := u_ws RX1 TX1 0
theorem nmX1 : ∀ a, a < 0 → ∀ b, b < 0 → a ≠ b → (TX1 a).2.1 ≠ (TX1 b).2.1 := by decide +kernel
theorem tyX1_ok : ∀ k, k < 0 → parseFieldDescriptor (TX1 k).2.2.1 = some (tyX1 k) := by decide +kernel
abbrev cX1_isCell : ByteArray := prog_3_method_2_code
def yX1_isCell : MethodName := ⟨RX1, "isCell", "(I)Z"⟩
abbrev cX1_isJoint : ByteArray := prog_3_method_3_code
def yX1_isJoint : MethodName := ⟨RX1, "isJoint", "(I)Z"⟩
abbrev cX1_firstCell : ByteArray := prog_3_method_4_code
def yX1_firstCell : MethodName := ⟨RX1, "firstCell", "(I)I"⟩
abbrev cX1_secondCell : ByteArray := prog_3_method_5_code
def yX1_secondCell : MethodName := ⟨RX1, "secondCell", "(I)I"⟩
abbrev cX1_otherCell : ByteArray := prog_3_method_6_code
def yX1_otherCell : MethodName := ⟨RX1, "otherCell", "(II)I"⟩
abbrev cX1_jointAt : ByteArray := prog_3_method_7_code
def yX1_jointAt : MethodName := ⟨RX1, "jointAt", "(II)I"⟩
abbrev cX1_rimSides : ByteArray := prog_3_method_8_code
def yX1_rimSides : MethodName := ⟨RX1, "rimSides", "(I)I"⟩
abbrev cX1_touch : ByteArray := prog_3_method_9_code
def yX1_touch : MethodName := ⟨RX1, "touch", "(II)Z"⟩
abbrev cX1_isEnd : ByteArray := prog_3_method_10_code
def yX1_isEnd : MethodName := ⟨RX1, "isEnd", "(II)Z"⟩
def RX2 : String := "ColdPanes$History"
def TX2 : u_T := fun k => match k with
  | 0 => ("ColdPanes$History", "states", "[LColdPanes$Pane;", true)
  | _ => ("ColdPanes$History", "size", "I", false)
def tyX2 : Nat → FieldType := fun k => match k with
  | 0 => .array (.object "ColdPanes$Pane")
  | _ => .int
abbrev wsX20 : List Cond := u_ws RX2 TX2 2
theorem nmX2 : ∀ a, a < 2 → ∀ b, b < 2 → a ≠ b → (TX2 a).2.1 ≠ (TX2 b).2.1 := by decide +kernel
theorem tyX2_ok : ∀ k, k < 2 → parseFieldDescriptor (TX2 k).2.2.1 = some (tyX2 k) := by decide +kernel
abbrev cX2_init : ByteArray := prog_4_method_1_code
def yX2_init : MethodName := ⟨RX2, "<init>", "()V"⟩
abbrev cX2_record : ByteArray := prog_4_method_2_code
def yX2_record : MethodName := ⟨RX2, "record", "(LColdPanes$Pane;)V"⟩
abbrev cX2_takeBack : ByteArray := prog_4_method_3_code
def yX2_takeBack : MethodName := ⟨RX2, "takeBack", "(LColdPanes$Pane;)Z"⟩
abbrev cX2_stateAt : ByteArray := prog_4_method_4_code
def yX2_stateAt : MethodName := ⟨RX2, "stateAt", "(I)LColdPanes$Pane;"⟩
abbrev cX2_dropOldest : ByteArray := prog_4_method_5_code
def yX2_dropOldest : MethodName := ⟨RX2, "dropOldest", "()V"⟩
def RX3 : String := "ColdPanes$Pad"
def TX3 : u_T := fun k => match k with
  | 0 => ("ColdPanes$Pad", "characters", "[C", true)
  | 1 => ("ColdPanes$Pad", "length", "I", false)
  | 2 => ("ColdPanes$Pad", "aims", "[I", true)
  | 3 => ("ColdPanes$Pad", "rates", "[I", true)
  | 4 => ("ColdPanes$Pad", "minutes", "[I", true)
  | 5 => ("ColdPanes$Pad", "segments", "I", false)
  | 6 => ("ColdPanes$Pad", "part", "I", false)
  | _ => ("ColdPanes$Pad", "number", "I", false)
def tyX3 : Nat → FieldType := fun k => match k with
  | 0 => .array .char
  | 1 => .int
  | 2 => .array .int
  | 3 => .array .int
  | 4 => .array .int
  | 5 => .int
  | 6 => .int
  | _ => .int
abbrev wsX30 : List Cond := u_ws RX3 TX3 8
theorem nmX3 : ∀ a, a < 8 → ∀ b, b < 8 → a ≠ b → (TX3 a).2.1 ≠ (TX3 b).2.1 := by decide +kernel
theorem tyX3_ok : ∀ k, k < 8 → parseFieldDescriptor (TX3 k).2.2.1 = some (tyX3 k) := by decide +kernel
abbrev cX3_init : ByteArray := prog_5_method_1_code
def yX3_init : MethodName := ⟨RX3, "<init>", "()V"⟩
abbrev cX3_take : ByteArray := prog_5_method_2_code
def yX3_take : MethodName := ⟨RX3, "take", "(C)Z"⟩
abbrev cX3_findFault : ByteArray := prog_5_method_3_code
def yX3_findFault : MethodName := ⟨RX3, "findFault", "()I"⟩
abbrev cX3_reads : ByteArray := prog_5_method_4_code
def yX3_reads : MethodName := ⟨RX3, "reads", "(C)Z"⟩
abbrev cX3_readsHold : ByteArray := prog_5_method_5_code
def yX3_readsHold : MethodName := ⟨RX3, "readsHold", "(C)Z"⟩
abbrev cX3_readsDigit : ByteArray := prog_5_method_6_code
def yX3_readsDigit : MethodName := ⟨RX3, "readsDigit", "(I)Z"⟩
abbrev cX3_endNumber : ByteArray := prog_5_method_7_code
def yX3_endNumber : MethodName := ⟨RX3, "endNumber", "()V"⟩
abbrev cX3_keepIn : ByteArray := prog_5_method_8_code
def yX3_keepIn : MethodName := ⟨RX3, "keepIn", "([II)V"⟩
abbrev cX3_endOfPart : ByteArray := prog_5_method_9_code
def yX3_endOfPart : MethodName := ⟨RX3, "endOfPart", "()C"⟩
abbrev cX3_leastOfPart : ByteArray := prog_5_method_10_code
def yX3_leastOfPart : MethodName := ⟨RX3, "leastOfPart", "()I"⟩
abbrev cX3_mostOfPart : ByteArray := prog_5_method_11_code
def yX3_mostOfPart : MethodName := ⟨RX3, "mostOfPart", "()I"⟩
abbrev cX3_aimOf : ByteArray := prog_5_method_12_code
def yX3_aimOf : MethodName := ⟨RX3, "aimOf", "(I)I"⟩
abbrev cX3_rateOf : ByteArray := prog_5_method_13_code
def yX3_rateOf : MethodName := ⟨RX3, "rateOf", "(I)I"⟩
abbrev cX3_minutesOf : ByteArray := prog_5_method_14_code
def yX3_minutesOf : MethodName := ⟨RX3, "minutesOf", "(I)I"⟩
abbrev cX3_isSegment : ByteArray := prog_5_method_15_code
def yX3_isSegment : MethodName := ⟨RX3, "isSegment", "(I)Z"⟩
def RX4 : String := "ColdPanes$Pane"
def TX4 : u_T := fun k => match k with
  | 0 => ("ColdPanes$Pane", "heats", "[I", true)
  | 1 => ("ColdPanes$Pane", "gains", "[I", true)
  | 2 => ("ColdPanes$Pane", "strengths", "[I", true)
  | 3 => ("ColdPanes$Pane", "crackedIn", "[I", true)
  | 4 => ("ColdPanes$Pane", "furnace", "I", false)
  | 5 => ("ColdPanes$Pane", "aim", "I", false)
  | 6 => ("ColdPanes$Pane", "rate", "I", false)
  | 7 => ("ColdPanes$Pane", "lead", "I", false)
  | 8 => ("ColdPanes$Pane", "rim", "I", false)
  | 9 => ("ColdPanes$Pane", "minutes", "I", false)
  | 10 => ("ColdPanes$Pane", "loss", "I", false)
  | _ => ("ColdPanes$Pane", "flames", "I", false)
def tyX4 : Nat → FieldType := fun k => match k with
  | 0 => .array .int
  | 1 => .array .int
  | 2 => .array .int
  | 3 => .array .int
  | 4 => .int
  | 5 => .int
  | 6 => .int
  | 7 => .int
  | 8 => .int
  | 9 => .int
  | 10 => .int
  | _ => .int
abbrev wsX40 : List Cond := u_ws RX4 TX4 12
theorem nmX4 : ∀ a, a < 12 → ∀ b, b < 12 → a ≠ b → (TX4 a).2.1 ≠ (TX4 b).2.1 := by decide +kernel
theorem tyX4_ok : ∀ k, k < 12 → parseFieldDescriptor (TX4 k).2.2.1 = some (tyX4 k) := by decide +kernel
abbrev cX4_init : ByteArray := prog_6_method_1_code
def yX4_init : MethodName := ⟨RX4, "<init>", "()V"⟩
abbrev cX4_renew : ByteArray := prog_6_method_2_code
def yX4_renew : MethodName := ⟨RX4, "renew", "(I)V"⟩
abbrev cX4_copyFrom : ByteArray := prog_6_method_3_code
def yX4_copyFrom : MethodName := ⟨RX4, "copyFrom", "(LColdPanes$Pane;)V"⟩
abbrev cX4_passMinutes : ByteArray := prog_6_method_4_code
def yX4_passMinutes : MethodName := ⟨RX4, "passMinutes", "(I)I"⟩
abbrev cX4_staysWhole : ByteArray := prog_6_method_5_code
def yX4_staysWhole : MethodName := ⟨RX4, "staysWhole", "(I)Z"⟩
abbrev cX4_letHeatFlow : ByteArray := prog_6_method_6_code
def yX4_letHeatFlow : MethodName := ⟨RX4, "letHeatFlow", "()V"⟩
abbrev cX4_moveFurnace : ByteArray := prog_6_method_7_code
def yX4_moveFurnace : MethodName := ⟨RX4, "moveFurnace", "()V"⟩
abbrev cX4_flowOverJoints : ByteArray := prog_6_method_8_code
def yX4_flowOverJoints : MethodName := ⟨RX4, "flowOverJoints", "()V"⟩
abbrev cX4_flowAtRim : ByteArray := prog_6_method_9_code
def yX4_flowAtRim : MethodName := ⟨RX4, "flowAtRim", "()V"⟩
abbrev cX4_gain : ByteArray := prog_6_method_10_code
def yX4_gain : MethodName := ⟨RX4, "gain", "(II)V"⟩
abbrev cX4_crackWorst : ByteArray := prog_6_method_11_code
def yX4_crackWorst : MethodName := ⟨RX4, "crackWorst", "()Z"⟩
abbrev cX4_weakenBeside : ByteArray := prog_6_method_12_code
def yX4_weakenBeside : MethodName := ⟨RX4, "weakenBeside", "(I)V"⟩
abbrev cX4_holdFlame : ByteArray := prog_6_method_13_code
def yX4_holdFlame : MethodName := ⟨RX4, "holdFlame", "(II)I"⟩
abbrev cX4_makeWhole : ByteArray := prog_6_method_14_code
def yX4_makeWhole : MethodName := ⟨RX4, "makeWhole", "(I)V"⟩
abbrev cX4_strengthen : ByteArray := prog_6_method_15_code
def yX4_strengthen : MethodName := ⟨RX4, "strengthen", "(II)V"⟩
abbrev cX4_heatAt : ByteArray := prog_6_method_16_code
def yX4_heatAt : MethodName := ⟨RX4, "heatAt", "(I)I"⟩
abbrev cX4_isWhole : ByteArray := prog_6_method_17_code
def yX4_isWhole : MethodName := ⟨RX4, "isWhole", "(I)Z"⟩
abbrev cX4_crackedMinuteOf : ByteArray := prog_6_method_18_code
def yX4_crackedMinuteOf : MethodName := ⟨RX4, "crackedMinuteOf", "(I)I"⟩
abbrev cX4_strengthOf : ByteArray := prog_6_method_19_code
def yX4_strengthOf : MethodName := ⟨RX4, "strengthOf", "(I)I"⟩
abbrev cX4_stressOf : ByteArray := prog_6_method_20_code
def yX4_stressOf : MethodName := ⟨RX4, "stressOf", "(I)I"⟩
abbrev cX4_marginOf : ByteArray := prog_6_method_21_code
def yX4_marginOf : MethodName := ⟨RX4, "marginOf", "(I)I"⟩
abbrev cX4_wholeJointsOf : ByteArray := prog_6_method_22_code
def yX4_wholeJointsOf : MethodName := ⟨RX4, "wholeJointsOf", "(I)I"⟩
abbrev cX4_wholeJointsBeside : ByteArray := prog_6_method_23_code
def yX4_wholeJointsBeside : MethodName := ⟨RX4, "wholeJointsBeside", "(I)I"⟩
abbrev cX4_greatestStressOf : ByteArray := prog_6_method_24_code
def yX4_greatestStressOf : MethodName := ⟨RX4, "greatestStressOf", "(I)I"⟩
abbrev cX4_greatestStress : ByteArray := prog_6_method_25_code
def yX4_greatestStress : MethodName := ⟨RX4, "greatestStress", "()I"⟩
abbrev cX4_leastMargin : ByteArray := prog_6_method_26_code
def yX4_leastMargin : MethodName := ⟨RX4, "leastMargin", "()I"⟩
abbrev cX4_mostStrained : ByteArray := prog_6_method_27_code
def yX4_mostStrained : MethodName := ⟨RX4, "mostStrained", "()I"⟩
abbrev cX4_strainedAt : ByteArray := prog_6_method_28_code
def yX4_strainedAt : MethodName := ⟨RX4, "strainedAt", "(I)I"⟩
abbrev cX4_placeOf : ByteArray := prog_6_method_29_code
def yX4_placeOf : MethodName := ⟨RX4, "placeOf", "(I)I"⟩
abbrev cX4_crackedJoints : ByteArray := prog_6_method_30_code
def yX4_crackedJoints : MethodName := ⟨RX4, "crackedJoints", "()I"⟩
abbrev cX4_sumOfHeats : ByteArray := prog_6_method_31_code
def yX4_sumOfHeats : MethodName := ⟨RX4, "sumOfHeats", "()I"⟩
abbrev cX4_greatestHeat : ByteArray := prog_6_method_32_code
def yX4_greatestHeat : MethodName := ⟨RX4, "greatestHeat", "()I"⟩
abbrev cX4_leastHeat : ByteArray := prog_6_method_33_code
def yX4_leastHeat : MethodName := ⟨RX4, "leastHeat", "()I"⟩
def RX5 : String := "ColdPanes$Pieces"
def TX5 : u_T := fun k => match k with
  | 0 => ("ColdPanes$Pieces", "names", "[I", true)
  | 1 => ("ColdPanes$Pieces", "reached", "[I", true)
  | _ => ("ColdPanes$Pieces", "reachedCells", "I", false)
def tyX5 : Nat → FieldType := fun k => match k with
  | 0 => .array .int
  | 1 => .array .int
  | _ => .int
abbrev wsX50 : List Cond := u_ws RX5 TX5 3
theorem nmX5 : ∀ a, a < 3 → ∀ b, b < 3 → a ≠ b → (TX5 a).2.1 ≠ (TX5 b).2.1 := by decide +kernel
theorem tyX5_ok : ∀ k, k < 3 → parseFieldDescriptor (TX5 k).2.2.1 = some (tyX5 k) := by decide +kernel
abbrev cX5_init : ByteArray := prog_7_method_1_code
def yX5_init : MethodName := ⟨RX5, "<init>", "()V"⟩
abbrev cX5_tellByGoing : ByteArray := prog_7_method_2_code
def yX5_tellByGoing : MethodName := ⟨RX5, "tellByGoing", "(LColdPanes$Pane;)I"⟩
abbrev cX5_spreadFrom : ByteArray := prog_7_method_3_code
def yX5_spreadFrom : MethodName := ⟨RX5, "spreadFrom", "(LColdPanes$Pane;I)V"⟩
abbrev cX5_reach : ByteArray := prog_7_method_4_code
def yX5_reach : MethodName := ⟨RX5, "reach", "(II)V"⟩
abbrev cX5_tellByJoining : ByteArray := prog_7_method_5_code
def yX5_tellByJoining : MethodName := ⟨RX5, "tellByJoining", "(LColdPanes$Pane;)I"⟩
abbrev cX5_join : ByteArray := prog_7_method_6_code
def yX5_join : MethodName := ⟨RX5, "join", "(II)Z"⟩
abbrev cX5_nameOf : ByteArray := prog_7_method_7_code
def yX5_nameOf : MethodName := ⟨RX5, "nameOf", "(I)I"⟩
abbrev cX5_greatestSize : ByteArray := prog_7_method_8_code
def yX5_greatestSize : MethodName := ⟨RX5, "greatestSize", "()I"⟩
abbrev cX5_sizeOf : ByteArray := prog_7_method_9_code
def yX5_sizeOf : MethodName := ⟨RX5, "sizeOf", "(I)I"⟩
abbrev cX5_meanHeat : ByteArray := prog_7_method_10_code
def yX5_meanHeat : MethodName := ⟨RX5, "meanHeat", "(LColdPanes$Pane;I)D"⟩
def RX6 : String := "ColdPanes"
def TX6 : u_T := fun k => match k with
  | 0 => ("ColdPanes", "now", "LColdPanes$Pane;", true)
  | 1 => ("ColdPanes", "trial", "LColdPanes$Pane;", true)
  | 2 => ("ColdPanes", "snapshot", "LColdPanes$Pane;", true)
  | 3 => ("ColdPanes", "hasSnapshot", "Z", false)
  | 4 => ("ColdPanes", "history", "LColdPanes$History;", true)
  | 5 => ("ColdPanes", "pad", "LColdPanes$Pad;", true)
  | 6 => ("ColdPanes", "parts", "LColdPanes$Pieces;", true)
  | _ => ("ColdPanes", "forecast", "LColdPanes$Forecast;", true)
def tyX6 : Nat → FieldType := fun k => match k with
  | 0 => .object "ColdPanes$Pane"
  | 1 => .object "ColdPanes$Pane"
  | 2 => .object "ColdPanes$Pane"
  | 3 => .boolean
  | 4 => .object "ColdPanes$History"
  | 5 => .object "ColdPanes$Pad"
  | 6 => .object "ColdPanes$Pieces"
  | _ => .object "ColdPanes$Forecast"
abbrev wsX60 : List Cond := u_ws RX6 TX6 8
theorem nmX6 : ∀ a, a < 8 → ∀ b, b < 8 → a ≠ b → (TX6 a).2.1 ≠ (TX6 b).2.1 := by decide +kernel
theorem tyX6_ok : ∀ k, k < 8 → parseFieldDescriptor (TX6 k).2.2.1 = some (tyX6 k) := by decide +kernel
abbrev cX6_init : ByteArray := prog_1_method_1_code
def yX6_init : MethodName := ⟨RX6, "<init>", "()V"⟩
abbrev cX6_begin : ByteArray := prog_1_method_2_code
def yX6_begin : MethodName := ⟨RX6, "begin", "(I)I"⟩
abbrev cX6_aim : ByteArray := prog_1_method_3_code
def yX6_aim : MethodName := ⟨RX6, "aim", "(II)I"⟩
abbrev cX6_pass : ByteArray := prog_1_method_4_code
def yX6_pass : MethodName := ⟨RX6, "pass", "(I)I"⟩
abbrev cX6_scratch : ByteArray := prog_1_method_5_code
def yX6_scratch : MethodName := ⟨RX6, "scratch", "(II)I"⟩
abbrev cX6_mend : ByteArray := prog_1_method_6_code
def yX6_mend : MethodName := ⟨RX6, "mend", "(I)I"⟩
abbrev cX6_heat : ByteArray := prog_1_method_7_code
def yX6_heat : MethodName := ⟨RX6, "heat", "(II)I"⟩
abbrev cX6_set : ByteArray := prog_1_method_8_code
def yX6_set : MethodName := ⟨RX6, "set", "(II)I"⟩
abbrev cX6_append : ByteArray := prog_1_method_9_code
def yX6_append : MethodName := ⟨RX6, "append", "(I)I"⟩
abbrev cX6_clear : ByteArray := prog_1_method_10_code
def yX6_clear : MethodName := ⟨RX6, "clear", "()I"⟩
abbrev cX6_fault : ByteArray := prog_1_method_11_code
def yX6_fault : MethodName := ⟨RX6, "fault", "()I"⟩
abbrev cX6_run : ByteArray := prog_1_method_12_code
def yX6_run : MethodName := ⟨RX6, "run", "()I"⟩
abbrev cX6_cell : ByteArray := prog_1_method_13_code
def yX6_cell : MethodName := ⟨RX6, "cell", "(II)I"⟩
abbrev cX6_joint : ByteArray := prog_1_method_14_code
def yX6_joint : MethodName := ⟨RX6, "joint", "(II)I"⟩
abbrev cX6_strained : ByteArray := prog_1_method_15_code
def yX6_strained : MethodName := ⟨RX6, "strained", "(I)I"⟩
abbrev cX6_pieces : ByteArray := prog_1_method_16_code
def yX6_pieces : MethodName := ⟨RX6, "pieces", "(I)I"⟩
abbrev cX6_count : ByteArray := prog_1_method_17_code
def yX6_count : MethodName := ⟨RX6, "count", "(I)I"⟩
abbrev cX6_mean : ByteArray := prog_1_method_18_code
def yX6_mean : MethodName := ⟨RX6, "mean", "(I)D"⟩
abbrev cX6_ifPassed : ByteArray := prog_1_method_19_code
def yX6_ifPassed : MethodName := ⟨RX6, "ifPassed", "(II)I"⟩
abbrev cX6_fastest : ByteArray := prog_1_method_20_code
def yX6_fastest : MethodName := ⟨RX6, "fastest", "(II)I"⟩
abbrev cX6_evenIn : ByteArray := prog_1_method_21_code
def yX6_evenIn : MethodName := ⟨RX6, "evenIn", "(I)I"⟩
abbrev cX6_undo : ByteArray := prog_1_method_22_code
def yX6_undo : MethodName := ⟨RX6, "undo", "()I"⟩
abbrev cX6_save : ByteArray := prog_1_method_23_code
def yX6_save : MethodName := ⟨RX6, "save", "()I"⟩
abbrev cX6_restore : ByteArray := prog_1_method_24_code
def yX6_restore : MethodName := ⟨RX6, "restore", "()I"⟩
abbrev cX6_isOutside : ByteArray := prog_1_method_25_code
def yX6_isOutside : MethodName := ⟨RX6, "isOutside", "(III)Z"⟩
def RX7 : String := "ColdPanesModel"
def TX7 : u_T := fun k => match k with
  | 0 => ("ColdPanesModel", "s", "[I", true)
  | 1 => ("ColdPanesModel", "aside", "[I", true)
  | 2 => ("ColdPanesModel", "past", "[I", true)
  | 3 => ("ColdPanesModel", "known", "I", false)
  | 4 => ("ColdPanesModel", "kept", "[I", true)
  | 5 => ("ColdPanesModel", "isKept", "Z", false)
  | 6 => ("ColdPanesModel", "pad", "[I", true)
  | 7 => ("ColdPanesModel", "length", "I", false)
  | 8 => ("ColdPanesModel", "flow", "[I", true)
  | 9 => ("ColdPanesModel", "strongest", "I", false)
  | 10 => ("ColdPanesModel", "spot", "I", false)
  | 11 => ("ColdPanesModel", "isForm", "Z", false)
  | 12 => ("ColdPanesModel", "isHold", "Z", false)
  | 13 => ("ColdPanesModel", "toldAim", "I", false)
  | 14 => ("ColdPanesModel", "toldRate", "I", false)
  | 15 => ("ColdPanesModel", "toldMinutes", "I", false)
  | _ => ("ColdPanesModel", "name", "[I", true)
def tyX7 : Nat → FieldType := fun k => match k with
  | 0 => .array .int
  | 1 => .array .int
  | 2 => .array .int
  | 3 => .int
  | 4 => .array .int
  | 5 => .boolean
  | 6 => .array .int
  | 7 => .int
  | 8 => .array .int
  | 9 => .int
  | 10 => .int
  | 11 => .boolean
  | 12 => .boolean
  | 13 => .int
  | 14 => .int
  | 15 => .int
  | _ => .array .int
abbrev wsX70 : List Cond := u_ws RX7 TX7 17
theorem nmX7 : ∀ a, a < 17 → ∀ b, b < 17 → a ≠ b → (TX7 a).2.1 ≠ (TX7 b).2.1 := by decide +kernel
theorem tyX7_ok : ∀ k, k < 17 → parseFieldDescriptor (TX7 k).2.2.1 = some (tyX7 k) := by decide +kernel
abbrev cX7_init : ByteArray := prog_9_method_1_code
def yX7_init : MethodName := ⟨RX7, "<init>", "()V"⟩
abbrev cX7_in : ByteArray := prog_9_method_3_code
def yX7_in : MethodName := ⟨RX7, "in", "(III)Z"⟩
abbrev cX7_copies : ByteArray := prog_9_method_4_code
def yX7_copies : MethodName := ⟨RX7, "copies", "([II[II)V"⟩
abbrev cX7_records : ByteArray := prog_9_method_5_code
def yX7_records : MethodName := ⟨RX7, "records", "()V"⟩
abbrev cX7_isCell : ByteArray := prog_9_method_6_code
def yX7_isCell : MethodName := ⟨RX7, "isCell", "(I)Z"⟩
abbrev cX7_isJoint : ByteArray := prog_9_method_7_code
def yX7_isJoint : MethodName := ⟨RX7, "isJoint", "(I)Z"⟩
abbrev cX7_firstOf : ByteArray := prog_9_method_8_code
def yX7_firstOf : MethodName := ⟨RX7, "firstOf", "(I)I"⟩
abbrev cX7_secondOf : ByteArray := prog_9_method_9_code
def yX7_secondOf : MethodName := ⟨RX7, "secondOf", "(I)I"⟩
abbrev cX7_size : ByteArray := prog_9_method_10_code
def yX7_size : MethodName := ⟨RX7, "size", "(I)I"⟩
abbrev cX7_isWhole : ByteArray := prog_9_method_11_code
def yX7_isWhole : MethodName := ⟨RX7, "isWhole", "(I)Z"⟩
abbrev cX7_stressOf : ByteArray := prog_9_method_12_code
def yX7_stressOf : MethodName := ⟨RX7, "stressOf", "(I)I"⟩
abbrev cX7_marginOf : ByteArray := prog_9_method_13_code
def yX7_marginOf : MethodName := ⟨RX7, "marginOf", "(I)I"⟩
abbrev cX7_has : ByteArray := prog_9_method_14_code
def yX7_has : MethodName := ⟨RX7, "has", "(II)Z"⟩
abbrev cX7_touch : ByteArray := prog_9_method_15_code
def yX7_touch : MethodName := ⟨RX7, "touch", "(II)Z"⟩
abbrev cX7_sidesOf : ByteArray := prog_9_method_16_code
def yX7_sidesOf : MethodName := ⟨RX7, "sidesOf", "(I)I"⟩
abbrev cX7_goBegin : ByteArray := prog_9_method_17_code
def yX7_goBegin : MethodName := ⟨RX7, "goBegin", "(I)I"⟩
abbrev cX7_flows : ByteArray := prog_9_method_18_code
def yX7_flows : MethodName := ⟨RX7, "flows", "()V"⟩
abbrev cX7_worst : ByteArray := prog_9_method_19_code
def yX7_worst : MethodName := ⟨RX7, "worst", "()I"⟩
abbrev cX7_greatestStress : ByteArray := prog_9_method_20_code
def yX7_greatestStress : MethodName := ⟨RX7, "greatestStress", "()I"⟩
abbrev cX7_minute : ByteArray := prog_9_method_21_code
def yX7_minute : MethodName := ⟨RX7, "minute", "()I"⟩
abbrev cX7_goPass : ByteArray := prog_9_method_22_code
def yX7_goPass : MethodName := ⟨RX7, "goPass", "(I)I"⟩
abbrev cX7_cracked : ByteArray := prog_9_method_23_code
def yX7_cracked : MethodName := ⟨RX7, "cracked", "()I"⟩
abbrev cX7_begin : ByteArray := prog_9_method_24_code
def yX7_begin : MethodName := ⟨RX7, "begin", "(I)I"⟩
abbrev cX7_laysAim : ByteArray := prog_9_method_25_code
def yX7_laysAim : MethodName := ⟨RX7, "laysAim", "(II)V"⟩
abbrev cX7_aim : ByteArray := prog_9_method_26_code
def yX7_aim : MethodName := ⟨RX7, "aim", "(II)I"⟩
abbrev cX7_pass : ByteArray := prog_9_method_27_code
def yX7_pass : MethodName := ⟨RX7, "pass", "(I)I"⟩
abbrev cX7_scratch : ByteArray := prog_9_method_28_code
def yX7_scratch : MethodName := ⟨RX7, "scratch", "(II)I"⟩
abbrev cX7_mend : ByteArray := prog_9_method_29_code
def yX7_mend : MethodName := ⟨RX7, "mend", "(I)I"⟩
abbrev cX7_heat : ByteArray := prog_9_method_30_code
def yX7_heat : MethodName := ⟨RX7, "heat", "(II)I"⟩
abbrev cX7_set : ByteArray := prog_9_method_31_code
def yX7_set : MethodName := ⟨RX7, "set", "(II)I"⟩
abbrev cX7_append : ByteArray := prog_9_method_32_code
def yX7_append : MethodName := ⟨RX7, "append", "(I)I"⟩
abbrev cX7_clear : ByteArray := prog_9_method_33_code
def yX7_clear : MethodName := ⟨RX7, "clear", "()I"⟩
abbrev cX7_here : ByteArray := prog_9_method_34_code
def yX7_here : MethodName := ⟨RX7, "here", "()I"⟩
abbrev cX7_takes : ByteArray := prog_9_method_35_code
def yX7_takes : MethodName := ⟨RX7, "takes", "(Z)V"⟩
abbrev cX7_takesNumber : ByteArray := prog_9_method_36_code
def yX7_takesNumber : MethodName := ⟨RX7, "takesNumber", "(II)I"⟩
abbrev cX7_takesSegment : ByteArray := prog_9_method_37_code
def yX7_takesSegment : MethodName := ⟨RX7, "takesSegment", "()V"⟩
abbrev cX7_isProgram : ByteArray := prog_9_method_38_code
def yX7_isProgram : MethodName := ⟨RX7, "isProgram", "()Z"⟩
abbrev cX7_fault : ByteArray := prog_9_method_39_code
def yX7_fault : MethodName := ⟨RX7, "fault", "()I"⟩
abbrev cX7_run : ByteArray := prog_9_method_40_code
def yX7_run : MethodName := ⟨RX7, "run", "()I"⟩
abbrev cX7_names : ByteArray := prog_9_method_41_code
def yX7_names : MethodName := ⟨RX7, "names", "()V"⟩
abbrev cX7_cellsOf : ByteArray := prog_9_method_42_code
def yX7_cellsOf : MethodName := ⟨RX7, "cellsOf", "(I)I"⟩
abbrev cX7_greatestPiece : ByteArray := prog_9_method_43_code
def yX7_greatestPiece : MethodName := ⟨RX7, "greatestPiece", "()I"⟩
abbrev cX7_pieces : ByteArray := prog_9_method_44_code
def yX7_pieces : MethodName := ⟨RX7, "pieces", "(I)I"⟩
abbrev cX7_mean : ByteArray := prog_9_method_45_code
def yX7_mean : MethodName := ⟨RX7, "mean", "(I)D"⟩
abbrev cX7_wholeOf : ByteArray := prog_9_method_46_code
def yX7_wholeOf : MethodName := ⟨RX7, "wholeOf", "(I)I"⟩
abbrev cX7_stressAt : ByteArray := prog_9_method_47_code
def yX7_stressAt : MethodName := ⟨RX7, "stressAt", "(I)I"⟩
abbrev cX7_pieceOf : ByteArray := prog_9_method_48_code
def yX7_pieceOf : MethodName := ⟨RX7, "pieceOf", "(I)I"⟩
abbrev cX7_cell : ByteArray := prog_9_method_49_code
def yX7_cell : MethodName := ⟨RX7, "cell", "(II)I"⟩
abbrev cX7_touching : ByteArray := prog_9_method_50_code
def yX7_touching : MethodName := ⟨RX7, "touching", "(I)I"⟩
abbrev cX7_joint : ByteArray := prog_9_method_51_code
def yX7_joint : MethodName := ⟨RX7, "joint", "(II)I"⟩
abbrev cX7_isAhead : ByteArray := prog_9_method_52_code
def yX7_isAhead : MethodName := ⟨RX7, "isAhead", "(II)Z"⟩
abbrev cX7_strained : ByteArray := prog_9_method_53_code
def yX7_strained : MethodName := ⟨RX7, "strained", "(I)I"⟩
abbrev cX7_sumOfHeats : ByteArray := prog_9_method_54_code
def yX7_sumOfHeats : MethodName := ⟨RX7, "sumOfHeats", "()I"⟩
abbrev cX7_heatMost : ByteArray := prog_9_method_55_code
def yX7_heatMost : MethodName := ⟨RX7, "heatMost", "(Z)I"⟩
abbrev cX7_leastMargin : ByteArray := prog_9_method_56_code
def yX7_leastMargin : MethodName := ⟨RX7, "leastMargin", "()I"⟩
abbrev cX7_count : ByteArray := prog_9_method_57_code
def yX7_count : MethodName := ⟨RX7, "count", "(I)I"⟩
abbrev cX7_ifPassed : ByteArray := prog_9_method_58_code
def yX7_ifPassed : MethodName := ⟨RX7, "ifPassed", "(II)I"⟩
abbrev cX7_isHarmless : ByteArray := prog_9_method_59_code
def yX7_isHarmless : MethodName := ⟨RX7, "isHarmless", "(III)Z"⟩
abbrev cX7_fastest : ByteArray := prog_9_method_60_code
def yX7_fastest : MethodName := ⟨RX7, "fastest", "(II)I"⟩
abbrev cX7_evenIn : ByteArray := prog_9_method_61_code
def yX7_evenIn : MethodName := ⟨RX7, "evenIn", "(I)I"⟩
abbrev cX7_undo : ByteArray := prog_9_method_62_code
def yX7_undo : MethodName := ⟨RX7, "undo", "()I"⟩
abbrev cX7_save : ByteArray := prog_9_method_63_code
def yX7_save : MethodName := ⟨RX7, "save", "()I"⟩
abbrev cX7_restore : ByteArray := prog_9_method_64_code
def yX7_restore : MethodName := ⟨RX7, "restore", "()I"⟩
def RJ9 : String := "java/lang/Math"
def TJ9 : u_T := fun k => match k with
  | _ => ("", "", "", false)
def tyJ9 : Nat → FieldType := fun k => match k with
  | _ => .int
abbrev wsJ90 : List Cond := u_ws RJ9 TJ9 0
theorem nmJ9 : ∀ a, a < 0 → ∀ b, b < 0 → a ≠ b → (TJ9 a).2.1 ≠ (TJ9 b).2.1 := by decide +kernel
theorem tyJ9_ok : ∀ k, k < 0 → parseFieldDescriptor (TJ9 k).2.2.1 = some (tyJ9 k) := by decide +kernel
abbrev cJ9_abs_0f7a4 : ByteArray := prog_10_method_59_code
def yJ9_abs_0f7a4 : MethodName := ⟨RJ9, "abs", "(I)I"⟩
abbrev cJ9_max_7cf53 : ByteArray := prog_10_method_65_code
def yJ9_max_7cf53 : MethodName := ⟨RJ9, "max", "(II)I"⟩
abbrev cJ9_min_7cf53 : ByteArray := prog_10_method_69_code
def yJ9_min_7cf53 : MethodName := ⟨RJ9, "min", "(II)I"⟩
def RJ10 : String := "java/lang/System"
def TJ10 : u_T := fun k => match k with
  | _ => ("", "", "", false)
def tyJ10 : Nat → FieldType := fun k => match k with
  | _ => .int
abbrev wsJ100 : List Cond := u_ws RJ10 TJ10 0
theorem nmJ10 : ∀ a, a < 0 → ∀ b, b < 0 → a ≠ b → (TJ10 a).2.1 ≠ (TJ10 b).2.1 := by decide +kernel
theorem tyJ10_ok : ∀ k, k < 0 → parseFieldDescriptor (TJ10 k).2.2.1 = some (tyJ10 k) := by decide +kernel
def RJ7 : String := "java/util/Arrays"
def TJ7 : u_T := fun k => match k with
  | _ => ("", "", "", false)
def tyJ7 : Nat → FieldType := fun k => match k with
  | _ => .int
abbrev wsJ70 : List Cond := u_ws RJ7 TJ7 0
theorem nmJ7 : ∀ a, a < 0 → ∀ b, b < 0 → a ≠ b → (TJ7 a).2.1 ≠ (TJ7 b).2.1 := by decide +kernel
theorem tyJ7_ok : ∀ k, k < 0 → parseFieldDescriptor (TJ7 k).2.2.1 = some (tyJ7 k) := by decide +kernel
abbrev cJ7_fill_53178 : ByteArray := prog_12_method_103_code
def yJ7_fill_53178 : MethodName := ⟨RJ7, "fill", "([II)V"⟩
def RL : String := "ColdPanesLaw"
abbrev cL_law : ByteArray := code
def yL_law : MethodName := ⟨RL, "law", "([I)Z"⟩
def wsL_law_r1 : List Cond := [Cond.classLink RL 7 RX6, Cond.instantiable RX6 8, Cond.initialized RX6, Cond.classLink RL 10 RX7, Cond.instantiable RX7 17, Cond.initialized RX7, Cond.methodLink RL 9 yX6_init, Cond.instanceMethod yX6_init, Cond.code yX6_init cX6_init 1 none, Cond.methodLink RX6 3 objectInit, Cond.instanceMethod objectInit, Cond.code objectInit ⟨#[0xb1]⟩ 1 none, Cond.classLink RX6 9 RX4, Cond.instantiable RX4 12, Cond.initialized RX4, Cond.fieldLink RX6 12 "ColdPanes" "now" "LColdPanes$Pane;", Cond.fieldLink RX6 16 "ColdPanes" "trial" "LColdPanes$Pane;", Cond.fieldLink RX6 19 "ColdPanes" "snapshot" "LColdPanes$Pane;", Cond.fieldLink RX6 22 "ColdPanes" "hasSnapshot" "Z", Cond.classLink RX6 26 RX2, Cond.instantiable RX2 2, Cond.initialized RX2, Cond.fieldLink RX6 29 "ColdPanes" "history" "LColdPanes$History;", Cond.classLink RX6 33 RX3]
def wsL_law_r2 : List Cond := [Cond.instantiable RX3 8, Cond.initialized RX3, Cond.fieldLink RX6 36 "ColdPanes" "pad" "LColdPanes$Pad;", Cond.classLink RX6 40 RX5, Cond.instantiable RX5 3, Cond.initialized RX5, Cond.fieldLink RX6 43 "ColdPanes" "parts" "LColdPanes$Pieces;", Cond.classLink RX6 47 RX0, Cond.instantiable RX0 3, Cond.initialized RX0, Cond.fieldLink RX6 50 "ColdPanes" "forecast" "LColdPanes$Forecast;", Cond.methodLink RX6 11 yX4_init, Cond.instanceMethod yX4_init, Cond.code yX4_init cX4_init 1 none, Cond.methodLink RX4 3 objectInit, Cond.arrayClass .int, Cond.fieldLink RX4 9 "ColdPanes$Pane" "heats" "[I", Cond.fieldLink RX4 15 "ColdPanes$Pane" "gains" "[I", Cond.fieldLink RX4 18 "ColdPanes$Pane" "strengths" "[I", Cond.fieldLink RX4 21 "ColdPanes$Pane" "crackedIn" "[I", Cond.fieldLink RX4 24 "ColdPanes$Pane" "rate" "I", Cond.fieldLink RX4 28 "ColdPanes$Pane" "lead" "I", Cond.fieldLink RX4 31 "ColdPanes$Pane" "rim" "I", Cond.methodLink RX4 34 yX4_renew]
def wsL_law_r3 : List Cond := [Cond.instanceMethod yX4_renew, Cond.selects RX4 yX4_renew yX4_renew, Cond.code yX4_renew cX4_renew 2 none, Cond.fieldLink RX4 44 "ColdPanes$Pane" "furnace" "I", Cond.fieldLink RX4 47 "ColdPanes$Pane" "aim" "I", Cond.fieldLink RX4 50 "ColdPanes$Pane" "minutes" "I", Cond.fieldLink RX4 53 "ColdPanes$Pane" "loss" "I", Cond.fieldLink RX4 56 "ColdPanes$Pane" "flames" "I", Cond.methodLink RX4 38 yJ7_fill_53178, Cond.static yJ7_fill_53178, Cond.initialized RJ7, Cond.code yJ7_fill_53178 cJ7_fill_53178 4 none, Cond.methodLink RX6 28 yX2_init, Cond.instanceMethod yX2_init, Cond.code yX2_init cX2_init 2 none, Cond.methodLink RX2 3 objectInit, Cond.classLink RX2 9 RX4, Cond.fieldLink RX2 11 "ColdPanes$History" "states" "[LColdPanes$Pane;", Cond.fieldLink RX2 17 "ColdPanes$History" "size" "I", Cond.methodLink RX2 21 yX4_init, Cond.instanceMethod yX3_init, Cond.code yX3_init cX3_init 1 none, Cond.methodLink RX3 3 objectInit, Cond.arrayClass .char]
def wsL_law_r4 : List Cond := [Cond.fieldLink RX3 9 "ColdPanes$Pad" "characters" "[C", Cond.fieldLink RX3 15 "ColdPanes$Pad" "length" "I", Cond.fieldLink RX3 19 "ColdPanes$Pad" "aims" "[I", Cond.fieldLink RX3 23 "ColdPanes$Pad" "rates" "[I", Cond.fieldLink RX3 26 "ColdPanes$Pad" "minutes" "[I", Cond.fieldLink RX3 29 "ColdPanes$Pad" "segments" "I", Cond.fieldLink RX3 32 "ColdPanes$Pad" "part" "I", Cond.fieldLink RX3 35 "ColdPanes$Pad" "number" "I", Cond.instanceMethod yX5_init, Cond.code yX5_init cX5_init 1 none, Cond.methodLink RX5 3 objectInit, Cond.fieldLink RX5 9 "ColdPanes$Pieces" "names" "[I", Cond.fieldLink RX5 15 "ColdPanes$Pieces" "reached" "[I", Cond.fieldLink RX5 18 "ColdPanes$Pieces" "reachedCells" "I", Cond.instanceMethod yX0_init, Cond.code yX0_init cX0_init 1 none, Cond.methodLink RX0 3 objectInit, Cond.methodLink RL 12 yX7_init, Cond.instanceMethod yX7_init, Cond.code yX7_init cX7_init 1 none, Cond.methodLink RX7 1 objectInit, Cond.fieldLink RX7 7 "ColdPanesModel" "s" "[I", Cond.fieldLink RX7 13 "ColdPanesModel" "aside" "[I", Cond.fieldLink RX7 16 "ColdPanesModel" "past" "[I"]
def wsL_law_r5 : List Cond := [Cond.fieldLink RX7 19 "ColdPanesModel" "kept" "[I", Cond.fieldLink RX7 22 "ColdPanesModel" "pad" "[I", Cond.fieldLink RX7 25 "ColdPanesModel" "flow" "[I", Cond.fieldLink RX7 28 "ColdPanesModel" "name" "[I", Cond.methodLink RX7 31 yX7_goBegin, Cond.instanceMethod yX7_goBegin, Cond.selects RX7 yX7_goBegin yX7_goBegin, Cond.code yX7_goBegin cX7_goBegin 3 (some .int), Cond.methodLink RL 13 yX6_begin, Cond.instanceMethod yX6_begin, Cond.selects RX6 yX6_begin yX6_begin, Cond.code yX6_begin cX6_begin 2 (some .int), Cond.methodLink RX6 54 yX6_isOutside, Cond.static yX6_isOutside, Cond.code yX6_isOutside cX6_isOutside 3 (some .boolean), Cond.methodLink RX6 58 yX2_record, Cond.instanceMethod yX2_record, Cond.selects RX2 yX2_record yX2_record, Cond.code yX2_record cX2_record 3 none, Cond.methodLink RX2 22 yX2_dropOldest, Cond.instanceMethod yX2_dropOldest, Cond.selects RX2 yX2_dropOldest yX2_dropOldest, Cond.code yX2_dropOldest cX2_dropOldest 3 none, Cond.methodLink RX2 25 yX2_stateAt]
def wsL_law_r6 : List Cond := [Cond.instanceMethod yX2_stateAt, Cond.selects RX2 yX2_stateAt yX2_stateAt, Cond.code yX2_stateAt cX2_stateAt 2 (some (.object "ColdPanes$Pane")), Cond.methodLink RX2 29 yX4_copyFrom, Cond.instanceMethod yX4_copyFrom, Cond.selects RX4 yX4_copyFrom yX4_copyFrom, Cond.code yX4_copyFrom cX4_copyFrom 2 none, Cond.methodLink RX4 59 arraycopyName, Cond.native arraycopyName, Cond.static arraycopyName, Cond.initialized "java/lang/System", Cond.methodLink RX6 62 yX4_renew, Cond.methodLink RX6 66 yX4_sumOfHeats, Cond.instanceMethod yX4_sumOfHeats, Cond.selects RX4 yX4_sumOfHeats yX4_sumOfHeats, Cond.code yX4_sumOfHeats cX4_sumOfHeats 3 (some .int), Cond.methodLink RL 17 yX7_begin, Cond.instanceMethod yX7_begin, Cond.selects RX7 yX7_begin yX7_begin, Cond.code yX7_begin cX7_begin 2 (some .int), Cond.methodLink RX7 43 yX7_in, Cond.static yX7_in, Cond.code yX7_in cX7_in 3 (some .boolean), Cond.methodLink RX7 92 yX7_records]
def wsL_law_r7 : List Cond := [Cond.instanceMethod yX7_records, Cond.selects RX7 yX7_records yX7_records, Cond.code yX7_records cX7_records 2 none, Cond.fieldLink RX7 35 "ColdPanesModel" "known" "I", Cond.methodLink RX7 39 yX7_copies, Cond.static yX7_copies, Cond.code yX7_copies cX7_copies 5 none, Cond.methodLink RL 18 yX6_aim, Cond.instanceMethod yX6_aim, Cond.selects RX6 yX6_aim yX6_aim, Cond.code yX6_aim cX6_aim 4 (some .int), Cond.methodLink RL 22 yX7_aim, Cond.instanceMethod yX7_aim, Cond.selects RX7 yX7_aim yX7_aim, Cond.code yX7_aim cX7_aim 4 (some .int), Cond.methodLink RX7 95 yX7_laysAim, Cond.instanceMethod yX7_laysAim, Cond.selects RX7 yX7_laysAim yX7_laysAim, Cond.code yX7_laysAim cX7_laysAim 3 none, Cond.methodLink RL 23 yX6_pass, Cond.instanceMethod yX6_pass, Cond.selects RX6 yX6_pass yX6_pass, Cond.code yX6_pass cX6_pass 2 (some .int), Cond.methodLink RX6 77 yX4_passMinutes]
def wsL_law_r8 : List Cond := [Cond.instanceMethod yX4_passMinutes, Cond.selects RX4 yX4_passMinutes yX4_passMinutes, Cond.code yX4_passMinutes cX4_passMinutes 4 (some .int), Cond.methodLink RX4 65 yX4_letHeatFlow, Cond.instanceMethod yX4_letHeatFlow, Cond.selects RX4 yX4_letHeatFlow yX4_letHeatFlow, Cond.code yX4_letHeatFlow cX4_letHeatFlow 2 none, Cond.methodLink RX4 72 yX4_moveFurnace, Cond.instanceMethod yX4_moveFurnace, Cond.selects RX4 yX4_moveFurnace yX4_moveFurnace, Cond.code yX4_moveFurnace cX4_moveFurnace 1 none, Cond.methodLink RX4 81 Lib.Math.min.name, Cond.static Lib.Math.min.name, Cond.initialized "java/lang/Math", Cond.code Lib.Math.min.name Lib.Math.min.code 2 (some .int), Cond.methodLink RX4 87 Lib.Math.max.name, Cond.static Lib.Math.max.name, Cond.code Lib.Math.max.name Lib.Math.max.code 2 (some .int), Cond.methodLink RX4 75 yX4_flowOverJoints, Cond.instanceMethod yX4_flowOverJoints, Cond.selects RX4 yX4_flowOverJoints yX4_flowOverJoints, Cond.code yX4_flowOverJoints cX4_flowOverJoints 5 none, Cond.methodLink RX4 90 yX4_isWhole, Cond.instanceMethod yX4_isWhole]
def wsL_law_r9 : List Cond := [Cond.selects RX4 yX4_isWhole yX4_isWhole, Cond.code yX4_isWhole cX4_isWhole 2 (some .boolean), Cond.methodLink RX4 94 yX1_firstCell, Cond.static yX1_firstCell, Cond.initialized RX1, Cond.code yX1_firstCell cX1_firstCell 1 (some .int), Cond.methodLink RX4 100 yX1_secondCell, Cond.static yX1_secondCell, Cond.code yX1_secondCell cX1_secondCell 1 (some .int), Cond.methodLink RX4 103 yX4_heatAt, Cond.instanceMethod yX4_heatAt, Cond.selects RX4 yX4_heatAt yX4_heatAt, Cond.code yX4_heatAt cX4_heatAt 2 (some .int), Cond.methodLink RX4 106 yX4_gain, Cond.instanceMethod yX4_gain, Cond.selects RX4 yX4_gain yX4_gain, Cond.code yX4_gain cX4_gain 3 none, Cond.methodLink RX4 113 yX1_isCell, Cond.static yX1_isCell, Cond.code yX1_isCell cX1_isCell 1 (some .boolean), Cond.methodLink RX4 78 yX4_flowAtRim, Cond.instanceMethod yX4_flowAtRim, Cond.selects RX4 yX4_flowAtRim yX4_flowAtRim, Cond.code yX4_flowAtRim cX4_flowAtRim 3 none]
def wsL_law_r10 : List Cond := [Cond.methodLink RX4 110 yX1_rimSides, Cond.static yX1_rimSides, Cond.code yX1_rimSides cX1_rimSides 5 (some .int), Cond.methodLink RX4 68 yX4_crackWorst, Cond.instanceMethod yX4_crackWorst, Cond.selects RX4 yX4_crackWorst yX4_crackWorst, Cond.code yX4_crackWorst cX4_crackWorst 2 (some .boolean), Cond.methodLink RX4 116 yX4_mostStrained, Cond.instanceMethod yX4_mostStrained, Cond.selects RX4 yX4_mostStrained yX4_mostStrained, Cond.code yX4_mostStrained cX4_mostStrained 5 (some .int), Cond.methodLink RX4 120 yX4_marginOf, Cond.instanceMethod yX4_marginOf, Cond.selects RX4 yX4_marginOf yX4_marginOf, Cond.code yX4_marginOf cX4_marginOf 2 (some .int), Cond.methodLink RX4 136 yX4_strengthOf, Cond.instanceMethod yX4_strengthOf, Cond.selects RX4 yX4_strengthOf yX4_strengthOf, Cond.code yX4_strengthOf cX4_strengthOf 2 (some .int), Cond.methodLink RX4 130 yX1_isJoint, Cond.static yX1_isJoint, Cond.code yX1_isJoint cX1_isJoint 1 (some .boolean), Cond.methodLink RX4 139 yX4_stressOf, Cond.instanceMethod yX4_stressOf]
def wsL_law_r11 : List Cond := [Cond.selects RX4 yX4_stressOf yX4_stressOf, Cond.code yX4_stressOf cX4_stressOf 2 (some .int), Cond.methodLink RX4 133 Lib.Math.abs.name, Cond.static Lib.Math.abs.name, Cond.code Lib.Math.abs.name Lib.Math.abs.code 1 (some .int), Cond.methodLink RX4 123 yX4_weakenBeside, Cond.instanceMethod yX4_weakenBeside, Cond.selects RX4 yX4_weakenBeside yX4_weakenBeside, Cond.code yX4_weakenBeside cX4_weakenBeside 3 none, Cond.methodLink RX4 126 yX1_touch, Cond.static yX1_touch, Cond.code yX1_touch cX1_touch 2 (some .boolean), Cond.methodLink RX1 9 yX1_firstCell, Cond.methodLink RX1 18 yX1_isEnd, Cond.static yX1_isEnd, Cond.code yX1_isEnd cX1_isEnd 2 (some .boolean), Cond.methodLink RX1 15 yX1_secondCell, Cond.methodLink RL 26 yX7_pass, Cond.instanceMethod yX7_pass, Cond.selects RX7 yX7_pass yX7_pass, Cond.code yX7_pass cX7_pass 2 (some .int), Cond.methodLink RX7 99 yX7_goPass, Cond.instanceMethod yX7_goPass, Cond.selects RX7 yX7_goPass yX7_goPass]
def wsL_law_r12 : List Cond := [Cond.code yX7_goPass cX7_goPass 4 (some .int), Cond.methodLink RX7 89 yX7_minute, Cond.instanceMethod yX7_minute, Cond.selects RX7 yX7_minute yX7_minute, Cond.code yX7_minute cX7_minute 6 (some .int), Cond.fieldLink RX7 80 "ColdPanesModel" "strongest" "I", Cond.methodLink RX7 53 yX7_size, Cond.static yX7_size, Cond.code yX7_size cX7_size 1 (some .int), Cond.methodLink RX7 73 yX7_flows, Cond.instanceMethod yX7_flows, Cond.selects RX7 yX7_flows yX7_flows, Cond.code yX7_flows cX7_flows 3 none, Cond.methodLink RX7 63 yX7_isWhole, Cond.instanceMethod yX7_isWhole, Cond.selects RX7 yX7_isWhole yX7_isWhole, Cond.code yX7_isWhole cX7_isWhole 2 (some .boolean), Cond.methodLink RX7 47 yX7_firstOf, Cond.static yX7_firstOf, Cond.code yX7_firstOf cX7_firstOf 1 (some .int), Cond.methodLink RX7 50 yX7_secondOf, Cond.static yX7_secondOf, Cond.code yX7_secondOf cX7_secondOf 1 (some .int), Cond.methodLink RX7 67 yX7_sidesOf]
def wsL_law_r13 : List Cond := [Cond.static yX7_sidesOf, Cond.code yX7_sidesOf cX7_sidesOf 3 (some .int), Cond.methodLink RX7 76 yX7_greatestStress, Cond.instanceMethod yX7_greatestStress, Cond.selects RX7 yX7_greatestStress yX7_greatestStress, Cond.code yX7_greatestStress cX7_greatestStress 3 (some .int), Cond.methodLink RX7 56 yX7_stressOf, Cond.instanceMethod yX7_stressOf, Cond.selects RX7 yX7_stressOf yX7_stressOf, Cond.code yX7_stressOf cX7_stressOf 2 (some .int), Cond.methodLink RX7 83 yX7_worst, Cond.instanceMethod yX7_worst, Cond.selects RX7 yX7_worst yX7_worst, Cond.code yX7_worst cX7_worst 4 (some .int), Cond.methodLink RX7 70 yX7_marginOf, Cond.instanceMethod yX7_marginOf, Cond.selects RX7 yX7_marginOf yX7_marginOf, Cond.code yX7_marginOf cX7_marginOf 2 (some .int), Cond.methodLink RX7 86 yX7_touch, Cond.static yX7_touch, Cond.code yX7_touch cX7_touch 2 (some .boolean), Cond.methodLink RX7 59 yX7_has, Cond.static yX7_has, Cond.code yX7_has cX7_has 2 (some .boolean)]
def wsL_law_r14 : List Cond := [Cond.methodLink RL 27 yX6_scratch, Cond.instanceMethod yX6_scratch, Cond.selects RX6 yX6_scratch yX6_scratch, Cond.code yX6_scratch cX6_scratch 4 (some .int), Cond.methodLink RX6 81 yX1_isJoint, Cond.methodLink RX6 87 yX4_isWhole, Cond.methodLink RX6 90 yX4_strengthOf, Cond.methodLink RX6 93 yX4_strengthen, Cond.instanceMethod yX4_strengthen, Cond.selects RX4 yX4_strengthen yX4_strengthen, Cond.code yX4_strengthen cX4_strengthen 3 none, Cond.methodLink RL 30 yX7_scratch, Cond.instanceMethod yX7_scratch, Cond.selects RX7 yX7_scratch yX7_scratch, Cond.code yX7_scratch cX7_scratch 4 (some .int), Cond.methodLink RX7 102 yX7_isJoint, Cond.static yX7_isJoint, Cond.code yX7_isJoint cX7_isJoint 1 (some .boolean), Cond.methodLink RL 31 yX6_mend, Cond.instanceMethod yX6_mend, Cond.selects RX6 yX6_mend yX6_mend, Cond.code yX6_mend cX6_mend 2 (some .int), Cond.methodLink RX6 97 yX4_makeWhole, Cond.instanceMethod yX4_makeWhole]
def wsL_law_r15 : List Cond := [Cond.selects RX4 yX4_makeWhole yX4_makeWhole, Cond.code yX4_makeWhole cX4_makeWhole 2 none, Cond.methodLink RX6 100 yX4_crackedJoints, Cond.instanceMethod yX4_crackedJoints, Cond.selects RX4 yX4_crackedJoints yX4_crackedJoints, Cond.code yX4_crackedJoints cX4_crackedJoints 3 (some .int), Cond.methodLink RL 34 yX7_mend, Cond.instanceMethod yX7_mend, Cond.selects RX7 yX7_mend yX7_mend, Cond.code yX7_mend cX7_mend 2 (some .int), Cond.methodLink RX7 105 yX7_cracked, Cond.instanceMethod yX7_cracked, Cond.selects RX7 yX7_cracked yX7_cracked, Cond.code yX7_cracked cX7_cracked 3 (some .int), Cond.methodLink RL 35 yX6_heat, Cond.instanceMethod yX6_heat, Cond.selects RX6 yX6_heat yX6_heat, Cond.code yX6_heat cX6_heat 3 (some .int), Cond.methodLink RX6 103 yX1_isCell, Cond.methodLink RX6 106 yX4_holdFlame, Cond.instanceMethod yX4_holdFlame, Cond.selects RX4 yX4_holdFlame yX4_holdFlame, Cond.code yX4_holdFlame cX4_holdFlame 5 (some .int), Cond.methodLink RL 38 yX7_heat]
def wsL_law_r16 : List Cond := [Cond.instanceMethod yX7_heat, Cond.selects RX7 yX7_heat yX7_heat, Cond.code yX7_heat cX7_heat 4 (some .int), Cond.methodLink RX7 108 yX7_isCell, Cond.static yX7_isCell, Cond.code yX7_isCell cX7_isCell 1 (some .boolean), Cond.methodLink RL 39 yX6_set, Cond.instanceMethod yX6_set, Cond.selects RX6 yX6_set yX6_set, Cond.code yX6_set cX6_set 4 (some .int), Cond.methodLink RL 42 yX7_set, Cond.instanceMethod yX7_set, Cond.selects RX7 yX7_set yX7_set, Cond.code yX7_set cX7_set 4 (some .int), Cond.methodLink RL 43 yX6_append, Cond.instanceMethod yX6_append, Cond.selects RX6 yX6_append yX6_append, Cond.code yX6_append cX6_append 2 (some .int), Cond.methodLink RX6 116 yX3_take, Cond.instanceMethod yX3_take, Cond.selects RX3 yX3_take yX3_take, Cond.code yX3_take cX3_take 2 (some .boolean), Cond.methodLink RL 46 yX7_append, Cond.instanceMethod yX7_append]
def wsL_law_r17 : List Cond := [Cond.selects RX7 yX7_append yX7_append, Cond.code yX7_append cX7_append 2 (some .int), Cond.fieldLink RX7 111 "ColdPanesModel" "length" "I", Cond.methodLink RL 47 yX6_clear, Cond.instanceMethod yX6_clear, Cond.selects RX6 yX6_clear yX6_clear, Cond.code yX6_clear cX6_clear 2 (some .int), Cond.methodLink RL 51 yX7_clear, Cond.instanceMethod yX7_clear, Cond.selects RX7 yX7_clear yX7_clear, Cond.code yX7_clear cX7_clear 2 (some .int), Cond.methodLink RL 52 yX6_fault, Cond.instanceMethod yX6_fault, Cond.selects RX6 yX6_fault yX6_fault, Cond.code yX6_fault cX6_fault 1 (some .int), Cond.methodLink RX6 123 yX3_findFault, Cond.instanceMethod yX3_findFault, Cond.selects RX3 yX3_findFault yX3_findFault, Cond.code yX3_findFault cX3_findFault 2 (some .int), Cond.methodLink RX3 38 yX3_reads, Cond.instanceMethod yX3_reads, Cond.selects RX3 yX3_reads yX3_reads, Cond.code yX3_reads cX3_reads 2 (some .boolean), Cond.methodLink RX3 45 yX3_readsDigit]
def wsL_law_r18 : List Cond := [Cond.instanceMethod yX3_readsDigit, Cond.selects RX3 yX3_readsDigit yX3_readsDigit, Cond.code yX3_readsDigit cX3_readsDigit 2 (some .boolean), Cond.methodLink RX3 60 yX3_leastOfPart, Cond.instanceMethod yX3_leastOfPart, Cond.selects RX3 yX3_leastOfPart yX3_leastOfPart, Cond.code yX3_leastOfPart cX3_leastOfPart 1 (some .int), Cond.methodLink RX3 64 yX3_mostOfPart, Cond.instanceMethod yX3_mostOfPart, Cond.selects RX3 yX3_mostOfPart yX3_mostOfPart, Cond.code yX3_mostOfPart cX3_mostOfPart 1 (some .int), Cond.methodLink RX3 49 yX3_readsHold, Cond.instanceMethod yX3_readsHold, Cond.selects RX3 yX3_readsHold yX3_readsHold, Cond.code yX3_readsHold cX3_readsHold 2 (some .boolean), Cond.methodLink RX3 56 yX3_keepIn, Cond.instanceMethod yX3_keepIn, Cond.selects RX3 yX3_keepIn yX3_keepIn, Cond.code yX3_keepIn cX3_keepIn 3 none, Cond.methodLink RX3 52 yX3_endOfPart, Cond.instanceMethod yX3_endOfPart, Cond.selects RX3 yX3_endOfPart yX3_endOfPart, Cond.code yX3_endOfPart cX3_endOfPart 1 (some .char), Cond.methodLink RX3 42 yX3_endNumber]
def wsL_law_r19 : List Cond := [Cond.instanceMethod yX3_endNumber, Cond.selects RX3 yX3_endNumber yX3_endNumber, Cond.code yX3_endNumber cX3_endNumber 1 none, Cond.methodLink RL 55 yX7_fault, Cond.instanceMethod yX7_fault, Cond.selects RX7 yX7_fault yX7_fault, Cond.code yX7_fault cX7_fault 1 (some .int), Cond.fieldLink RX7 114 "ColdPanesModel" "spot" "I", Cond.methodLink RX7 147 yX7_isProgram, Cond.instanceMethod yX7_isProgram, Cond.selects RX7 yX7_isProgram yX7_isProgram, Cond.code yX7_isProgram cX7_isProgram 1 (some .boolean), Cond.fieldLink RX7 117 "ColdPanesModel" "isForm" "Z", Cond.methodLink RX7 144 yX7_takesSegment, Cond.instanceMethod yX7_takesSegment, Cond.selects RX7 yX7_takesSegment yX7_takesSegment, Cond.code yX7_takesSegment cX7_takesSegment 1 none, Cond.fieldLink RX7 128 "ColdPanesModel" "isHold" "Z", Cond.fieldLink RX7 135 "ColdPanesModel" "toldAim" "I", Cond.fieldLink RX7 138 "ColdPanesModel" "toldRate" "I", Cond.fieldLink RX7 141 "ColdPanesModel" "toldMinutes" "I", Cond.methodLink RX7 121 yX7_here, Cond.instanceMethod yX7_here, Cond.selects RX7 yX7_here yX7_here]
def wsL_law_r20 : List Cond := [Cond.code yX7_here cX7_here 1 (some .int), Cond.methodLink RX7 124 yX7_takes, Cond.instanceMethod yX7_takes, Cond.selects RX7 yX7_takes yX7_takes, Cond.code yX7_takes cX7_takes 2 none, Cond.methodLink RX7 131 yX7_takesNumber, Cond.instanceMethod yX7_takesNumber, Cond.selects RX7 yX7_takesNumber yX7_takesNumber, Cond.code yX7_takesNumber cX7_takesNumber 4 (some .int), Cond.methodLink RL 56 yX6_run, Cond.instanceMethod yX6_run, Cond.selects RX6 yX6_run yX6_run, Cond.code yX6_run cX6_run 3 (some .int), Cond.methodLink RX6 129 yX3_aimOf, Cond.instanceMethod yX3_aimOf, Cond.selects RX3 yX3_aimOf yX3_aimOf, Cond.code yX3_aimOf cX3_aimOf 2 (some .int), Cond.methodLink RX3 67 yX3_isSegment, Cond.static yX3_isSegment, Cond.code yX3_isSegment cX3_isSegment 1 (some .boolean), Cond.methodLink RX6 132 yX3_rateOf, Cond.instanceMethod yX3_rateOf, Cond.selects RX3 yX3_rateOf yX3_rateOf, Cond.code yX3_rateOf cX3_rateOf 2 (some .int)]
def wsL_law_r21 : List Cond := [Cond.methodLink RX6 135 yX3_minutesOf, Cond.instanceMethod yX3_minutesOf, Cond.selects RX3 yX3_minutesOf yX3_minutesOf, Cond.code yX3_minutesOf cX3_minutesOf 2 (some .int), Cond.methodLink RL 59 yX7_run, Cond.instanceMethod yX7_run, Cond.selects RX7 yX7_run yX7_run, Cond.code yX7_run cX7_run 3 (some .int), Cond.methodLink RL 60 yX6_cell, Cond.instanceMethod yX6_cell, Cond.selects RX6 yX6_cell yX6_cell, Cond.code yX6_cell cX6_cell 3 (some .int), Cond.methodLink RX6 138 yX4_heatAt, Cond.methodLink RX6 141 yX5_tellByGoing, Cond.instanceMethod yX5_tellByGoing, Cond.selects RX5 yX5_tellByGoing yX5_tellByGoing, Cond.code yX5_tellByGoing cX5_tellByGoing 4 (some .int), Cond.methodLink RX5 22 yJ7_fill_53178, Cond.methodLink RX5 28 yX5_spreadFrom, Cond.instanceMethod yX5_spreadFrom, Cond.selects RX5 yX5_spreadFrom yX5_spreadFrom, Cond.code yX5_spreadFrom cX5_spreadFrom 7 none, Cond.methodLink RX5 32 yX5_reach, Cond.instanceMethod yX5_reach]
def wsL_law_r22 : List Cond := [Cond.selects RX5 yX5_reach yX5_reach, Cond.code yX5_reach cX5_reach 3 none, Cond.methodLink RX5 51 yX5_nameOf, Cond.instanceMethod yX5_nameOf, Cond.selects RX5 yX5_nameOf yX5_nameOf, Cond.code yX5_nameOf cX5_nameOf 2 (some .int), Cond.methodLink RX5 55 yX1_isCell, Cond.methodLink RX5 36 yX1_jointAt, Cond.static yX1_jointAt, Cond.code yX1_jointAt cX1_jointAt 4 (some .int), Cond.methodLink RX5 42 yX4_isWhole, Cond.methodLink RX5 48 yX1_otherCell, Cond.static yX1_otherCell, Cond.code yX1_otherCell cX1_otherCell 2 (some .int), Cond.methodLink RX6 145 yX5_nameOf, Cond.methodLink RX6 148 yX4_wholeJointsOf, Cond.instanceMethod yX4_wholeJointsOf, Cond.selects RX4 yX4_wholeJointsOf yX4_wholeJointsOf, Cond.code yX4_wholeJointsOf cX4_wholeJointsOf 4 (some .int), Cond.methodLink RX4 142 yX1_jointAt, Cond.methodLink RX6 151 yX1_rimSides, Cond.methodLink RX6 154 yX4_greatestStressOf, Cond.instanceMethod yX4_greatestStressOf, Cond.selects RX4 yX4_greatestStressOf yX4_greatestStressOf]
def wsL_law_r23 : List Cond := [Cond.code yX4_greatestStressOf cX4_greatestStressOf 5 (some .int), Cond.methodLink RL 63 yX7_cell, Cond.instanceMethod yX7_cell, Cond.selects RX7 yX7_cell yX7_cell, Cond.code yX7_cell cX7_cell 3 (some .int), Cond.methodLink RX7 159 yX7_pieceOf, Cond.instanceMethod yX7_pieceOf, Cond.selects RX7 yX7_pieceOf yX7_pieceOf, Cond.code yX7_pieceOf cX7_pieceOf 2 (some .int), Cond.methodLink RX7 151 yX7_names, Cond.instanceMethod yX7_names, Cond.selects RX7 yX7_names yX7_names, Cond.code yX7_names cX7_names 5 none, Cond.methodLink RX7 162 yX7_wholeOf, Cond.instanceMethod yX7_wholeOf, Cond.selects RX7 yX7_wholeOf yX7_wholeOf, Cond.code yX7_wholeOf cX7_wholeOf 4 (some .int), Cond.methodLink RX7 165 yX7_stressAt, Cond.instanceMethod yX7_stressAt, Cond.selects RX7 yX7_stressAt yX7_stressAt, Cond.code yX7_stressAt cX7_stressAt 4 (some .int), Cond.methodLink RL 64 yX6_joint, Cond.instanceMethod yX6_joint, Cond.selects RX6 yX6_joint yX6_joint]
def wsL_law_r24 : List Cond := [Cond.code yX6_joint cX6_joint 4 (some .int), Cond.methodLink RX6 157 yX1_firstCell, Cond.methodLink RX6 160 yX1_secondCell, Cond.methodLink RX6 163 yX4_stressOf, Cond.methodLink RX6 166 yX4_crackedMinuteOf, Cond.instanceMethod yX4_crackedMinuteOf, Cond.selects RX4 yX4_crackedMinuteOf yX4_crackedMinuteOf, Cond.code yX4_crackedMinuteOf cX4_crackedMinuteOf 2 (some .int), Cond.methodLink RX6 169 yX4_wholeJointsBeside, Cond.instanceMethod yX4_wholeJointsBeside, Cond.selects RX4 yX4_wholeJointsBeside yX4_wholeJointsBeside, Cond.code yX4_wholeJointsBeside cX4_wholeJointsBeside 4 (some .int), Cond.methodLink RL 67 yX7_joint, Cond.instanceMethod yX7_joint, Cond.selects RX7 yX7_joint yX7_joint, Cond.code yX7_joint cX7_joint 3 (some .int), Cond.methodLink RX7 168 yX7_touching, Cond.instanceMethod yX7_touching, Cond.selects RX7 yX7_touching yX7_touching, Cond.code yX7_touching cX7_touching 4 (some .int), Cond.methodLink RL 68 yX6_strained, Cond.instanceMethod yX6_strained, Cond.selects RX6 yX6_strained yX6_strained, Cond.code yX6_strained cX6_strained 2 (some .int)]
def wsL_law_r25 : List Cond := [Cond.methodLink RX6 172 yX4_strainedAt, Cond.instanceMethod yX4_strainedAt, Cond.selects RX4 yX4_strainedAt yX4_strainedAt, Cond.code yX4_strainedAt cX4_strainedAt 3 (some .int), Cond.methodLink RX4 145 yX4_placeOf, Cond.instanceMethod yX4_placeOf, Cond.selects RX4 yX4_placeOf yX4_placeOf, Cond.code yX4_placeOf cX4_placeOf 6 (some .int), Cond.methodLink RL 71 yX7_strained, Cond.instanceMethod yX7_strained, Cond.selects RX7 yX7_strained yX7_strained, Cond.code yX7_strained cX7_strained 6 (some .int), Cond.methodLink RX7 171 yX7_isAhead, Cond.instanceMethod yX7_isAhead, Cond.selects RX7 yX7_isAhead yX7_isAhead, Cond.code yX7_isAhead cX7_isAhead 3 (some .boolean), Cond.methodLink RL 72 yX6_pieces, Cond.instanceMethod yX6_pieces, Cond.selects RX6 yX6_pieces yX6_pieces, Cond.code yX6_pieces cX6_pieces 2 (some .int), Cond.methodLink RX6 175 yX5_tellByJoining, Cond.instanceMethod yX5_tellByJoining, Cond.selects RX5 yX5_tellByJoining yX5_tellByJoining, Cond.code yX5_tellByJoining cX5_tellByJoining 4 (some .int)]
def wsL_law_r26 : List Cond := [Cond.methodLink RX5 58 yX1_firstCell, Cond.methodLink RX5 61 yX1_secondCell, Cond.methodLink RX5 64 yX5_join, Cond.instanceMethod yX5_join, Cond.selects RX5 yX5_join yX5_join, Cond.code yX5_join cX5_join 6 (some .boolean), Cond.methodLink RX5 68 Lib.Math.min.name, Cond.methodLink RX5 73 Lib.Math.max.name, Cond.methodLink RL 75 yX7_pieces, Cond.instanceMethod yX7_pieces, Cond.selects RX7 yX7_pieces yX7_pieces, Cond.code yX7_pieces cX7_pieces 4 (some .int), Cond.methodLink RL 76 yX6_count, Cond.instanceMethod yX6_count, Cond.selects RX6 yX6_count yX6_count, Cond.code yX6_count cX6_count 2 (some .int), Cond.methodLink RX6 187 yX4_greatestHeat, Cond.instanceMethod yX4_greatestHeat, Cond.selects RX4 yX4_greatestHeat yX4_greatestHeat, Cond.code yX4_greatestHeat cX4_greatestHeat 3 (some .int), Cond.methodLink RX6 190 yX4_leastHeat, Cond.instanceMethod yX4_leastHeat, Cond.selects RX4 yX4_leastHeat yX4_leastHeat, Cond.code yX4_leastHeat cX4_leastHeat 3 (some .int)]
def wsL_law_r27 : List Cond := [Cond.methodLink RX6 193 yX4_greatestStress, Cond.instanceMethod yX4_greatestStress, Cond.selects RX4 yX4_greatestStress yX4_greatestStress, Cond.code yX4_greatestStress cX4_greatestStress 3 (some .int), Cond.methodLink RX6 196 yX4_leastMargin, Cond.instanceMethod yX4_leastMargin, Cond.selects RX4 yX4_leastMargin yX4_leastMargin, Cond.code yX4_leastMargin cX4_leastMargin 2 (some .int), Cond.methodLink RX6 199 yX5_greatestSize, Cond.instanceMethod yX5_greatestSize, Cond.selects RX5 yX5_greatestSize yX5_greatestSize, Cond.code yX5_greatestSize cX5_greatestSize 3 (some .int), Cond.methodLink RX5 76 yX5_sizeOf, Cond.instanceMethod yX5_sizeOf, Cond.selects RX5 yX5_sizeOf yX5_sizeOf, Cond.code yX5_sizeOf cX5_sizeOf 4 (some .int), Cond.methodLink RL 79 yX7_count, Cond.instanceMethod yX7_count, Cond.selects RX7 yX7_count yX7_count, Cond.code yX7_count cX7_count 2 (some .int), Cond.methodLink RX7 177 yX7_sumOfHeats, Cond.instanceMethod yX7_sumOfHeats, Cond.selects RX7 yX7_sumOfHeats yX7_sumOfHeats, Cond.code yX7_sumOfHeats cX7_sumOfHeats 3 (some .int)]
def wsL_law_r28 : List Cond := [Cond.methodLink RX7 180 yX7_heatMost, Cond.instanceMethod yX7_heatMost, Cond.selects RX7 yX7_heatMost yX7_heatMost, Cond.code yX7_heatMost cX7_heatMost 5 (some .int), Cond.methodLink RX7 184 yX7_leastMargin, Cond.instanceMethod yX7_leastMargin, Cond.selects RX7 yX7_leastMargin yX7_leastMargin, Cond.code yX7_leastMargin cX7_leastMargin 2 (some .int), Cond.methodLink RX7 174 yX7_strained, Cond.methodLink RX7 187 yX7_greatestPiece, Cond.instanceMethod yX7_greatestPiece, Cond.selects RX7 yX7_greatestPiece yX7_greatestPiece, Cond.code yX7_greatestPiece cX7_greatestPiece 3 (some .int), Cond.methodLink RX7 154 yX7_cellsOf, Cond.instanceMethod yX7_cellsOf, Cond.selects RX7 yX7_cellsOf yX7_cellsOf, Cond.code yX7_cellsOf cX7_cellsOf 4 (some .int), Cond.methodLink RL 80 yX6_mean, Cond.instanceMethod yX6_mean, Cond.selects RX6 yX6_mean yX6_mean, Cond.code yX6_mean cX6_mean 2 (some .double), Cond.constantDouble RX6 208 (13830554455654793216), Cond.methodLink RX6 210 yX5_meanHeat, Cond.instanceMethod yX5_meanHeat]
def wsL_law_r29 : List Cond := [Cond.selects RX5 yX5_meanHeat yX5_meanHeat, Cond.code yX5_meanHeat cX5_meanHeat 7 (some .double), Cond.constantDouble RX5 79 (13830554455654793216), Cond.methodLink RX5 81 yX4_heatAt, Cond.methodLink RL 84 yX7_mean, Cond.instanceMethod yX7_mean, Cond.selects RX7 yX7_mean yX7_mean, Cond.code yX7_mean cX7_mean 4 (some .double), Cond.constantDouble RX7 157 (13830554455654793216), Cond.methodLink RL 85 yX6_ifPassed, Cond.instanceMethod yX6_ifPassed, Cond.selects RX6 yX6_ifPassed yX6_ifPassed, Cond.code yX6_ifPassed cX6_ifPassed 3 (some .int), Cond.methodLink RX6 214 yX4_copyFrom, Cond.methodLink RX6 217 yX0_look, Cond.instanceMethod yX0_look, Cond.selects RX0 yX0_look yX0_look, Cond.code yX0_look cX0_look 4 none, Cond.fieldLink RX0 9 "ColdPanes$Forecast" "cracks" "I", Cond.fieldLink RX0 15 "ColdPanes$Forecast" "firstCrack" "I", Cond.fieldLink RX0 18 "ColdPanes$Forecast" "greatestStress" "I", Cond.methodLink RX0 29 Lib.Math.max.name, Cond.methodLink RX0 21 yX4_letHeatFlow, Cond.methodLink RX0 26 yX4_greatestStress]
def wsL_law_r30 : List Cond := [Cond.methodLink RX0 35 yX4_crackWorst, Cond.methodLink RL 88 yX7_ifPassed, Cond.instanceMethod yX7_ifPassed, Cond.selects RX7 yX7_ifPassed yX7_ifPassed, Cond.code yX7_ifPassed cX7_ifPassed 8 (some .int), Cond.methodLink RL 89 yX6_fastest, Cond.instanceMethod yX6_fastest, Cond.selects RX6 yX6_fastest yX6_fastest, Cond.code yX6_fastest cX6_fastest 4 (some .int), Cond.methodLink RX6 229 yX4_staysWhole, Cond.instanceMethod yX4_staysWhole, Cond.selects RX4 yX4_staysWhole yX4_staysWhole, Cond.code yX4_staysWhole cX4_staysWhole 3 (some .boolean), Cond.methodLink RL 92 yX7_fastest, Cond.instanceMethod yX7_fastest, Cond.selects RX7 yX7_fastest yX7_fastest, Cond.code yX7_fastest cX7_fastest 4 (some .int), Cond.methodLink RX7 190 yX7_isHarmless, Cond.instanceMethod yX7_isHarmless, Cond.selects RX7 yX7_isHarmless yX7_isHarmless, Cond.code yX7_isHarmless cX7_isHarmless 6 (some .boolean), Cond.methodLink RL 93 yX6_evenIn, Cond.instanceMethod yX6_evenIn, Cond.selects RX6 yX6_evenIn yX6_evenIn]
def wsL_law_r31 : List Cond := [Cond.code yX6_evenIn cX6_evenIn 3 (some .int), Cond.methodLink RL 96 yX7_evenIn, Cond.instanceMethod yX7_evenIn, Cond.selects RX7 yX7_evenIn yX7_evenIn, Cond.code yX7_evenIn cX7_evenIn 4 (some .int), Cond.methodLink RL 97 yX6_undo, Cond.instanceMethod yX6_undo, Cond.selects RX6 yX6_undo yX6_undo, Cond.code yX6_undo cX6_undo 1 (some .int), Cond.methodLink RX6 232 yX2_takeBack, Cond.instanceMethod yX2_takeBack, Cond.selects RX2 yX2_takeBack yX2_takeBack, Cond.code yX2_takeBack cX2_takeBack 3 (some .boolean), Cond.methodLink RL 100 yX7_undo, Cond.instanceMethod yX7_undo, Cond.selects RX7 yX7_undo yX7_undo, Cond.code yX7_undo cX7_undo 1 (some .int), Cond.methodLink RL 101 yX6_save, Cond.instanceMethod yX6_save, Cond.selects RX6 yX6_save yX6_save, Cond.code yX6_save cX6_save 1 (some .int), Cond.methodLink RL 104 yX7_save, Cond.instanceMethod yX7_save, Cond.selects RX7 yX7_save yX7_save]
def wsL_law_r32 : List Cond := [Cond.code yX7_save cX7_save 1 (some .int), Cond.fieldLink RX7 193 "ColdPanesModel" "isKept" "Z", Cond.methodLink RL 105 yX6_restore, Cond.instanceMethod yX6_restore, Cond.selects RX6 yX6_restore yX6_restore, Cond.code yX6_restore cX6_restore 1 (some .int), Cond.methodLink RL 108 yX7_restore, Cond.instanceMethod yX7_restore, Cond.selects RX7 yX7_restore yX7_restore, Cond.code yX7_restore cX7_restore 1 (some .int)]
def wsL_law : List Cond := (wsL_law_r1 ++ (wsL_law_r2 ++ (wsL_law_r3 ++ (wsL_law_r4 ++ (wsL_law_r5 ++ (wsL_law_r6 ++ (wsL_law_r7 ++ (wsL_law_r8 ++ (wsL_law_r9 ++ (wsL_law_r10 ++ (wsL_law_r11 ++ (wsL_law_r12 ++ (wsL_law_r13 ++ (wsL_law_r14 ++ (wsL_law_r15 ++ (wsL_law_r16 ++ (wsL_law_r17 ++ (wsL_law_r18 ++ (wsL_law_r19 ++ (wsL_law_r20 ++ (wsL_law_r21 ++ (wsL_law_r22 ++ (wsL_law_r23 ++ (wsL_law_r24 ++ (wsL_law_r25 ++ (wsL_law_r26 ++ (wsL_law_r27 ++ (wsL_law_r28 ++ (wsL_law_r29 ++ (wsL_law_r30 ++ (wsL_law_r31 ++ wsL_law_r32))))))))))))))))))))))))))))))) ++ wsX60 ++ wsX70 ++ wsX40 ++ wsX20 ++ wsX30 ++ wsX50 ++ wsX00 ++ ([] : List Cond)
set_option maxRecDepth 20000 in
theorem wsL_law_in : ∀ w ∈ wsL_law, w ∈ lw_tbl := fun w h => (goodIn_p wsL_law [66, 69, 74, 79, 82, 133, 150, 184, 200, 642, 647, 243, 246, 250, 254, 258, 262, 270, 703, 706, 710, 713, 274, 717, 721, 278, 282, 286, 290, 293, 296, 300, 304, 307, 310, 314, 318, 321, 325, 328, 332, 336, 340, 344, 347, 351, 354, 358, 361, 365, 725, 729, 733, 736, 740, 744, 747, 750, 753, 757, 761, 765, 769, 772, 775, 370, 377, 779, 782, 381, 385, 389, 786, 790, 393, 398, 794, 797, 402, 801, 406, 410, 805, 414, 809, 418, 422, 426, 430, 434, 438, 442, 446, 450, 454, 813, 817, 821, 825, 829, 833, 458, 462, 465, 469, 473, 837, 477, 482, 487, 491, 495, 499, 503, 508, 514, 858, 862, 845, 866, 870, 518, 525, 529, 874, 878, 533, 537, 541, 882, 886, 545, 549, 555, 841, 561, 565, 569, 573, 577, 581, 585, 890, 894, 898, 902, 907, 854, 589, 594, 849, 600, 605, 911, 613, 617, 915, 919, 621, 923, 625, 629, 927, 633, 931, 637, 935] (by decide +kernel) (by decide +kernel) w h).1
theorem inlX0 : ∀ w ∈ wsX00, w ∈ wsL_law := fun _ h => List.mem_append_left _ (List.mem_append_right _ h)
theorem inX0 : ∀ w ∈ wsX00, w ∈ lw_tbl := fun w h => wsL_law_in w (inlX0 w h)
theorem inX1 : ∀ w ∈ wsX10, w ∈ lw_tbl := by decide +kernel
theorem inlX2 : ∀ w ∈ wsX20, w ∈ wsL_law := fun _ h => List.mem_append_left _ (List.mem_append_left _ (List.mem_append_left _ (List.mem_append_left _ (List.mem_append_right _ h))))
theorem inX2 : ∀ w ∈ wsX20, w ∈ lw_tbl := fun w h => wsL_law_in w (inlX2 w h)
theorem inlX3 : ∀ w ∈ wsX30, w ∈ wsL_law := fun _ h => List.mem_append_left _ (List.mem_append_left _ (List.mem_append_left _ (List.mem_append_right _ h)))
theorem inX3 : ∀ w ∈ wsX30, w ∈ lw_tbl := fun w h => wsL_law_in w (inlX3 w h)
theorem inlX4 : ∀ w ∈ wsX40, w ∈ wsL_law := fun _ h => List.mem_append_left _ (List.mem_append_left _ (List.mem_append_left _ (List.mem_append_left _ (List.mem_append_left _ (List.mem_append_right _ h)))))
theorem inX4 : ∀ w ∈ wsX40, w ∈ lw_tbl := fun w h => wsL_law_in w (inlX4 w h)
theorem inlX5 : ∀ w ∈ wsX50, w ∈ wsL_law := fun _ h => List.mem_append_left _ (List.mem_append_left _ (List.mem_append_right _ h))
theorem inX5 : ∀ w ∈ wsX50, w ∈ lw_tbl := fun w h => wsL_law_in w (inlX5 w h)
theorem inlX6 : ∀ w ∈ wsX60, w ∈ wsL_law := fun _ h => List.mem_append_left _ (List.mem_append_left _ (List.mem_append_left _ (List.mem_append_left _ (List.mem_append_left _ (List.mem_append_left _ (List.mem_append_left _ (List.mem_append_right _ h)))))))
theorem inX6 : ∀ w ∈ wsX60, w ∈ lw_tbl := fun w h => wsL_law_in w (inlX6 w h)
theorem inlX7 : ∀ w ∈ wsX70, w ∈ wsL_law := fun _ h => List.mem_append_left _ (List.mem_append_left _ (List.mem_append_left _ (List.mem_append_left _ (List.mem_append_left _ (List.mem_append_left _ (List.mem_append_right _ h))))))
theorem inX7 : ∀ w ∈ wsX70, w ∈ lw_tbl := fun w h => wsL_law_in w (inlX7 w h)
theorem inJ9 : ∀ w ∈ wsJ90, w ∈ lw_tbl := by decide +kernel
theorem inJ10 : ∀ w ∈ wsJ100, w ∈ lw_tbl := by decide +kernel
theorem inJ7 : ∀ w ∈ wsJ70, w ∈ lw_tbl := by decide +kernel
abbrev vwCl : List vw_C := [(RX0, TX0, 3), (RX2, TX2, 2), (RX3, TX3, 8), (RX4, TX4, 12), (RX5, TX5, 3), (RX6, TX6, 8), (RX7, TX7, 17)]
