-- ===== PART A: goes FIRST, ahead of the names: the tables' words, and 'selects' of the private methods out of them =====
/-- a private method of a class that the tables say can be made, by its rows of tables_1 -/
def lw_okq (q : MethodName × Nat) : Prop := (q.1.cls ≠ "java/lang/invoke/MethodHandle" ∧ q.1.cls ≠ "java/lang/invoke/VarHandle") ∧ Cond.instantiable q.1.cls q.2 ∈ tables_1 ∧ Cond.privateMethod q.1 ∈ tables_1 ∧ Cond.instanceMethod q.1 ∈ tables_1
theorem lw_p0 : lw_okq (⟨"ColdPanes$History", "dropOldest", "()V"⟩, 2) := ⟨⟨by decide +kernel, by decide +kernel⟩, List.mem_of_getElem? (i := 80) (by decide +kernel), List.mem_of_getElem? (i := 202) (by decide +kernel), List.mem_of_getElem? (i := 203) (by decide +kernel)⟩
theorem lw_p1 : lw_okq (⟨"ColdPanes$History", "stateAt", "(I)LColdPanes$Pane;"⟩, 2) := ⟨⟨by decide +kernel, by decide +kernel⟩, List.mem_of_getElem? (i := 80) (by decide +kernel), List.mem_of_getElem? (i := 206) (by decide +kernel), List.mem_of_getElem? (i := 207) (by decide +kernel)⟩
theorem lw_p2 : lw_okq (⟨"ColdPanes$Pane", "moveFurnace", "()V"⟩, 12) := ⟨⟨by decide +kernel, by decide +kernel⟩, List.mem_of_getElem? (i := 21) (by decide +kernel), List.mem_of_getElem? (i := 238) (by decide +kernel), List.mem_of_getElem? (i := 239) (by decide +kernel)⟩
theorem lw_p3 : lw_okq (⟨"ColdPanes$Pane", "flowOverJoints", "()V"⟩, 12) := ⟨⟨by decide +kernel, by decide +kernel⟩, List.mem_of_getElem? (i := 21) (by decide +kernel), List.mem_of_getElem? (i := 248) (by decide +kernel), List.mem_of_getElem? (i := 249) (by decide +kernel)⟩
theorem lw_p4 : lw_okq (⟨"ColdPanes$Pane", "gain", "(II)V"⟩, 12) := ⟨⟨by decide +kernel, by decide +kernel⟩, List.mem_of_getElem? (i := 21) (by decide +kernel), List.mem_of_getElem? (i := 266) (by decide +kernel), List.mem_of_getElem? (i := 267) (by decide +kernel)⟩
theorem lw_p5 : lw_okq (⟨"ColdPanes$Pane", "flowAtRim", "()V"⟩, 12) := ⟨⟨by decide +kernel, by decide +kernel⟩, List.mem_of_getElem? (i := 21) (by decide +kernel), List.mem_of_getElem? (i := 273) (by decide +kernel), List.mem_of_getElem? (i := 274) (by decide +kernel)⟩
theorem lw_p6 : lw_okq (⟨"ColdPanes$Pane", "mostStrained", "()I"⟩, 12) := ⟨⟨by decide +kernel, by decide +kernel⟩, List.mem_of_getElem? (i := 21) (by decide +kernel), List.mem_of_getElem? (i := 284) (by decide +kernel), List.mem_of_getElem? (i := 285) (by decide +kernel)⟩
theorem lw_p7 : lw_okq (⟨"ColdPanes$Pane", "weakenBeside", "(I)V"⟩, 12) := ⟨⟨by decide +kernel, by decide +kernel⟩, List.mem_of_getElem? (i := 21) (by decide +kernel), List.mem_of_getElem? (i := 306) (by decide +kernel), List.mem_of_getElem? (i := 307) (by decide +kernel)⟩
theorem lw_p8 : lw_okq (⟨"ColdPanes$Pad", "reads", "(C)Z"⟩, 8) := ⟨⟨by decide +kernel, by decide +kernel⟩, List.mem_of_getElem? (i := 97) (by decide +kernel), List.mem_of_getElem? (i := 374) (by decide +kernel), List.mem_of_getElem? (i := 375) (by decide +kernel)⟩
theorem lw_p9 : lw_okq (⟨"ColdPanes$Pad", "readsDigit", "(I)Z"⟩, 8) := ⟨⟨by decide +kernel, by decide +kernel⟩, List.mem_of_getElem? (i := 97) (by decide +kernel), List.mem_of_getElem? (i := 378) (by decide +kernel), List.mem_of_getElem? (i := 379) (by decide +kernel)⟩
theorem lw_p10 : lw_okq (⟨"ColdPanes$Pad", "leastOfPart", "()I"⟩, 8) := ⟨⟨by decide +kernel, by decide +kernel⟩, List.mem_of_getElem? (i := 97) (by decide +kernel), List.mem_of_getElem? (i := 382) (by decide +kernel), List.mem_of_getElem? (i := 383) (by decide +kernel)⟩
theorem lw_p11 : lw_okq (⟨"ColdPanes$Pad", "mostOfPart", "()I"⟩, 8) := ⟨⟨by decide +kernel, by decide +kernel⟩, List.mem_of_getElem? (i := 97) (by decide +kernel), List.mem_of_getElem? (i := 386) (by decide +kernel), List.mem_of_getElem? (i := 387) (by decide +kernel)⟩
theorem lw_p12 : lw_okq (⟨"ColdPanes$Pad", "readsHold", "(C)Z"⟩, 8) := ⟨⟨by decide +kernel, by decide +kernel⟩, List.mem_of_getElem? (i := 97) (by decide +kernel), List.mem_of_getElem? (i := 390) (by decide +kernel), List.mem_of_getElem? (i := 391) (by decide +kernel)⟩
theorem lw_p13 : lw_okq (⟨"ColdPanes$Pad", "keepIn", "([II)V"⟩, 8) := ⟨⟨by decide +kernel, by decide +kernel⟩, List.mem_of_getElem? (i := 97) (by decide +kernel), List.mem_of_getElem? (i := 394) (by decide +kernel), List.mem_of_getElem? (i := 395) (by decide +kernel)⟩
theorem lw_p14 : lw_okq (⟨"ColdPanes$Pad", "endOfPart", "()C"⟩, 8) := ⟨⟨by decide +kernel, by decide +kernel⟩, List.mem_of_getElem? (i := 97) (by decide +kernel), List.mem_of_getElem? (i := 398) (by decide +kernel), List.mem_of_getElem? (i := 399) (by decide +kernel)⟩
theorem lw_p15 : lw_okq (⟨"ColdPanes$Pad", "endNumber", "()V"⟩, 8) := ⟨⟨by decide +kernel, by decide +kernel⟩, List.mem_of_getElem? (i := 97) (by decide +kernel), List.mem_of_getElem? (i := 402) (by decide +kernel), List.mem_of_getElem? (i := 403) (by decide +kernel)⟩
def lw_privs_1 : List (MethodName × Nat) := [(⟨"ColdPanes$History", "dropOldest", "()V"⟩, 2), (⟨"ColdPanes$History", "stateAt", "(I)LColdPanes$Pane;"⟩, 2), (⟨"ColdPanes$Pane", "moveFurnace", "()V"⟩, 12), (⟨"ColdPanes$Pane", "flowOverJoints", "()V"⟩, 12), (⟨"ColdPanes$Pane", "gain", "(II)V"⟩, 12), (⟨"ColdPanes$Pane", "flowAtRim", "()V"⟩, 12), (⟨"ColdPanes$Pane", "mostStrained", "()I"⟩, 12), (⟨"ColdPanes$Pane", "weakenBeside", "(I)V"⟩, 12), (⟨"ColdPanes$Pad", "reads", "(C)Z"⟩, 8), (⟨"ColdPanes$Pad", "readsDigit", "(I)Z"⟩, 8), (⟨"ColdPanes$Pad", "leastOfPart", "()I"⟩, 8), (⟨"ColdPanes$Pad", "mostOfPart", "()I"⟩, 8), (⟨"ColdPanes$Pad", "readsHold", "(C)Z"⟩, 8), (⟨"ColdPanes$Pad", "keepIn", "([II)V"⟩, 8), (⟨"ColdPanes$Pad", "endOfPart", "()C"⟩, 8), (⟨"ColdPanes$Pad", "endNumber", "()V"⟩, 8)]
theorem lw_r1 : ∀ q ∈ lw_privs_1, lw_okq q := List.forall_mem_cons.mpr ⟨lw_p0, List.forall_mem_cons.mpr ⟨lw_p1, List.forall_mem_cons.mpr ⟨lw_p2, List.forall_mem_cons.mpr ⟨lw_p3, List.forall_mem_cons.mpr ⟨lw_p4, List.forall_mem_cons.mpr ⟨lw_p5, List.forall_mem_cons.mpr ⟨lw_p6, List.forall_mem_cons.mpr ⟨lw_p7, List.forall_mem_cons.mpr ⟨lw_p8, List.forall_mem_cons.mpr ⟨lw_p9, List.forall_mem_cons.mpr ⟨lw_p10, List.forall_mem_cons.mpr ⟨lw_p11, List.forall_mem_cons.mpr ⟨lw_p12, List.forall_mem_cons.mpr ⟨lw_p13, List.forall_mem_cons.mpr ⟨lw_p14, List.forall_mem_cons.mpr ⟨lw_p15, fun _ h => absurd h List.not_mem_nil⟩⟩⟩⟩⟩⟩⟩⟩⟩⟩⟩⟩⟩⟩⟩⟩
theorem lw_p16 : lw_okq (⟨"ColdPanes$Pieces", "spreadFrom", "(LColdPanes$Pane;I)V"⟩, 3) := ⟨⟨by decide +kernel, by decide +kernel⟩, List.mem_of_getElem? (i := 131) (by decide +kernel), List.mem_of_getElem? (i := 435) (by decide +kernel), List.mem_of_getElem? (i := 436) (by decide +kernel)⟩
theorem lw_p17 : lw_okq (⟨"ColdPanes$Pieces", "reach", "(II)V"⟩, 3) := ⟨⟨by decide +kernel, by decide +kernel⟩, List.mem_of_getElem? (i := 131) (by decide +kernel), List.mem_of_getElem? (i := 439) (by decide +kernel), List.mem_of_getElem? (i := 440) (by decide +kernel)⟩
theorem lw_p18 : lw_okq (⟨"ColdPanes$Pane", "placeOf", "(I)I"⟩, 12) := ⟨⟨by decide +kernel, by decide +kernel⟩, List.mem_of_getElem? (i := 21) (by decide +kernel), List.mem_of_getElem? (i := 489) (by decide +kernel), List.mem_of_getElem? (i := 490) (by decide +kernel)⟩
theorem lw_p19 : lw_okq (⟨"ColdPanes$Pieces", "join", "(II)Z"⟩, 3) := ⟨⟨by decide +kernel, by decide +kernel⟩, List.mem_of_getElem? (i := 131) (by decide +kernel), List.mem_of_getElem? (i := 503) (by decide +kernel), List.mem_of_getElem? (i := 504) (by decide +kernel)⟩
theorem lw_p20 : lw_okq (⟨"ColdPanes$Pieces", "sizeOf", "(I)I"⟩, 3) := ⟨⟨by decide +kernel, by decide +kernel⟩, List.mem_of_getElem? (i := 131) (by decide +kernel), List.mem_of_getElem? (i := 533) (by decide +kernel), List.mem_of_getElem? (i := 534) (by decide +kernel)⟩
theorem lw_p21 : lw_okq (⟨"ColdPanesModel", "goBegin", "(I)I"⟩, 17) := ⟨⟨by decide +kernel, by decide +kernel⟩, List.mem_of_getElem? (i := 589) (by decide +kernel), List.mem_of_getElem? (i := 595) (by decide +kernel), List.mem_of_getElem? (i := 596) (by decide +kernel)⟩
theorem lw_p22 : lw_okq (⟨"ColdPanesModel", "records", "()V"⟩, 17) := ⟨⟨by decide +kernel, by decide +kernel⟩, List.mem_of_getElem? (i := 589) (by decide +kernel), List.mem_of_getElem? (i := 658) (by decide +kernel), List.mem_of_getElem? (i := 659) (by decide +kernel)⟩
theorem lw_p23 : lw_okq (⟨"ColdPanesModel", "laysAim", "(II)V"⟩, 17) := ⟨⟨by decide +kernel, by decide +kernel⟩, List.mem_of_getElem? (i := 589) (by decide +kernel), List.mem_of_getElem? (i := 669) (by decide +kernel), List.mem_of_getElem? (i := 670) (by decide +kernel)⟩
theorem lw_p24 : lw_okq (⟨"ColdPanesModel", "goPass", "(I)I"⟩, 17) := ⟨⟨by decide +kernel, by decide +kernel⟩, List.mem_of_getElem? (i := 589) (by decide +kernel), List.mem_of_getElem? (i := 677) (by decide +kernel), List.mem_of_getElem? (i := 678) (by decide +kernel)⟩
theorem lw_p25 : lw_okq (⟨"ColdPanesModel", "minute", "()I"⟩, 17) := ⟨⟨by decide +kernel, by decide +kernel⟩, List.mem_of_getElem? (i := 589) (by decide +kernel), List.mem_of_getElem? (i := 681) (by decide +kernel), List.mem_of_getElem? (i := 682) (by decide +kernel)⟩
theorem lw_p26 : lw_okq (⟨"ColdPanesModel", "flows", "()V"⟩, 17) := ⟨⟨by decide +kernel, by decide +kernel⟩, List.mem_of_getElem? (i := 589) (by decide +kernel), List.mem_of_getElem? (i := 688) (by decide +kernel), List.mem_of_getElem? (i := 689) (by decide +kernel)⟩
theorem lw_p27 : lw_okq (⟨"ColdPanesModel", "isWhole", "(I)Z"⟩, 17) := ⟨⟨by decide +kernel, by decide +kernel⟩, List.mem_of_getElem? (i := 589) (by decide +kernel), List.mem_of_getElem? (i := 692) (by decide +kernel), List.mem_of_getElem? (i := 693) (by decide +kernel)⟩
theorem lw_p28 : lw_okq (⟨"ColdPanesModel", "greatestStress", "()I"⟩, 17) := ⟨⟨by decide +kernel, by decide +kernel⟩, List.mem_of_getElem? (i := 589) (by decide +kernel), List.mem_of_getElem? (i := 705) (by decide +kernel), List.mem_of_getElem? (i := 706) (by decide +kernel)⟩
theorem lw_p29 : lw_okq (⟨"ColdPanesModel", "stressOf", "(I)I"⟩, 17) := ⟨⟨by decide +kernel, by decide +kernel⟩, List.mem_of_getElem? (i := 589) (by decide +kernel), List.mem_of_getElem? (i := 709) (by decide +kernel), List.mem_of_getElem? (i := 710) (by decide +kernel)⟩
theorem lw_p30 : lw_okq (⟨"ColdPanesModel", "worst", "()I"⟩, 17) := ⟨⟨by decide +kernel, by decide +kernel⟩, List.mem_of_getElem? (i := 589) (by decide +kernel), List.mem_of_getElem? (i := 713) (by decide +kernel), List.mem_of_getElem? (i := 714) (by decide +kernel)⟩
theorem lw_p31 : lw_okq (⟨"ColdPanesModel", "marginOf", "(I)I"⟩, 17) := ⟨⟨by decide +kernel, by decide +kernel⟩, List.mem_of_getElem? (i := 589) (by decide +kernel), List.mem_of_getElem? (i := 717) (by decide +kernel), List.mem_of_getElem? (i := 718) (by decide +kernel)⟩
def lw_privs_2 : List (MethodName × Nat) := [(⟨"ColdPanes$Pieces", "spreadFrom", "(LColdPanes$Pane;I)V"⟩, 3), (⟨"ColdPanes$Pieces", "reach", "(II)V"⟩, 3), (⟨"ColdPanes$Pane", "placeOf", "(I)I"⟩, 12), (⟨"ColdPanes$Pieces", "join", "(II)Z"⟩, 3), (⟨"ColdPanes$Pieces", "sizeOf", "(I)I"⟩, 3), (⟨"ColdPanesModel", "goBegin", "(I)I"⟩, 17), (⟨"ColdPanesModel", "records", "()V"⟩, 17), (⟨"ColdPanesModel", "laysAim", "(II)V"⟩, 17), (⟨"ColdPanesModel", "goPass", "(I)I"⟩, 17), (⟨"ColdPanesModel", "minute", "()I"⟩, 17), (⟨"ColdPanesModel", "flows", "()V"⟩, 17), (⟨"ColdPanesModel", "isWhole", "(I)Z"⟩, 17), (⟨"ColdPanesModel", "greatestStress", "()I"⟩, 17), (⟨"ColdPanesModel", "stressOf", "(I)I"⟩, 17), (⟨"ColdPanesModel", "worst", "()I"⟩, 17), (⟨"ColdPanesModel", "marginOf", "(I)I"⟩, 17)]
theorem lw_r2 : ∀ q ∈ lw_privs_2, lw_okq q := List.forall_mem_cons.mpr ⟨lw_p16, List.forall_mem_cons.mpr ⟨lw_p17, List.forall_mem_cons.mpr ⟨lw_p18, List.forall_mem_cons.mpr ⟨lw_p19, List.forall_mem_cons.mpr ⟨lw_p20, List.forall_mem_cons.mpr ⟨lw_p21, List.forall_mem_cons.mpr ⟨lw_p22, List.forall_mem_cons.mpr ⟨lw_p23, List.forall_mem_cons.mpr ⟨lw_p24, List.forall_mem_cons.mpr ⟨lw_p25, List.forall_mem_cons.mpr ⟨lw_p26, List.forall_mem_cons.mpr ⟨lw_p27, List.forall_mem_cons.mpr ⟨lw_p28, List.forall_mem_cons.mpr ⟨lw_p29, List.forall_mem_cons.mpr ⟨lw_p30, List.forall_mem_cons.mpr ⟨lw_p31, fun _ h => absurd h List.not_mem_nil⟩⟩⟩⟩⟩⟩⟩⟩⟩⟩⟩⟩⟩⟩⟩⟩
theorem lw_p32 : lw_okq (⟨"ColdPanesModel", "cracked", "()I"⟩, 17) := ⟨⟨by decide +kernel, by decide +kernel⟩, List.mem_of_getElem? (i := 589) (by decide +kernel), List.mem_of_getElem? (i := 738) (by decide +kernel), List.mem_of_getElem? (i := 739) (by decide +kernel)⟩
theorem lw_p33 : lw_okq (⟨"ColdPanesModel", "isProgram", "()Z"⟩, 17) := ⟨⟨by decide +kernel, by decide +kernel⟩, List.mem_of_getElem? (i := 589) (by decide +kernel), List.mem_of_getElem? (i := 765) (by decide +kernel), List.mem_of_getElem? (i := 766) (by decide +kernel)⟩
theorem lw_p34 : lw_okq (⟨"ColdPanesModel", "takesSegment", "()V"⟩, 17) := ⟨⟨by decide +kernel, by decide +kernel⟩, List.mem_of_getElem? (i := 589) (by decide +kernel), List.mem_of_getElem? (i := 769) (by decide +kernel), List.mem_of_getElem? (i := 770) (by decide +kernel)⟩
theorem lw_p35 : lw_okq (⟨"ColdPanesModel", "here", "()I"⟩, 17) := ⟨⟨by decide +kernel, by decide +kernel⟩, List.mem_of_getElem? (i := 589) (by decide +kernel), List.mem_of_getElem? (i := 773) (by decide +kernel), List.mem_of_getElem? (i := 774) (by decide +kernel)⟩
theorem lw_p36 : lw_okq (⟨"ColdPanesModel", "takes", "(Z)V"⟩, 17) := ⟨⟨by decide +kernel, by decide +kernel⟩, List.mem_of_getElem? (i := 589) (by decide +kernel), List.mem_of_getElem? (i := 777) (by decide +kernel), List.mem_of_getElem? (i := 778) (by decide +kernel)⟩
theorem lw_p37 : lw_okq (⟨"ColdPanesModel", "takesNumber", "(II)I"⟩, 17) := ⟨⟨by decide +kernel, by decide +kernel⟩, List.mem_of_getElem? (i := 589) (by decide +kernel), List.mem_of_getElem? (i := 781) (by decide +kernel), List.mem_of_getElem? (i := 782) (by decide +kernel)⟩
theorem lw_p38 : lw_okq (⟨"ColdPanesModel", "names", "()V"⟩, 17) := ⟨⟨by decide +kernel, by decide +kernel⟩, List.mem_of_getElem? (i := 589) (by decide +kernel), List.mem_of_getElem? (i := 793) (by decide +kernel), List.mem_of_getElem? (i := 794) (by decide +kernel)⟩
theorem lw_p39 : lw_okq (⟨"ColdPanesModel", "cellsOf", "(I)I"⟩, 17) := ⟨⟨by decide +kernel, by decide +kernel⟩, List.mem_of_getElem? (i := 589) (by decide +kernel), List.mem_of_getElem? (i := 802) (by decide +kernel), List.mem_of_getElem? (i := 803) (by decide +kernel)⟩
theorem lw_p40 : lw_okq (⟨"ColdPanesModel", "pieceOf", "(I)I"⟩, 17) := ⟨⟨by decide +kernel, by decide +kernel⟩, List.mem_of_getElem? (i := 589) (by decide +kernel), List.mem_of_getElem? (i := 810) (by decide +kernel), List.mem_of_getElem? (i := 811) (by decide +kernel)⟩
theorem lw_p41 : lw_okq (⟨"ColdPanesModel", "wholeOf", "(I)I"⟩, 17) := ⟨⟨by decide +kernel, by decide +kernel⟩, List.mem_of_getElem? (i := 589) (by decide +kernel), List.mem_of_getElem? (i := 814) (by decide +kernel), List.mem_of_getElem? (i := 815) (by decide +kernel)⟩
theorem lw_p42 : lw_okq (⟨"ColdPanesModel", "stressAt", "(I)I"⟩, 17) := ⟨⟨by decide +kernel, by decide +kernel⟩, List.mem_of_getElem? (i := 589) (by decide +kernel), List.mem_of_getElem? (i := 818) (by decide +kernel), List.mem_of_getElem? (i := 819) (by decide +kernel)⟩
theorem lw_p43 : lw_okq (⟨"ColdPanesModel", "touching", "(I)I"⟩, 17) := ⟨⟨by decide +kernel, by decide +kernel⟩, List.mem_of_getElem? (i := 589) (by decide +kernel), List.mem_of_getElem? (i := 826) (by decide +kernel), List.mem_of_getElem? (i := 827) (by decide +kernel)⟩
theorem lw_p44 : lw_okq (⟨"ColdPanesModel", "isAhead", "(II)Z"⟩, 17) := ⟨⟨by decide +kernel, by decide +kernel⟩, List.mem_of_getElem? (i := 589) (by decide +kernel), List.mem_of_getElem? (i := 834) (by decide +kernel), List.mem_of_getElem? (i := 835) (by decide +kernel)⟩
theorem lw_p45 : lw_okq (⟨"ColdPanesModel", "sumOfHeats", "()I"⟩, 17) := ⟨⟨by decide +kernel, by decide +kernel⟩, List.mem_of_getElem? (i := 589) (by decide +kernel), List.mem_of_getElem? (i := 842) (by decide +kernel), List.mem_of_getElem? (i := 843) (by decide +kernel)⟩
theorem lw_p46 : lw_okq (⟨"ColdPanesModel", "heatMost", "(Z)I"⟩, 17) := ⟨⟨by decide +kernel, by decide +kernel⟩, List.mem_of_getElem? (i := 589) (by decide +kernel), List.mem_of_getElem? (i := 846) (by decide +kernel), List.mem_of_getElem? (i := 847) (by decide +kernel)⟩
theorem lw_p47 : lw_okq (⟨"ColdPanesModel", "leastMargin", "()I"⟩, 17) := ⟨⟨by decide +kernel, by decide +kernel⟩, List.mem_of_getElem? (i := 589) (by decide +kernel), List.mem_of_getElem? (i := 850) (by decide +kernel), List.mem_of_getElem? (i := 851) (by decide +kernel)⟩
def lw_privs_3 : List (MethodName × Nat) := [(⟨"ColdPanesModel", "cracked", "()I"⟩, 17), (⟨"ColdPanesModel", "isProgram", "()Z"⟩, 17), (⟨"ColdPanesModel", "takesSegment", "()V"⟩, 17), (⟨"ColdPanesModel", "here", "()I"⟩, 17), (⟨"ColdPanesModel", "takes", "(Z)V"⟩, 17), (⟨"ColdPanesModel", "takesNumber", "(II)I"⟩, 17), (⟨"ColdPanesModel", "names", "()V"⟩, 17), (⟨"ColdPanesModel", "cellsOf", "(I)I"⟩, 17), (⟨"ColdPanesModel", "pieceOf", "(I)I"⟩, 17), (⟨"ColdPanesModel", "wholeOf", "(I)I"⟩, 17), (⟨"ColdPanesModel", "stressAt", "(I)I"⟩, 17), (⟨"ColdPanesModel", "touching", "(I)I"⟩, 17), (⟨"ColdPanesModel", "isAhead", "(II)Z"⟩, 17), (⟨"ColdPanesModel", "sumOfHeats", "()I"⟩, 17), (⟨"ColdPanesModel", "heatMost", "(Z)I"⟩, 17), (⟨"ColdPanesModel", "leastMargin", "()I"⟩, 17)]
theorem lw_r3 : ∀ q ∈ lw_privs_3, lw_okq q := List.forall_mem_cons.mpr ⟨lw_p32, List.forall_mem_cons.mpr ⟨lw_p33, List.forall_mem_cons.mpr ⟨lw_p34, List.forall_mem_cons.mpr ⟨lw_p35, List.forall_mem_cons.mpr ⟨lw_p36, List.forall_mem_cons.mpr ⟨lw_p37, List.forall_mem_cons.mpr ⟨lw_p38, List.forall_mem_cons.mpr ⟨lw_p39, List.forall_mem_cons.mpr ⟨lw_p40, List.forall_mem_cons.mpr ⟨lw_p41, List.forall_mem_cons.mpr ⟨lw_p42, List.forall_mem_cons.mpr ⟨lw_p43, List.forall_mem_cons.mpr ⟨lw_p44, List.forall_mem_cons.mpr ⟨lw_p45, List.forall_mem_cons.mpr ⟨lw_p46, List.forall_mem_cons.mpr ⟨lw_p47, fun _ h => absurd h List.not_mem_nil⟩⟩⟩⟩⟩⟩⟩⟩⟩⟩⟩⟩⟩⟩⟩⟩
theorem lw_p48 : lw_okq (⟨"ColdPanesModel", "greatestPiece", "()I"⟩, 17) := ⟨⟨by decide +kernel, by decide +kernel⟩, List.mem_of_getElem? (i := 589) (by decide +kernel), List.mem_of_getElem? (i := 855) (by decide +kernel), List.mem_of_getElem? (i := 856) (by decide +kernel)⟩
theorem lw_p49 : lw_okq (⟨"ColdPanesModel", "isHarmless", "(III)Z"⟩, 17) := ⟨⟨by decide +kernel, by decide +kernel⟩, List.mem_of_getElem? (i := 589) (by decide +kernel), List.mem_of_getElem? (i := 867) (by decide +kernel), List.mem_of_getElem? (i := 868) (by decide +kernel)⟩
def lw_privs_4 : List (MethodName × Nat) := [(⟨"ColdPanesModel", "greatestPiece", "()I"⟩, 17), (⟨"ColdPanesModel", "isHarmless", "(III)Z"⟩, 17)]
theorem lw_r4 : ∀ q ∈ lw_privs_4, lw_okq q := List.forall_mem_cons.mpr ⟨lw_p48, List.forall_mem_cons.mpr ⟨lw_p49, fun _ h => absurd h List.not_mem_nil⟩⟩
def lw_privs : List (MethodName × Nat) := lw_privs_1 ++ (lw_privs_2 ++ (lw_privs_3 ++ (lw_privs_4)))
def lw_tbl : List Cond := k2_sels lw_privs ++ tables_1
theorem lw_privs_ok : ∀ q ∈ lw_privs, lw_okq q := by
  show ∀ q ∈ lw_privs_1 ++ (lw_privs_2 ++ (lw_privs_3 ++ (lw_privs_4))), lw_okq q
  exact List.forall_mem_append.mpr ⟨lw_r1, List.forall_mem_append.mpr ⟨lw_r2, List.forall_mem_append.mpr ⟨lw_r3, lw_r4⟩⟩⟩
/-- the streams that the claim lets the run draw from -/
abbrev lw_cs : List Choice := [Jvm.Choice.named "NaN.bits"]
theorem lw_bits : nanBits ∈ lw_cs := by first | decide | exact List.mem_cons_self | simp [lw_cs, nanBits]
/-! ===== BEGIN words of one list among another's, by their places ===== -/
theorem goodIn_r {big : List Cond} (ws : List Cond) (ps : List Nat) (hp : ws = ps.filterMap (fun i => big[i]?)) (h : ws.all goodWord = true) : GoodIn big ws := by
  intro w hw
  have h1 := List.all_eq_true.mp h w hw
  rw [hp] at hw
  obtain ⟨i, -, hi⟩ := List.mem_filterMap.mp hw
  have hm : w ∈ big := by first | exact List.mem_of_getElem? hi | exact List.getElem?_mem hi
  exact ⟨hm, good_of_word h1⟩
theorem goodIn_app {big a b : List Cond} (ha : GoodIn big a) (hb : GoodIn big b) : GoodIn big (a ++ b) := fun w h => (List.mem_append.mp h).elim (ha w) (hb w)
theorem goodIn_ca {big a b : List Cond} {c : Cond} (ha : GoodIn big (c :: a)) (hb : GoodIn big b) : GoodIn big (c :: (a ++ b)) := fun w h => (List.mem_cons.mp h).elim (fun e => ha w (List.mem_cons.mpr (Or.inl e))) (fun h => (List.mem_append.mp h).elim (fun h => ha w (List.mem_cons.mpr (Or.inr h))) (hb w))
theorem goodIn_sub {big ws : List Cond} (hm : ∀ w ∈ ws, w ∈ big) (h : ws.all goodWord = true) : GoodIn big ws := fun w hw => ⟨hm w hw, good_of_word (List.all_eq_true.mp h w hw)⟩
/-! ===== END ===== -/

/-! ===== BEGIN printed: names, fields, word lists, decode rows ===== -/
def RX0 : String := "ColdPanes$Forecast"
def TX0 : u_T := fun k => match k with
  | 0 => ("ColdPanes$Forecast", "cracks", "I", false)
  | 1 => ("ColdPanes$Forecast", "firstCrack", "I", false)
  | _ => ("ColdPanes$Forecast", "greatestStress", "I", false)
def tyX0 : Nat → FieldType := fun k => match k with
  | 0 => .int
  | 1 => .int
  | _ => .int
abbrev wsX00 : List Cond := u_ws RX0 TX0 3
theorem nmX0 : ∀ a, a < 3 → ∀ b, b < 3 → a ≠ b → (TX0 a).2.1 ≠ (TX0 b).2.1 := by decide +kernel
theorem tyX0_ok : ∀ k, k < 3 → parseFieldDescriptor (TX0 k).2.2.1 = some (tyX0 k) := by decide +kernel
abbrev cX0_init : ByteArray := prog_2_method_1_code
def yX0_init : MethodName := ⟨RX0, "<init>", "()V"⟩
abbrev cX0_look : ByteArray := prog_2_method_2_code
def yX0_look : MethodName := ⟨RX0, "look", "(LColdPanes$Pane;I)V"⟩
def RX1 : String := "ColdPanes$Grid"
def TX1 : u_T := fun k => match k with
  | _ => ("", "", "", false)
def tyX1 : Nat → FieldType := fun k => match k with
  | _ => .int
abbrev wsX10 : List Cond := u_ws RX1 TX1 0
theorem nmX1 : ∀ a, a < 0 → ∀ b, b < 0 → a ≠ b → (TX1 a).2.1 ≠ (TX1 b).2.1 := by decide +kernel
theorem tyX1_ok : ∀ k, k < 0 → parseFieldDescriptor (TX1 k).2.2.1 = some (tyX1 k) := by decide +kernel
abbrev cX1_isCell : ByteArray := prog_3_method_2_code
def yX1_isCell : MethodName := ⟨RX1, "isCell", "(I)Z"⟩
abbrev cX1_isJoint : ByteArray := prog_3_method_3_code
def yX1_isJoint : MethodName := ⟨RX1, "isJoint", "(I)Z"⟩
abbrev cX1_firstCell : ByteArray := prog_3_method_4_code
def yX1_firstCell : MethodName := ⟨RX1, "firstCell", "(I)I"⟩
abbrev cX1_secondCell : ByteArray := prog_3_method_5_code
def yX1_secondCell : MethodName := ⟨RX1, "secondCell", "(I)I"⟩
abbrev cX1_otherCell : ByteArray := prog_3_method_6_code
def yX1_otherCell : MethodName := ⟨RX1, "otherCell", "(II)I"⟩
abbrev cX1_jointAt : ByteArray := prog_3_method_7_code
def yX1_jointAt : MethodName := ⟨RX1, "jointAt", "(II)I"⟩
abbrev cX1_rimSides : ByteArray := prog_3_method_8_code
def yX1_rimSides : MethodName := ⟨RX1, "rimSides", "(I)I"⟩
abbrev cX1_touch : ByteArray := prog_3_method_9_code
def yX1_touch : MethodName := ⟨RX1, "touch", "(II)Z"⟩
abbrev cX1_isEnd : ByteArray := prog_3_method_10_code
def yX1_isEnd : MethodName := ⟨RX1, "isEnd", "(II)Z"⟩
def RX2 : String := "ColdPanes$History"
def TX2 : u_T := fun k => match k with
  | 0 => ("ColdPanes$History", "states", "[LColdPanes$Pane;", true)
  | _ => ("ColdPanes$History", "size", "I", false)
def tyX2 : Nat → FieldType := fun k => match k with
  | 0 => .array (.object "ColdPanes$Pane")
  | _ => .int
abbrev wsX20 : List Cond := u_ws RX2 TX2 2
theorem nmX2 : ∀ a, a < 2 → ∀ b, b < 2 → a ≠ b → (TX2 a).2.1 ≠ (TX2 b).2.1 := by decide +kernel
theorem tyX2_ok : ∀ k, k < 2 → parseFieldDescriptor (TX2 k).2.2.1 = some (tyX2 k) := by decide +kernel
abbrev cX2_init : ByteArray := prog_4_method_1_code
def yX2_init : MethodName := ⟨RX2, "<init>", "()V"⟩
abbrev cX2_record : ByteArray := prog_4_method_2_code
def yX2_record : MethodName := ⟨RX2, "record", "(LColdPanes$Pane;)V"⟩
abbrev cX2_takeBack : ByteArray := prog_4_method_3_code
def yX2_takeBack : MethodName := ⟨RX2, "takeBack", "(LColdPanes$Pane;)Z"⟩
abbrev cX2_stateAt : ByteArray := prog_4_method_4_code
def yX2_stateAt : MethodName := ⟨RX2, "stateAt", "(I)LColdPanes$Pane;"⟩
abbrev cX2_dropOldest : ByteArray := prog_4_method_5_code
def yX2_dropOldest : MethodName := ⟨RX2, "dropOldest", "()V"⟩
def RX3 : String := "ColdPanes$Pad"
def TX3 : u_T := fun k => match k with
  | 0 => ("ColdPanes$Pad", "characters", "[C", true)
  | 1 => ("ColdPanes$Pad", "length", "I", false)
  | 2 => ("ColdPanes$Pad", "aims", "[I", true)
  | 3 => ("ColdPanes$Pad", "rates", "[I", true)
  | 4 => ("ColdPanes$Pad", "minutes", "[I", true)
  | 5 => ("ColdPanes$Pad", "segments", "I", false)
  | 6 => ("ColdPanes$Pad", "part", "I", false)
  | _ => ("ColdPanes$Pad", "number", "I", false)
def tyX3 : Nat → FieldType := fun k => match k with
  | 0 => .array .char
  | 1 => .int
  | 2 => .array .int
  | 3 => .array .int
  | 4 => .array .int
  | 5 => .int
  | 6 => .int
  | _ => .int
abbrev wsX30 : List Cond := u_ws RX3 TX3 8
theorem nmX3 : ∀ a, a < 8 → ∀ b, b < 8 → a ≠ b → (TX3 a).2.1 ≠ (TX3 b).2.1 := by decide +kernel
theorem tyX3_ok : ∀ k, k < 8 → parseFieldDescriptor (TX3 k).2.2.1 = some (tyX3 k) := by decide +kernel
abbrev cX3_init : ByteArray := prog_5_method_1_code
def yX3_init : MethodName := ⟨RX3, "<init>", "()V"⟩
abbrev cX3_take : ByteArray := prog_5_method_2_code
def yX3_take : MethodName := ⟨RX3, "take", "(C)Z"⟩
abbrev cX3_findFault : ByteArray := prog_5_method_3_code
def yX3_findFault : MethodName := ⟨RX3, "findFault", "()I"⟩
abbrev cX3_reads : ByteArray := prog_5_method_4_code
def yX3_reads : MethodName := ⟨RX3, "reads", "(C)Z"⟩
abbrev cX3_readsHold : ByteArray := prog_5_method_5_code
def yX3_readsHold : MethodName := ⟨RX3, "readsHold", "(C)Z"⟩
abbrev cX3_readsDigit : ByteArray := prog_5_method_6_code
def yX3_readsDigit : MethodName := ⟨RX3, "readsDigit", "(I)Z"⟩
abbrev cX3_endNumber : ByteArray := prog_5_method_7_code
def yX3_endNumber : MethodName := ⟨RX3, "endNumber", "()V"⟩
abbrev cX3_keepIn : ByteArray := prog_5_method_8_code
def yX3_keepIn : MethodName := ⟨RX3, "keepIn", "([II)V"⟩
abbrev cX3_endOfPart : ByteArray := prog_5_method_9_code
def yX3_endOfPart : MethodName := ⟨RX3, "endOfPart", "()C"⟩
abbrev cX3_leastOfPart : ByteArray := prog_5_method_10_code
def yX3_leastOfPart : MethodName := ⟨RX3, "leastOfPart", "()I"⟩
abbrev cX3_mostOfPart : ByteArray := prog_5_method_11_code
def yX3_mostOfPart : MethodName := ⟨RX3, "mostOfPart", "()I"⟩
abbrev cX3_aimOf : ByteArray := prog_5_method_12_code
def yX3_aimOf : MethodName := ⟨RX3, "aimOf", "(I)I"⟩
abbrev cX3_rateOf : ByteArray := prog_5_method_13_code
def yX3_rateOf : MethodName := ⟨RX3, "rateOf", "(I)I"⟩
abbrev cX3_minutesOf : ByteArray := prog_5_method_14_code
def yX3_minutesOf : MethodName := ⟨RX3, "minutesOf", "(I)I"⟩
abbrev cX3_isSegment : ByteArray := prog_5_method_15_code
def yX3_isSegment : MethodName := ⟨RX3, "isSegment", "(I)Z"⟩
def RX4 : String := "ColdPanes$Pane"
def TX4 : u_T := fun k => match k with
  | 0 => ("ColdPanes$Pane", "heats", "[I", true)
  | 1 => ("ColdPanes$Pane", "gains", "[I", true)
  | 2 => ("ColdPanes$Pane", "strengths", "[I", true)
  | 3 => ("ColdPanes$Pane", "crackedIn", "[I", true)
  | 4 => ("ColdPanes$Pane", "furnace", "I", false)
  | 5 => ("ColdPanes$Pane", "aim", "I", false)
  | 6 => ("ColdPanes$Pane", "rate", "I", false)
  | 7 => ("ColdPanes$Pane", "lead", "I", false)
  | 8 => ("ColdPanes$Pane", "rim", "I", false)
  | 9 => ("ColdPanes$Pane", "minutes", "I", false)
  | 10 => ("ColdPanes$Pane", "loss", "I", false)
  | _ => ("ColdPanes$Pane", "flames", "I", false)
def tyX4 : Nat → FieldType := fun k => match k with
  | 0 => .array .int
  | 1 => .array .int
  | 2 => .array .int
  | 3 => .array .int
  | 4 => .int
  | 5 => .int
  | 6 => .int
  | 7 => .int
  | 8 => .int
  | 9 => .int
  | 10 => .int
  | _ => .int
abbrev wsX40 : List Cond := u_ws RX4 TX4 12
theorem nmX4 : ∀ a, a < 12 → ∀ b, b < 12 → a ≠ b → (TX4 a).2.1 ≠ (TX4 b).2.1 := by decide +kernel
theorem tyX4_ok : ∀ k, k < 12 → parseFieldDescriptor (TX4 k).2.2.1 = some (tyX4 k) := by decide +kernel
abbrev cX4_init : ByteArray := prog_6_method_1_code
def yX4_init : MethodName := ⟨RX4, "<init>", "()V"⟩
abbrev cX4_renew : ByteArray := prog_6_method_2_code
def yX4_renew : MethodName := ⟨RX4, "renew", "(I)V"⟩
abbrev cX4_copyFrom : ByteArray := prog_6_method_3_code
def yX4_copyFrom : MethodName := ⟨RX4, "copyFrom", "(LColdPanes$Pane;)V"⟩
abbrev cX4_passMinutes : ByteArray := prog_6_method_4_code
def yX4_passMinutes : MethodName := ⟨RX4, "passMinutes", "(I)I"⟩
abbrev cX4_staysWhole : ByteArray := prog_6_method_5_code
def yX4_staysWhole : MethodName := ⟨RX4, "staysWhole", "(I)Z"⟩
abbrev cX4_letHeatFlow : ByteArray := prog_6_method_6_code
def yX4_letHeatFlow : MethodName := ⟨RX4, "letHeatFlow", "()V"⟩
abbrev cX4_moveFurnace : ByteArray := prog_6_method_7_code
def yX4_moveFurnace : MethodName := ⟨RX4, "moveFurnace", "()V"⟩
abbrev cX4_flowOverJoints : ByteArray := prog_6_method_8_code
def yX4_flowOverJoints : MethodName := ⟨RX4, "flowOverJoints", "()V"⟩
abbrev cX4_flowAtRim : ByteArray := prog_6_method_9_code
def yX4_flowAtRim : MethodName := ⟨RX4, "flowAtRim", "()V"⟩
abbrev cX4_gain : ByteArray := prog_6_method_10_code
def yX4_gain : MethodName := ⟨RX4, "gain", "(II)V"⟩
abbrev cX4_crackWorst : ByteArray := prog_6_method_11_code
def yX4_crackWorst : MethodName := ⟨RX4, "crackWorst", "()Z"⟩
abbrev cX4_weakenBeside : ByteArray := prog_6_method_12_code
def yX4_weakenBeside : MethodName := ⟨RX4, "weakenBeside", "(I)V"⟩
abbrev cX4_holdFlame : ByteArray := prog_6_method_13_code
def yX4_holdFlame : MethodName := ⟨RX4, "holdFlame", "(II)I"⟩
abbrev cX4_makeWhole : ByteArray := prog_6_method_14_code
def yX4_makeWhole : MethodName := ⟨RX4, "makeWhole", "(I)V"⟩
abbrev cX4_strengthen : ByteArray := prog_6_method_15_code
def yX4_strengthen : MethodName := ⟨RX4, "strengthen", "(II)V"⟩
abbrev cX4_heatAt : ByteArray := prog_6_method_16_code
def yX4_heatAt : MethodName := ⟨RX4, "heatAt", "(I)I"⟩
abbrev cX4_isWhole : ByteArray := prog_6_method_17_code
def yX4_isWhole : MethodName := ⟨RX4, "isWhole", "(I)Z"⟩
abbrev cX4_crackedMinuteOf : ByteArray := prog_6_method_18_code
def yX4_crackedMinuteOf : MethodName := ⟨RX4, "crackedMinuteOf", "(I)I"⟩
abbrev cX4_strengthOf : ByteArray := prog_6_method_19_code
def yX4_strengthOf : MethodName := ⟨RX4, "strengthOf", "(I)I"⟩
abbrev cX4_stressOf : ByteArray := prog_6_method_20_code
def yX4_stressOf : MethodName := ⟨RX4, "stressOf", "(I)I"⟩
abbrev cX4_marginOf : ByteArray := prog_6_method_21_code
def yX4_marginOf : MethodName := ⟨RX4, "marginOf", "(I)I"⟩
abbrev cX4_wholeJointsOf : ByteArray := prog_6_method_22_code
def yX4_wholeJointsOf : MethodName := ⟨RX4, "wholeJointsOf", "(I)I"⟩
abbrev cX4_wholeJointsBeside : ByteArray := prog_6_method_23_code
def yX4_wholeJointsBeside : MethodName := ⟨RX4, "wholeJointsBeside", "(I)I"⟩
abbrev cX4_greatestStressOf : ByteArray := prog_6_method_24_code
def yX4_greatestStressOf : MethodName := ⟨RX4, "greatestStressOf", "(I)I"⟩
abbrev cX4_greatestStress : ByteArray := prog_6_method_25_code
def yX4_greatestStress : MethodName := ⟨RX4, "greatestStress", "()I"⟩
abbrev cX4_leastMargin : ByteArray := prog_6_method_26_code
def yX4_leastMargin : MethodName := ⟨RX4, "leastMargin", "()I"⟩
abbrev cX4_mostStrained : ByteArray := prog_6_method_27_code
def yX4_mostStrained : MethodName := ⟨RX4, "mostStrained", "()I"⟩
abbrev cX4_strainedAt : ByteArray := prog_6_method_28_code
def yX4_strainedAt : MethodName := ⟨RX4, "strainedAt", "(I)I"⟩
abbrev cX4_placeOf : ByteArray := prog_6_method_29_code
def yX4_placeOf : MethodName := ⟨RX4, "placeOf", "(I)I"⟩
abbrev cX4_crackedJoints : ByteArray := prog_6_method_30_code
def yX4_crackedJoints : MethodName := ⟨RX4, "crackedJoints", "()I"⟩
abbrev cX4_sumOfHeats : ByteArray := prog_6_method_31_code
def yX4_sumOfHeats : MethodName := ⟨RX4, "sumOfHeats", "()I"⟩
abbrev cX4_greatestHeat : ByteArray := prog_6_method_32_code
def yX4_greatestHeat : MethodName := ⟨RX4, "greatestHeat", "()I"⟩
abbrev cX4_leastHeat : ByteArray := prog_6_method_33_code
def yX4_leastHeat : MethodName := ⟨RX4, "leastHeat", "()I"⟩
def RX5 : String := "ColdPanes$Pieces"
def TX5 : u_T := fun k => match k with
  | 0 => ("ColdPanes$Pieces", "names", "[I", true)
  | 1 => ("ColdPanes$Pieces", "reached", "[I", true)
  | _ => ("ColdPanes$Pieces", "reachedCells", "I", false)
def tyX5 : Nat → FieldType := fun k => match k with
  | 0 => .array .int
  | 1 => .array .int
  | _ => .int
abbrev wsX50 : List Cond := u_ws RX5 TX5 3
theorem nmX5 : ∀ a, a < 3 → ∀ b, b < 3 → a ≠ b → (TX5 a).2.1 ≠ (TX5 b).2.1 := by decide +kernel
theorem tyX5_ok : ∀ k, k < 3 → parseFieldDescriptor (TX5 k).2.2.1 = some (tyX5 k) := by decide +kernel
abbrev cX5_init : ByteArray := prog_7_method_1_code
def yX5_init : MethodName := ⟨RX5, "<init>", "()V"⟩
abbrev cX5_tellByGoing : ByteArray := prog_7_method_2_code
def yX5_tellByGoing : MethodName := ⟨RX5, "tellByGoing", "(LColdPanes$Pane;)I"⟩
abbrev cX5_spreadFrom : ByteArray := prog_7_method_3_code
def yX5_spreadFrom : MethodName := ⟨RX5, "spreadFrom", "(LColdPanes$Pane;I)V"⟩
abbrev cX5_reach : ByteArray := prog_7_method_4_code
def yX5_reach : MethodName := ⟨RX5, "reach", "(II)V"⟩
abbrev cX5_tellByJoining : ByteArray := prog_7_method_5_code
def yX5_tellByJoining : MethodName := ⟨RX5, "tellByJoining", "(LColdPanes$Pane;)I"⟩
abbrev cX5_join : ByteArray := prog_7_method_6_code
def yX5_join : MethodName := ⟨RX5, "join", "(II)Z"⟩
abbrev cX5_nameOf : ByteArray := prog_7_method_7_code
def yX5_nameOf : MethodName := ⟨RX5, "nameOf", "(I)I"⟩
abbrev cX5_greatestSize : ByteArray := prog_7_method_8_code
def yX5_greatestSize : MethodName := ⟨RX5, "greatestSize", "()I"⟩
abbrev cX5_sizeOf : ByteArray := prog_7_method_9_code
def yX5_sizeOf : MethodName := ⟨RX5, "sizeOf", "(I)I"⟩
abbrev cX5_meanHeat : ByteArray := prog_7_method_10_code
def yX5_meanHeat : MethodName := ⟨RX5, "meanHeat", "(LColdPanes$Pane;I)D"⟩
def RX6 : String := "ColdPanes"
def TX6 : u_T := fun k => match k with
  | 0 => ("ColdPanes", "now", "LColdPanes$Pane;", true)
  | 1 => ("ColdPanes", "trial", "LColdPanes$Pane;", true)
  | 2 => ("ColdPanes", "snapshot", "LColdPanes$Pane;", true)
  | 3 => ("ColdPanes", "hasSnapshot", "Z", false)
  | 4 => ("ColdPanes", "history", "LColdPanes$History;", true)
  | 5 => ("ColdPanes", "pad", "LColdPanes$Pad;", true)
  | 6 => ("ColdPanes", "parts", "LColdPanes$Pieces;", true)
  | _ => ("ColdPanes", "forecast", "LColdPanes$Forecast;", true)
def tyX6 : Nat → FieldType := fun k => match k with
  | 0 => .object "ColdPanes$Pane"
  | 1 => .object "ColdPanes$Pane"
  | 2 => .object "ColdPanes$Pane"
  | 3 => .boolean
  | 4 => .object "ColdPanes$History"
  | 5 => .object "ColdPanes$Pad"
  | 6 => .object "ColdPanes$Pieces"
  | _ => .object "ColdPanes$Forecast"
abbrev wsX60 : List Cond := u_ws RX6 TX6 8
theorem nmX6 : ∀ a, a < 8 → ∀ b, b < 8 → a ≠ b → (TX6 a).2.1 ≠ (TX6 b).2.1 := by decide +kernel
theorem tyX6_ok : ∀ k, k < 8 → parseFieldDescriptor (TX6 k).2.2.1 = some (tyX6 k) := by decide +kernel
abbrev cX6_init : ByteArray := prog_1_method_1_code
def yX6_init : MethodName := ⟨RX6, "<init>", "()V"⟩
abbrev cX6_begin : ByteArray := prog_1_method_2_code
def yX6_begin : MethodName := ⟨RX6, "begin", "(I)I"⟩
abbrev cX6_aim : ByteArray := prog_1_method_3_code
def yX6_aim : MethodName := ⟨RX6, "aim", "(II)I"⟩
abbrev cX6_pass : ByteArray := prog_1_method_4_code
def yX6_pass : MethodName := ⟨RX6, "pass", "(I)I"⟩
abbrev cX6_scratch : ByteArray := prog_1_method_5_code
def yX6_scratch : MethodName := ⟨RX6, "scratch", "(II)I"⟩
abbrev cX6_mend : ByteArray := prog_1_method_6_code
def yX6_mend : MethodName := ⟨RX6, "mend", "(I)I"⟩
abbrev cX6_heat : ByteArray := prog_1_method_7_code
def yX6_heat : MethodName := ⟨RX6, "heat", "(II)I"⟩
abbrev cX6_set : ByteArray := prog_1_method_8_code
def yX6_set : MethodName := ⟨RX6, "set", "(II)I"⟩
abbrev cX6_append : ByteArray := prog_1_method_9_code
def yX6_append : MethodName := ⟨RX6, "append", "(I)I"⟩
abbrev cX6_clear : ByteArray := prog_1_method_10_code
def yX6_clear : MethodName := ⟨RX6, "clear", "()I"⟩
abbrev cX6_fault : ByteArray := prog_1_method_11_code
def yX6_fault : MethodName := ⟨RX6, "fault", "()I"⟩
abbrev cX6_run : ByteArray := prog_1_method_12_code
def yX6_run : MethodName := ⟨RX6, "run", "()I"⟩
abbrev cX6_cell : ByteArray := prog_1_method_13_code
def yX6_cell : MethodName := ⟨RX6, "cell", "(II)I"⟩
abbrev cX6_joint : ByteArray := prog_1_method_14_code
def yX6_joint : MethodName := ⟨RX6, "joint", "(II)I"⟩
abbrev cX6_strained : ByteArray := prog_1_method_15_code
def yX6_strained : MethodName := ⟨RX6, "strained", "(I)I"⟩
abbrev cX6_pieces : ByteArray := prog_1_method_16_code
def yX6_pieces : MethodName := ⟨RX6, "pieces", "(I)I"⟩
abbrev cX6_count : ByteArray := prog_1_method_17_code
def yX6_count : MethodName := ⟨RX6, "count", "(I)I"⟩
abbrev cX6_mean : ByteArray := prog_1_method_18_code
def yX6_mean : MethodName := ⟨RX6, "mean", "(I)D"⟩
abbrev cX6_ifPassed : ByteArray := prog_1_method_19_code
def yX6_ifPassed : MethodName := ⟨RX6, "ifPassed", "(II)I"⟩
abbrev cX6_fastest : ByteArray := prog_1_method_20_code
def yX6_fastest : MethodName := ⟨RX6, "fastest", "(II)I"⟩
abbrev cX6_evenIn : ByteArray := prog_1_method_21_code
def yX6_evenIn : MethodName := ⟨RX6, "evenIn", "(I)I"⟩
abbrev cX6_undo : ByteArray := prog_1_method_22_code
def yX6_undo : MethodName := ⟨RX6, "undo", "()I"⟩
abbrev cX6_save : ByteArray := prog_1_method_23_code
def yX6_save : MethodName := ⟨RX6, "save", "()I"⟩
abbrev cX6_restore : ByteArray := prog_1_method_24_code
def yX6_restore : MethodName := ⟨RX6, "restore", "()I"⟩
abbrev cX6_isOutside : ByteArray := prog_1_method_25_code
def yX6_isOutside : MethodName := ⟨RX6, "isOutside", "(III)Z"⟩
def RX7 : String := "ColdPanesModel"
def TX7 : u_T := fun k => match k with
  | 0 => ("ColdPanesModel", "s", "[I", true)
  | 1 => ("ColdPanesModel", "aside", "[I", true)
  | 2 => ("ColdPanesModel", "past", "[I", true)
  | 3 => ("ColdPanesModel", "known", "I", false)
  | 4 => ("ColdPanesModel", "kept", "[I", true)
  | 5 => ("ColdPanesModel", "isKept", "Z", false)
  | 6 => ("ColdPanesModel", "pad", "[I", true)
  | 7 => ("ColdPanesModel", "length", "I", false)
  | 8 => ("ColdPanesModel", "flow", "[I", true)
  | 9 => ("ColdPanesModel", "strongest", "I", false)
  | 10 => ("ColdPanesModel", "spot", "I", false)
  | 11 => ("ColdPanesModel", "isForm", "Z", false)
  | 12 => ("ColdPanesModel", "isHold", "Z", false)
  | 13 => ("ColdPanesModel", "toldAim", "I", false)
  | 14 => ("ColdPanesModel", "toldRate", "I", false)
  | 15 => ("ColdPanesModel", "toldMinutes", "I", false)
  | _ => ("ColdPanesModel", "name", "[I", true)
def tyX7 : Nat → FieldType := fun k => match k with
  | 0 => .array .int
  | 1 => .array .int
  | 2 => .array .int
  | 3 => .int
  | 4 => .array .int
  | 5 => .boolean
  | 6 => .array .int
  | 7 => .int
  | 8 => .array .int
  | 9 => .int
  | 10 => .int
  | 11 => .boolean
  | 12 => .boolean
  | 13 => .int
  | 14 => .int
  | 15 => .int
  | _ => .array .int
abbrev wsX70 : List Cond := u_ws RX7 TX7 17
theorem nmX7 : ∀ a, a < 17 → ∀ b, b < 17 → a ≠ b → (TX7 a).2.1 ≠ (TX7 b).2.1 := by decide +kernel
theorem tyX7_ok : ∀ k, k < 17 → parseFieldDescriptor (TX7 k).2.2.1 = some (tyX7 k) := by decide +kernel
abbrev cX7_init : ByteArray := prog_9_method_1_code
def yX7_init : MethodName := ⟨RX7, "<init>", "()V"⟩
abbrev cX7_in : ByteArray := prog_9_method_3_code
def yX7_in : MethodName := ⟨RX7, "in", "(III)Z"⟩
abbrev cX7_copies : ByteArray := prog_9_method_4_code
def yX7_copies : MethodName := ⟨RX7, "copies", "([II[II)V"⟩
abbrev cX7_records : ByteArray := prog_9_method_5_code
def yX7_records : MethodName := ⟨RX7, "records", "()V"⟩
abbrev cX7_isCell : ByteArray := prog_9_method_6_code
def yX7_isCell : MethodName := ⟨RX7, "isCell", "(I)Z"⟩
abbrev cX7_isJoint : ByteArray := prog_9_method_7_code
def yX7_isJoint : MethodName := ⟨RX7, "isJoint", "(I)Z"⟩
abbrev cX7_firstOf : ByteArray := prog_9_method_8_code
def yX7_firstOf : MethodName := ⟨RX7, "firstOf", "(I)I"⟩
abbrev cX7_secondOf : ByteArray := prog_9_method_9_code
def yX7_secondOf : MethodName := ⟨RX7, "secondOf", "(I)I"⟩
abbrev cX7_size : ByteArray := prog_9_method_10_code
def yX7_size : MethodName := ⟨RX7, "size", "(I)I"⟩
abbrev cX7_isWhole : ByteArray := prog_9_method_11_code
def yX7_isWhole : MethodName := ⟨RX7, "isWhole", "(I)Z"⟩
abbrev cX7_stressOf : ByteArray := prog_9_method_12_code
def yX7_stressOf : MethodName := ⟨RX7, "stressOf", "(I)I"⟩
abbrev cX7_marginOf : ByteArray := prog_9_method_13_code
def yX7_marginOf : MethodName := ⟨RX7, "marginOf", "(I)I"⟩
abbrev cX7_has : ByteArray := prog_9_method_14_code
def yX7_has : MethodName := ⟨RX7, "has", "(II)Z"⟩
abbrev cX7_touch : ByteArray := prog_9_method_15_code
def yX7_touch : MethodName := ⟨RX7, "touch", "(II)Z"⟩
abbrev cX7_sidesOf : ByteArray := prog_9_method_16_code
def yX7_sidesOf : MethodName := ⟨RX7, "sidesOf", "(I)I"⟩
abbrev cX7_goBegin : ByteArray := prog_9_method_17_code
def yX7_goBegin : MethodName := ⟨RX7, "goBegin", "(I)I"⟩
abbrev cX7_flows : ByteArray := prog_9_method_18_code
def yX7_flows : MethodName := ⟨RX7, "flows", "()V"⟩
abbrev cX7_worst : ByteArray := prog_9_method_19_code
def yX7_worst : MethodName := ⟨RX7, "worst", "()I"⟩
abbrev cX7_greatestStress : ByteArray := prog_9_method_20_code
def yX7_greatestStress : MethodName := ⟨RX7, "greatestStress", "()I"⟩
abbrev cX7_minute : ByteArray := prog_9_method_21_code
def yX7_minute : MethodName := ⟨RX7, "minute", "()I"⟩
abbrev cX7_goPass : ByteArray := prog_9_method_22_code
def yX7_goPass : MethodName := ⟨RX7, "goPass", "(I)I"⟩
abbrev cX7_cracked : ByteArray := prog_9_method_23_code
def yX7_cracked : MethodName := ⟨RX7, "cracked", "()I"⟩
abbrev cX7_begin : ByteArray := prog_9_method_24_code
def yX7_begin : MethodName := ⟨RX7, "begin", "(I)I"⟩
abbrev cX7_laysAim : ByteArray := prog_9_method_25_code
def yX7_laysAim : MethodName := ⟨RX7, "laysAim", "(II)V"⟩
abbrev cX7_aim : ByteArray := prog_9_method_26_code
def yX7_aim : MethodName := ⟨RX7, "aim", "(II)I"⟩
abbrev cX7_pass : ByteArray := prog_9_method_27_code
def yX7_pass : MethodName := ⟨RX7, "pass", "(I)I"⟩
abbrev cX7_scratch : ByteArray := prog_9_method_28_code
def yX7_scratch : MethodName := ⟨RX7, "scratch", "(II)I"⟩
abbrev cX7_mend : ByteArray := prog_9_method_29_code
def yX7_mend : MethodName := ⟨RX7, "mend", "(I)I"⟩
abbrev cX7_heat : ByteArray := prog_9_method_30_code
def yX7_heat : MethodName := ⟨RX7, "heat", "(II)I"⟩
abbrev cX7_set : ByteArray := prog_9_method_31_code
def yX7_set : MethodName := ⟨RX7, "set", "(II)I"⟩
abbrev cX7_append : ByteArray := prog_9_method_32_code
def yX7_append : MethodName := ⟨RX7, "append", "(I)I"⟩
abbrev cX7_clear : ByteArray := prog_9_method_33_code
def yX7_clear : MethodName := ⟨RX7, "clear", "()I"⟩
abbrev cX7_here : ByteArray := prog_9_method_34_code
def yX7_here : MethodName := ⟨RX7, "here", "()I"⟩
abbrev cX7_takes : ByteArray := prog_9_method_35_code
def yX7_takes : MethodName := ⟨RX7, "takes", "(Z)V"⟩
abbrev cX7_takesNumber : ByteArray := prog_9_method_36_code
def yX7_takesNumber : MethodName := ⟨RX7, "takesNumber", "(II)I"⟩
abbrev cX7_takesSegment : ByteArray := prog_9_method_37_code
def yX7_takesSegment : MethodName := ⟨RX7, "takesSegment", "()V"⟩
abbrev cX7_isProgram : ByteArray := prog_9_method_38_code
def yX7_isProgram : MethodName := ⟨RX7, "isProgram", "()Z"⟩
abbrev cX7_fault : ByteArray := prog_9_method_39_code
def yX7_fault : MethodName := ⟨RX7, "fault", "()I"⟩
abbrev cX7_run : ByteArray := prog_9_method_40_code
def yX7_run : MethodName := ⟨RX7, "run", "()I"⟩
abbrev cX7_names : ByteArray := prog_9_method_41_code
def yX7_names : MethodName := ⟨RX7, "names", "()V"⟩
abbrev cX7_cellsOf : ByteArray := prog_9_method_42_code
def yX7_cellsOf : MethodName := ⟨RX7, "cellsOf", "(I)I"⟩
abbrev cX7_greatestPiece : ByteArray := prog_9_method_43_code
def yX7_greatestPiece : MethodName := ⟨RX7, "greatestPiece", "()I"⟩
abbrev cX7_pieces : ByteArray := prog_9_method_44_code
def yX7_pieces : MethodName := ⟨RX7, "pieces", "(I)I"⟩
abbrev cX7_mean : ByteArray := prog_9_method_45_code
def yX7_mean : MethodName := ⟨RX7, "mean", "(I)D"⟩
abbrev cX7_wholeOf : ByteArray := prog_9_method_46_code
def yX7_wholeOf : MethodName := ⟨RX7, "wholeOf", "(I)I"⟩
abbrev cX7_stressAt : ByteArray := prog_9_method_47_code
def yX7_stressAt : MethodName := ⟨RX7, "stressAt", "(I)I"⟩
abbrev cX7_pieceOf : ByteArray := prog_9_method_48_code
def yX7_pieceOf : MethodName := ⟨RX7, "pieceOf", "(I)I"⟩
abbrev cX7_cell : ByteArray := prog_9_method_49_code
def yX7_cell : MethodName := ⟨RX7, "cell", "(II)I"⟩
abbrev cX7_touching : ByteArray := prog_9_method_50_code
def yX7_touching : MethodName := ⟨RX7, "touching", "(I)I"⟩
abbrev cX7_joint : ByteArray := prog_9_method_51_code
def yX7_joint : MethodName := ⟨RX7, "joint", "(II)I"⟩
abbrev cX7_isAhead : ByteArray := prog_9_method_52_code
def yX7_isAhead : MethodName := ⟨RX7, "isAhead", "(II)Z"⟩
abbrev cX7_strained : ByteArray := prog_9_method_53_code
def yX7_strained : MethodName := ⟨RX7, "strained", "(I)I"⟩
abbrev cX7_sumOfHeats : ByteArray := prog_9_method_54_code
def yX7_sumOfHeats : MethodName := ⟨RX7, "sumOfHeats", "()I"⟩
abbrev cX7_heatMost : ByteArray := prog_9_method_55_code
def yX7_heatMost : MethodName := ⟨RX7, "heatMost", "(Z)I"⟩
abbrev cX7_leastMargin : ByteArray := prog_9_method_56_code
def yX7_leastMargin : MethodName := ⟨RX7, "leastMargin", "()I"⟩
abbrev cX7_count : ByteArray := prog_9_method_57_code
def yX7_count : MethodName := ⟨RX7, "count", "(I)I"⟩
abbrev cX7_ifPassed : ByteArray := prog_9_method_58_code
def yX7_ifPassed : MethodName := ⟨RX7, "ifPassed", "(II)I"⟩
abbrev cX7_isHarmless : ByteArray := prog_9_method_59_code
def yX7_isHarmless : MethodName := ⟨RX7, "isHarmless", "(III)Z"⟩
abbrev cX7_fastest : ByteArray := prog_9_method_60_code
def yX7_fastest : MethodName := ⟨RX7, "fastest", "(II)I"⟩
abbrev cX7_evenIn : ByteArray := prog_9_method_61_code
def yX7_evenIn : MethodName := ⟨RX7, "evenIn", "(I)I"⟩
abbrev cX7_undo : ByteArray := prog_9_method_62_code
def yX7_undo : MethodName := ⟨RX7, "undo", "()I"⟩
abbrev cX7_save : ByteArray := prog_9_method_63_code
def yX7_save : MethodName := ⟨RX7, "save", "()I"⟩
abbrev cX7_restore : ByteArray := prog_9_method_64_code
def yX7_restore : MethodName := ⟨RX7, "restore", "()I"⟩
def RJ9 : String := "java/lang/Math"
def TJ9 : u_T := fun k => match k with
  | _ => ("", "", "", false)
def tyJ9 : Nat → FieldType := fun k => match k with
  | _ => .int
abbrev wsJ90 : List Cond := u_ws RJ9 TJ9 0
theorem nmJ9 : ∀ a, a < 0 → ∀ b, b < 0 → a ≠ b → (TJ9 a).2.1 ≠ (TJ9 b).2.1 := by decide +kernel
theorem tyJ9_ok : ∀ k, k < 0 → parseFieldDescriptor (TJ9 k).2.2.1 = some (tyJ9 k) := by decide +kernel
abbrev cJ9_abs_0f7a4 : ByteArray := prog_10_method_59_code
def yJ9_abs_0f7a4 : MethodName := ⟨RJ9, "abs", "(I)I"⟩
abbrev cJ9_max_7cf53 : ByteArray := prog_10_method_65_code
def yJ9_max_7cf53 : MethodName := ⟨RJ9, "max", "(II)I"⟩
abbrev cJ9_min_7cf53 : ByteArray := prog_10_method_69_code
def yJ9_min_7cf53 : MethodName := ⟨RJ9, "min", "(II)I"⟩
def RJ10 : String := "java/lang/System"
def TJ10 : u_T := fun k => match k with
  | _ => ("", "", "", false)
def tyJ10 : Nat → FieldType := fun k => match k with
  | _ => .int
abbrev wsJ100 : List Cond := u_ws RJ10 TJ10 0
theorem nmJ10 : ∀ a, a < 0 → ∀ b, b < 0 → a ≠ b → (TJ10 a).2.1 ≠ (TJ10 b).2.1 := by decide +kernel
theorem tyJ10_ok : ∀ k, k < 0 → parseFieldDescriptor (TJ10 k).2.2.1 = some (tyJ10 k) := by decide +kernel
def RJ7 : String := "java/util/Arrays"
def TJ7 : u_T := fun k => match k with
  | _ => ("", "", "", false)
def tyJ7 : Nat → FieldType := fun k => match k with
  | _ => .int
abbrev wsJ70 : List Cond := u_ws RJ7 TJ7 0
theorem nmJ7 : ∀ a, a < 0 → ∀ b, b < 0 → a ≠ b → (TJ7 a).2.1 ≠ (TJ7 b).2.1 := by decide +kernel
theorem tyJ7_ok : ∀ k, k < 0 → parseFieldDescriptor (TJ7 k).2.2.1 = some (tyJ7 k) := by decide +kernel
abbrev cJ7_fill_53178 : ByteArray := prog_12_method_103_code
def yJ7_fill_53178 : MethodName := ⟨RJ7, "fill", "([II)V"⟩
def RL : String := "ColdPanesLaw"
abbrev cL_law : ByteArray := code
def yL_law : MethodName := ⟨RL, "law", "([I)Z"⟩
abbrev vwCl : List vw_C := [(RX0, TX0, 3), (RX2, TX2, 2), (RX3, TX3, 8), (RX4, TX4, 12), (RX5, TX5, 3), (RX6, TX6, 8), (RX7, TX7, 17)]
/-- the words that methods may ask for: the tables' that stay good -/
def mjW : List Cond := lw_tbl.filter goodWord
theorem mjW_of {w : Cond} (i : Nat) (h : lw_tbl[i]? = some w) (hg : goodWord w = true) : w ∈ mjW := List.mem_filter.mpr ⟨List.mem_of_getElem? h, hg⟩
theorem mjW_tbl : ∀ w ∈ mjW, w ∈ lw_tbl := fun _ h => (List.mem_filter.mp h).1
theorem mjW_good : ∀ w ∈ mjW, goodWord w = true := fun _ h => (List.mem_filter.mp h).2
