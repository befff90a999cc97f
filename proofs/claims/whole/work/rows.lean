section
-- ===== PART A: goes FIRST, ahead of the names: the tables' words, and 'selects' of the private methods out of them =====
/-- a private method of a class that the tables say can be made, by its rows of tables_1 -/
def lw_okq (q : MethodName × Nat) : Prop := (q.1.cls ≠ "java/lang/invoke/MethodHandle" ∧ q.1.cls ≠ "java/lang/invoke/VarHandle") ∧ Cond.instantiable q.1.cls q.2 ∈ tables_1 ∧ Cond.privateMethod q.1 ∈ tables_1 ∧ Cond.instanceMethod q.1 ∈ tables_1
theorem lw_p0 : lw_okq (⟨"ColdPanes$History", "dropOldest", "()V"⟩, 2) := ⟨⟨by decide +kernel, by decide +kernel⟩, List.mem_of_getElem? (i := 80) (by decide +kernel), List.mem_of_getElem? (i := 202) (by decide +kernel), List.mem_of_getElem? (i := 203) (by decide +kernel)⟩
theorem lw_p1 : lw_okq (⟨"ColdPanes$History", "stateAt", "(I)LColdPanes$Pane;"⟩, 2) := ⟨⟨by decide +kernel, by decide +kernel⟩, List.mem_of_getElem? (i := 80) (by decide +kernel), List.mem_of_getElem? (i := 206) (by decide +kernel), List.mem_of_getElem? (i := 207) (by decide +kernel)⟩
theorem lw_p2 : lw_okq (⟨"ColdPanes$Pane", "moveFurnace", "()V"⟩, 12) := ⟨⟨by decide +kernel, by decide +kernel⟩, List.mem_of_getElem? (i := 21) (by decide +kernel), List.mem_of_getElem? (i := 238) (by decide +kernel), List.mem_of_getElem? (i := 239) (by decide +kernel)⟩
theorem lw_p3 : lw_okq (⟨"ColdPanes$Pane", "flowOverJoints", "()V"⟩, 12) := ⟨⟨by decide +kernel, by decide +kernel⟩, List.mem_of_getElem? (i := 21) (by decide +kernel), List.mem_of_getElem? (i := 248) (by decide +kernel), List.mem_of_getElem? (i := 249) (by decide +kernel)⟩
theorem lw_p4 : lw_okq (⟨"ColdPanes$Pane", "gain", "(II)V"⟩, 12) := ⟨⟨by decide +kernel, by decide +kernel⟩, List.mem_of_getElem? (i := 21) (by decide +kernel), List.mem_of_getElem? (i := 266) (by decide +kernel), List.mem_of_getElem? (i := 267) (by decide +kernel)⟩
theorem lw_p5 : lw_okq (⟨"ColdPanes$Pane", "flowAtRim", "()V"⟩, 12) := ⟨⟨by decide +kernel, by decide +kernel⟩, List.mem_of_getElem? (i := 21) (by decide +kernel), List.mem_of_getElem? (i := 273) (by decide +kernel), List.mem_of_getElem? (i := 274) (by decide +kernel)⟩
theorem lw_p6 : lw_okq (⟨"ColdPanes$Pane", "mostStrained", "()I"⟩, 12) := ⟨⟨by decide +kernel, by decide +kernel⟩, List.mem_of_getElem? (i := 21) (by decide +kernel), List.mem_of_getElem? (i := 284) (by decide +kernel), List.mem_of_getElem? (i := 285) (by decide +kernel)⟩
theorem lw_p7 : lw_okq (⟨"ColdPanes$Pane", "weakenBeside", "(I)V"⟩, 12) := ⟨⟨by decide +kernel, by decide +kernel⟩, List.mem_of_getElem? (i := 21) (by decide +kernel), List.mem_of_getElem? (i := 306) (by decide +kernel), List.mem_of_getElem? (i := 307) (by decide +kernel)⟩
theorem lw_p8 : lw_okq (⟨"ColdPanes$Pad", "reads", "(C)Z"⟩, 8) := ⟨⟨by decide +kernel, by decide +kernel⟩, List.mem_of_getElem? (i := 97) (by decide +kernel), List.mem_of_getElem? (i := 374) (by decide +kernel), List.mem_of_getElem? (i := 375) (by decide +kernel)⟩
theorem lw_p9 : lw_okq (⟨"ColdPanes$Pad", "readsDigit", "(I)Z"⟩, 8) := ⟨⟨by decide +kernel, by decide +kernel⟩, List.mem_of_getElem? (i := 97) (by decide +kernel), List.mem_of_getElem? (i := 378) (by decide +kernel), List.mem_of_getElem? (i := 379) (by decide +kernel)⟩
theorem lw_p10 : lw_okq (⟨"ColdPanes$Pad", "leastOfPart", "()I"⟩, 8) := ⟨⟨by decide +kernel, by decide +kernel⟩, List.mem_of_getElem? (i := 97) (by decide +kernel), List.mem_of_getElem? (i := 382) (by decide +kernel), List.mem_of_getElem? (i := 383) (by decide +kernel)⟩
theorem lw_p11 : lw_okq (⟨"ColdPanes$Pad", "mostOfPart", "()I"⟩, 8) := ⟨⟨by decide +kernel, by decide +kernel⟩, List.mem_of_getElem? (i := 97) (by decide +kernel), List.mem_of_getElem? (i := 386) (by decide +kernel), List.mem_of_getElem? (i := 387) (by decide +kernel)⟩
theorem lw_p12 : lw_okq (⟨"ColdPanes$Pad", "readsHold", "(C)Z"⟩, 8) := ⟨⟨by decide +kernel, by decide +kernel⟩, List.mem_of_getElem? (i := 97) (by decide +kernel), List.mem_of_getElem? (i := 390) (by decide +kernel), List.mem_of_getElem? (i := 391) (by decide +kernel)⟩
theorem lw_p13 : lw_okq (⟨"ColdPanes$Pad", "keepIn", "([II)V"⟩, 8) := ⟨⟨by decide +kernel, by decide +kernel⟩, List.mem_of_getElem? (i := 97) (by decide +kernel), List.mem_of_getElem? (i := 394) (by decide +kernel), List.mem_of_getElem? (i := 395) (by decide +kernel)⟩
theorem lw_p14 : lw_okq (⟨"ColdPanes$Pad", "endOfPart", "()C"⟩, 8) := ⟨⟨by decide +kernel, by decide +kernel⟩, List.mem_of_getElem? (i := 97) (by decide +kernel), List.mem_of_getElem? (i := 398) (by decide +kernel), List.mem_of_getElem? (i := 399) (by decide +kernel)⟩
theorem lw_p15 : lw_okq (⟨"ColdPanes$Pad", "endNumber", "()V"⟩, 8) := ⟨⟨by decide +kernel, by decide +kernel⟩, List.mem_of_getElem? (i := 97) (by decide +kernel), List.mem_of_getElem? (i := 402) (by decide +kernel), List.mem_of_getElem? (i := 403) (by decide +kernel)⟩
def lw_privs_1 : List (MethodName × Nat) := [(⟨"ColdPanes$History", "dropOldest", "()V"⟩, 2), (⟨"ColdPanes$History", "stateAt", "(I)LColdPanes$Pane;"⟩, 2), (⟨"ColdPanes$Pane", "moveFurnace", "()V"⟩, 12), (⟨"ColdPanes$Pane", "flowOverJoints", "()V"⟩, 12), (⟨"ColdPanes$Pane", "gain", "(II)V"⟩, 12), (⟨"ColdPanes$Pane", "flowAtRim", "()V"⟩, 12), (⟨"ColdPanes$Pane", "mostStrained", "()I"⟩, 12), (⟨"ColdPanes$Pane", "weakenBeside", "(I)V"⟩, 12), (⟨"ColdPanes$Pad", "reads", "(C)Z"⟩, 8), (⟨"ColdPanes$Pad", "readsDigit", "(I)Z"⟩, 8), (⟨"ColdPanes$Pad", "leastOfPart", "()I"⟩, 8), (⟨"ColdPanes$Pad", "mostOfPart", "()I"⟩, 8), (⟨"ColdPanes$Pad", "readsHold", "(C)Z"⟩, 8), (⟨"ColdPanes$Pad", "keepIn", "([II)V"⟩, 8), (⟨"ColdPanes$Pad", "endOfPart", "()C"⟩, 8), (⟨"ColdPanes$Pad", "endNumber", "()V"⟩, 8)]
theorem lw_r1 : ∀ q ∈ lw_privs_1, lw_okq q := List.forall_mem_cons.mpr ⟨lw_p0, List.forall_mem_cons.mpr ⟨lw_p1, List.forall_mem_cons.mpr ⟨lw_p2, List.forall_mem_cons.mpr ⟨lw_p3, List.forall_mem_cons.mpr ⟨lw_p4, List.forall_mem_cons.mpr ⟨lw_p5, List.forall_mem_cons.mpr ⟨lw_p6, List.forall_mem_cons.mpr ⟨lw_p7, List.forall_mem_cons.mpr ⟨lw_p8, List.forall_mem_cons.mpr ⟨lw_p9, List.forall_mem_cons.mpr ⟨lw_p10, List.forall_mem_cons.mpr ⟨lw_p11, List.forall_mem_cons.mpr ⟨lw_p12, List.forall_mem_cons.mpr ⟨lw_p13, List.forall_mem_cons.mpr ⟨lw_p14, List.forall_mem_cons.mpr ⟨lw_p15, fun _ h => absurd h List.not_mem_nil⟩⟩⟩⟩⟩⟩⟩⟩⟩⟩⟩⟩⟩⟩⟩⟩
theorem lw_p16 : lw_okq (⟨"ColdPanes$Pieces", "spreadFrom", "(LColdPanes$Pane;I)V"⟩, 3) := ⟨⟨by decide +kernel, by decide +kernel⟩, List.mem_of_getElem? (i := 131) (by decide +kernel), List.mem_of_getElem? (i := 435) (by decide +kernel), List.mem_of_getElem? (i := 436) (by decide +kernel)⟩
theorem lw_p17 : lw_okq (⟨"ColdPanes$Pieces", "reach", "(II)V"⟩, 3) := ⟨⟨by decide +kernel, by decide +kernel⟩, List.mem_of_getElem? (i := 131) (by decide +kernel), List.mem_of_getElem? (i := 439) (by decide +kernel), List.mem_of_getElem? (i := 440) (by decide +kernel)⟩
theorem lw_p18 : lw_okq (⟨"ColdPanes$Pane", "placeOf", "(I)I"⟩, 12) := ⟨⟨by decide +kernel, by decide +kernel⟩, List.mem_of_getElem? (i := 21) (by decide +kernel), List.mem_of_getElem? (i := 489) (by decide +kernel), List.mem_of_getElem? (i := 490) (by decide +kernel)⟩
theorem lw_p19 : lw_okq (⟨"ColdPanes$Pieces", "join", "(II)Z"⟩, 3) := ⟨⟨by decide +kernel, by decide +kernel⟩, List.mem_of_getElem? (i := 131) (by decide +kernel), List.mem_of_getElem? (i := 503) (by decide +kernel), List.mem_of_getElem? (i := 504) (by decide +kernel)⟩
theorem lw_p20 : lw_okq (⟨"ColdPanes$Pieces", "sizeOf", "(I)I"⟩, 3) := ⟨⟨by decide +kernel, by decide +kernel⟩, List.mem_of_getElem? (i := 131) (by decide +kernel), List.mem_of_getElem? (i := 533) (by decide +kernel), List.mem_of_getElem? (i := 534) (by decide +kernel)⟩
theorem lw_p21 : lw_okq (⟨"ColdPanesModel", "goBegin", "(I)I"⟩, 17) := ⟨⟨by decide +kernel, by decide +kernel⟩, List.mem_of_getElem? (i := 589) (by decide +kernel), List.mem_of_getElem? (i := 595) (by decide +kernel), List.mem_of_getElem? (i := 596) (by decide +kernel)⟩
theorem lw_p22 : lw_okq (⟨"ColdPanesModel", "records", "()V"⟩, 17) := ⟨⟨by decide +kernel, by decide +kernel⟩, List.mem_of_getElem? (i := 589) (by decide +kernel), List.mem_of_getElem? (i := 658) (by decide +kernel), List.mem_of_getElem? (i := 659) (by decide +kernel)⟩
theorem lw_p23 : lw_okq (⟨"ColdPanesModel", "laysAim", "(II)V"⟩, 17) := ⟨⟨by decide +kernel, by decide +kernel⟩, List.mem_of_getElem? (i := 589) (by decide +kernel), List.mem_of_getElem? (i := 669) (by decide +kernel), List.mem_of_getElem? (i := 670) (by decide +kernel)⟩
theorem lw_p24 : lw_okq (⟨"ColdPanesModel", "goPass", "(I)I"⟩, 17) := ⟨⟨by decide +kernel, by decide +kernel⟩, List.mem_of_getElem? (i := 589) (by decide +kernel), List.mem_of_getElem? (i := 677) (by decide +kernel), List.mem_of_getElem? (i := 678) (by decide +kernel)⟩
theorem lw_p25 : lw_okq (⟨"ColdPanesModel", "minute", "()I"⟩, 17) := ⟨⟨by decide +kernel, by decide +kernel⟩, List.mem_of_getElem? (i := 589) (by decide +kernel), List.mem_of_getElem? (i := 681) (by decide +kernel), List.mem_of_getElem? (i := 682) (by decide +kernel)⟩
theorem lw_p26 : lw_okq (⟨"ColdPanesModel", "flows", "()V"⟩, 17) := ⟨⟨by decide +kernel, by decide +kernel⟩, List.mem_of_getElem? (i := 589) (by decide +kernel), List.mem_of_getElem? (i := 688) (by decide +kernel), List.mem_of_getElem? (i := 689) (by decide +kernel)⟩
theorem lw_p27 : lw_okq (⟨"ColdPanesModel", "isWhole", "(I)Z"⟩, 17) := ⟨⟨by decide +kernel, by decide +kernel⟩, List.mem_of_getElem? (i := 589) (by decide +kernel), List.mem_of_getElem? (i := 692) (by decide +kernel), List.mem_of_getElem? (i := 693) (by decide +kernel)⟩
theorem lw_p28 : lw_okq (⟨"ColdPanesModel", "greatestStress", "()I"⟩, 17) := ⟨⟨by decide +kernel, by decide +kernel⟩, List.mem_of_getElem? (i := 589) (by decide +kernel), List.mem_of_getElem? (i := 705) (by decide +kernel), List.mem_of_getElem? (i := 706) (by decide +kernel)⟩
theorem lw_p29 : lw_okq (⟨"ColdPanesModel", "stressOf", "(I)I"⟩, 17) := ⟨⟨by decide +kernel, by decide +kernel⟩, List.mem_of_getElem? (i := 589) (by decide +kernel), List.mem_of_getElem? (i := 709) (by decide +kernel), List.mem_of_getElem? (i := 710) (by decide +kernel)⟩
theorem lw_p30 : lw_okq (⟨"ColdPanesModel", "worst", "()I"⟩, 17) := ⟨⟨by decide +kernel, by decide +kernel⟩, List.mem_of_getElem? (i := 589) (by decide +kernel), List.mem_of_getElem? (i := 713) (by decide +kernel), List.mem_of_getElem? (i := 714) (by decide +kernel)⟩
theorem lw_p31 : lw_okq (⟨"ColdPanesModel", "marginOf", "(I)I"⟩, 17) := ⟨⟨by decide +kernel, by decide +kernel⟩, List.mem_of_getElem? (i := 589) (by decide +kernel), List.mem_of_getElem? (i := 717) (by decide +kernel), List.mem_of_getElem? (i := 718) (by decide +kernel)⟩
def lw_privs_2 : List (MethodName × Nat) := [(⟨"ColdPanes$Pieces", "spreadFrom", "(LColdPanes$Pane;I)V"⟩, 3), (⟨"ColdPanes$Pieces", "reach", "(II)V"⟩, 3), (⟨"ColdPanes$Pane", "placeOf", "(I)I"⟩, 12), (⟨"ColdPanes$Pieces", "join", "(II)Z"⟩, 3), (⟨"ColdPanes$Pieces", "sizeOf", "(I)I"⟩, 3), (⟨"ColdPanesModel", "goBegin", "(I)I"⟩, 17), (⟨"ColdPanesModel", "records", "()V"⟩, 17), (⟨"ColdPanesModel", "laysAim", "(II)V"⟩, 17), (⟨"ColdPanesModel", "goPass", "(I)I"⟩, 17), (⟨"ColdPanesModel", "minute", "()I"⟩, 17), (⟨"ColdPanesModel", "flows", "()V"⟩, 17), (⟨"ColdPanesModel", "isWhole", "(I)Z"⟩, 17), (⟨"ColdPanesModel", "greatestStress", "()I"⟩, 17), (⟨"ColdPanesModel", "stressOf", "(I)I"⟩, 17), (⟨"ColdPanesModel", "worst", "()I"⟩, 17), (⟨"ColdPanesModel", "marginOf", "(I)I"⟩, 17)]
theorem lw_r2 : ∀ q ∈ lw_privs_2, lw_okq q := List.forall_mem_cons.mpr ⟨lw_p16, List.forall_mem_cons.mpr ⟨lw_p17, List.forall_mem_cons.mpr ⟨lw_p18, List.forall_mem_cons.mpr ⟨lw_p19, List.forall_mem_cons.mpr ⟨lw_p20, List.forall_mem_cons.mpr ⟨lw_p21, List.forall_mem_cons.mpr ⟨lw_p22, List.forall_mem_cons.mpr ⟨lw_p23, List.forall_mem_cons.mpr ⟨lw_p24, List.forall_mem_cons.mpr ⟨lw_p25, List.forall_mem_cons.mpr ⟨lw_p26, List.forall_mem_cons.mpr ⟨lw_p27, List.forall_mem_cons.mpr ⟨lw_p28, List.forall_mem_cons.mpr ⟨lw_p29, List.forall_mem_cons.mpr ⟨lw_p30, List.forall_mem_cons.mpr ⟨lw_p31, fun _ h => absurd h List.not_mem_nil⟩⟩⟩⟩⟩⟩⟩⟩⟩⟩⟩⟩⟩⟩⟩⟩
theorem lw_p32 : lw_okq (⟨"ColdPanesModel", "cracked", "()I"⟩, 17) := ⟨⟨by decide +kernel, by decide +kernel⟩, List.mem_of_getElem? (i := 589) (by decide +kernel), List.mem_of_getElem? (i := 738) (by decide +kernel), List.mem_of_getElem? (i := 739) (by decide +kernel)⟩
theorem lw_p33 : lw_okq (⟨"ColdPanesModel", "isProgram", "()Z"⟩, 17) := ⟨⟨by decide +kernel, by decide +kernel⟩, List.mem_of_getElem? (i := 589) (by decide +kernel), List.mem_of_getElem? (i := 765) (by decide +kernel), List.mem_of_getElem? (i := 766) (by decide +kernel)⟩
theorem lw_p34 : lw_okq (⟨"ColdPanesModel", "takesSegment", "()V"⟩, 17) := ⟨⟨by decide +kernel, by decide +kernel⟩, List.mem_of_getElem? (i := 589) (by decide +kernel), List.mem_of_getElem? (i := 769) (by decide +kernel), List.mem_of_getElem? (i := 770) (by decide +kernel)⟩
theorem lw_p35 : lw_okq (⟨"ColdPanesModel", "here", "()I"⟩, 17) := ⟨⟨by decide +kernel, by decide +kernel⟩, List.mem_of_getElem? (i := 589) (by decide +kernel), List.mem_of_getElem? (i := 773) (by decide +kernel), List.mem_of_getElem? (i := 774) (by decide +kernel)⟩
theorem lw_p36 : lw_okq (⟨"ColdPanesModel", "takes", "(Z)V"⟩, 17) := ⟨⟨by decide +kernel, by decide +kernel⟩, List.mem_of_getElem? (i := 589) (by decide +kernel), List.mem_of_getElem? (i := 777) (by decide +kernel), List.mem_of_getElem? (i := 778) (by decide +kernel)⟩
theorem lw_p37 : lw_okq (⟨"ColdPanesModel", "takesNumber", "(II)I"⟩, 17) := ⟨⟨by decide +kernel, by decide +kernel⟩, List.mem_of_getElem? (i := 589) (by decide +kernel), List.mem_of_getElem? (i := 781) (by decide +kernel), List.mem_of_getElem? (i := 782) (by decide +kernel)⟩
theorem lw_p38 : lw_okq (⟨"ColdPanesModel", "names", "()V"⟩, 17) := ⟨⟨by decide +kernel, by decide +kernel⟩, List.mem_of_getElem? (i := 589) (by decide +kernel), List.mem_of_getElem? (i := 793) (by decide +kernel), List.mem_of_getElem? (i := 794) (by decide +kernel)⟩
theorem lw_p39 : lw_okq (⟨"ColdPanesModel", "cellsOf", "(I)I"⟩, 17) := ⟨⟨by decide +kernel, by decide +kernel⟩, List.mem_of_getElem? (i := 589) (by decide +kernel), List.mem_of_getElem? (i := 802) (by decide +kernel), List.mem_of_getElem? (i := 803) (by decide +kernel)⟩
theorem lw_p40 : lw_okq (⟨"ColdPanesModel", "pieceOf", "(I)I"⟩, 17) := ⟨⟨by decide +kernel, by decide +kernel⟩, List.mem_of_getElem? (i := 589) (by decide +kernel), List.mem_of_getElem? (i := 810) (by decide +kernel), List.mem_of_getElem? (i := 811) (by decide +kernel)⟩
theorem lw_p41 : lw_okq (⟨"ColdPanesModel", "wholeOf", "(I)I"⟩, 17) := ⟨⟨by decide +kernel, by decide +kernel⟩, List.mem_of_getElem? (i := 589) (by decide +kernel), List.mem_of_getElem? (i := 814) (by decide +kernel), List.mem_of_getElem? (i := 815) (by decide +kernel)⟩
theorem lw_p42 : lw_okq (⟨"ColdPanesModel", "stressAt", "(I)I"⟩, 17) := ⟨⟨by decide +kernel, by decide +kernel⟩, List.mem_of_getElem? (i := 589) (by decide +kernel), List.mem_of_getElem? (i := 818) (by decide +kernel), List.mem_of_getElem? (i := 819) (by decide +kernel)⟩
theorem lw_p43 : lw_okq (⟨"ColdPanesModel", "touching", "(I)I"⟩, 17) := ⟨⟨by decide +kernel, by decide +kernel⟩, List.mem_of_getElem? (i := 589) (by decide +kernel), List.mem_of_getElem? (i := 826) (by decide +kernel), List.mem_of_getElem? (i := 827) (by decide +kernel)⟩
theorem lw_p44 : lw_okq (⟨"ColdPanesModel", "isAhead", "(II)Z"⟩, 17) := ⟨⟨by decide +kernel, by decide +kernel⟩, List.mem_of_getElem? (i := 589) (by decide +kernel), List.mem_of_getElem? (i := 834) (by decide +kernel), List.mem_of_getElem? (i := 835) (by decide +kernel)⟩
theorem lw_p45 : lw_okq (⟨"ColdPanesModel", "sumOfHeats", "()I"⟩, 17) := ⟨⟨by decide +kernel, by decide +kernel⟩, List.mem_of_getElem? (i := 589) (by decide +kernel), List.mem_of_getElem? (i := 842) (by decide +kernel), List.mem_of_getElem? (i := 843) (by decide +kernel)⟩
theorem lw_p46 : lw_okq (⟨"ColdPanesModel", "heatMost", "(Z)I"⟩, 17) := ⟨⟨by decide +kernel, by decide +kernel⟩, List.mem_of_getElem? (i := 589) (by decide +kernel), List.mem_of_getElem? (i := 846) (by decide +kernel), List.mem_of_getElem? (i := 847) (by decide +kernel)⟩
theorem lw_p47 : lw_okq (⟨"ColdPanesModel", "leastMargin", "()I"⟩, 17) := ⟨⟨by decide +kernel, by decide +kernel⟩, List.mem_of_getElem? (i := 589) (by decide +kernel), List.mem_of_getElem? (i := 850) (by decide +kernel), List.mem_of_getElem? (i := 851) (by decide +kernel)⟩
def lw_privs_3 : List (MethodName × Nat) := [(⟨"ColdPanesModel", "cracked", "()I"⟩, 17), (⟨"ColdPanesModel", "isProgram", "()Z"⟩, 17), (⟨"ColdPanesModel", "takesSegment", "()V"⟩, 17), (⟨"ColdPanesModel", "here", "()I"⟩, 17), (⟨"ColdPanesModel", "takes", "(Z)V"⟩, 17), (⟨"ColdPanesModel", "takesNumber", "(II)I"⟩, 17), (⟨"ColdPanesModel", "names", "()V"⟩, 17), (⟨"ColdPanesModel", "cellsOf", "(I)I"⟩, 17), (⟨"ColdPanesModel", "pieceOf", "(I)I"⟩, 17), (⟨"ColdPanesModel", "wholeOf", "(I)I"⟩, 17), (⟨"ColdPanesModel", "stressAt", "(I)I"⟩, 17), (⟨"ColdPanesModel", "touching", "(I)I"⟩, 17), (⟨"ColdPanesModel", "isAhead", "(II)Z"⟩, 17), (⟨"ColdPanesModel", "sumOfHeats", "()I"⟩, 17), (⟨"ColdPanesModel", "heatMost", "(Z)I"⟩, 17), (⟨"ColdPanesModel", "leastMargin", "()I"⟩, 17)]
theorem lw_r3 : ∀ q ∈ lw_privs_3, lw_okq q := List.forall_mem_cons.mpr ⟨lw_p32, List.forall_mem_cons.mpr ⟨lw_p33, List.forall_mem_cons.mpr ⟨lw_p34, List.forall_mem_cons.mpr ⟨lw_p35, List.forall_mem_cons.mpr ⟨lw_p36, List.forall_mem_cons.mpr ⟨lw_p37, List.forall_mem_cons.mpr ⟨lw_p38, List.forall_mem_cons.mpr ⟨lw_p39, List.forall_mem_cons.mpr ⟨lw_p40, List.forall_mem_cons.mpr ⟨lw_p41, List.forall_mem_cons.mpr ⟨lw_p42, List.forall_mem_cons.mpr ⟨lw_p43, List.forall_mem_cons.mpr ⟨lw_p44, List.forall_mem_cons.mpr ⟨lw_p45, List.forall_mem_cons.mpr ⟨lw_p46, List.forall_mem_cons.mpr ⟨lw_p47, fun _ h => absurd h List.not_mem_nil⟩⟩⟩⟩⟩⟩⟩⟩⟩⟩⟩⟩⟩⟩⟩⟩
theorem lw_p48 : lw_okq (⟨"ColdPanesModel", "greatestPiece", "()I"⟩, 17) := ⟨⟨by decide +kernel, by decide +kernel⟩, List.mem_of_getElem? (i := 589) (by decide +kernel), List.mem_of_getElem? (i := 855) (by decide +kernel), List.mem_of_getElem? (i := 856) (by decide +kernel)⟩
theorem lw_p49 : lw_okq (⟨"ColdPanesModel", "isHarmless", "(III)Z"⟩, 17) := ⟨⟨by decide +kernel, by decide +kernel⟩, List.mem_of_getElem? (i := 589) (by decide +kernel), List.mem_of_getElem? (i := 867) (by decide +kernel), List.mem_of_getElem? (i := 868) (by decide +kernel)⟩
def lw_privs_4 : List (MethodName × Nat) := [(⟨"ColdPanesModel", "greatestPiece", "()I"⟩, 17), (⟨"ColdPanesModel", "isHarmless", "(III)Z"⟩, 17)]
theorem lw_r4 : ∀ q ∈ lw_privs_4, lw_okq q := List.forall_mem_cons.mpr ⟨lw_p48, List.forall_mem_cons.mpr ⟨lw_p49, fun _ h => absurd h List.not_mem_nil⟩⟩
def lw_privs : List (MethodName × Nat) := lw_privs_1 ++ (lw_privs_2 ++ (lw_privs_3 ++ (lw_privs_4)))
def lw_tbl : List Cond := k2_sels lw_privs ++ tables_1
theorem lw_privs_ok : ∀ q ∈ lw_privs, lw_okq q := by
  show ∀ q ∈ lw_privs_1 ++ (lw_privs_2 ++ (lw_privs_3 ++ (lw_privs_4))), lw_okq q
  exact List.forall_mem_append.mpr ⟨lw_r1, List.forall_mem_append.mpr ⟨lw_r2, List.forall_mem_append.mpr ⟨lw_r3, lw_r4⟩⟩⟩
/-- the streams that the claim lets the run draw from -/
abbrev lw_cs : List Choice := [Jvm.Choice.named "NaN.bits"]
theorem lw_bits : nanBits ∈ lw_cs := by first | decide | exact List.mem_cons_self | simp [lw_cs, nanBits]
/-! ===== BEGIN words of one list among another's, by their places ===== -/
theorem goodIn_r {big : List Cond} (ws : List Cond) (ps : List Nat) (hp : ws = ps.filterMap (fun i => big[i]?)) (h : ws.all goodWord = true) : GoodIn big ws := by
  intro w hw
  have h1 := List.all_eq_true.mp h w hw
  rw [hp] at hw
  obtain ⟨i, -, hi⟩ := List.mem_filterMap.mp hw
  have hm : w ∈ big := by first | exact List.mem_of_getElem? hi | exact List.getElem?_mem hi
  exact ⟨hm, good_of_word h1⟩
theorem goodIn_app {big a b : List Cond} (ha : GoodIn big a) (hb : GoodIn big b) : GoodIn big (a ++ b) := fun w h => (List.mem_append.mp h).elim (ha w) (hb w)
theorem goodIn_ca {big a b : List Cond} {c : Cond} (ha : GoodIn big (c :: a)) (hb : GoodIn big b) : GoodIn big (c :: (a ++ b)) := fun w h => (List.mem_cons.mp h).elim (fun e => ha w (List.mem_cons.mpr (Or.inl e))) (fun h => (List.mem_append.mp h).elim (fun h => ha w (List.mem_cons.mpr (Or.inr h))) (hb w))
theorem goodIn_sub {big ws : List Cond} (hm : ∀ w ∈ ws, w ∈ big) (h : ws.all goodWord = true) : GoodIn big ws := fun w hw => ⟨hm w hw, good_of_word (List.all_eq_true.mp h w hw)⟩
/-! ===== END ===== -/

/-! ===== BEGIN printed: names, fields, word lists, decode rows ===== -/
def RX0 : String := "ColdPanes$Forecast"
def TX0 : u_T := fun k => match k with
  | 0 => ("ColdPanes$Forecast", "cracks", "I", false)
  | 1 => ("ColdPanes$Forecast", "firstCrack", "I", false)
  | _ => ("ColdPanes$Forecast", "greatestStress", "I", false)
def tyX0 : Nat → FieldType := fun k => match k with
  | 0 => .int
  | 1 => .int
  | _ => .int
abbrev wsX00 : List Cond := u_ws RX0 TX0 3
theorem nmX0 : ∀ a, a < 3 → ∀ b, b < 3 → a ≠ b → (TX0 a).2.1 ≠ (TX0 b).2.1 := by decide +kernel
theorem tyX0_ok : ∀ k, k < 3 → parseFieldDescriptor (TX0 k).2.2.1 = some (tyX0 k) := by decide +kernel
abbrev cX0_init : ByteArray := prog_2_method_1_code
def yX0_init : MethodName := ⟨RX0, "<init>", "()V"⟩
abbrev cX0_look : ByteArray := prog_2_method_2_code
def yX0_look : MethodName := ⟨RX0, "look", "(LColdPanes$Pane;I)V"⟩
def RX1 : String := "ColdPanes$Grid"
def TX1 : u_T := fun k => match k with
  | _ => ("", "", "", false)
def tyX1 : Nat → FieldType := fun k => match k with
  | _ => .int
abbrev wsX10 : List Cond := u_ws RX1 TX1 0
theorem nmX1 : ∀ a, a < 0 → ∀ b, b < 0 → a ≠ b → (TX1 a).2.1 ≠ (TX1 b).2.1 := by decide +kernel
theorem tyX1_ok : ∀ k, k < 0 → parseFieldDescriptor (TX1 k).2.2.1 = some (tyX1 k) := by decide +kernel
abbrev cX1_isCell : ByteArray := prog_3_method_2_code
def yX1_isCell : MethodName := ⟨RX1, "isCell", "(I)Z"⟩
abbrev cX1_isJoint : ByteArray := prog_3_method_3_code
def yX1_isJoint : MethodName := ⟨RX1, "isJoint", "(I)Z"⟩
abbrev cX1_firstCell : ByteArray := prog_3_method_4_code
def yX1_firstCell : MethodName := ⟨RX1, "firstCell", "(I)I"⟩
abbrev cX1_secondCell : ByteArray := prog_3_method_5_code
def yX1_secondCell : MethodName := ⟨RX1, "secondCell", "(I)I"⟩
abbrev cX1_otherCell : ByteArray := prog_3_method_6_code
def yX1_otherCell : MethodName := ⟨RX1, "otherCell", "(II)I"⟩
abbrev cX1_jointAt : ByteArray := prog_3_method_7_code
def yX1_jointAt : MethodName := ⟨RX1, "jointAt", "(II)I"⟩
abbrev cX1_rimSides : ByteArray := prog_3_method_8_code
def yX1_rimSides : MethodName := ⟨RX1, "rimSides", "(I)I"⟩
abbrev cX1_touch : ByteArray := prog_3_method_9_code
def yX1_touch : MethodName := ⟨RX1, "touch", "(II)Z"⟩
abbrev cX1_isEnd : ByteArray := prog_3_method_10_code
def yX1_isEnd : MethodName := ⟨RX1, "isEnd", "(II)Z"⟩
def RX2 : String := "ColdPanes$History"
def TX2 : u_T := fun k => match k with
  | 0 => ("ColdPanes$History", "states", "[LColdPanes$Pane;", true)
  | _ => ("ColdPanes$History", "size", "I", false)
def tyX2 : Nat → FieldType := fun k => match k with
  | 0 => .array (.object "ColdPanes$Pane")
  | _ => .int
abbrev wsX20 : List Cond := u_ws RX2 TX2 2
theorem nmX2 : ∀ a, a < 2 → ∀ b, b < 2 → a ≠ b → (TX2 a).2.1 ≠ (TX2 b).2.1 := by decide +kernel
theorem tyX2_ok : ∀ k, k < 2 → parseFieldDescriptor (TX2 k).2.2.1 = some (tyX2 k) := by decide +kernel
abbrev cX2_init : ByteArray := prog_4_method_1_code
def yX2_init : MethodName := ⟨RX2, "<init>", "()V"⟩
abbrev cX2_record : ByteArray := prog_4_method_2_code
def yX2_record : MethodName := ⟨RX2, "record", "(LColdPanes$Pane;)V"⟩
abbrev cX2_takeBack : ByteArray := prog_4_method_3_code
def yX2_takeBack : MethodName := ⟨RX2, "takeBack", "(LColdPanes$Pane;)Z"⟩
abbrev cX2_stateAt : ByteArray := prog_4_method_4_code
def yX2_stateAt : MethodName := ⟨RX2, "stateAt", "(I)LColdPanes$Pane;"⟩
abbrev cX2_dropOldest : ByteArray := prog_4_method_5_code
def yX2_dropOldest : MethodName := ⟨RX2, "dropOldest", "()V"⟩
def RX3 : String := "ColdPanes$Pad"
def TX3 : u_T := fun k => match k with
  | 0 => ("ColdPanes$Pad", "characters", "[C", true)
  | 1 => ("ColdPanes$Pad", "length", "I", false)
  | 2 => ("ColdPanes$Pad", "aims", "[I", true)
  | 3 => ("ColdPanes$Pad", "rates", "[I", true)
  | 4 => ("ColdPanes$Pad", "minutes", "[I", true)
  | 5 => ("ColdPanes$Pad", "segments", "I", false)
  | 6 => ("ColdPanes$Pad", "part", "I", false)
  | _ => ("ColdPanes$Pad", "number", "I", false)
def tyX3 : Nat → FieldType := fun k => match k with
  | 0 => .array .char
  | 1 => .int
  | 2 => .array .int
  | 3 => .array .int
  | 4 => .array .int
  | 5 => .int
  | 6 => .int
  | _ => .int
abbrev wsX30 : List Cond := u_ws RX3 TX3 8
theorem nmX3 : ∀ a, a < 8 → ∀ b, b < 8 → a ≠ b → (TX3 a).2.1 ≠ (TX3 b).2.1 := by decide +kernel
theorem tyX3_ok : ∀ k, k < 8 → parseFieldDescriptor (TX3 k).2.2.1 = some (tyX3 k) := by decide +kernel
abbrev cX3_init : ByteArray := prog_5_method_1_code
def yX3_init : MethodName := ⟨RX3, "<init>", "()V"⟩
abbrev cX3_take : ByteArray := prog_5_method_2_code
def yX3_take : MethodName := ⟨RX3, "take", "(C)Z"⟩
abbrev cX3_findFault : ByteArray := prog_5_method_3_code
def yX3_findFault : MethodName := ⟨RX3, "findFault", "()I"⟩
abbrev cX3_reads : ByteArray := prog_5_method_4_code
def yX3_reads : MethodName := ⟨RX3, "reads", "(C)Z"⟩
abbrev cX3_readsHold : ByteArray := prog_5_method_5_code
def yX3_readsHold : MethodName := ⟨RX3, "readsHold", "(C)Z"⟩
abbrev cX3_readsDigit : ByteArray := prog_5_method_6_code
def yX3_readsDigit : MethodName := ⟨RX3, "readsDigit", "(I)Z"⟩
abbrev cX3_endNumber : ByteArray := prog_5_method_7_code
def yX3_endNumber : MethodName := ⟨RX3, "endNumber", "()V"⟩
abbrev cX3_keepIn : ByteArray := prog_5_method_8_code
def yX3_keepIn : MethodName := ⟨RX3, "keepIn", "([II)V"⟩
abbrev cX3_endOfPart : ByteArray := prog_5_method_9_code
def yX3_endOfPart : MethodName := ⟨RX3, "endOfPart", "()C"⟩
abbrev cX3_leastOfPart : ByteArray := prog_5_method_10_code
def yX3_leastOfPart : MethodName := ⟨RX3, "leastOfPart", "()I"⟩
abbrev cX3_mostOfPart : ByteArray := prog_5_method_11_code
def yX3_mostOfPart : MethodName := ⟨RX3, "mostOfPart", "()I"⟩
abbrev cX3_aimOf : ByteArray := prog_5_method_12_code
def yX3_aimOf : MethodName := ⟨RX3, "aimOf", "(I)I"⟩
abbrev cX3_rateOf : ByteArray := prog_5_method_13_code
def yX3_rateOf : MethodName := ⟨RX3, "rateOf", "(I)I"⟩
abbrev cX3_minutesOf : ByteArray := prog_5_method_14_code
def yX3_minutesOf : MethodName := ⟨RX3, "minutesOf", "(I)I"⟩
abbrev cX3_isSegment : ByteArray := prog_5_method_15_code
def yX3_isSegment : MethodName := ⟨RX3, "isSegment", "(I)Z"⟩
def RX4 : String := "ColdPanes$Pane"
def TX4 : u_T := fun k => match k with
  | 0 => ("ColdPanes$Pane", "heats", "[I", true)
  | 1 => ("ColdPanes$Pane", "gains", "[I", true)
  | 2 => ("ColdPanes$Pane", "strengths", "[I", true)
  | 3 => ("ColdPanes$Pane", "crackedIn", "[I", true)
  | 4 => ("ColdPanes$Pane", "furnace", "I", false)
  | 5 => ("ColdPanes$Pane", "aim", "I", false)
  | 6 => ("ColdPanes$Pane", "rate", "I", false)
  | 7 => ("ColdPanes$Pane", "lead", "I", false)
  | 8 => ("ColdPanes$Pane", "rim", "I", false)
  | 9 => ("ColdPanes$Pane", "minutes", "I", false)
  | 10 => ("ColdPanes$Pane", "loss", "I", false)
  | _ => ("ColdPanes$Pane", "flames", "I", false)
def tyX4 : Nat → FieldType := fun k => match k with
  | 0 => .array .int
  | 1 => .array .int
  | 2 => .array .int
  | 3 => .array .int
  | 4 => .int
  | 5 => .int
  | 6 => .int
  | 7 => .int
  | 8 => .int
  | 9 => .int
  | 10 => .int
  | _ => .int
abbrev wsX40 : List Cond := u_ws RX4 TX4 12
theorem nmX4 : ∀ a, a < 12 → ∀ b, b < 12 → a ≠ b → (TX4 a).2.1 ≠ (TX4 b).2.1 := by decide +kernel
theorem tyX4_ok : ∀ k, k < 12 → parseFieldDescriptor (TX4 k).2.2.1 = some (tyX4 k) := by decide +kernel
abbrev cX4_init : ByteArray := prog_6_method_1_code
def yX4_init : MethodName := ⟨RX4, "<init>", "()V"⟩
abbrev cX4_renew : ByteArray := prog_6_method_2_code
def yX4_renew : MethodName := ⟨RX4, "renew", "(I)V"⟩
abbrev cX4_copyFrom : ByteArray := prog_6_method_3_code
def yX4_copyFrom : MethodName := ⟨RX4, "copyFrom", "(LColdPanes$Pane;)V"⟩
abbrev cX4_passMinutes : ByteArray := prog_6_method_4_code
def yX4_passMinutes : MethodName := ⟨RX4, "passMinutes", "(I)I"⟩
abbrev cX4_staysWhole : ByteArray := prog_6_method_5_code
def yX4_staysWhole : MethodName := ⟨RX4, "staysWhole", "(I)Z"⟩
abbrev cX4_letHeatFlow : ByteArray := prog_6_method_6_code
def yX4_letHeatFlow : MethodName := ⟨RX4, "letHeatFlow", "()V"⟩
abbrev cX4_moveFurnace : ByteArray := prog_6_method_7_code
def yX4_moveFurnace : MethodName := ⟨RX4, "moveFurnace", "()V"⟩
abbrev cX4_flowOverJoints : ByteArray := prog_6_method_8_code
def yX4_flowOverJoints : MethodName := ⟨RX4, "flowOverJoints", "()V"⟩
abbrev cX4_flowAtRim : ByteArray := prog_6_method_9_code
def yX4_flowAtRim : MethodName := ⟨RX4, "flowAtRim", "()V"⟩
abbrev cX4_gain : ByteArray := prog_6_method_10_code
def yX4_gain : MethodName := ⟨RX4, "gain", "(II)V"⟩
abbrev cX4_crackWorst : ByteArray := prog_6_method_11_code
def yX4_crackWorst : MethodName := ⟨RX4, "crackWorst", "()Z"⟩
abbrev cX4_weakenBeside : ByteArray := prog_6_method_12_code
def yX4_weakenBeside : MethodName := ⟨RX4, "weakenBeside", "(I)V"⟩
abbrev cX4_holdFlame : ByteArray := prog_6_method_13_code
def yX4_holdFlame : MethodName := ⟨RX4, "holdFlame", "(II)I"⟩
abbrev cX4_makeWhole : ByteArray := prog_6_method_14_code
def yX4_makeWhole : MethodName := ⟨RX4, "makeWhole", "(I)V"⟩
abbrev cX4_strengthen : ByteArray := prog_6_method_15_code
def yX4_strengthen : MethodName := ⟨RX4, "strengthen", "(II)V"⟩
abbrev cX4_heatAt : ByteArray := prog_6_method_16_code
def yX4_heatAt : MethodName := ⟨RX4, "heatAt", "(I)I"⟩
abbrev cX4_isWhole : ByteArray := prog_6_method_17_code
def yX4_isWhole : MethodName := ⟨RX4, "isWhole", "(I)Z"⟩
abbrev cX4_crackedMinuteOf : ByteArray := prog_6_method_18_code
def yX4_crackedMinuteOf : MethodName := ⟨RX4, "crackedMinuteOf", "(I)I"⟩
abbrev cX4_strengthOf : ByteArray := prog_6_method_19_code
def yX4_strengthOf : MethodName := ⟨RX4, "strengthOf", "(I)I"⟩
abbrev cX4_stressOf : ByteArray := prog_6_method_20_code
def yX4_stressOf : MethodName := ⟨RX4, "stressOf", "(I)I"⟩
abbrev cX4_marginOf : ByteArray := prog_6_method_21_code
def yX4_marginOf : MethodName := ⟨RX4, "marginOf", "(I)I"⟩
abbrev cX4_wholeJointsOf : ByteArray := prog_6_method_22_code
def yX4_wholeJointsOf : MethodName := ⟨RX4, "wholeJointsOf", "(I)I"⟩
abbrev cX4_wholeJointsBeside : ByteArray := prog_6_method_23_code
def yX4_wholeJointsBeside : MethodName := ⟨RX4, "wholeJointsBeside", "(I)I"⟩
abbrev cX4_greatestStressOf : ByteArray := prog_6_method_24_code
def yX4_greatestStressOf : MethodName := ⟨RX4, "greatestStressOf", "(I)I"⟩
abbrev cX4_greatestStress : ByteArray := prog_6_method_25_code
def yX4_greatestStress : MethodName := ⟨RX4, "greatestStress", "()I"⟩
abbrev cX4_leastMargin : ByteArray := prog_6_method_26_code
def yX4_leastMargin : MethodName := ⟨RX4, "leastMargin", "()I"⟩
abbrev cX4_mostStrained : ByteArray := prog_6_method_27_code
def yX4_mostStrained : MethodName := ⟨RX4, "mostStrained", "()I"⟩
abbrev cX4_strainedAt : ByteArray := prog_6_method_28_code
def yX4_strainedAt : MethodName := ⟨RX4, "strainedAt", "(I)I"⟩
abbrev cX4_placeOf : ByteArray := prog_6_method_29_code
def yX4_placeOf : MethodName := ⟨RX4, "placeOf", "(I)I"⟩
abbrev cX4_crackedJoints : ByteArray := prog_6_method_30_code
def yX4_crackedJoints : MethodName := ⟨RX4, "crackedJoints", "()I"⟩
abbrev cX4_sumOfHeats : ByteArray := prog_6_method_31_code
def yX4_sumOfHeats : MethodName := ⟨RX4, "sumOfHeats", "()I"⟩
abbrev cX4_greatestHeat : ByteArray := prog_6_method_32_code
def yX4_greatestHeat : MethodName := ⟨RX4, "greatestHeat", "()I"⟩
abbrev cX4_leastHeat : ByteArray := prog_6_method_33_code
def yX4_leastHeat : MethodName := ⟨RX4, "leastHeat", "()I"⟩
def RX5 : String := "ColdPanes$Pieces"
def TX5 : u_T := fun k => match k with
  | 0 => ("ColdPanes$Pieces", "names", "[I", true)
  | 1 => ("ColdPanes$Pieces", "reached", "[I", true)
  | _ => ("ColdPanes$Pieces", "reachedCells", "I", false)
def tyX5 : Nat → FieldType := fun k => match k with
  | 0 => .array .int
  | 1 => .array .int
  | _ => .int
abbrev wsX50 : List Cond := u_ws RX5 TX5 3
theorem nmX5 : ∀ a, a < 3 → ∀ b, b < 3 → a ≠ b → (TX5 a).2.1 ≠ (TX5 b).2.1 := by decide +kernel
theorem tyX5_ok : ∀ k, k < 3 → parseFieldDescriptor (TX5 k).2.2.1 = some (tyX5 k) := by decide +kernel
abbrev cX5_init : ByteArray := prog_7_method_1_code
def yX5_init : MethodName := ⟨RX5, "<init>", "()V"⟩
abbrev cX5_tellByGoing : ByteArray := prog_7_method_2_code
def yX5_tellByGoing : MethodName := ⟨RX5, "tellByGoing", "(LColdPanes$Pane;)I"⟩
abbrev cX5_spreadFrom : ByteArray := prog_7_method_3_code
def yX5_spreadFrom : MethodName := ⟨RX5, "spreadFrom", "(LColdPanes$Pane;I)V"⟩
abbrev cX5_reach : ByteArray := prog_7_method_4_code
def yX5_reach : MethodName := ⟨RX5, "reach", "(II)V"⟩
abbrev cX5_tellByJoining : ByteArray := prog_7_method_5_code
def yX5_tellByJoining : MethodName := ⟨RX5, "tellByJoining", "(LColdPanes$Pane;)I"⟩
abbrev cX5_join : ByteArray := prog_7_method_6_code
def yX5_join : MethodName := ⟨RX5, "join", "(II)Z"⟩
abbrev cX5_nameOf : ByteArray := prog_7_method_7_code
def yX5_nameOf : MethodName := ⟨RX5, "nameOf", "(I)I"⟩
abbrev cX5_greatestSize : ByteArray := prog_7_method_8_code
def yX5_greatestSize : MethodName := ⟨RX5, "greatestSize", "()I"⟩
abbrev cX5_sizeOf : ByteArray := prog_7_method_9_code
def yX5_sizeOf : MethodName := ⟨RX5, "sizeOf", "(I)I"⟩
abbrev cX5_meanHeat : ByteArray := prog_7_method_10_code
def yX5_meanHeat : MethodName := ⟨RX5, "meanHeat", "(LColdPanes$Pane;I)D"⟩
def RX6 : String := "ColdPanes"
def TX6 : u_T := fun k => match k with
  | 0 => ("ColdPanes", "now", "LColdPanes$Pane;", true)
  | 1 => ("ColdPanes", "trial", "LColdPanes$Pane;", true)
  | 2 => ("ColdPanes", "snapshot", "LColdPanes$Pane;", true)
  | 3 => ("ColdPanes", "hasSnapshot", "Z", false)
  | 4 => ("ColdPanes", "history", "LColdPanes$History;", true)
  | 5 => ("ColdPanes", "pad", "LColdPanes$Pad;", true)
  | 6 => ("ColdPanes", "parts", "LColdPanes$Pieces;", true)
  | _ => ("ColdPanes", "forecast", "LColdPanes$Forecast;", true)
def tyX6 : Nat → FieldType := fun k => match k with
  | 0 => .object "ColdPanes$Pane"
  | 1 => .object "ColdPanes$Pane"
  | 2 => .object "ColdPanes$Pane"
  | 3 => .boolean
  | 4 => .object "ColdPanes$History"
  | 5 => .object "ColdPanes$Pad"
  | 6 => .object "ColdPanes$Pieces"
  | _ => .object "ColdPanes$Forecast"
abbrev wsX60 : List Cond := u_ws RX6 TX6 8
theorem nmX6 : ∀ a, a < 8 → ∀ b, b < 8 → a ≠ b → (TX6 a).2.1 ≠ (TX6 b).2.1 := by decide +kernel
theorem tyX6_ok : ∀ k, k < 8 → parseFieldDescriptor (TX6 k).2.2.1 = some (tyX6 k) := by decide +kernel
abbrev cX6_init : ByteArray := prog_1_method_1_code
def yX6_init : MethodName := ⟨RX6, "<init>", "()V"⟩
abbrev cX6_begin : ByteArray := prog_1_method_2_code
def yX6_begin : MethodName := ⟨RX6, "begin", "(I)I"⟩
abbrev cX6_aim : ByteArray := prog_1_method_3_code
def yX6_aim : MethodName := ⟨RX6, "aim", "(II)I"⟩
abbrev cX6_pass : ByteArray := prog_1_method_4_code
def yX6_pass : MethodName := ⟨RX6, "pass", "(I)I"⟩
abbrev cX6_scratch : ByteArray := prog_1_method_5_code
def yX6_scratch : MethodName := ⟨RX6, "scratch", "(II)I"⟩
abbrev cX6_mend : ByteArray := prog_1_method_6_code
def yX6_mend : MethodName := ⟨RX6, "mend", "(I)I"⟩
abbrev cX6_heat : ByteArray := prog_1_method_7_code
def yX6_heat : MethodName := ⟨RX6, "heat", "(II)I"⟩
abbrev cX6_set : ByteArray := prog_1_method_8_code
def yX6_set : MethodName := ⟨RX6, "set", "(II)I"⟩
abbrev cX6_append : ByteArray := prog_1_method_9_code
def yX6_append : MethodName := ⟨RX6, "append", "(I)I"⟩
abbrev cX6_clear : ByteArray := prog_1_method_10_code
def yX6_clear : MethodName := ⟨RX6, "clear", "()I"⟩
abbrev cX6_fault : ByteArray := prog_1_method_11_code
def yX6_fault : MethodName := ⟨RX6, "fault", "()I"⟩
abbrev cX6_run : ByteArray := prog_1_method_12_code
def yX6_run : MethodName := ⟨RX6, "run", "()I"⟩
abbrev cX6_cell : ByteArray := prog_1_method_13_code
def yX6_cell : MethodName := ⟨RX6, "cell", "(II)I"⟩
abbrev cX6_joint : ByteArray := prog_1_method_14_code
def yX6_joint : MethodName := ⟨RX6, "joint", "(II)I"⟩
abbrev cX6_strained : ByteArray := prog_1_method_15_code
def yX6_strained : MethodName := ⟨RX6, "strained", "(I)I"⟩
abbrev cX6_pieces : ByteArray := prog_1_method_16_code
def yX6_pieces : MethodName := ⟨RX6, "pieces", "(I)I"⟩
abbrev cX6_count : ByteArray := prog_1_method_17_code
def yX6_count : MethodName := ⟨RX6, "count", "(I)I"⟩
abbrev cX6_mean : ByteArray := prog_1_method_18_code
def yX6_mean : MethodName := ⟨RX6, "mean", "(I)D"⟩
abbrev cX6_ifPassed : ByteArray := prog_1_method_19_code
def yX6_ifPassed : MethodName := ⟨RX6, "ifPassed", "(II)I"⟩
abbrev cX6_fastest : ByteArray := prog_1_method_20_code
def yX6_fastest : MethodName := ⟨RX6, "fastest", "(II)I"⟩
abbrev cX6_evenIn : ByteArray := prog_1_method_21_code
def yX6_evenIn : MethodName := ⟨RX6, "evenIn", "(I)I"⟩
abbrev cX6_undo : ByteArray := prog_1_method_22_code
def yX6_undo : MethodName := ⟨RX6, "undo", "()I"⟩
abbrev cX6_save : ByteArray := prog_1_method_23_code
def yX6_save : MethodName := ⟨RX6, "save", "()I"⟩
abbrev cX6_restore : ByteArray := prog_1_method_24_code
def yX6_restore : MethodName := ⟨RX6, "restore", "()I"⟩
abbrev cX6_isOutside : ByteArray := prog_1_method_25_code
def yX6_isOutside : MethodName := ⟨RX6, "isOutside", "(III)Z"⟩
def RX7 : String := "ColdPanesModel"
def TX7 : u_T := fun k => match k with
  | 0 => ("ColdPanesModel", "s", "[I", true)
  | 1 => ("ColdPanesModel", "aside", "[I", true)
  | 2 => ("ColdPanesModel", "past", "[I", true)
  | 3 => ("ColdPanesModel", "known", "I", false)
  | 4 => ("ColdPanesModel", "kept", "[I", true)
  | 5 => ("ColdPanesModel", "isKept", "Z", false)
  | 6 => ("ColdPanesModel", "pad", "[I", true)
  | 7 => ("ColdPanesModel", "length", "I", false)
  | 8 => ("ColdPanesModel", "flow", "[I", true)
  | 9 => ("ColdPanesModel", "strongest", "I", false)
  | 10 => ("ColdPanesModel", "spot", "I", false)
  | 11 => ("ColdPanesModel", "isForm", "Z", false)
  | 12 => ("ColdPanesModel", "isHold", "Z", false)
  | 13 => ("ColdPanesModel", "toldAim", "I", false)
  | 14 => ("ColdPanesModel", "toldRate", "I", false)
  | 15 => ("ColdPanesModel", "toldMinutes", "I", false)
  | _ => ("ColdPanesModel", "name", "[I", true)
def tyX7 : Nat → FieldType := fun k => match k with
  | 0 => .array .int
  | 1 => .array .int
  | 2 => .array .int
  | 3 => .int
  | 4 => .array .int
  | 5 => .boolean
  | 6 => .array .int
  | 7 => .int
  | 8 => .array .int
  | 9 => .int
  | 10 => .int
  | 11 => .boolean
  | 12 => .boolean
  | 13 => .int
  | 14 => .int
  | 15 => .int
  | _ => .array .int
abbrev wsX70 : List Cond := u_ws RX7 TX7 17
theorem nmX7 : ∀ a, a < 17 → ∀ b, b < 17 → a ≠ b → (TX7 a).2.1 ≠ (TX7 b).2.1 := by decide +kernel
theorem tyX7_ok : ∀ k, k < 17 → parseFieldDescriptor (TX7 k).2.2.1 = some (tyX7 k) := by decide +kernel
abbrev cX7_init : ByteArray := prog_9_method_1_code
def yX7_init : MethodName := ⟨RX7, "<init>", "()V"⟩
abbrev cX7_in : ByteArray := prog_9_method_3_code
def yX7_in : MethodName := ⟨RX7, "in", "(III)Z"⟩
abbrev cX7_copies : ByteArray := prog_9_method_4_code
def yX7_copies : MethodName := ⟨RX7, "copies", "([II[II)V"⟩
abbrev cX7_records : ByteArray := prog_9_method_5_code
def yX7_records : MethodName := ⟨RX7, "records", "()V"⟩
abbrev cX7_isCell : ByteArray := prog_9_method_6_code
def yX7_isCell : MethodName := ⟨RX7, "isCell", "(I)Z"⟩
abbrev cX7_isJoint : ByteArray := prog_9_method_7_code
def yX7_isJoint : MethodName := ⟨RX7, "isJoint", "(I)Z"⟩
abbrev cX7_firstOf : ByteArray := prog_9_method_8_code
def yX7_firstOf : MethodName := ⟨RX7, "firstOf", "(I)I"⟩
abbrev cX7_secondOf : ByteArray := prog_9_method_9_code
def yX7_secondOf : MethodName := ⟨RX7, "secondOf", "(I)I"⟩
abbrev cX7_size : ByteArray := prog_9_method_10_code
def yX7_size : MethodName := ⟨RX7, "size", "(I)I"⟩
abbrev cX7_isWhole : ByteArray := prog_9_method_11_code
def yX7_isWhole : MethodName := ⟨RX7, "isWhole", "(I)Z"⟩
abbrev cX7_stressOf : ByteArray := prog_9_method_12_code
def yX7_stressOf : MethodName := ⟨RX7, "stressOf", "(I)I"⟩
abbrev cX7_marginOf : ByteArray := prog_9_method_13_code
def yX7_marginOf : MethodName := ⟨RX7, "marginOf", "(I)I"⟩
abbrev cX7_has : ByteArray := prog_9_method_14_code
def yX7_has : MethodName := ⟨RX7, "has", "(II)Z"⟩
abbrev cX7_touch : ByteArray := prog_9_method_15_code
def yX7_touch : MethodName := ⟨RX7, "touch", "(II)Z"⟩
abbrev cX7_sidesOf : ByteArray := prog_9_method_16_code
def yX7_sidesOf : MethodName := ⟨RX7, "sidesOf", "(I)I"⟩
abbrev cX7_goBegin : ByteArray := prog_9_method_17_code
def yX7_goBegin : MethodName := ⟨RX7, "goBegin", "(I)I"⟩
abbrev cX7_flows : ByteArray := prog_9_method_18_code
def yX7_flows : MethodName := ⟨RX7, "flows", "()V"⟩
abbrev cX7_worst : ByteArray := prog_9_method_19_code
def yX7_worst : MethodName := ⟨RX7, "worst", "()I"⟩
abbrev cX7_greatestStress : ByteArray := prog_9_method_20_code
def yX7_greatestStress : MethodName := ⟨RX7, "greatestStress", "()I"⟩
abbrev cX7_minute : ByteArray := prog_9_method_21_code
def yX7_minute : MethodName := ⟨RX7, "minute", "()I"⟩
abbrev cX7_goPass : ByteArray := prog_9_method_22_code
def yX7_goPass : MethodName := ⟨RX7, "goPass", "(I)I"⟩
abbrev cX7_cracked : ByteArray := prog_9_method_23_code
def yX7_cracked : MethodName := ⟨RX7, "cracked", "()I"⟩
abbrev cX7_begin : ByteArray := prog_9_method_24_code
def yX7_begin : MethodName := ⟨RX7, "begin", "(I)I"⟩
abbrev cX7_laysAim : ByteArray := prog_9_method_25_code
def yX7_laysAim : MethodName := ⟨RX7, "laysAim", "(II)V"⟩
abbrev cX7_aim : ByteArray := prog_9_method_26_code
def yX7_aim : MethodName := ⟨RX7, "aim", "(II)I"⟩
abbrev cX7_pass : ByteArray := prog_9_method_27_code
def yX7_pass : MethodName := ⟨RX7, "pass", "(I)I"⟩
abbrev cX7_scratch : ByteArray := prog_9_method_28_code
def yX7_scratch : MethodName := ⟨RX7, "scratch", "(II)I"⟩
abbrev cX7_mend : ByteArray := prog_9_method_29_code
def yX7_mend : MethodName := ⟨RX7, "mend", "(I)I"⟩
abbrev cX7_heat : ByteArray := prog_9_method_30_code
def yX7_heat : MethodName := ⟨RX7, "heat", "(II)I"⟩
abbrev cX7_set : ByteArray := prog_9_method_31_code
def yX7_set : MethodName := ⟨RX7, "set", "(II)I"⟩
abbrev cX7_append : ByteArray := prog_9_method_32_code
def yX7_append : MethodName := ⟨RX7, "append", "(I)I"⟩
abbrev cX7_clear : ByteArray := prog_9_method_33_code
def yX7_clear : MethodName := ⟨RX7, "clear", "()I"⟩
abbrev cX7_here : ByteArray := prog_9_method_34_code
def yX7_here : MethodName := ⟨RX7, "here", "()I"⟩
abbrev cX7_takes : ByteArray := prog_9_method_35_code
def yX7_takes : MethodName := ⟨RX7, "takes", "(Z)V"⟩
abbrev cX7_takesNumber : ByteArray := prog_9_method_36_code
def yX7_takesNumber : MethodName := ⟨RX7, "takesNumber", "(II)I"⟩
abbrev cX7_takesSegment : ByteArray := prog_9_method_37_code
def yX7_takesSegment : MethodName := ⟨RX7, "takesSegment", "()V"⟩
abbrev cX7_isProgram : ByteArray := prog_9_method_38_code
def yX7_isProgram : MethodName := ⟨RX7, "isProgram", "()Z"⟩
abbrev cX7_fault : ByteArray := prog_9_method_39_code
def yX7_fault : MethodName := ⟨RX7, "fault", "()I"⟩
abbrev cX7_run : ByteArray := prog_9_method_40_code
def yX7_run : MethodName := ⟨RX7, "run", "()I"⟩
abbrev cX7_names : ByteArray := prog_9_method_41_code
def yX7_names : MethodName := ⟨RX7, "names", "()V"⟩
abbrev cX7_cellsOf : ByteArray := prog_9_method_42_code
def yX7_cellsOf : MethodName := ⟨RX7, "cellsOf", "(I)I"⟩
abbrev cX7_greatestPiece : ByteArray := prog_9_method_43_code
def yX7_greatestPiece : MethodName := ⟨RX7, "greatestPiece", "()I"⟩
abbrev cX7_pieces : ByteArray := prog_9_method_44_code
def yX7_pieces : MethodName := ⟨RX7, "pieces", "(I)I"⟩
abbrev cX7_mean : ByteArray := prog_9_method_45_code
def yX7_mean : MethodName := ⟨RX7, "mean", "(I)D"⟩
abbrev cX7_wholeOf : ByteArray := prog_9_method_46_code
def yX7_wholeOf : MethodName := ⟨RX7, "wholeOf", "(I)I"⟩
abbrev cX7_stressAt : ByteArray := prog_9_method_47_code
def yX7_stressAt : MethodName := ⟨RX7, "stressAt", "(I)I"⟩
abbrev cX7_pieceOf : ByteArray := prog_9_method_48_code
def yX7_pieceOf : MethodName := ⟨RX7, "pieceOf", "(I)I"⟩
abbrev cX7_cell : ByteArray := prog_9_method_49_code
def yX7_cell : MethodName := ⟨RX7, "cell", "(II)I"⟩
abbrev cX7_touching : ByteArray := prog_9_method_50_code
def yX7_touching : MethodName := ⟨RX7, "touching", "(I)I"⟩
abbrev cX7_joint : ByteArray := prog_9_method_51_code
def yX7_joint : MethodName := ⟨RX7, "joint", "(II)I"⟩
abbrev cX7_isAhead : ByteArray := prog_9_method_52_code
def yX7_isAhead : MethodName := ⟨RX7, "isAhead", "(II)Z"⟩
abbrev cX7_strained : ByteArray := prog_9_method_53_code
def yX7_strained : MethodName := ⟨RX7, "strained", "(I)I"⟩
abbrev cX7_sumOfHeats : ByteArray := prog_9_method_54_code
def yX7_sumOfHeats : MethodName := ⟨RX7, "sumOfHeats", "()I"⟩
abbrev cX7_heatMost : ByteArray := prog_9_method_55_code
def yX7_heatMost : MethodName := ⟨RX7, "heatMost", "(Z)I"⟩
abbrev cX7_leastMargin : ByteArray := prog_9_method_56_code
def yX7_leastMargin : MethodName := ⟨RX7, "leastMargin", "()I"⟩
abbrev cX7_count : ByteArray := prog_9_method_57_code
def yX7_count : MethodName := ⟨RX7, "count", "(I)I"⟩
abbrev cX7_ifPassed : ByteArray := prog_9_method_58_code
def yX7_ifPassed : MethodName := ⟨RX7, "ifPassed", "(II)I"⟩
abbrev cX7_isHarmless : ByteArray := prog_9_method_59_code
def yX7_isHarmless : MethodName := ⟨RX7, "isHarmless", "(III)Z"⟩
abbrev cX7_fastest : ByteArray := prog_9_method_60_code
def yX7_fastest : MethodName := ⟨RX7, "fastest", "(II)I"⟩
abbrev cX7_evenIn : ByteArray := prog_9_method_61_code
def yX7_evenIn : MethodName := ⟨RX7, "evenIn", "(I)I"⟩
abbrev cX7_undo : ByteArray := prog_9_method_62_code
def yX7_undo : MethodName := ⟨RX7, "undo", "()I"⟩
abbrev cX7_save : ByteArray := prog_9_method_63_code
def yX7_save : MethodName := ⟨RX7, "save", "()I"⟩
abbrev cX7_restore : ByteArray := prog_9_method_64_code
def yX7_restore : MethodName := ⟨RX7, "restore", "()I"⟩
def RJ9 : String := "java/lang/Math"
def TJ9 : u_T := fun k => match k with
  | _ => ("", "", "", false)
def tyJ9 : Nat → FieldType := fun k => match k with
  | _ => .int
abbrev wsJ90 : List Cond := u_ws RJ9 TJ9 0
theorem nmJ9 : ∀ a, a < 0 → ∀ b, b < 0 → a ≠ b → (TJ9 a).2.1 ≠ (TJ9 b).2.1 := by decide +kernel
theorem tyJ9_ok : ∀ k, k < 0 → parseFieldDescriptor (TJ9 k).2.2.1 = some (tyJ9 k) := by decide +kernel
abbrev cJ9_abs_0f7a4 : ByteArray := prog_10_method_59_code
def yJ9_abs_0f7a4 : MethodName := ⟨RJ9, "abs", "(I)I"⟩
abbrev cJ9_max_7cf53 : ByteArray := prog_10_method_65_code
def yJ9_max_7cf53 : MethodName := ⟨RJ9, "max", "(II)I"⟩
abbrev cJ9_min_7cf53 : ByteArray := prog_10_method_69_code
def yJ9_min_7cf53 : MethodName := ⟨RJ9, "min", "(II)I"⟩
def RJ10 : String := "java/lang/System"
def TJ10 : u_T := fun k => match k with
  | _ => ("", "", "", false)
def tyJ10 : Nat → FieldType := fun k => match k with
  | _ => .int
abbrev wsJ100 : List Cond := u_ws RJ10 TJ10 0
theorem nmJ10 : ∀ a, a < 0 → ∀ b, b < 0 → a ≠ b → (TJ10 a).2.1 ≠ (TJ10 b).2.1 := by decide +kernel
theorem tyJ10_ok : ∀ k, k < 0 → parseFieldDescriptor (TJ10 k).2.2.1 = some (tyJ10 k) := by decide +kernel
def RJ7 : String := "java/util/Arrays"
def TJ7 : u_T := fun k => match k with
  | _ => ("", "", "", false)
def tyJ7 : Nat → FieldType := fun k => match k with
  | _ => .int
abbrev wsJ70 : List Cond := u_ws RJ7 TJ7 0
theorem nmJ7 : ∀ a, a < 0 → ∀ b, b < 0 → a ≠ b → (TJ7 a).2.1 ≠ (TJ7 b).2.1 := by decide +kernel
theorem tyJ7_ok : ∀ k, k < 0 → parseFieldDescriptor (TJ7 k).2.2.1 = some (tyJ7 k) := by decide +kernel
abbrev cJ7_fill_53178 : ByteArray := prog_12_method_103_code
def yJ7_fill_53178 : MethodName := ⟨RJ7, "fill", "([II)V"⟩
def RL : String := "ColdPanesLaw"
abbrev cL_law : ByteArray := code
def yL_law : MethodName := ⟨RL, "law", "([I)Z"⟩
abbrev vwCl : List vw_C := [(RX0, TX0, 3), (RX2, TX2, 2), (RX3, TX3, 8), (RX4, TX4, 12), (RX5, TX5, 3), (RX6, TX6, 8), (RX7, TX7, 17)]
/-- the words that methods may ask for: the tables' that stay good -/
def mjW : List Cond := lw_tbl.filter goodWord
theorem mjW_of {w : Cond} (i : Nat) (h : lw_tbl[i]? = some w) (hg : goodWord w = true) : w ∈ mjW := List.mem_filter.mpr ⟨List.mem_of_getElem? h, hg⟩
theorem mjW_tbl : ∀ w ∈ mjW, w ∈ lw_tbl := fun _ h => (List.mem_filter.mp h).1
theorem mjW_good : ∀ w ∈ mjW, goodWord w = true := fun _ h => (List.mem_filter.mp h).2
end
section
/-! mj: a small machine. Its states: pc, locals (by number; none: unknown), stack, cells (a reference is the cell's place; from 4096 on: a cell of somebody else's), room used. 'mj' says by steps of computation that a run comes to states with T, or ends with R. -/
abbrev mjL : Type := List (Option Value)
abbrev mjM : Type := List va_E
abbrev mjSp : Type := mjM → List Value → Prop × Option mjM × Option Value
abbrev mjI : Type := Instr × Nat × Int32 × Nat
/-- index, kind (0 virtual, 1 static, 2 constructor, 3 Object(), 4 arraycopy, 5 a nest mate's constructor), the receiver's kind of cell, arguments, cells, slots, what it does -/
abbrev mjX : Type := Nat × Nat × Nat × Nat × Nat × Nat × mjSp
/-- code; fields: (kind of cell, place, kind of field); calls; which cells go to a call; switches; cells made; long constants; what it returns; room; a constructor's -/
abbrev mjG : Type := (Nat → Option mjI) × (Nat → Option (Nat × Nat × Nat)) × List mjX × (Nat → List Nat) × (Nat → List (Int32 × Nat)) × (Nat → Option (Nat × List Value)) × (Nat → Option UInt64) × Option FieldType × Nat × Nat × Bool
def mjlg (L : mjL) (i : Nat) : Option Value := match L[i]? with
  | some (some v) => some v
  | _ => none
def mjlp (L : mjL) (i : Nat) (v : Value) : mjL := match i with
  | 0 => L.set 0 (some v)
  | j + 1 => match L[j]? with
    | some (some (.double _)) => (L.set j none).set (j + 1) (some v)
    | some (some (.long _)) => (L.set j none).set (j + 1) (some v)
    | _ => L.set (j + 1) (some v)
def mjmask : List Bool → mjL → mjL
  | b :: bs, x :: L => (bif b then x else none) :: mjmask bs L
  | [], L => L
  | _ :: _, [] => []
def mjv (ad : Nat → Nat) (v : Value) : Value := match v with
  | .ref i => .ref (ad i)
  | w => w
def mjcut (ad : Nat → Nat) (n : Nat) (f : Nat → Option Nat) : Nat → Option Nat := fun k => if k < n then (f k).map ad else none
def mja (ad : Nat → Nat) (x : vp_A) : vp_A := match x with
  | (n, .inr (.inr (.inr (.inr f)))) => (n, .inr (.inr (.inr (.inr (mjcut ad n f)))))
  | y => y
def mjc (ad : Nat → Nat) (e : va_E) : va_E := match e with
  | .inl (k, x) => .inl (k, mja ad x)
  | .inr (c, fs) => .inr (c, fs.map (mjv ad))
def mje (tc : Nat → ClassId) (ad : Nat → Nat) (e : va_E) : va_E := match e with
  | .inl (k, x) => .inl (tc k, mja ad x)
  | .inr (c, fs) => .inr (c, fs.map (mjv ad))
def mjw (tc : Nat → ClassId) (ad : Nat → Nat) (M : mjM) : va_W := M.mapIdx (fun i e => (ad i, mje tc ad e))
abbrev mjt (tc : Nat → ClassId) : List (ClassId × FieldType) := [(tc 0, .int), (tc 1, .char), (tc 2, .object RX4)]
/-- the references of a value, of a cell, are of a kind -/
def mjqv (P : Nat → Bool) (v : Value) : Bool := match v with
  | .ref i => P i
  | _ => true
def mjqc (P : Nat → Bool) (e : va_E) : Bool := match e with
  | .inl (_, (k, .inr (.inr (.inr (.inr f))))) => (List.range k).all (fun j => match f j with
    | some i => P i
    | none => true)
  | .inl _ => true
  | .inr (_, fs) => fs.all (mjqv P)
def mjql (P : Nat → Bool) (L : mjL) : Bool := L.all (fun o => match o with
  | some v => mjqv P v
  | none => true)
def mjPf (n i : Nat) : Bool := Nat.ble (i + 1) n || Nat.ble 4001 i
def mjPb (n i : Nat) : Bool := Nat.ble (i + 1) n
/-- no value or cell speaks of a place that is not yet there -/
def mjfr (L : mjL) (S : List Value) (M : mjM) : Bool := mjql (mjPf M.length) L && S.all (mjqv (mjPf M.length)) && M.all (mjqc (mjPf M.length))
def mjpos : List Nat → Nat → Option Nat
  | [], _ => none
  | a :: l, i => bif Nat.beq a i then some 0 else match mjpos l i with
    | some j => some (j + 1)
    | none => none
/-- a caller's place as a callee names it, and back -/
def mjri (e : List Nat) (i : Nat) : Nat := match mjpos e i with
  | some j => j
  | none => 4096 + i
def mjui (e : List Nat) (n j : Nat) : Nat := bif Nat.ble (j + 1) e.length then e.getD j 0 else bif Nat.ble (j + 1) 4096 then n + (j - e.length) else j - 4096
def mjext (e : List Nat) (M : mjM) : mjM := e.map (fun i => mjc (mjri e) (M.getD i (.inr (0, []))))
def mjmapi (f : Nat → va_E → va_E) : Nat → mjM → mjM
  | _, [] => []
  | i, x :: l => f i x :: mjmapi f (i + 1) l
def mjput (e : List Nat) (X M : mjM) : mjM := mjmapi (fun i x => match mjpos e i with
  | some j => (match X[j]? with
    | some y => y
    | none => x)
  | none => x) 0 M
def mjins (e : List Nat) (M M' : mjM) : mjM := mjput e (M'.map (mjc (mjui e M.length))) M ++ (M'.drop e.length).map (mjc (mjui e M.length))
/-- the places are there, and each once -/
def mjinc : List Nat → Nat → Bool
  | [], _ => true
  | [a], n => Nat.ble (a + 1) n
  | a :: b :: l, n => Nat.ble (a + 1) b && mjinc (b :: l) n
def mjnd : List Nat → Nat → Bool
  | [], _ => true
  | a :: l, n => Nat.ble (a + 1) n && l.all (fun b => !(Nat.beq a b)) && mjnd l n
def mjfind : List mjX → Nat → Option (Nat × Nat × Nat × Nat × Nat × mjSp)
  | [], _ => none
  | q :: l, i => bif Nat.beq q.1 i then some q.2 else mjfind l i
def mjone (v : Value) : Bool := match v with
  | .double _ => false
  | .long _ => false
  | _ => true
def mjcat : List Value → Nat
  | [] => 0
  | .double _ :: l => mjcat l + 2
  | .long _ :: l => mjcat l + 2
  | _ :: l => mjcat l + 1
def mjsw (x : Int32) (d : Nat) (go : Nat → Prop) : List (Int32 × Nat) → Prop
  | [] => go d
  | (k, t) :: l => (x = k → go t) ∧ (¬ x = k → mjsw x d go l)
/-- what is there behind a call that makes cells -/
def mjnew (e : List Nat) (L : mjL) (S : List Value) (M M' : mjM) (r : Option Value) : Bool :=
  mjfr L S M && M'.all (mjqc (mjPb M'.length)) && r.toList.all (mjqv (mjPb M'.length)) && Nat.ble e.length M'.length && Nat.ble (M.length + M'.length) 4000
def mji (S : List Value) (F : Int32 → List Value → Prop) : Prop := match S with
  | .int x :: S' => F x S'
  | _ => False
def mjii (S : List Value) (F : Int32 → Int32 → List Value → Prop) : Prop := match S with
  | .int y :: .int x :: S' => F y x S'
  | _ => False
def mjd (S : List Value) (F : UInt64 → List Value → Prop) : Prop := match S with
  | .double x :: S' => F x S'
  | _ => False
def mjdd (S : List Value) (F : UInt64 → UInt64 → List Value → Prop) : Prop := match S with
  | .double y :: .double x :: S' => F y x S'
  | _ => False
def mjr (S : List Value) (F : Nat → List Value → Prop) : Prop := match S with
  | .ref a :: S' => F a S'
  | _ => False
/-- a reference, or null -/
def mjrn (S : List Value) (F : Value → Bool → List Value → Prop) : Prop := match S with
  | .ref a :: S' => F (.ref a) true S'
  | .null :: S' => F .null false S'
  | _ => False
/-- a number or a reference -/
def mjan (S : List Value) (F : Value → List Value → Prop) : Prop := match S with
  | .int a :: S' => F (.int a) S'
  | .ref a :: S' => F (.ref a) S'
  | _ => False
def mjir (S : List Value) (F : Int32 → Nat → List Value → Prop) : Prop := match S with
  | .int i :: .ref a :: S' => F i a S'
  | _ => False
def mjiir (S : List Value) (F : Int32 → Int32 → Nat → List Value → Prop) : Prop := match S with
  | .int x :: .int i :: .ref a :: S' => F x i a S'
  | _ => False
def mjrir (S : List Value) (F : Nat → Int32 → Nat → List Value → Prop) : Prop := match S with
  | .ref x :: .int i :: .ref a :: S' => F x i a S'
  | _ => False
def mjrr (S : List Value) (F : Nat → Nat → List Value → Prop) : Prop := match S with
  | .ref x :: .ref a :: S' => F x a S'
  | _ => False
def mjiriri (S : List Value) (F : Int32 → Int32 → Nat → Int32 → Nat → List Value → Prop) : Prop := match S with
  | .int n :: .int dp :: .ref a1 :: .int sp :: .ref a0 :: S' => F n dp a1 sp a0 S'
  | _ => False
def mjA (k : Nat) (o : Option va_E) (F : Nat → (Nat → Int32) → Prop) : Prop := match o with
  | some (.inl (k', (n, .inl f))) => bif Nat.beq k k' then F n f else False
  | _ => False
def mjQ (o : Option va_E) (F : Nat → (Nat → Option Nat) → Prop) : Prop := match o with
  | some (.inl (k', (n, .inr (.inr (.inr (.inr f)))))) => bif Nat.beq 2 k' then F n f else False
  | _ => False
def mjO (k : Nat) (o : Option va_E) (F : List Value → Prop) : Prop := match o with
  | some (.inr (k', fs)) => bif Nat.beq k k' then F fs else False
  | _ => False
def mjo {α : Type} (o : Option α) (F : α → Prop) : Prop := match o with
  | some x => F x
  | none => False
def mjb (b : Bool) (F : Prop) : Prop := match b with
  | true => F
  | false => False
/-- the world, and the values, behind a call; is it well formed -/
def mjres (e : List Nat) (cm : Nat) (L : mjL) (S : List Value) (M : mjM) (r : Option Value) (o : Option mjM) : Bool × mjM := match o with
  | none => (Nat.beq cm 0, M)
  | some M' => ((Nat.beq cm 0 && Nat.beq M'.length e.length) || (!(Nat.beq cm 0) && mjnew e L S M M' r), mjins e M M')
def mjrecv (M : mjM) (vc : Nat) (as : List Value) : Bool := match as with
  | .ref b :: _ => (match M[b]? with
    | some (.inr (ci, _)) => Nat.beq ci vc
    | _ => false)
  | _ => false
def mjcall (G : mjG) (nx : Nat → mjL → List Value → mjM → Nat × Nat → Prop) (virt : Bool) (q : Nat × Nat × Nat × Nat × Nat × mjSp) (pc : Nat) (L : mjL) (S : List Value) (M : mjM) (u : Nat × Nat) : Prop :=
  match q with
  | (_, vc, na, cm, sm, Sp) =>
    mjb (Nat.ble na S.length && (S.take na).all mjone && Nat.ble (mjcat (S.drop na)) 8 && (mjinc (G.2.2.2.1 pc) M.length || mjnd (G.2.2.2.1 pc) M.length) && Nat.ble (G.2.2.2.1 pc).length 4000 && Nat.ble (u.1 + cm) G.2.2.2.2.2.2.2.2.1 && Nat.ble (u.2 + sm) G.2.2.2.2.2.2.2.2.2.1
        && (!virt || mjrecv M vc (S.take na).reverse)) (
      match Sp (mjext (G.2.2.2.1 pc) M) ((S.take na).reverse.map (mjv (mjri (G.2.2.2.1 pc)))) with
      | (P, o, r) => P ∧ (match mjres (G.2.2.2.1 pc) cm L (S.drop na) M r o with
        | (ok, M1) => mjb ok (nx (pc + 3) L (r.toList.map (mjv (mjui (G.2.2.2.1 pc) M.length)) ++ S.drop na) M1 (u.1 + cm, u.2 + sm))))
def mjcopy (nx : mjM → List Value → Prop) (S : List Value) (M : mjM) : Prop := mjiriri S fun n dp a1 sp a0 S' => mjA 0 M[a0]? fun n0 f => mjA 0 M[a1]? fun n1 g =>
  (¬ sp < 0 ∧ ¬ dp < 0 ∧ ¬ n < 0 ∧ sp.toNatClampNeg + n.toNatClampNeg ≤ n0 ∧ dp.toNatClampNeg + n.toNatClampNeg ≤ n1) ∧ mjb (Nat.ble (mjcat S') 8) (nx (M.set a1 (.inl (0, (n1, .inl (va_cpy f g sp.toNatClampNeg dp.toNatClampNeg n.toNatClampNeg))))) S')
def mjild (nx : mjL → List Value → mjM → Nat × Nat → Prop) (L : mjL) (i : Nat) (S : List Value) (M : mjM) (u : Nat × Nat) : Prop := mji (mjlg L i).toList fun x _ => nx L (.int x :: S) M u
def mjald (nx : mjL → List Value → mjM → Nat × Nat → Prop) (L : mjL) (i : Nat) (S : List Value) (M : mjM) (u : Nat × Nat) : Prop := mjrn (mjlg L i).toList fun x _ _ => nx L (x :: S) M u
def mjdld (nx : mjL → List Value → mjM → Nat × Nat → Prop) (L : mjL) (i : Nat) (S : List Value) (M : mjM) (u : Nat × Nat) : Prop := mjd (mjlg L i).toList fun x _ => nx L (.double x :: S) M u
def mjist (nx : mjL → List Value → mjM → Nat × Nat → Prop) (L : mjL) (i : Nat) (S : List Value) (M : mjM) (u : Nat × Nat) : Prop := mji S fun x S' => mjb (Nat.ble (i + 1) L.length) (nx (mjlp L i (.int x)) S' M u)
def mjast (nx : mjL → List Value → mjM → Nat × Nat → Prop) (L : mjL) (i : Nat) (S : List Value) (M : mjM) (u : Nat × Nat) : Prop := mjrn S fun x _ S' => mjb (Nat.ble (i + 1) L.length) (nx (mjlp L i x) S' M u)
def mjdst (nx : mjL → List Value → mjM → Nat × Nat → Prop) (L : mjL) (i : Nat) (S : List Value) (M : mjM) (u : Nat × Nat) : Prop := mjd S fun x S' => mjb (Nat.ble (i + 2) L.length) (nx ((mjlp L i (.double x)).set (i + 1) none) S' M u)
def mjput1 (G : mjG) (nx : List Value → mjM → Prop) (tk k a : Nat) (cj : Nat) (fs : List Value) (w : Value) (S' : List Value) (M : mjM) : Prop := match tk with
  | 0 => mji [w] fun x _ => nx S' (M.set a (.inr (cj, fs.set k (.int x))))
  | 1 => mji [w] fun x _ => (x = 0 ∨ x = 1) ∧ nx S' (M.set a (.inr (cj, fs.set k (.int x))))
  | 2 => mjr [w] fun x _ => nx S' (M.set a (.inr (cj, fs.set k (.ref x))))
  | 3 => mjb G.2.2.2.2.2.2.2.2.2.2 (mjr [w] fun x _ => nx S' (M.set a (.inr (cj, fs.set k (.ref x)))))
  | _ => False
def mjtop (S : List Value) (F : Value → Nat → List Value → Prop) : Prop := match S with
  | w :: .ref a :: S' => F w a S'
  | _ => False
def mjix (i : Int32) (n : Nat) (F : Nat → Prop) : Prop := ∃ j : Nat, i = nI j ∧ (j < n ∧ n < 2147483648) ∧ F j
def mjroom (G : mjG) (L : mjL) (S : List Value) (M : mjM) (u : Nat × Nat) (k : Nat) (F : Prop) : Prop :=
  mjb (mjfr L S M && Nat.ble (M.length + 1) 4000 && Nat.ble (u.1 + 1) G.2.2.2.2.2.2.2.2.1 && Nat.ble (u.2 + k) G.2.2.2.2.2.2.2.2.2.1) F
def mjrf (G : mjG) (R : mjM → Option Value → Nat × Nat → Prop) (x : Int32) (M : mjM) (u : Nat × Nat) : Prop := match G.2.2.2.2.2.2.2.1 with
  | some .int => R M (some (.int x)) u
  | some ty => narrow ty (.int x) = .int x ∧ R M (some (.int x)) u
  | none => False
def mjno (S : List Value) (F : Prop) : Prop := match S with
  | [] => F
  | _ => False
def mjs (G : mjG) (Z : Option (Nat × (Nat → Int32))) (R : mjM → Option Value → Nat × Nat → Prop) (nx : Nat → mjL → List Value → mjM → Nat × Nat → Prop) (ins : Instr) (v : Int32) (t : Nat) (pc : Nat) (L : mjL) (S : List Value) (M : mjM) (u : Nat × Nat) : Prop :=
  match ins with
  | .iconst _ => nx (pc + 1) L (.int v :: S) M u
  | .bipush _ => nx (pc + 2) L (.int v :: S) M u
  | .sipush _ => nx (pc + 3) L (.int v :: S) M u
  | .iload i => mjild (nx (pc + 2)) L i S M u
  | .iload_n i => mjild (nx (pc + 1)) L i.val S M u
  | .aload i => mjald (nx (pc + 2)) L i S M u
  | .aload_n i => mjald (nx (pc + 1)) L i.val S M u
  | .dload i => mjdld (nx (pc + 2)) L i S M u
  | .dload_n i => mjdld (nx (pc + 1)) L i.val S M u
  | .istore i => mjist (nx (pc + 2)) L i S M u
  | .istore_n i => mjist (nx (pc + 1)) L i.val S M u
  | .astore i => mjast (nx (pc + 2)) L i S M u
  | .astore_n i => mjast (nx (pc + 1)) L i.val S M u
  | .dstore i => mjdst (nx (pc + 2)) L i S M u
  | .dstore_n i => mjdst (nx (pc + 1)) L i.val S M u
  | .iinc i _ => mji (mjlg L i).toList fun x _ => nx (pc + 3) (mjlp L i (.int (x + v))) S M u
  | .iadd => mjii S fun y x S' => nx (pc + 1) L (.int (x + y) :: S') M u
  | .isub => mjii S fun y x S' => nx (pc + 1) L (.int (x - y) :: S') M u
  | .imul => mjii S fun y x S' => nx (pc + 1) L (.int (x * y) :: S') M u
  | .iand => mjii S fun y x S' => nx (pc + 1) L (.int (x &&& y) :: S') M u
  | .idiv => mjii S fun y x S' => mjb (!decide (y = 0)) (nx (pc + 1) L (.int (x / y) :: S') M u)
  | .irem => mjii S fun y x S' => mjb (!decide (y = 0)) (nx (pc + 1) L (.int (x - x / y * y) :: S') M u)
  | .ineg => mji S fun x S' => nx (pc + 1) L (.int (-x) :: S') M u
  | .i2c => mji S fun x S' => nx (pc + 1) L (.int (x.toUInt32 % 65536).toInt32 :: S') M u
  | .i2d => mji S fun x S' => nx (pc + 1) L (.double (FP.i2d x) :: S') M u
  | .dadd => mjdd S fun y x S' => vf_n64 (FP.dadd x y) ∧ nx (pc + 1) L (.double (FP.dadd x y) :: S') M u
  | .ddiv => mjdd S fun y x S' => vf_n64 (FP.ddiv x y) ∧ nx (pc + 1) L (.double (FP.ddiv x y) :: S') M u
  | .dcmp o => mjdd S fun y x S' => nx (pc + 1) L (.int (Op.cmpValue (FP.dcmp x y) o) :: S') M u
  | .dconst d => mjb (Nat.beq d.val 0) (nx (pc + 1) L (.double FP.dconst0 :: S) M u)
  | .ldc2_w i => mjo (G.2.2.2.2.2.2.1 i) fun x => nx (pc + 3) L (.double x :: S) M u
  | .dup => mjan S fun x S' => nx (pc + 1) L (x :: x :: S') M u
  | .dup2 => mji S fun x S' => mjan S' fun y S' => nx (pc + 1) L (.int x :: y :: .int x :: y :: S') M u
  | .pop => mjan S fun _ S' => nx (pc + 1) L S' M u
  | .aconst_null => nx (pc + 1) L (.null :: S) M u
  | .goto _ => nx t L S M u
  | .ifCond o _ => mji S fun x S' => (match o with
      | .eq => (x = 0 → nx t L S' M u) ∧ (¬ x = 0 → nx (pc + 3) L S' M u)
      | .ne => (¬ x = 0 → nx t L S' M u) ∧ (x = 0 → nx (pc + 3) L S' M u)
      | .lt => (x < 0 → nx t L S' M u) ∧ (¬ x < 0 → nx (pc + 3) L S' M u)
      | .ge => (0 ≤ x → nx t L S' M u) ∧ (¬ 0 ≤ x → nx (pc + 3) L S' M u)
      | .gt => (0 < x → nx t L S' M u) ∧ (¬ 0 < x → nx (pc + 3) L S' M u)
      | .le => (x ≤ 0 → nx t L S' M u) ∧ (¬ x ≤ 0 → nx (pc + 3) L S' M u))
  | .if_icmp o _ => mjii S fun y x S' => (match o with
      | .eq => (x = y → nx t L S' M u) ∧ (¬ x = y → nx (pc + 3) L S' M u)
      | .ne => (¬ x = y → nx t L S' M u) ∧ (x = y → nx (pc + 3) L S' M u)
      | .lt => (x < y → nx t L S' M u) ∧ (¬ x < y → nx (pc + 3) L S' M u)
      | .ge => (y ≤ x → nx t L S' M u) ∧ (¬ y ≤ x → nx (pc + 3) L S' M u)
      | .gt => (y < x → nx t L S' M u) ∧ (¬ y < x → nx (pc + 3) L S' M u)
      | .le => (x ≤ y → nx t L S' M u) ∧ (¬ x ≤ y → nx (pc + 3) L S' M u))
  | .ifnull _ => mjrn S fun _ b S' => nx (bif b then pc + 3 else t) L S' M u
  | .ifnonnull _ => mjrn S fun _ b S' => nx (bif b then t else pc + 3) L S' M u
  | .tableswitch _ _ _ _ => mji S fun x S' => mjsw x t (fun q => nx q L S' M u) (G.2.2.2.2.1 pc)
  | .lookupswitch _ _ => mji S fun x S' => mjsw x t (fun q => nx q L S' M u) (G.2.2.2.2.1 pc)
  | .getfield i => mjr S fun a S' => mjo (G.2.1 i) fun q => mjO q.1 M[a]? fun fs => mjo fs[q.2.1]? fun w => nx (pc + 3) L (w :: S') M u
  | .putfield i => mjtop S fun w a S' => mjo (G.2.1 i) fun q => mjO q.1 M[a]? fun fs => mjb (Nat.ble (q.2.1 + 1) fs.length) (mjput1 G (fun S' M' => nx (pc + 3) L S' M' u) q.2.2 q.2.1 a q.1 fs w S' M)
  | .arraylength => mjr S fun a S' => bif Nat.beq a 4095 then mjo Z fun z => nx (pc + 1) L (.int (nI z.1) :: S') M u
      else mjA 0 M[a]? fun n _ => nx (pc + 1) L (.int (nI n) :: S') M u
  | .iaload => mjir S fun i a S' => bif Nat.beq a 4095 then mjo Z fun z => mjix i z.1 fun j => nx (pc + 1) L (.int (z.2 j) :: S') M u
      else mjA 0 M[a]? fun n f => mjix i n fun j => nx (pc + 1) L (.int (f j) :: S') M u
  | .caload => mjir S fun i a S' => mjA 1 M[a]? fun n f => mjix i n fun j => nx (pc + 1) L (.int (f j) :: S') M u
  | .iastore => mjiir S fun x i a S' => mjA 0 M[a]? fun n f => mjix i n fun j => nx (pc + 1) L S' (M.set a (.inl (0, (n, .inl (upd f j x))))) u
  | .castore => mjiir S fun x i a S' => mjA 1 M[a]? fun n f => mjix i n fun j => nx (pc + 1) L S' (M.set a (.inl (1, (n, .inl (upd f j (vp_nar .char x)))))) u
  | .aaload => mjir S fun i a S' => mjQ M[a]? fun n f => mjix i n fun j => ∃ r : Nat, f j = some r ∧ nx (pc + 1) L (.ref r :: S') M u
  | .aastore => mjrir S fun x i a S' => mjQ M[a]? fun n f => mjO 3 M[x]? fun _ => mjix i n fun j => nx (pc + 1) L S' (M.set a (.inl (2, (n, .inr (.inr (.inr (.inr (va_up f j (some x))))))))) u
  | .new i => mjo (G.2.2.2.2.2.1 i) fun q => mjroom G L S M u q.2.length (nx (pc + 3) L (.ref M.length :: S) (M ++ [.inr (q.1, q.2)]) (u.1 + 1, u.2 + q.2.length))
  | .newarray ty => mji S fun i S' => (match ty with
      | .int => mjix i 100000 fun j => mjroom G L S' M u j (nx (pc + 2) L (.ref M.length :: S') (M ++ [.inl (0, (j, .inl (fun _ => 0)))]) (u.1 + 1, u.2 + j))
      | .char => mjix i 100000 fun j => mjroom G L S' M u j (nx (pc + 2) L (.ref M.length :: S') (M ++ [.inl (1, (j, .inl (fun _ => 0)))]) (u.1 + 1, u.2 + j))
      | _ => False)
  | .anewarray _ => mji S fun i S' => mjix i 100000 fun j => mjroom G L S' M u j (nx (pc + 3) L (.ref M.length :: S') (M ++ [.inl (2, (j, .inr (.inr (.inr (.inr (fun _ => none))))))]) (u.1 + 1, u.2 + j))
  | .invokevirtual i => mjo (mjfind G.2.2.1 i) fun q => mjb (Nat.beq q.1 0) (mjcall G nx true q pc L S M u)
  | .invokestatic i => mjo (mjfind G.2.2.1 i) fun q => (match q.1 with
      | 1 => mjcall G nx false q pc L S M u
      | 4 => mjcopy (fun M' S' => nx (pc + 3) L S' M' u) S M
      | _ => False)
  | .invokespecial i => mjo (mjfind G.2.2.1 i) fun q => (match q.1 with
      | 2 => mjcall G nx true q pc L S M u
      | 5 => mjcall G nx true q pc L S M u
      | 3 => mjr S fun _ S' => mjb (Nat.ble (mjcat S') 8) (nx (pc + 3) L S' M u)
      | _ => False)
  | .ireturn => mji S fun x S' => mjno S' (mjrf G R x M u)
  | .dreturn => mjd S fun x S' => mjno S' (R M (some (.double x)) u)
  | .areturn => mjrn S fun x _ S' => mjno S' (R M (some x) u)
  | .return_ => mjno S (R M none u)
  | _ => False
def mj (G : mjG) (Z : Option (Nat × (Nat → Int32))) (cut : Nat → Bool) (T : Nat → mjL → List Value → mjM → Nat × Nat → Prop) (R : mjM → Option Value → Nat × Nat → Prop) : Nat → Nat → mjL → List Value → mjM → Nat × Nat → Prop
  | 0, pc, L, S, M, u => T pc L S M u
  | n + 1, pc, L, S, M, u => match G.1 pc with
    | none => False
    | some (ins, _, v, t) => mjs G Z R (fun pc' L' S' M' u' => bif cut pc' then T pc' L' S' M' u' else mj G Z cut T R n pc' L' S' M' u') ins v t pc L S M u
/-- what a predicate of states is closed under: the machine's steps, and knowing less of the locals -/
def mjC (G : mjG) (Z : Option (Nat × (Nat → Int32))) (R : mjM → Option Value → Nat × Nat → Prop) (T : Nat → mjL → List Value → mjM → Nat × Nat → Prop) : Prop :=
  (∀ cut n pc L S M u, mj G Z cut T R n pc L S M u → T pc L S M u) ∧ ∀ bs pc L S M u, T pc (mjmask bs L) S M u → T pc L S M u
/-- a method does what is said of it -/
def mjOK (G : mjG) (nL : Nat) (Sp : mjSp) : Prop := ∀ (M : mjM) (as : List Value), (Sp M as).1 → ∀ T, mjC G none (fun M' r _ => M' = (Sp M as).2.1.getD M ∧ r = (Sp M as).2.2) T → T 0 (as.map some ++ List.replicate (nL - as.length) none) [] M (0, 0)
end
section
/-! mj: what the steps rest on -/
theorem mjv_cat (ad : Nat → Nat) (v : Value) : (mjv ad v).category = v.category := by cases v <;> rfl
theorem mjlg_some {L : mjL} {i : Nat} {v : Value} : mjlg L i = some v ↔ L[i]? = some (some v) := by
  constructor
  · intro h
    unfold mjlg at h
    split at h
    · rename_i w hw
      cases h
      exact hw
    · cases h
  · intro h
    unfold mjlg
    rw [h]
theorem mjlp_len (L : mjL) (i : Nat) (v : Value) : (mjlp L i v).length = L.length := by
  unfold mjlp
  split
  · simp
  · split <;> simp
theorem mjlp_get {L : mjL} {i k : Nat} {v w : Value} (h : mjlg (mjlp L i v) k = some w) : (k = i ∧ w = v) ∨ (k ≠ i ∧ mjlg L k = some w ∧ ¬ (k + 1 = i ∧ w.category = 2)) := by
  rw [mjlg_some] at h
  by_cases hk : k = i
  · subst hk
    left
    refine ⟨rfl, ?_⟩
    unfold mjlp at h
    split at h
    · simp [List.getElem?_set] at h
      exact h.2.symm
    · split at h <;> (simp [List.getElem?_set] at h; exact h.2.symm)
  · right
    refine ⟨hk, ?_⟩
    rw [mjlg_some]
    unfold mjlp at h
    split at h
    · rw [List.getElem?_set_ne (by omega)] at h
      exact ⟨h, fun q => by omega⟩
    · rename_i j
      split at h
      · by_cases hj : j = k
        · subst hj
          rw [List.getElem?_set_ne (by omega)] at h
          simp [List.getElem?_set] at h
        · rw [List.getElem?_set_ne (by omega), List.getElem?_set_ne hj] at h
          exact ⟨h, fun q => hj (by omega)⟩
      · by_cases hj : j = k
        · subst hj
          rw [List.getElem?_set_ne (by omega)] at h
          simp [List.getElem?_set] at h
        · rw [List.getElem?_set_ne (by omega), List.getElem?_set_ne hj] at h
          exact ⟨h, fun q => hj (by omega)⟩
      · rename_i n1 n2
        rw [List.getElem?_set_ne (by omega)] at h
        refine ⟨h, fun q => ?_⟩
        have e : k = j := by omega
        subst e
        cases w with
        | double b => exact n1 b h
        | long b => exact n2 b h
        | _ => exact absurd q.2 (by simp [Value.category])
def mjpr (ad : Nat → Nat) (L : mjL) : List (Nat × Value) := (List.range L.length).filterMap (fun i => (mjlg L i).map (fun v => (i, mjv ad v)))
theorem mjpr_mem {ad : Nat → Nat} {L : mjL} {q : Nat × Value} : q ∈ mjpr ad L ↔ ∃ v, mjlg L q.1 = some v ∧ q.2 = mjv ad v := by
  unfold mjpr
  rw [List.mem_filterMap]
  constructor
  · rintro ⟨i, -, h⟩
    cases hg : mjlg L i with
    | none => rw [hg] at h; cases h
    | some v => rw [hg] at h; cases h; exact ⟨v, hg, rfl⟩
  · rintro ⟨v, h, h2⟩
    refine ⟨q.1, List.mem_range.mpr ?_, ?_⟩
    · rw [mjlg_some] at h
      exact (List.getElem?_eq_some_iff.mp h).1
    · rw [h]
      show some (q.1, mjv ad v) = some q
      rw [← h2]
def mjlv (ad : Nat → Nat) (ls : Array Slot) (nL : Nat) (L : mjL) : Prop := L.length = nL ∧ lv_has ls nL (mjpr ad L)
theorem mjlv_get {ad : Nat → Nat} {ls : Array Slot} {nL : Nat} {L : mjL} (h : mjlv ad ls nL L) {i : Nat} {v : Value} (hg : mjlg L i = some v) : ls[i]? = some (.val (mjv ad v)) := h.2.2.2 (i, mjv ad v) (mjpr_mem.mpr ⟨v, hg, rfl⟩)
theorem mjlv_put {ad : Nat → Nat} {ls ls' : Array Slot} {nL i : Nat} {L : mjL} {v : Value} (h : mjlv ad ls nL L) (h' : lv_has ls' nL ((i, mjv ad v) :: (mjpr ad L).filter (fun q => !(q.1 == i) && !(q.1 + 1 == i && q.2.category == 2)))) : mjlv ad ls' nL (mjlp L i v) := by
  refine ⟨(mjlp_len _ _ _).trans h.1, h'.1, h'.2.1, fun q hq => h'.2.2 q ?_⟩
  obtain ⟨w, hw, e⟩ := mjpr_mem.mp hq
  rcases mjlp_get hw with ⟨h1, h2⟩ | ⟨h1, h2, h3⟩
  · exact List.mem_cons.mpr (Or.inl (Prod.ext h1 (by rw [e, h2])))
  · refine List.mem_cons.mpr (Or.inr (List.mem_filter.mpr ⟨mjpr_mem.mpr ⟨w, h2, e⟩, ?_⟩))
    have c : q.2.category = w.category := by rw [e, mjv_cat]
    simp only [Bool.and_eq_true, Bool.not_eq_true', beq_eq_false_iff_ne, ne_eq, Bool.and_eq_false_iff, h1, c, not_false_eq_true, true_and]
    by_cases z : q.1 + 1 = i
    · exact Or.inr (fun z2 => h3 ⟨z, z2⟩)
    · exact Or.inl z
theorem mjlv_put2 {ad : Nat → Nat} {ls ls' : Array Slot} {nL i : Nat} {L : mjL} {v : Value} (h : mjlv ad ls nL L) (h' : lv_has ls' nL ((i, mjv ad v) :: (mjpr ad L).filter (fun q => !(q.1 == i) && (!(q.1 == i + 1) && !(q.1 + 1 == i && q.2.category == 2))))) : mjlv ad ls' nL ((mjlp L i v).set (i + 1) none) := by
  refine ⟨by rw [List.length_set]; exact (mjlp_len _ _ _).trans h.1, h'.1, h'.2.1, fun q hq => h'.2.2 q ?_⟩
  obtain ⟨w, hw, e⟩ := mjpr_mem.mp hq
  have hne : q.1 ≠ i + 1 := by
    intro z
    rw [mjlg_some, z] at hw
    simp [List.getElem?_set] at hw
  have hw2 : mjlg (mjlp L i v) q.1 = some w := by
    rw [mjlg_some] at hw ⊢
    rw [List.getElem?_set_ne (fun z => hne z.symm)] at hw
    exact hw
  rcases mjlp_get hw2 with ⟨h1, h2⟩ | ⟨h1, h2, h3⟩
  · exact List.mem_cons.mpr (Or.inl (Prod.ext h1 (by rw [e, h2])))
  · refine List.mem_cons.mpr (Or.inr (List.mem_filter.mpr ⟨mjpr_mem.mpr ⟨w, h2, e⟩, ?_⟩))
    have c : q.2.category = w.category := by rw [e, mjv_cat]
    simp only [Bool.and_eq_true, Bool.not_eq_true', beq_eq_false_iff_ne, ne_eq, Bool.and_eq_false_iff, h1, hne, c, not_false_eq_true, true_and]
    by_cases z : q.1 + 1 = i
    · exact Or.inr (fun z2 => h3 ⟨z, z2⟩)
    · exact Or.inl z
theorem mjmask_get : ∀ (bs : List Bool) (L : mjL) (k : Nat) (v : Value), mjlg (mjmask bs L) k = some v → mjlg L k = some v
  | [], L, k, v, h => by
    cases L <;> exact h
  | b :: bs, [], k, v, h => by
    rw [mjlg_some] at h
    simp [mjmask] at h
  | b :: bs, x :: L, k, v, h => by
    rw [mjlg_some] at h ⊢
    cases k with
    | zero =>
      cases b with
      | true => exact h
      | false => simp [mjmask] at h
    | succ k =>
      simp only [mjmask, List.getElem?_cons_succ] at h ⊢
      exact mjlg_some.mp (mjmask_get bs L k v (mjlg_some.mpr h))
theorem mjmask_len : ∀ (bs : List Bool) (L : mjL), (mjmask bs L).length = L.length
  | [], L => by cases L <;> rfl
  | b :: bs, [] => rfl
  | b :: bs, x :: L => by simp [mjmask, mjmask_len bs L]
theorem mjlv_mask {ad : Nat → Nat} {ls : Array Slot} {nL : Nat} {L : mjL} (bs : List Bool) (h : mjlv ad ls nL L) : mjlv ad ls nL (mjmask bs L) := by
  refine ⟨(mjmask_len _ _).trans h.1, h.2.1, h.2.2.1, fun q hq => ?_⟩
  obtain ⟨w, hw, e⟩ := mjpr_mem.mp hq
  rw [e]
  exact mjlv_get h (mjmask_get _ _ _ _ hw)
theorem mjlv_congr {ad ad' : Nat → Nat} {ls : Array Slot} {nL : Nat} {L : mjL} (h : mjlv ad ls nL L) (hc : ∀ i v, mjlg L i = some v → mjv ad' v = mjv ad v) : mjlv ad' ls nL L := by
  refine ⟨h.1, h.2.1, h.2.2.1, fun q hq => ?_⟩
  obtain ⟨w, hw, e⟩ := mjpr_mem.mp hq
  rw [e, hc _ _ hw]
  exact mjlv_get h hw
-- cells
theorem mjw_get (tc : Nat → ClassId) (ad : Nat → Nat) (M : mjM) (i : Nat) : (mjw tc ad M)[i]? = (M[i]?).map (fun e => (ad i, mje tc ad e)) := by
  unfold mjw
  rw [List.getElem?_mapIdx]
theorem mjw_at {tc : Nat → ClassId} {ad : Nat → Nat} {M : mjM} {i : Nat} {e : va_E} (h : M[i]? = some e) : (mjw tc ad M)[i]? = some (ad i, mje tc ad e) := by
  rw [mjw_get, h]
  rfl
theorem mjw_inv {tc : Nat → ClassId} {ad : Nat → Nat} {M : mjM} {i : Nat} {q : Nat × va_E} (h : (mjw tc ad M)[i]? = some q) : ∃ e, M[i]? = some e ∧ q = (ad i, mje tc ad e) := by
  rw [mjw_get] at h
  cases hm : M[i]? with
  | none => rw [hm] at h; cases h
  | some e => rw [hm] at h; cases h; exact ⟨e, rfl, rfl⟩
theorem mjw_set (tc : Nat → ClassId) (ad : Nat → Nat) (M : mjM) (a : Nat) (x : va_E) : mjw tc ad (M.set a x) = (mjw tc ad M).set a (ad a, mje tc ad x) := by
  unfold mjw
  rw [List.mapIdx_set]
theorem mjw_app (tc : Nat → ClassId) (ad : Nat → Nat) (M : mjM) (x : va_E) : mjw tc ad (M ++ [x]) = mjw tc ad M ++ [(ad M.length, mje tc ad x)] := by
  unfold mjw
  rw [List.mapIdx_append]
  simp
theorem mjv_congr {P : Nat → Bool} {f g : Nat → Nat} (h : ∀ i, P i = true → f i = g i) {v : Value} (hv : mjqv P v = true) : mjv f v = mjv g v := by
  cases v <;> first | rfl | exact congrArg Value.ref (h _ hv)
theorem mjvs_congr {P : Nat → Bool} {f g : Nat → Nat} (h : ∀ i, P i = true → f i = g i) {l : List Value} (hv : l.all (mjqv P) = true) : l.map (mjv f) = l.map (mjv g) := by
  refine List.map_congr_left (fun v hm => mjv_congr h (List.all_eq_true.mp hv v hm))
theorem mjv_comp (f g : Nat → Nat) (v : Value) : mjv f (mjv g v) = mjv (fun i => f (g i)) v := by cases v <;> rfl
theorem mjcut_comp (f g : Nat → Nat) (n : Nat) (h : Nat → Option Nat) : mjcut f n (mjcut g n h) = mjcut (fun i => f (g i)) n h := by
  funext k
  unfold mjcut
  by_cases hk : k < n
  · simp only [hk, if_true, Option.map_map]
    rfl
  · simp only [hk, if_false]
theorem mja_comp (f g : Nat → Nat) (x : vp_A) : mja f (mja g x) = mja (fun i => f (g i)) x := by
  obtain ⟨n, a | a | a | a | a⟩ := x
  · rfl
  · rfl
  · rfl
  · rfl
  · show (n, _) = (n, _)
    rw [mjcut_comp]
theorem mje_comp (tc : Nat → ClassId) (f g : Nat → Nat) (e : va_E) : mje tc f (mjc g e) = mje tc (fun i => f (g i)) e := by
  rcases e with ⟨k, x⟩ | ⟨c, fs⟩
  · show Sum.inl (tc k, mja f (mja g x)) = Sum.inl (tc k, mja _ x)
    rw [mja_comp]
  · show Sum.inr (c, (fs.map (mjv g)).map (mjv f)) = Sum.inr (c, fs.map (mjv _))
    rw [List.map_map]
    exact congrArg (fun z => Sum.inr (c, z)) (List.map_congr_left fun v _ => mjv_comp f g v)
theorem mjcut_congr {P : Nat → Bool} {f g : Nat → Nat} (h : ∀ i, P i = true → f i = g i) {n : Nat} {a : Nat → Option Nat} (hv : (List.range n).all (fun j => match a j with
    | some i => P i
    | none => true) = true) : mjcut f n a = mjcut g n a := by
  funext k
  unfold mjcut
  by_cases hk : k < n
  · simp only [hk, if_true]
    have h1 := List.all_eq_true.mp hv k (List.mem_range.mpr hk)
    cases ha : a k with
    | none => rfl
    | some i => rw [ha] at h1; exact congrArg some (h i h1)
  · simp only [hk, if_false]
theorem mje_congr {P : Nat → Bool} {f g : Nat → Nat} (h : ∀ i, P i = true → f i = g i) (tc : Nat → ClassId) {e : va_E} (hv : mjqc P e = true) : mje tc f e = mje tc g e := by
  rcases e with ⟨k, n, a | a | a | a | a⟩ | ⟨c, fs⟩
  · rfl
  · rfl
  · rfl
  · rfl
  · show Sum.inl (tc k, n, _) = Sum.inl (tc k, n, _)
    rw [mjcut_congr h hv]
  · show Sum.inr (c, fs.map _) = Sum.inr (c, fs.map _)
    rw [mjvs_congr h hv]
theorem mjw_congr {f g : Nat → Nat} (tc : Nat → ClassId) {M : mjM} (h : ∀ i, mjPf M.length i = true → f i = g i) (hM : M.all (mjqc (mjPf M.length)) = true) : mjw tc f M = mjw tc g M := by
  apply List.ext_getElem?
  intro i
  rw [mjw_get, mjw_get]
  cases hm : M[i]? with
  | none => rfl
  | some e =>
    have hl := (List.getElem?_eq_some_iff.mp hm).1
    have h1 : f i = g i := h i (by simp [mjPf]; omega)
    have h2 : mje tc f e = mje tc g e := mje_congr h tc (List.all_eq_true.mp hM e (List.mem_of_getElem? hm))
    show some (f i, mje tc f e) = some (g i, mje tc g e)
    rw [h1, h2]
theorem mjql_congr {P : Nat → Bool} {f g : Nat → Nat} (h : ∀ i, P i = true → f i = g i) {L : mjL} (hL : mjql P L = true) : ∀ i v, mjlg L i = some v → mjv f v = mjv g v := by
  intro i v hg
  rw [mjlg_some] at hg
  exact mjv_congr h (List.all_eq_true.mp hL (some v) (List.mem_of_getElem? hg))
theorem mjPf_iff {n i : Nat} : mjPf n i = true ↔ (i < n ∨ 4000 < i) := by
  simp [mjPf]
  omega
theorem mjPb_iff {n i : Nat} : mjPb n i = true ↔ i < n := by
  simp [mjPb]
  omega
-- places
theorem mjpos_some : ∀ {e : List Nat} {i j : Nat}, mjpos e i = some j → e[j]? = some i
  | [], i, j, h => by cases h
  | a :: l, i, j, h => by
    unfold mjpos at h
    by_cases z : Nat.beq a i = true
    · rw [z] at h
      cases h
      rw [Nat.eq_of_beq_eq_true z]
      rfl
    · rw [Bool.not_eq_true] at z
      rw [z] at h
      simp only [cond_false] at h
      split at h
      · rename_i j' hj
        cases h
        rw [List.getElem?_cons_succ]
        exact mjpos_some hj
      · cases h
theorem mjui_ri (e : List Nat) (n i : Nat) (he : e.length ≤ 4000) : mjui e n (mjri e i) = i := by
  unfold mjri
  split
  · rename_i j hj
    have h1 := mjpos_some hj
    have h2 := (List.getElem?_eq_some_iff.mp h1).1
    unfold mjui
    rw [show Nat.ble (j + 1) e.length = true from Nat.ble_eq_true_of_le h2]
    simp [List.getD, h1]
  · unfold mjui
    rw [show Nat.ble (4096 + i + 1) e.length = false from by
      cases hb : Nat.ble (4096 + i + 1) e.length with
      | false => rfl
      | true => have := Nat.le_of_ble_eq_true hb; omega,
      show Nat.ble (4096 + i + 1) 4096 = false from by
      cases hb : Nat.ble (4096 + i + 1) 4096 with
      | false => rfl
      | true => have := Nat.le_of_ble_eq_true hb; omega]
    simp
theorem mjui_lt {e : List Nat} {n j : Nat} (h : j < e.length) : mjui e n j = e.getD j 0 := by
  unfold mjui
  rw [show Nat.ble (j + 1) e.length = true from Nat.ble_eq_true_of_le h]
  rfl
theorem mjui_mid {e : List Nat} {n j : Nat} (h : e.length ≤ j) (h2 : j < 4096) : mjui e n j = n + (j - e.length) := by
  unfold mjui
  rw [show Nat.ble (j + 1) e.length = false from by
      cases hb : Nat.ble (j + 1) e.length with
      | false => rfl
      | true => have := Nat.le_of_ble_eq_true hb; omega,
      show Nat.ble (j + 1) 4096 = true from Nat.ble_eq_true_of_le h2]
  rfl
theorem mjinc_lt : ∀ {e : List Nat} {n : Nat}, mjinc e n = true → ∀ a ∈ e, a < n
  | [], n, h => fun a ha => by cases ha
  | [a], n, h => fun b hb => by
    rw [List.mem_singleton.mp hb]
    exact Nat.le_of_ble_eq_true h
  | a :: b :: l, n, h => fun x hx => by
    simp only [mjinc, Bool.and_eq_true] at h
    have h1 := mjinc_lt h.2
    rcases List.mem_cons.mp hx with rfl | hx
    · have h2 := h1 b List.mem_cons_self
      have h3 := Nat.le_of_ble_eq_true h.1
      omega
    · exact h1 x hx
theorem mjinc_gt : ∀ {e : List Nat} {n a : Nat}, mjinc (a :: e) n = true → ∀ b ∈ e, a < b
  | [], n, a, h => fun b hb => by cases hb
  | b :: l, n, a, h => fun x hx => by
    simp only [mjinc, Bool.and_eq_true] at h
    have h3 := Nat.le_of_ble_eq_true h.1
    rcases List.mem_cons.mp hx with rfl | hx
    · exact h3
    · have h4 := mjinc_gt h.2 x hx
      omega
theorem mjinc_nodup : ∀ {e : List Nat} {n : Nat}, mjinc e n = true → e.Nodup
  | [], n, h => List.nodup_nil
  | a :: l, n, h => by
    refine List.nodup_cons.mpr ⟨fun ha => ?_, ?_⟩
    · have := mjinc_gt h a ha
      omega
    · cases l with
      | nil => exact List.nodup_nil
      | cons b l =>
        simp only [mjinc, Bool.and_eq_true] at h
        exact mjinc_nodup h.2
theorem mjnd_lt : ∀ {e : List Nat} {n : Nat}, mjnd e n = true → ∀ a ∈ e, a < n
  | [], n, h => fun a ha => by cases ha
  | a :: l, n, h => fun x hx => by
    simp only [mjnd, Bool.and_eq_true] at h
    rcases List.mem_cons.mp hx with rfl | hx
    · exact Nat.le_of_ble_eq_true h.1.1
    · exact mjnd_lt h.2 x hx
theorem mjnd_nodup : ∀ {e : List Nat} {n : Nat}, mjnd e n = true → e.Nodup
  | [], n, h => List.nodup_nil
  | a :: l, n, h => by
    simp only [mjnd, Bool.and_eq_true] at h
    refine List.nodup_cons.mpr ⟨fun ha => ?_, mjnd_nodup h.2⟩
    have h1 := List.all_eq_true.mp h.1.2 a ha
    rw [show Nat.beq a a = true from Nat.beq_refl a] at h1
    cases h1
theorem mjplaces {e : List Nat} {n : Nat} (h : (mjinc e n || mjnd e n) = true) : (∀ a ∈ e, a < n) ∧ e.Nodup := by
  rcases Bool.or_eq_true_iff.mp h with h | h
  · exact ⟨mjinc_lt h, mjinc_nodup h⟩
  · exact ⟨mjnd_lt h, mjnd_nodup h⟩
theorem mjmapi_get (f : Nat → va_E → va_E) : ∀ (M : mjM) (k i : Nat), (mjmapi f k M)[i]? = (M[i]?).map (f (k + i))
  | [], k, i => rfl
  | x :: l, k, i => by
    cases i with
    | zero => rfl
    | succ i =>
      show (mjmapi f (k + 1) l)[i]? = _
      rw [mjmapi_get f l (k + 1) i, List.getElem?_cons_succ, show k + 1 + i = k + (i + 1) by omega]
theorem mjmapi_len (f : Nat → va_E → va_E) : ∀ (M : mjM) (k : Nat), (mjmapi f k M).length = M.length
  | [], k => rfl
  | x :: l, k => by
    show (mjmapi f (k + 1) l).length + 1 = _
    rw [mjmapi_len f l (k + 1)]
    rfl
theorem mjpos_none : ∀ {e : List Nat} {i : Nat}, i ∉ e → mjpos e i = none
  | [], i, h => rfl
  | a :: l, i, h => by
    unfold mjpos
    have h1 : Nat.beq a i = false := by
      cases hb : Nat.beq a i with
      | false => rfl
      | true => exact absurd (by rw [Nat.eq_of_beq_eq_true hb]; exact List.mem_cons_self) h
    rw [h1, mjpos_none (fun z => h (List.mem_cons_of_mem _ z))]
    rfl
theorem mjpos_at : ∀ {e : List Nat} {i j : Nat}, e.Nodup → e[j]? = some i → mjpos e i = some j := by
  intro e i j hn hj
  cases hp : mjpos e i with
  | none =>
    exfalso
    have hm := List.mem_of_getElem? hj
    clear hn hj
    induction e with
    | nil => cases hm
    | cons a l ih =>
      unfold mjpos at hp
      cases hb : Nat.beq a i with
      | true => rw [hb] at hp; cases hp
      | false =>
        rw [hb] at hp
        simp only [cond_false] at hp
        rcases List.mem_cons.mp hm with rfl | hm
        · rw [Nat.beq_refl] at hb; cases hb
        · cases hq : mjpos l i with
          | none => exact ih hq hm
          | some j => rw [hq] at hp; cases hp
  | some k =>
    have hk := mjpos_some hp
    have hkl := (List.getElem?_eq_some_iff.mp hk).1
    have hjl := (List.getElem?_eq_some_iff.mp hj).1
    congr 1
    exact (List.getElem?_inj hkl hn).mp (hk.trans hj.symm)
theorem mjput_len (e : List Nat) (X M : mjM) : (mjput e X M).length = M.length := mjmapi_len _ _ _
theorem mjput_out (e : List Nat) (X M : mjM) (i : Nat) (h : i ∉ e) : (mjput e X M)[i]? = M[i]? := by
  unfold mjput
  rw [mjmapi_get, Nat.zero_add, mjpos_none h]
  simp
theorem mjput_in (e : List Nat) (X M : mjM) (i j : Nat) (x : va_E) (hn : e.Nodup) (hl : ∀ a ∈ e, a < M.length) (he : e[j]? = some i) (hx : X[j]? = some x) : (mjput e X M)[i]? = some x := by
  unfold mjput
  have hi : i < M.length := hl i (List.mem_of_getElem? he)
  rw [mjmapi_get, Nat.zero_add, mjpos_at hn he, List.getElem?_eq_getElem hi]
  simp [hx]
end
section
/-! mj: the cells of a call, and what is there behind it -/
def mjN : List Cond := [.fieldLinkNest RX6 178 RX4 "furnace" "I" RX6, .fieldLinkNest RX6 70 RX4 "aim" "I" RX6, .fieldLinkNest RX6 74 RX4 "rate" "I" RX6, .fieldLinkNest RX6 110 RX4 "lead" "I" RX6, .fieldLinkNest RX6 113 RX4 "rim" "I" RX6, .fieldLinkNest RX6 181 RX4 "minutes" "I" RX6, .fieldLinkNest RX6 184 RX4 "loss" "I" RX6, .fieldLinkNest RX6 202 RX4 "flames" "I" RX6, .fieldLinkNest RX6 205 RX2 "size" "I" RX6, .fieldLinkNest RX6 120 RX3 "length" "I" RX6, .fieldLinkNest RX6 126 RX3 "segments" "I" RX6, .fieldLinkNest RX6 221 RX0 "cracks" "I" RX6, .fieldLinkNest RX6 224 RX0 "firstCrack" "I" RX6, .fieldLinkNest RX6 227 RX0 "greatestStress" "I" RX6, .methodLinkNest RX6 35 yX3_init RX6, .methodLinkNest RX6 42 yX5_init RX6, .methodLinkNest RX6 49 yX0_init RX6]
def mjnest (w : Cond) : Bool := match w with
  | .fieldLinkNest .. => true
  | .methodLinkNest .. => true
  | _ => false
theorem mjnest_warm {w : Cond} (h : mjnest w = true) {s U : State} (hW : s.WarmedH U.vm) (hz : va_Nw w s) : va_Nw w U := by
  cases w <;> first | exact va_Nw.warmF hW hz | exact va_Nw.warmM hW hz | cases h
theorem mjnest_tab {w : Cond} (h : mjnest w = true) : w.onTables = true := by
  cases w <;> first | rfl | cases h
theorem mjN_ok : ∀ w ∈ mjN, mjnest w = true := by
  intro w h
  have h1 : mjN.all mjnest = true := rfl
  exact List.all_eq_true.mp h1 w h
def mjK (D : va_G) (tc : Nat → ClassId) (U : State) : Prop := va_K D vwCl (mjt tc) U ∧ (∀ w ∈ mjN, va_Nw w U) ∧ va_AO RX4 U
theorem mjK.warm {D : va_G} {tc : Nat → ClassId} {s U : State} (hW : s.WarmedH U.vm) (h : mjK D tc s) : mjK D tc U := ⟨va_K.moved hW.alike h.1, fun w hw => mjnest_warm (mjN_ok w hw) hW (h.2.1 w hw), va_AO.moved hW.alike h.2.2⟩
theorem mjK.same {D : va_G} {tc : Nat → ClassId} {u U : State} (hv : u.vm = U.vm) (h : mjK D tc u) : mjK D tc U := ⟨va_K.moved (by rw [hv]; exact Vm.Alike.refl _) h.1, fun w hw => va_Nw.same (mjnest_tab (mjN_ok w hw)) hv (h.2.1 w hw), va_AO.moved (by rw [hv]; exact Vm.Alike.refl _) h.2.2⟩
/-- the start and the end of a method, in the machine's words -/
abbrev mjPc (D : va_G) (tc : Nat → ClassId) (ad : Nat → Nat) (sz : Nat) (M : mjM) (as : List Value) : Array Value → State → Prop := va_Pc (as.map (mjv ad)) (fun U => U.heap.size = sz ∧ va_P D vwCl (mjw tc ad M) U.heap ∧ mjK D tc U ∧ va_D (fun _ => True) (mjw tc ad M))
abbrev mjQc (D : va_G) (tc : Nat → ClassId) (ad : Nat → Nat) (sz mc : Nat) (M M' : mjM) (r : Option Value) : Array Value → State → Outcome → State → Prop :=
  fun _ st oc t => (∃ ad' : Nat → Nat, (∀ j, (j < M.length ∨ 4000 < j) → ad' j = ad j) ∧ (mc = 0 → ad' = ad) ∧ oc = .returned (r.map (mjv ad')) ∧ va_P D vwCl (mjw tc ad' M') t.heap ∧ va_D (va_A (mjw tc ad M) sz) (mjw tc ad' M')) ∧ va_F (va_A (mjw tc ad M) sz) st t
/-- A CONTRACT: from every start at which the machine's words hold, the method does what Sp says -/
def mjCT (l : Launch) (y : MethodName) (cc : ByteArray) (maxL : Nat) (ret : Option FieldType) (rm : Room) (Sp : mjSp) : Prop :=
  ∀ (D : va_G) (tc : Nat → ClassId) (ad : Nat → Nat) (sz : Nat) (M : mjM) (as : List Value), M.length ≤ 4000 → as.all mjone = true → as.length ≤ maxL → (Sp M as).1 →
    Met l y (.code y cc maxL ret :: mjW) rm (mjPc D tc ad sz M as) (mjQc D tc ad sz rm.cells M ((Sp M as).2.1.getD M) (Sp M as).2.2) rm.cells rm.slots (va_A (mjw tc ad M) sz)
theorem mjext_at {tc : Nat → ClassId} {ad : Nat → Nat} {e : List Nat} {M : mjM} (he : e.length ≤ 4000) (hl : ∀ a ∈ e, a < M.length) {j i : Nat} (hj : e[j]? = some i) : (mjw tc (fun j => ad (mjui e M.length j)) (mjext e M))[j]? = (mjw tc ad M)[i]? := by
  have hi : i < M.length := hl i (List.mem_of_getElem? hj)
  have hjl : j < e.length := (List.getElem?_eq_some_iff.mp hj).1
  obtain ⟨x, hx⟩ : ∃ x, M[i]? = some x := ⟨_, List.getElem?_eq_getElem hi⟩
  rw [mjw_get, mjw_at hx]
  have h1 : (mjext e M)[j]? = some (mjc (mjri e) x) := by
    unfold mjext
    rw [List.getElem?_map, hj]
    simp [List.getD, hx]
  rw [h1]
  show some (ad (mjui e M.length j), mje tc _ (mjc (mjri e) x)) = some (ad i, mje tc ad x)
  rw [mje_comp, mjui_lt hjl]
  have h2 : (fun i => ad (mjui e M.length (mjri e i))) = ad := by
    funext k
    rw [mjui_ri e M.length k he]
  rw [h2]
  simp [List.getD, hj]
theorem mjext_len (e : List Nat) (M : mjM) : (mjext e M).length = e.length := by simp [mjext]
theorem mjext_sub {tc : Nat → ClassId} {ad : Nat → Nat} {e : List Nat} {M : mjM} (he : e.length ≤ 4000) (hl : ∀ a ∈ e, a < M.length) : e.map (fun i => (mjw tc ad M)[i]?) = (mjw tc (fun j => ad (mjui e M.length j)) (mjext e M)).map some := by
  apply List.ext_getElem?
  intro j
  rw [List.getElem?_map, List.getElem?_map]
  cases hj : e[j]? with
  | none =>
    have h1 : e.length ≤ j := by simpa using hj
    have h2 : (mjw tc (fun j => ad (mjui e M.length j)) (mjext e M))[j]? = none := by
      rw [mjw_get]
      have : (mjext e M)[j]? = none := by simp [mjext_len, h1]
      rw [this]
      rfl
    rw [h2]
    rfl
  | some i =>
    rw [mjext_at he hl hj]
    obtain ⟨x, hx⟩ : ∃ x, M[i]? = some x := ⟨_, List.getElem?_eq_getElem (hl i (List.mem_of_getElem? hj))⟩
    rw [mjw_at hx]
    show some ((mjw tc ad M)[i]?) = _
    rw [mjw_at hx]
    rfl
theorem mjnd_va : ∀ {e : List Nat}, e.Nodup → va_nd e = true
  | [], _ => rfl
  | a :: l, h => by
    obtain ⟨h1, h2⟩ := List.nodup_cons.mp h
    simp [va_nd, h1, mjnd_va h2]
theorem mjw_len (tc : Nat → ClassId) (ad : Nat → Nat) (M : mjM) : (mjw tc ad M).length = M.length := by simp [mjw]
/-- the world behind a call -/
theorem mj_world {D : va_G} {tc : Nat → ClassId} {ad ad' ad1 : Nat → Nat} {A : Nat → Prop} {M M' : mjM} {e : List Nat} {H H1 : Heap} (he : e.length ≤ 4000) (hl : ∀ a ∈ e, a < M.length) (hn : e.Nodup) (hP : va_P D vwCl (mjw tc ad M) H) (hD : va_D A (mjw tc ad M))
    (hk : ∀ q : Nat, q < H.size → ¬ va_A (mjw tc (fun j => ad (mjui e M.length j)) (mjext e M)) H.size q → H1[q]? = H[q]?) (hF : ∀ q, va_A (mjw tc (fun j => ad (mjui e M.length j)) (mjext e M)) H.size q → A q)
    (hP1 : va_P D vwCl (mjw tc ad' M') H1) (hD1 : va_D (va_A (mjw tc (fun j => ad (mjui e M.length j)) (mjext e M)) H.size) (mjw tc ad' M')) (hle : e.length ≤ M'.length)
    (h1 : ∀ i, i < M.length → ad1 i = ad i) (hA1 : ∀ x ∈ M, mje tc ad1 x = mje tc ad x) (hB1 : ∀ x ∈ M', mje tc ad1 (mjc (mjui e M.length) x) = mje tc ad' x) (hC : ∀ k, e.length + k < M'.length → ad1 (M.length + k) = ad' (e.length + k)) (hE : ∀ j, j < e.length → ad' j = ad (mjui e M.length j)) :
    va_P D vwCl (mjw tc ad1 (mjins e M M')) H1 ∧ va_D A (mjw tc ad1 (mjins e M M')) := by
  have hml : (mjput e (M'.map (mjc (mjui e M.length))) M).length = M.length := mjput_len _ _ _
  -- what stands at a place
  have key : ∀ (i : Nat) (q : Nat × va_E), (mjw tc ad1 (mjins e M M'))[i]? = some q → (i < M.length ∧ i ∉ e ∧ (mjw tc ad M)[i]? = some q) ∨ (∃ j : Nat, i < M.length ∧ e[j]? = some i ∧ (mjw tc ad' M')[j]? = some q) ∨ (∃ k : Nat, i = M.length + k ∧ (mjw tc ad' M')[e.length + k]? = some q) := by
    intro i q hq
    obtain ⟨x, hx, rfl⟩ := mjw_inv hq
    unfold mjins at hx
    by_cases hi : i < M.length
    · rw [List.getElem?_append_left (by rw [hml]; exact hi)] at hx
      by_cases hie : i ∈ e
      · obtain ⟨j, hj⟩ := List.getElem?_of_mem hie
        have hjl : j < e.length := (List.getElem?_eq_some_iff.mp hj).1
        obtain ⟨y, hy⟩ : ∃ y, M'[j]? = some y := ⟨_, List.getElem?_eq_getElem (Nat.lt_of_lt_of_le hjl hle)⟩
        rw [mjput_in e _ M i j (mjc (mjui e M.length) y) hn hl hj (by rw [List.getElem?_map, hy]; rfl)] at hx
        cases hx
        refine Or.inr (Or.inl ⟨j, hi, hj, ?_⟩)
        rw [mjw_at hy, hB1 y (List.mem_of_getElem? hy), h1 i hi, hE j hjl, mjui_lt hjl]
        simp [List.getD, hj]
      · rw [mjput_out e _ M i hie] at hx
        refine Or.inl ⟨hi, hie, ?_⟩
        rw [mjw_at hx, h1 i hi, hA1 x (List.mem_of_getElem? hx)]
    · rw [List.getElem?_append_right (by rw [hml]; omega), hml, List.getElem?_map, List.getElem?_drop] at hx
      cases hy : M'[e.length + (i - M.length)]? with
      | none => rw [hy] at hx; cases hx
      | some y =>
        rw [hy] at hx
        cases hx
        refine Or.inr (Or.inr ⟨i - M.length, by omega, ?_⟩)
        rw [mjw_at hy, hB1 y (List.mem_of_getElem? hy)]
        have := hC (i - M.length) (List.getElem?_eq_some_iff.mp hy).1
        rw [← this, show M.length + (i - M.length) = i by omega]
  have inwc : ∀ (j i : Nat) (y : va_E), e[j]? = some i → ∃ ee, (mjw tc (fun j => ad (mjui e M.length j)) (mjext e M))[j]? = some (ad i, ee) := by
    intro j i y hj
    rw [mjext_at he hl hj]
    obtain ⟨x, hx⟩ : ∃ x, M[i]? = some x := ⟨_, List.getElem?_eq_getElem (hl i (List.mem_of_getElem? hj))⟩
    exact ⟨_, mjw_at hx⟩
  have wcof : ∀ (k : Nat) (a : Nat) (ee : va_E), (mjw tc (fun j => ad (mjui e M.length j)) (mjext e M))[k]? = some (a, ee) → ∃ i : Nat, e[k]? = some i ∧ (mjw tc ad M)[i]? = some (a, ee) := by
    intro k a ee h
    cases hj : e[k]? with
    | none =>
      have h2 : e.length ≤ k := by simpa using hj
      have h3 : (mjw tc (fun j => ad (mjui e M.length j)) (mjext e M)).length ≤ k := by rw [mjw_len, mjext_len]; exact h2
      rw [List.getElem?_eq_none h3] at h
      cases h
    | some i =>
      rw [mjext_at he hl hj] at h
      exact ⟨i, rfl, h⟩
  have apart : ∀ (i : Nat) (q : Nat × va_E), i ∉ e → (mjw tc ad M)[i]? = some q → q.1 < H.size ∧ ¬ va_A (mjw tc (fun j => ad (mjui e M.length j)) (mjext e M)) H.size q.1 := by
    intro i q hi hq
    have hlt := (hP i q hq).lt
    refine ⟨hlt, fun hz => ?_⟩
    rcases hz with ⟨k, ee, hz⟩ | hz
    · obtain ⟨i', hi1, hi2⟩ := wcof k q.1 ee hz
      have := hD.1 i i' q (q.1, ee) hq hi2 rfl
      subst this
      exact hi (List.mem_of_getElem? hi1)
    · omega
  -- a new cell lies nowhere among the old ones
  have newold : ∀ (i k : Nat) (q q' : Nat × va_E), i < M.length → (mjw tc ad M)[i]? = some q → (mjw tc ad' M')[e.length + k]? = some q' → q.1 ≠ q'.1 := by
    intro i k q q' hi hq hq' hz
    have h2 := hD1.2 _ q' hq'
    rcases h2 with ⟨k2, ee, h2⟩ | h2
    · obtain ⟨i', hi1, hi2⟩ := wcof k2 q'.1 ee h2
      have hk2 : k2 < e.length := (List.getElem?_eq_some_iff.mp hi1).1
      obtain ⟨y, hy⟩ : ∃ y, M'[k2]? = some y := ⟨_, List.getElem?_eq_getElem (Nat.lt_of_lt_of_le hk2 hle)⟩
      have h3 := mjw_at (tc := tc) (ad := ad') hy
      obtain ⟨z, hz2, hz3⟩ := mjw_inv hi2
      have h4 : ad' k2 = q'.1 := by
        rw [hE k2 hk2, mjui_lt hk2]
        have : q'.1 = ad i' := congrArg Prod.fst hz3
        rw [this]
        simp [List.getD, hi1]
      have := hD1.1 k2 (e.length + k) _ q' h3 hq' h4
      omega
    · have := (hP i q hq).lt
      omega
  refine ⟨fun i q hq => ?_, fun i j p q hp hq hpq => ?_, fun i q hq => ?_⟩
  · rcases key i q hq with ⟨hi, hie, h⟩ | ⟨j, hi, hj, h⟩ | ⟨k, hi, h⟩
    · obtain ⟨a1, a2⟩ := apart i q hie h
      exact (hP i q h).kept (hk q.1 a1 a2)
    · exact hP1 j q h
    · exact hP1 _ q h
  · -- old ones by the caller's, new ones by the callee's
    have old : ∀ (i : Nat) (q : Nat × va_E), (mjw tc ad1 (mjins e M M'))[i]? = some q → i < M.length → ∃ q', (mjw tc ad M)[i]? = some q' ∧ q'.1 = q.1 := by
      intro i q hq hi
      obtain ⟨x, hx, rfl⟩ := mjw_inv hq
      obtain ⟨y, hy⟩ : ∃ y, M[i]? = some y := ⟨_, List.getElem?_eq_getElem hi⟩
      exact ⟨_, mjw_at hy, (h1 i hi).symm⟩
    have new : ∀ (i : Nat) (q : Nat × va_E), (mjw tc ad1 (mjins e M M'))[i]? = some q → ¬ i < M.length → ∃ k : Nat, i = M.length + k ∧ (mjw tc ad' M')[e.length + k]? = some q := by
      intro i q hq hi
      rcases key i q hq with ⟨h, -⟩ | ⟨j, h, -⟩ | h
      · exact absurd h hi
      · exact absurd h hi
      · exact h
    by_cases hi : i < M.length <;> by_cases hj : j < M.length
    · obtain ⟨p', hp1, hp2⟩ := old i p hp hi
      obtain ⟨q', hq1, hq2⟩ := old j q hq hj
      exact hD.1 i j p' q' hp1 hq1 (by rw [hp2, hq2]; exact hpq)
    · obtain ⟨p', hp1, hp2⟩ := old i p hp hi
      obtain ⟨k, hk1, hk2⟩ := new j q hq hj
      exact absurd (hp2.trans hpq) (newold i k p' q hi hp1 hk2)
    · obtain ⟨q', hq1, hq2⟩ := old j q hq hj
      obtain ⟨k, hk1, hk2⟩ := new i p hp hi
      exact absurd (hq2.trans hpq.symm) (newold j k q' p hj hq1 hk2)
    · obtain ⟨k, hk1, hk2⟩ := new i p hp hi
      obtain ⟨k', hk3, hk4⟩ := new j q hq hj
      have := hD1.1 _ _ p q hk2 hk4 hpq
      omega
  · rcases key i q hq with ⟨hi, hie, h⟩ | ⟨j, hi, hj, h⟩ | ⟨k, hi, h⟩
    · exact hD.2 i q h
    · exact hF _ (hD1.2 j q h)
    · exact hF _ (hD1.2 _ q h)
end
section
/-! mj: what a step says, taken apart -/
theorem mji_inv {S : List Value} {F : Int32 → List Value → Prop} (h : mji S F) : ∃ x S', S = .int x :: S' ∧ F x S' := by
  unfold mji at h
  split at h
  · exact ⟨_, _, rfl, h⟩
  · exact h.elim
theorem mjii_inv {S : List Value} {F : Int32 → Int32 → List Value → Prop} (h : mjii S F) : ∃ y x S', S = .int y :: .int x :: S' ∧ F y x S' := by
  unfold mjii at h
  split at h
  · exact ⟨_, _, _, rfl, h⟩
  · exact h.elim
theorem mjd_inv {S : List Value} {F : UInt64 → List Value → Prop} (h : mjd S F) : ∃ x S', S = .double x :: S' ∧ F x S' := by
  unfold mjd at h
  split at h
  · exact ⟨_, _, rfl, h⟩
  · exact h.elim
theorem mjdd_inv {S : List Value} {F : UInt64 → UInt64 → List Value → Prop} (h : mjdd S F) : ∃ y x S', S = .double y :: .double x :: S' ∧ F y x S' := by
  unfold mjdd at h
  split at h
  · exact ⟨_, _, _, rfl, h⟩
  · exact h.elim
theorem mjr_inv {S : List Value} {F : Nat → List Value → Prop} (h : mjr S F) : ∃ x S', S = .ref x :: S' ∧ F x S' := by
  unfold mjr at h
  split at h
  · exact ⟨_, _, rfl, h⟩
  · exact h.elim
theorem mjrn_inv {S : List Value} {F : Value → Bool → List Value → Prop} (h : mjrn S F) : (∃ a S', S = .ref a :: S' ∧ F (.ref a) true S') ∨ (∃ S', S = .null :: S' ∧ F .null false S') := by
  unfold mjrn at h
  split at h
  · exact Or.inl ⟨_, _, rfl, h⟩
  · exact Or.inr ⟨_, rfl, h⟩
  · exact h.elim
theorem mjan_inv {S : List Value} {F : Value → List Value → Prop} (h : mjan S F) : ∃ x S', S = x :: S' ∧ x.category = 1 ∧ F x S' := by
  unfold mjan at h
  split at h
  · exact ⟨_, _, rfl, rfl, h⟩
  · exact ⟨_, _, rfl, rfl, h⟩
  · exact h.elim
theorem mjtol {α : Type} {o : Option α} {a : α} {l : List α} (h : o.toList = a :: l) : o = some a := by
  cases o with
  | none => cases h
  | some x => cases h; rfl
theorem mjir_inv {S : List Value} {F : Int32 → Nat → List Value → Prop} (h : mjir S F) : ∃ i a S', S = .int i :: .ref a :: S' ∧ F i a S' := by
  unfold mjir at h
  split at h
  · exact ⟨_, _, _, rfl, h⟩
  · exact h.elim
theorem mjiir_inv {S : List Value} {F : Int32 → Int32 → Nat → List Value → Prop} (h : mjiir S F) : ∃ x i a S', S = .int x :: .int i :: .ref a :: S' ∧ F x i a S' := by
  unfold mjiir at h
  split at h
  · exact ⟨_, _, _, _, rfl, h⟩
  · exact h.elim
theorem mjrir_inv {S : List Value} {F : Nat → Int32 → Nat → List Value → Prop} (h : mjrir S F) : ∃ x i a S', S = .ref x :: .int i :: .ref a :: S' ∧ F x i a S' := by
  unfold mjrir at h
  split at h
  · exact ⟨_, _, _, _, rfl, h⟩
  · exact h.elim
theorem mjiriri_inv {S : List Value} {F : Int32 → Int32 → Nat → Int32 → Nat → List Value → Prop} (h : mjiriri S F) : ∃ n dp a1 sp a0 S', S = .int n :: .int dp :: .ref a1 :: .int sp :: .ref a0 :: S' ∧ F n dp a1 sp a0 S' := by
  unfold mjiriri at h
  split at h
  · exact ⟨_, _, _, _, _, _, rfl, h⟩
  · exact h.elim
theorem mjtop_inv {S : List Value} {F : Value → Nat → List Value → Prop} (h : mjtop S F) : ∃ w a S', S = w :: .ref a :: S' ∧ F w a S' := by
  unfold mjtop at h
  split at h
  · exact ⟨_, _, _, rfl, h⟩
  · exact h.elim
theorem mjb_inv {b : Bool} {F : Prop} (h : mjb b F) : b = true ∧ F := by
  cases b
  · exact h.elim
  · exact ⟨rfl, h⟩
theorem mjbif {b : Bool} {F : Prop} (h : bif b then F else False) : b = true ∧ F := by
  cases b
  · exact h.elim
  · exact ⟨rfl, h⟩
theorem mjA_inv {k : Nat} {o : Option va_E} {F : Nat → (Nat → Int32) → Prop} (h : mjA k o F) : ∃ n f, o = some (.inl (k, (n, .inl f))) ∧ F n f := by
  unfold mjA at h
  split at h
  · obtain ⟨h1, h2⟩ := mjbif h
    rw [← Nat.eq_of_beq_eq_true h1]
    exact ⟨_, _, rfl, h2⟩
  · exact h.elim
theorem mjQ_inv {o : Option va_E} {F : Nat → (Nat → Option Nat) → Prop} (h : mjQ o F) : ∃ n f, o = some (.inl (2, (n, .inr (.inr (.inr (.inr f)))))) ∧ F n f := by
  unfold mjQ at h
  split at h
  · obtain ⟨h1, h2⟩ := mjbif h
    rw [← Nat.eq_of_beq_eq_true h1]
    exact ⟨_, _, rfl, h2⟩
  · exact h.elim
theorem mjO_inv {k : Nat} {o : Option va_E} {F : List Value → Prop} (h : mjO k o F) : ∃ fs, o = some (.inr (k, fs)) ∧ F fs := by
  unfold mjO at h
  split at h
  · obtain ⟨h1, h2⟩ := mjbif h
    rw [← Nat.eq_of_beq_eq_true h1]
    exact ⟨_, rfl, h2⟩
  · exact h.elim
theorem mjo_inv {α : Type} {o : Option α} {F : α → Prop} (h : mjo o F) : ∃ x, o = some x ∧ F x := by
  unfold mjo at h
  split at h
  · exact ⟨_, rfl, h⟩
  · exact h.elim
theorem mjno_inv {S : List Value} {F : Prop} (h : mjno S F) : S = [] ∧ F := by
  unfold mjno at h
  split at h
  · exact ⟨rfl, h⟩
  · exact h.elim
theorem mjfind_mem : ∀ {l : List mjX} {i : Nat} {q}, mjfind l i = some q → (i, q) ∈ l
  | [], i, q, h => by cases h
  | a :: l, i, q, h => by
    unfold mjfind at h
    by_cases z : Nat.beq a.1 i = true
    · rw [z] at h
      cases h
      rw [← Nat.eq_of_beq_eq_true z]
      exact List.mem_cons_self
    · rw [Bool.not_eq_true] at z
      rw [z] at h
      exact List.mem_cons_of_mem _ (mjfind_mem h)
theorem mjsw_inv {x : Int32} {d : Nat} {go : Nat → Prop} : ∀ {l : List (Int32 × Nat)}, mjsw x d go l → (∃ (i : Nat) (k : Int32) (t : Nat), l[i]? = some (k, t) ∧ (∀ j : Nat, j < i → ∀ q, l[j]? = some q → ¬ x = q.1) ∧ x = k ∧ go t) ∨ ((∀ q ∈ l, ¬ x = q.1) ∧ go d)
  | [], h => Or.inr ⟨(fun q hq => absurd hq List.not_mem_nil), h⟩
  | (k, t) :: l, h => by
    by_cases hx : x = k
    · exact Or.inl ⟨0, k, t, rfl, fun j hj => absurd hj (Nat.not_lt_zero j), hx, h.1 hx⟩
    · rcases mjsw_inv (h.2 hx) with ⟨i, k', t', h1, h2, h3, h4⟩ | ⟨h1, h2⟩
      · refine Or.inl ⟨i + 1, k', t', h1, fun j hj q hq => ?_, h3, h4⟩
        cases j with
        | zero =>
          rw [List.getElem?_cons_zero] at hq
          cases hq
          exact hx
        | succ j =>
          rw [List.getElem?_cons_succ] at hq
          exact h2 j (by omega) q hq
      · refine Or.inr ⟨fun q hq => ?_, h2⟩
        rcases List.mem_cons.mp hq with rfl | hq
        · exact hx
        · exact h1 q hq
theorem mjcat_sum (ad : Nat → Nat) : ∀ l : List Value, ((l.map (mjv ad)).map fun v => v.category).sum = mjcat l
  | [] => rfl
  | v :: l => by
    have h := mjcat_sum ad l
    rw [List.map_cons, List.map_cons, List.sum_cons, h, mjv_cat]
    cases v <;> exact Nat.add_comm _ _
-- rows of the code table
def mjlen (i : Instr) : Nat := match i with
  | .bipush _ => 2
  | .iload _ => 2
  | .aload _ => 2
  | .dload _ => 2
  | .istore _ => 2
  | .astore _ => 2
  | .dstore _ => 2
  | .newarray _ => 2
  | .sipush _ => 3
  | .iinc _ _ => 3
  | .goto _ => 3
  | .ifCond _ _ => 3
  | .if_icmp _ _ => 3
  | .ifnull _ => 3
  | .ifnonnull _ => 3
  | .getfield _ => 3
  | .putfield _ => 3
  | .new _ => 3
  | .anewarray _ => 3
  | .invokevirtual _ => 3
  | .invokestatic _ => 3
  | .invokespecial _ => 3
  | .ldc2_w _ => 3
  | _ => 1
def mjrow (Y : Nat → List (Int32 × Nat)) (cc : ByteArray) (pc : Nat) (row : mjI) : Bool :=
  decide (decode cc pc = .ok (row.1, row.2.1)) && (match row.1 with
    | .iconst n => decide (row.2.1 = 1) && decide (Int32.ofInt n = row.2.2.1)
    | .bipush n => decide (row.2.1 = 2) && decide ((Int8.ofInt n).toInt32 = row.2.2.1)
    | .sipush n => decide (row.2.1 = 3) && decide ((Int16.ofInt n).toInt32 = row.2.2.1)
    | .iinc _ n => decide (row.2.1 = 3) && decide (Int32.ofInt n = row.2.2.1)
    | .goto o => decide (row.2.1 = 3) && decide ((pc : Int) + o = (row.2.2.2 : Int))
    | .ifCond _ o => decide (row.2.1 = 3) && decide ((pc : Int) + o = (row.2.2.2 : Int))
    | .if_icmp _ o => decide (row.2.1 = 3) && decide ((pc : Int) + o = (row.2.2.2 : Int))
    | .ifnull o => decide (row.2.1 = 3) && decide ((pc : Int) + o = (row.2.2.2 : Int))
    | .ifnonnull o => decide (row.2.1 = 3) && decide ((pc : Int) + o = (row.2.2.2 : Int))
    | .tableswitch d lo hi os => decide ((pc : Int) + d = (row.2.2.2 : Int)) && decide (-1000 ≤ lo ∧ hi ≤ 1000 ∧ hi = lo + (os.size : Int) - 1 ∧ os.size < 1000) && decide ((Y pc).length = os.size) && (List.range os.size).all (fun i => match (Y pc)[i]?, os[i]? with
      | some (k, t), some o => decide (k.toInt = lo + (i : Int)) && decide ((pc : Int) + o = (t : Int))
      | _, _ => false)
    | .lookupswitch d ps => decide ((pc : Int) + d = (row.2.2.2 : Int)) && (ps.toList.zip (ps.toList.drop 1)).all (fun (a, next) => a.1 < next.1) && decide ((Y pc).length = ps.toList.length) && (List.range ps.toList.length).all (fun i => match (Y pc)[i]?, ps.toList[i]? with
      | some (k, t), some (a, o) => decide (k.toInt = a) && decide ((pc : Int) + o = (t : Int))
      | _, _ => false)
    | i => decide (row.2.1 = mjlen i))
theorem mjlook : ∀ {l : List (Int × Int)} {d k : Int} {i : Nat} {a o : Int}, l[i]? = some (a, o) → (∀ j : Nat, j < i → ∀ q, l[j]? = some q → ¬ q.1 = k) → a = k → Op.lookupswitch.offset l d k = o
  | [], d, k, i, a, o, h, _, _ => by simp at h
  | (b, z) :: l, d, k, i, a, o, h, hb, ha => by
    rw [Op.lookupswitch.offset_cons]
    cases i with
    | zero =>
      rw [List.getElem?_cons_zero] at h
      cases h
      rw [if_pos ha]
    | succ i =>
      rw [List.getElem?_cons_succ] at h
      rw [if_neg (hb 0 (by omega) (b, z) rfl)]
      exact mjlook h (fun j hj q hq => hb (j + 1) (by omega) q (by rw [List.getElem?_cons_succ]; exact hq)) ha
theorem mjlook_none : ∀ {l : List (Int × Int)} {d k : Int}, (∀ q ∈ l, ¬ q.1 = k) → Op.lookupswitch.offset l d k = d
  | [], d, k, _ => rfl
  | (b, z) :: l, d, k, h => by
    rw [Op.lookupswitch.offset_cons, if_neg (h (b, z) List.mem_cons_self)]
    exact mjlook_none (fun q hq => h q (List.mem_cons_of_mem _ hq))
theorem mjr1 {cc : ByteArray} {pc len k : Nat} {i : Instr} (h : (decide (decode cc pc = .ok (i, len)) && decide (len = k)) = true) : decode cc pc = .ok (i, k) := by
  simp only [Bool.and_eq_true, decide_eq_true_eq] at h
  rw [← h.2]
  exact h.1
theorem mjr2 {cc : ByteArray} {pc len k : Nat} {i : Instr} {B : Prop} [Decidable B] (h : (decide (decode cc pc = .ok (i, len)) && (decide (len = k) && decide B)) = true) : decode cc pc = .ok (i, k) ∧ B := by
  simp only [Bool.and_eq_true, decide_eq_true_eq] at h
  rw [← h.2.1]
  exact ⟨h.1, h.2.2⟩
end
section
/-! mj: each step is a step of the machine -/
theorem mjw_setO (tc : Nat → ClassId) (ad : Nat → Nat) (M : mjM) (a c k : Nat) (fs : List Value) (x : Value) : mjw tc ad (M.set a (.inr (c, fs.set k x))) = (mjw tc ad M).set a (ad a, .inr (c, (fs.map (mjv ad)).set k (mjv ad x))) := by
  rw [mjw_set]
  show (mjw tc ad M).set a (ad a, .inr (c, (fs.set k x).map (mjv ad))) = _
  rw [List.map_set]
theorem mjup_pf {ad : Nat → Nat} {n q : Nat} (hn : n < 4000) : ∀ i, mjPf n i = true → va_up ad n q i = ad i := by
  intro i h
  rw [mjPf_iff] at h
  unfold va_up
  rw [if_neg (by omega)]
def mjT (p : Program) (l : Launch) (e : Env) (R : Room) (s : State) (m : MethodId) (args : Array Value) (below : List Frame) (meth : Method) (c : Code) (Q : State → Prop) (D : va_G) (tc : Nat → ClassId) (ad0 : Nat → Nat) (n0 mc ms : Nat) (A : Nat → Prop) (H0 : Heap) (nL : Nat) : Nat → mjL → List Value → mjM → Nat × Nat → Prop := fun pc L S M u =>
  ∀ (ad : Nat → Nat) (H : Heap) (locs : List Loc) (ls : Array Slot), (∀ i, (i < n0 ∨ 4000 < i) → ad i = ad0 i) → (mc = 0 → ad = ad0) → n0 ≤ M.length → M.length ≤ 4000 → (u.1 ≤ mc ∧ u.2 ≤ ms) → mjlv ad ls nL L → va_P D vwCl (mjw tc ad M) H → va_D A (mjw tc ad M) → va_S A H0 H locs → W p l e R s m args below meth c H locs u.1 u.2 Q (F0 m pc ls (S.map (mjv ad)))
def mjfldOK (own : String) (i ci k tk : Nat) : Prop := ∃ (C : String) (T : u_T) (N : Nat) (ty : Nat → FieldType), vwCl[ci]? = some (C, T, N) ∧ k < N ∧ (∀ w ∈ u_ws C T N, w ∈ mjW) ∧ (∀ k, k < N → parseFieldDescriptor (T k).2.2.1 = some (ty k)) ∧ (∀ a, a < N → ∀ b, b < N → a ≠ b → (T a).2.1 ≠ (T b).2.1) ∧
  ((Cond.fieldLink own i (T k).1 (T k).2.1 (T k).2.2.1 ∈ mjW) ∨ (∃ host, Cond.fieldLinkNest own i (T k).1 (T k).2.1 (T k).2.2.1 host ∈ mjN)) ∧
  (match tk with
   | 0 => ty k = .int ∧ (T k).2.2.2 = false
   | 1 => ty k = .boolean ∧ (T k).2.2.2 = false
   | 2 => ((∃ n, ty k = .object n) ∨ ∃ t, ty k = .array t) ∧ (T k).2.2.2 = false
   | 3 => ((∃ n, ty k = .object n) ∨ ∃ t, ty k = .array t) ∧ (T k).2.2.2 = true ∧ (T k).1 = own ∧ Cond.fieldLink own i (T k).1 (T k).2.1 (T k).2.2.1 ∈ mjW
   | _ => True)
def mjplain (v : Value) : Bool := match v with
  | .ref _ => false
  | _ => true
theorem mjplain_map (ad : Nat → Nat) : ∀ {fs : List Value}, fs.all mjplain = true → fs.map (mjv ad) = fs
  | [], _ => rfl
  | v :: fs, h => by
    simp only [List.all_cons, Bool.and_eq_true] at h
    rw [List.map_cons, mjplain_map ad h.2]
    cases v <;> first | rfl | cases h.1
def mjnewOK (own : String) (i ci : Nat) (fs : List Value) : Prop := ∃ (C : String) (T : u_T) (N : Nat) (ty : Nat → FieldType), vwCl[ci]? = some (C, T, N) ∧ (∀ w ∈ u_ws C T N, w ∈ mjW) ∧ (∀ k, k < N → parseFieldDescriptor (T k).2.2.1 = some (ty k)) ∧ Cond.classLink own i C ∈ mjW ∧ Cond.instantiable C N ∈ mjW ∧ Cond.initialized C ∈ mjW ∧ fs.length = N ∧ (∀ j, j < N → defaultValue (ty j) = vp_V fs j) ∧ fs.all mjplain = true
/-- what is known of a callee's name -/
def mjnameOK (y : MethodName) (cc : ByteArray) (maxL : Nat) (ret : Option FieldType) (n : Nat) : Prop := (y.cls ≠ "java/lang/invoke/MethodHandle" ∧ y.cls ≠ "java/lang/invoke/VarHandle" ∧ (parseMethodDescriptor y.desc).map (fun d => d.parameters.length) = some n) ∧ Cond.code y cc maxL ret ∈ mjW ∧ Cond.initialized y.cls ∈ mjW
def mjcallOK (l : Launch) (R : Room) (own : String) (q : mjX) : Prop := match q with
  | (i, 0, vc, na, cm, sm, Sp) => ∃ (y : MethodName) (cc : ByteArray) (maxL : Nat) (ret : Option FieldType) (rm : Room), mjCT l y cc maxL ret rm Sp ∧ (rm.cells = cm ∧ rm.slots = sm) ∧ (rm.frames + 1 ≤ R.frames ∧ 8 + (maxL + 11) + rm.locals ≤ R.locals) ∧ na ≤ maxL ∧ 1 ≤ na ∧ mjnameOK y cc maxL ret (na - 1) ∧ Cond.methodLink own i y ∈ mjW ∧ Cond.instanceMethod y ∈ mjW ∧ Cond.selects y.cls y y ∈ mjW ∧ (vwCl[vc]?).map (fun r => r.1) = some y.cls
  | (i, 1, _, na, cm, sm, Sp) => ∃ (y : MethodName) (cc : ByteArray) (maxL : Nat) (ret : Option FieldType) (rm : Room), mjCT l y cc maxL ret rm Sp ∧ (rm.cells = cm ∧ rm.slots = sm) ∧ (rm.frames + 1 ≤ R.frames ∧ 8 + (maxL + 11) + rm.locals ≤ R.locals) ∧ na ≤ maxL ∧ mjnameOK y cc maxL ret na ∧ Cond.methodLink own i y ∈ mjW ∧ Cond.static y ∈ mjW
  | (i, 2, _, na, cm, sm, Sp) => ∃ (y : MethodName) (cc : ByteArray) (maxL : Nat) (rm : Room), mjCT l y cc maxL none rm Sp ∧ (rm.cells = cm ∧ rm.slots = sm) ∧ (rm.frames + 1 ≤ R.frames ∧ 8 + (maxL + 11) + rm.locals ≤ R.locals) ∧ na ≤ maxL ∧ 1 ≤ na ∧ mjnameOK y cc maxL none (na - 1) ∧ Cond.methodLink own i y ∈ mjW ∧ Cond.instanceMethod y ∈ mjW ∧ y.name = "<init>"
  | (i, 3, _) => Cond.methodLink own i Lib.objectInit ∈ mjW ∧ Cond.instanceMethod Lib.objectInit ∈ mjW ∧ Cond.code Lib.objectInit ⟨#[0xb1]⟩ 1 none ∈ mjW ∧ 1 ≤ R.frames ∧ 20 ≤ R.locals
  | (i, 4, _) => Cond.methodLink own i arraycopyName ∈ mjW ∧ Cond.native arraycopyName ∈ mjW ∧ Cond.static arraycopyName ∈ mjW ∧ Cond.initialized "java/lang/System" ∈ mjW ∧ 1 ≤ R.frames ∧ 8 + (nativeFrameWords "java/lang/System" "arraycopy" 5 + 11) ≤ R.locals
  | (i, 5, _, na, cm, sm, Sp) => ∃ (y : MethodName) (cc : ByteArray) (maxL : Nat) (rm : Room), mjCT l y cc maxL none rm Sp ∧ (rm.cells = cm ∧ rm.slots = sm) ∧ (rm.frames + 1 ≤ R.frames ∧ 8 + (maxL + 11) + rm.locals ≤ R.locals) ∧ na ≤ maxL ∧ 1 ≤ na ∧ mjnameOK y cc maxL none (na - 1) ∧ Cond.methodLinkNest own i y RX6 ∈ mjN ∧ Cond.instanceMethod y ∈ mjW ∧ y.name = "<init>"
  | _ => False
theorem mjgood_ws {y : MethodName} {cc : ByteArray} {maxL : Nat} {ret : Option FieldType} (h : Cond.code y cc maxL ret ∈ mjW) : GoodIn mjW (.code y cc maxL ret :: mjW) := by
  intro w hw
  rcases List.mem_cons.mp hw with rfl | hw
  · exact ⟨h, good_of_word (mjW_good _ h)⟩
  · exact ⟨hw, good_of_word (mjW_good _ hw)⟩
theorem mjgood_l {a b : List Cond} (ha : ∀ w ∈ a, w ∈ mjW) (hb : GoodIn mjW b) : GoodIn mjW (a ++ b) := by
  intro w hw
  rcases List.mem_append.mp hw with hw | hw
  · exact ⟨ha w hw, good_of_word (mjW_good _ (ha w hw))⟩
  · exact hb w hw
section MJS
variable {p : Program} {l : Launch} {e : Env} {R : Room} {s : State} {m : MethodId} {args : Array Value} {below : List Frame} {meth : Method} {c : Code} {Q : State → Prop} {D : va_G} {tc : Nat → ClassId} {ad0 : Nat → Nat} {n0 mc ms nL : Nat} {A : Nat → Prop} {H0 : Heap}
/-- behind a call -/
theorem mj_behind {ad : Nat → Nat} {M : mjM} {e0 : List Nat} {cm sm pc : Nat} {ls : Array Slot} {L : mjL} {st0 rest : List Value} {H : Heap} {locs : List Loc} {cells slots : Nat} {r : Option Value} {o : Option mjM} {M1 : mjM} {a : Array Value}
    (hr : va_Run p l e R s m args below meth c H locs cells slots cm sm (F0 m pc ls st0) (rest.map (mjv ad)) (mjQc D tc (fun j => ad (mjui e0 M.length j)) H.size cm (mjext e0 M) (o.getD (mjext e0 M)) r a) (va_A (mjw tc (fun j => ad (mjui e0 M.length j)) (mjext e0 M)) H.size))
    (hA : ∀ q, H0.size ≤ q → A q) (he : e0.length ≤ 4000) (hpl : (∀ a ∈ e0, a < M.length) ∧ e0.Nodup) (hres : mjres e0 cm L rest M r o = (true, M1)) (hmz : mc = 0 → cm = 0)
    (hag : ∀ i, (i < n0 ∨ 4000 < i) → ad i = ad0 i) (hn0 : n0 ≤ M.length) (hM4 : M.length ≤ 4000) (hL : mjlv ad ls nL L) (hP : va_P D vwCl (mjw tc ad M) H) (hD : va_D A (mjw tc ad M)) (hS : va_S A H0 H locs)
    (kk : ∀ (ad1 : Nat → Nat) (H1 : Heap) (locs1 : List Loc), (∀ i, (i < n0 ∨ 4000 < i) → ad1 i = ad0 i) → (mc = 0 → ad1 = ad) → n0 ≤ M1.length → M1.length ≤ 4000 → mjlv ad1 ls nL L → va_P D vwCl (mjw tc ad1 M1) H1 → va_D A (mjw tc ad1 M1) → va_S A H0 H1 locs1 → W p l e R s m args below meth c H1 locs1 (cells + cm) (slots + sm) Q (F0 m (pc + 3) ls ((r.toList.map (mjv (mjui e0 M.length)) ++ rest).map (mjv ad1)))) : W p l e R s m args below meth c H locs cells slots Q (F0 m pc ls st0) := by
  have hF := va_free (wc := mjw tc (fun j => ad (mjui e0 M.length j)) (mjext e0 M)) hD hS hA e0 (mjext_sub he hpl.1)
  intro T hT X
  obtain ⟨v, st₀, t, T', L', h0, X', hL', e1, e2, ⟨⟨ad', ha1, ha2, hv, hP1, hD1⟩, hz, hk⟩, st⟩ := hr T hT X
  have hv : v = r.map (mjv ad') := by cases hv; rfl
  subst hv
  rw [h0] at hz hk
  have hS1 : va_S A H0 T'.heap (locs ++ L') := ⟨Nat.le_trans hS.1 (by rw [e1]; exact hz), fun q h1 h2 => by rw [e1, hk q (Nat.lt_of_lt_of_le h1 hS.1) (fun z => h2 (hF q z))]; exact hS.2.1 q h1 h2, fun q hq => by
      rcases List.mem_append.mp hq with h | h
      · exact hS.2.2 q h
      · exact hF _ (hL' q h)⟩
  rw [← e1] at hP1 hk
  rw [mjext_len] at ha1
  -- the new addresses, and the world
  have main : ∃ ad1 : Nat → Nat, (∀ i, (i < n0 ∨ 4000 < i) → ad1 i = ad0 i) ∧ (mc = 0 → ad1 = ad) ∧ n0 ≤ M1.length ∧ M1.length ≤ 4000 ∧ mjlv ad1 ls nL L ∧ va_P D vwCl (mjw tc ad1 M1) T'.heap ∧ va_D A (mjw tc ad1 M1) ∧ (r.toList.map (mjv (mjui e0 M.length)) ++ rest).map (mjv ad1) = (r.map (mjv ad')).toList ++ rest.map (mjv ad) := by
    have hval0 : ad' = (fun j => ad (mjui e0 M.length j)) → (r.toList.map (mjv (mjui e0 M.length)) ++ rest).map (mjv ad) = (r.map (mjv ad')).toList ++ rest.map (mjv ad) := by
      intro hz
      rw [List.map_append]
      congr 1
      cases r with
      | none => rfl
      | some w =>
        show [mjv ad (mjv (mjui e0 M.length) w)] = [mjv ad' w]
        rw [mjv_comp, hz]
    -- a call that makes nothing, and gives its cells back
    have same : cm = 0 → ∀ M' : mjM, M'.length = e0.length → va_P D vwCl (mjw tc ad' M') T'.heap → va_D (va_A (mjw tc (fun j => ad (mjui e0 M.length j)) (mjext e0 M)) H.size) (mjw tc ad' M') → va_P D vwCl (mjw tc ad (mjins e0 M M')) T'.heap ∧ va_D A (mjw tc ad (mjins e0 M M')) := by
      intro hc M' hM' hP1 hD1
      have hz := ha2 hc
      refine mj_world (ad' := ad') he hpl.1 hpl.2 hP hD hk hF hP1 hD1 (by omega) (fun _ _ => rfl) (fun _ _ => rfl) (fun x _ => ?_) (fun k hk => by omega) (fun j _ => by rw [hz])
      rw [mje_comp, hz]
    have lenins : ∀ M' : mjM, e0.length ≤ M'.length → (mjins e0 M M').length = M.length + (M'.length - e0.length) := by
      intro M' h
      unfold mjins
      rw [List.length_append, mjput_len, List.length_map, List.length_drop]
    cases o with
    | none =>
      obtain ⟨h1, h2⟩ := Prod.mk.inj hres
      have hc := Nat.eq_of_beq_eq_true h1
      subst h2
      have hz := ha2 hc
      -- nothing changed: each cell is as before
      obtain ⟨hp, hd⟩ := same hc (mjext e0 M) (mjext_len _ _) hP1 hD1
      have hins : mjw tc ad (mjins e0 M (mjext e0 M)) = mjw tc ad M := by
        apply List.ext_getElem?
        intro i
        have hl2 := lenins (mjext e0 M) (by rw [mjext_len]; exact Nat.le_refl _)
        rw [mjext_len] at hl2
        by_cases hi : i < M.length
        · obtain ⟨x, hx⟩ : ∃ x, M[i]? = some x := ⟨_, List.getElem?_eq_getElem hi⟩
          rw [mjw_at hx]
          by_cases hie : i ∈ e0
          · obtain ⟨j, hj⟩ := List.getElem?_of_mem hie
            have h3 : (mjext e0 M)[j]? = some (mjc (mjri e0) x) := by
              unfold mjext
              rw [List.getElem?_map, hj]
              simp [List.getD, hx]
            have h4 : (mjins e0 M (mjext e0 M))[i]? = some (mjc (mjui e0 M.length) (mjc (mjri e0) x)) := by
              unfold mjins
              rw [List.getElem?_append_left (by rw [mjput_len]; exact hi)]
              exact mjput_in e0 _ M i j _ hpl.2 hpl.1 hj (by rw [List.getElem?_map, h3]; rfl)
            rw [mjw_at h4, mje_comp, mje_comp]
            have h5 : (fun i => ad (mjui e0 M.length (mjri e0 i))) = ad := by
              funext k
              rw [mjui_ri e0 M.length k he]
            rw [h5]
          · have h4 : (mjins e0 M (mjext e0 M))[i]? = some x := by
              unfold mjins
              rw [List.getElem?_append_left (by rw [mjput_len]; exact hi), mjput_out e0 _ M i hie]
              exact hx
            rw [mjw_at h4]
        · rw [List.getElem?_eq_none (by rw [mjw_len]; omega), List.getElem?_eq_none (by rw [mjw_len]; omega)]
      rw [hins] at hp hd
      exact ⟨ad, hag, fun _ => rfl, hn0, hM4, hL, hp, hd, hval0 hz⟩
    | some M' =>
      obtain ⟨h1, h2⟩ := Prod.mk.inj hres
      subst h2
      rcases Bool.or_eq_true_iff.mp h1 with h1 | h1
      · rw [Bool.and_eq_true] at h1
        have hc := Nat.eq_of_beq_eq_true h1.1
        have hlen := Nat.eq_of_beq_eq_true h1.2
        have hz := ha2 hc
        obtain ⟨hp, hd⟩ := same hc M' hlen hP1 hD1
        have hl2 := lenins M' (by omega)
        exact ⟨ad, hag, fun _ => rfl, by omega, by omega, hL, hp, hd, hval0 hz⟩
      · simp only [mjnew, mjfr, Bool.and_eq_true] at h1
        obtain ⟨hcm, ⟨⟨⟨⟨⟨hf1, hf2⟩, hf3⟩, hf4⟩, hf5⟩, hf6⟩, hf7⟩ := h1
        have hf6 := Nat.le_of_ble_eq_true hf6
        have hf7 := Nat.le_of_ble_eq_true hf7
        have hl2 := lenins M' hf6
        have hmc : ¬ mc = 0 := by
          intro z
          rw [hmz z] at hcm
          cases hcm
        obtain ⟨ad1, had1⟩ : ∃ ad1 : Nat → Nat, ad1 = fun i => if i < M.length ∨ 4000 < i then ad i else ad' (i - M.length + e0.length) := ⟨_, rfl⟩
        have hold : ∀ i, mjPf M.length i = true → ad1 i = ad i := by
          intro i hi
          rw [mjPf_iff] at hi
          rw [had1]
          exact if_pos hi
        have hnew : ∀ j, mjPb M'.length j = true → ad1 (mjui e0 M.length j) = ad' j := by
          intro j hj
          rw [mjPb_iff] at hj
          by_cases hje : j < e0.length
          · rw [hold _ (mjPf_iff.mpr (Or.inl ?_)), ha1 j (Or.inl hje)]
            rw [mjui_lt hje]
            exact hpl.1 _ (by simp [List.getD, hje])
          · rw [mjui_mid (by omega) (by omega), had1]
            show (if _ then _ else _) = _
            rw [if_neg (by omega)]
            congr 1
            omega
        obtain ⟨hp, hd⟩ := mj_world (ad1 := ad1) he hpl.1 hpl.2 hP hD hk hF hP1 hD1 hf6 (fun i hi => hold i (mjPf_iff.mpr (Or.inl hi))) (fun x hx => mje_congr hold tc (List.all_eq_true.mp hf3 x hx)) (fun x hx => by
            rw [mje_comp]
            exact mje_congr hnew tc (List.all_eq_true.mp hf4 x hx)) (fun k hk => by
            have hk : e0.length + k < M'.length := hk
            rw [had1]
            show (if _ then _ else _) = _
            rw [if_neg (by omega)]
            congr 1
            omega) (fun j hj => ha1 j (Or.inl hj))
        refine ⟨ad1, fun i hi => ?_, fun z => absurd z hmc, by omega, by omega, mjlv_congr hL (mjql_congr hold hf1), hp, hd, ?_⟩
        · rw [hold i (mjPf_iff.mpr (by omega)), hag i hi]
        · rw [List.map_append, mjvs_congr hold hf2]
          congr 1
          cases r with
          | none => rfl
          | some w =>
            show [mjv ad1 (mjv (mjui e0 M.length) w)] = [mjv ad' w]
            rw [mjv_comp]
            simp only [Option.toList, List.all_cons, List.all_nil, Bool.and_true] at hf5
            rw [mjv_congr hnew hf5]
  obtain ⟨ad1, k1, k2, k3, k4, k5, k6, k7, k8⟩ := main
  obtain ⟨t2, a1, b1⟩ := kk ad1 T'.heap (locs ++ L') k1 k2 k3 k4 k5 k6 k7 hS1 T' rfl X'
  rw [k8] at a1
  exact ⟨t2, st t2 a1, b1⟩
end MJS
end
section
/-! mj: the calls -/
theorem mjcall_inv {G : mjG} {nx : Nat → mjL → List Value → mjM → Nat × Nat → Prop} {virt : Bool} {k vc na cm sm : Nat} {Sp : mjSp} {pc : Nat} {L : mjL} {S : List Value} {M : mjM} {u : Nat × Nat} (h : mjcall G nx virt (k, vc, na, cm, sm, Sp) pc L S M u) :
    (na ≤ S.length ∧ (S.take na).all mjone = true ∧ mjcat (S.drop na) ≤ 8 ∧ ((∀ a ∈ G.2.2.2.1 pc, a < M.length) ∧ (G.2.2.2.1 pc).Nodup) ∧ (G.2.2.2.1 pc).length ≤ 4000 ∧ u.1 + cm ≤ G.2.2.2.2.2.2.2.2.1 ∧ u.2 + sm ≤ G.2.2.2.2.2.2.2.2.2.1 ∧ (virt = true → mjrecv M vc (S.take na).reverse = true)) ∧
    ∃ P o r M1, Sp (mjext (G.2.2.2.1 pc) M) ((S.take na).reverse.map (mjv (mjri (G.2.2.2.1 pc)))) = (P, o, r) ∧ P ∧ mjres (G.2.2.2.1 pc) cm L (S.drop na) M r o = (true, M1) ∧ nx (pc + 3) L (r.toList.map (mjv (mjui (G.2.2.2.1 pc) M.length)) ++ S.drop na) M1 (u.1 + cm, u.2 + sm) := by
  unfold mjcall at h
  obtain ⟨hb, h⟩ := mjb_inv h
  simp only [Bool.and_eq_true] at hb
  obtain ⟨⟨⟨⟨⟨⟨⟨b1, b2⟩, b3⟩, b4⟩, b5⟩, b6⟩, b7⟩, b8⟩ := hb
  refine ⟨⟨Nat.le_of_ble_eq_true b1, b2, Nat.le_of_ble_eq_true b3, mjplaces b4, Nat.le_of_ble_eq_true b5, Nat.le_of_ble_eq_true b6, Nat.le_of_ble_eq_true b7, fun hv => ?_⟩, ?_⟩
  · rw [hv] at b8
    exact b8
  · rcases hq : Sp (mjext (G.2.2.2.1 pc) M) ((S.take na).reverse.map (mjv (mjri (G.2.2.2.1 pc)))) with ⟨P, o, r⟩
    rw [hq] at h
    obtain ⟨hP, h⟩ := h
    rcases hm : mjres (G.2.2.2.1 pc) cm L (S.drop na) M r o with ⟨ok, M1⟩
    simp only [hm] at h
    obtain ⟨hok, h⟩ := mjb_inv h
    subst hok
    exact ⟨P, o, r, M1, rfl, hP, hm, h⟩
theorem mjcallee_P {D : va_G} {tc : Nat → ClassId} {ad : Nat → Nat} {e : List Nat} {M : mjM} {H : Heap} (he : e.length ≤ 4000) (hl : ∀ a ∈ e, a < M.length) (hP : va_P D vwCl (mjw tc ad M) H) : va_P D vwCl (mjw tc (fun j => ad (mjui e M.length j)) (mjext e M)) H := by
  intro k q hq
  cases hj : e[k]? with
  | none =>
    have h2 : e.length ≤ k := by simpa using hj
    rw [List.getElem?_eq_none (by rw [mjw_len, mjext_len]; exact h2)] at hq
    cases hq
  | some i =>
    rw [mjext_at he hl hj] at hq
    exact hP i q hq
theorem mjcallee_as {ad : Nat → Nat} {e : List Nat} {n : Nat} (he : e.length ≤ 4000) (as : List Value) : (as.map (mjv (mjri e))).map (mjv (fun j => ad (mjui e n j))) = as.map (mjv ad) := by
  rw [List.map_map]
  refine List.map_congr_left (fun v _ => ?_)
  show mjv _ (mjv _ v) = _
  rw [mjv_comp]
  have h5 : (fun i => ad (mjui e n (mjri e i))) = ad := by
    funext k
    rw [mjui_ri e n k he]
  rw [h5]
theorem mjone_map (f : Nat → Nat) : ∀ {l : List Value}, l.all mjone = true → (l.map (mjv f)).all mjone = true
  | [], _ => rfl
  | v :: l, h => by
    simp only [List.all_cons, Bool.and_eq_true] at h
    rw [List.map_cons, List.all_cons, Bool.and_eq_true]
    exact ⟨by cases v <;> first | rfl | exact h.1, mjone_map f h.2⟩
theorem mjall_rev {l : List Value} (h : l.all mjone = true) : l.reverse.all mjone = true := by
  rw [List.all_reverse]
  exact h
theorem mjpre_blind {D : va_G} {tc : Nat → ClassId} {ad : Nat → Nat} {sz : Nat} {M : mjM} {as : List Value} : FrameBlind (mjPc D tc ad sz M as) := fun a U g mk q => ⟨q.1, q.2.1, q.2.2.1, mjK.same (u := U) (U := U.calling g mk a) rfl q.2.2.2.1, q.2.2.2.2⟩
section MJS
variable {p : Program} {l : Launch} {e : Env} {R : Room} {s : State} {m : MethodId} {args : Array Value} {below : List Frame} {meth : Method} {c : Code} {Q : State → Prop} {D : va_G} {tc : Nat → ClassId} {ad0 : Nat → Nat} {n0 mc ms nL : Nat} {A : Nat → Prop} {H0 : Heap}
theorem mjpre_of {ad : Nat → Nat} {M : mjM} {e0 : List Nat} {as : List Value} {H : Heap} {A : Nat → Prop} (hK : mjK D tc s) (he : e0.length ≤ 4000) (hpl : (∀ a ∈ e0, a < M.length) ∧ e0.Nodup) (hP : va_P D vwCl (mjw tc ad M) H) (hD : va_D A (mjw tc ad M)) :
    ∀ U : State, U.heap = H → s.WarmedH U.vm → mjPc D tc (fun j => ad (mjui e0 M.length j)) H.size (mjext e0 M) (as.map (mjv (mjri e0))) (as.map (mjv ad)).toArray U := by
  intro U hU hW
  refine ⟨by rw [mjcallee_as he], by rw [hU], by rw [hU]; exact mjcallee_P he hpl.1 hP, hK.warm hW, ?_⟩
  exact (hD.sub e0 (mjnd_va hpl.2) (mjext_sub he hpl.1)).weaken (fun _ _ _ _ => trivial)
/-- the semantic predicate behind a step -/
abbrev mjNx (p : Program) (l : Launch) (e : Env) (R : Room) (s : State) (m : MethodId) (args : Array Value) (below : List Frame) (meth : Method) (c : Code) (Q : State → Prop) (D : va_G) (tc : Nat → ClassId) (ad0 : Nat → Nat) (n0 mc ms : Nat) (A : Nat → Prop) (H0 : Heap) (nL : Nat) (nx : Nat → mjL → List Value → mjM → Nat × Nat → Prop) : Prop :=
  ∀ pc L S M u, nx pc L S M u → mjT p l e R s m args below meth c Q D tc ad0 n0 mc ms A H0 nL pc L S M u
theorem mjcallV {G : mjG} {nx : Nat → mjL → List Value → mjM → Nat × Nat → Prop} {cc : ByteArray} {own : String} {i vc na cm sm : Nat} {Sp : mjSp} {pc : Nat} {L : mjL} {S : List Value} {M : mjM} {u : Nat × Nat}
    (hx : p.tables.exec = Jvm.exec) (hb : c.code = cc) (hml : c.maxLocals = nL) (hown : s.vm.findClass own = some m.cls) (hts : ∀ w ∈ mjW, w.before args s = true) (hK : mjK D tc s) (hA : ∀ q, H0.size ≤ q → A q) (hR : mc ≤ R.cells ∧ ms ≤ R.slots) (hmc : G.2.2.2.2.2.2.2.2.1 = mc) (hms : G.2.2.2.2.2.2.2.2.2.1 = ms)
    (hnx : mjNx p l e R s m args below meth c Q D tc ad0 n0 mc ms A H0 nL nx) (hq : mjcallOK l R own (i, 0, vc, na, cm, sm, Sp)) (hd : decode cc pc = .ok (.invokevirtual i, 3)) (h : mjcall G nx true (0, vc, na, cm, sm, Sp) pc L S M u) : mjT p l e R s m args below meth c Q D tc ad0 n0 mc ms A H0 nL pc L S M u := by
  intro ad H locs ls hag hmz hn0 hM4 hu hL hP hD hS
  obtain ⟨⟨b1, b2, b3, b4, b5, b6, b7, b8⟩, P, o, r, M1, hsp, hPp, hres, hgo⟩ := mjcall_inv h
  obtain ⟨y, cc', maxL', ret', rm', hM, ⟨rfl, rfl⟩, hRm, hna, hna1, ⟨hy, hcode, hini⟩, hlk, hinst, hsel, hvc⟩ := hq
  have h8 := b8 rfl
  -- the receiver
  cases has : (S.take na).reverse with
  | nil => rw [has] at h8; cases h8
  | cons v as' =>
    rw [has] at h8
    cases v with
    | ref b =>
      cases hmb : M[b]? with
      | none => simp only [mjrecv, hmb] at h8; cases h8
      | some x =>
        cases x with
        | inl z => simp only [mjrecv, hmb] at h8; cases h8
        | inr z =>
          obtain ⟨ci, fs⟩ := z
          simp only [mjrecv, hmb] at h8
          have hci := Nat.eq_of_beq_eq_true h8
          subst hci
          have hstk : S = (as'.reverse ++ [.ref b]) ++ S.drop na := by
            have h1 : S.take na = as'.reverse ++ [.ref b] := by
              have := congrArg List.reverse has
              simpa using this
            rw [← h1, List.take_append_drop]
          have hlen : (S.take na).reverse.length = na := by simp; omega
          have hlen2 : as'.length = na - 1 := by
            rw [has] at hlen
            simp at hlen
            omega
          have hmet := hM D tc (fun j => ad (mjui (G.2.2.2.1 pc) M.length j)) H.size (mjext (G.2.2.2.1 pc) M) ((S.take na).reverse.map (mjv (mjri (G.2.2.2.1 pc)))) (by rw [mjext_len]; exact b5) (mjone_map _ (mjall_rev b2)) (by rw [List.length_map, hlen]; exact hna) (by rw [hsp]; exact hPp)
          rw [hsp] at hmet
          have hpre := mjpre_of (as := (S.take na).reverse) hK b5 b4 hP hD
          obtain ⟨qc, hqc, hqn⟩ : ∃ qc, vwCl[ci]? = some qc ∧ qc.1 = y.cls := by
            cases hz : vwCl[ci]? with
            | none => rw [hz] at hvc; cases hvc
            | some qc => rw [hz] at hvc; exact ⟨qc, rfl, Option.some.inj hvc⟩
          have hrec := va_recv hK.1 hP hqc (mjw_at (tc := tc) (ad := ad) hmb)
          rw [hqn] at hrec
          have hgood : GoodIn mjW (wsV own i y.cls y (.code y cc' maxL' ret' :: mjW)) := mjgood_l (by
            intro w hw
            simp only [List.mem_cons, List.not_mem_nil, or_false] at hw
            rcases hw with rfl | rfl | rfl | rfl
            · exact hlk
            · exact hinst
            · exact hsel
            · exact hini) (mjgood_ws hcode)
          have hrun := va_runV (As := as'.map (mjv ad)) (rest := (S.drop na).map (mjv ad)) (g := F0 m pc ls (S.map (mjv ad))) (cells := u.1) (slots := u.2) (locs := locs) (H := H) (below := below) (e := e) (meth := meth) ⟨hx, hb, hml, hown, hts⟩ hmet (cwV (na - 1) hts hgood rfl rfl rfl ⟨rfl, hy⟩ hRm) ⟨mjpre_blind, hrec, fun U hU hW => by
              have := hpre U hU hW
              rw [has] at this ⊢
              exact this⟩ rfl (by rw [List.length_map, hlen2]) (hL.2.1) (by
              show S.map (mjv ad) = _
              conv => lhs; rw [hstk]
              simp [mjv]) (lv_room (by rw [mjcat_sum]; exact b3)) hd ⟨by omega, by omega⟩
          exact mj_behind hrun hA b5 b4 hres (fun z => by omega) hag hn0 hM4 hL hP hD hS (fun ad1 H1 locs1 k1 k2 k3 k4 k5 k6 k7 k8 => hnx _ _ _ _ _ hgo ad1 H1 locs1 ls k1 (fun z => (k2 z).trans (hmz z)) k3 k4 ⟨by rw [← hmc]; exact b6, by rw [← hms]; exact b7⟩ k5 k6 k7 k8)
    | _ => cases h8
theorem mjcallS {G : mjG} {nx : Nat → mjL → List Value → mjM → Nat × Nat → Prop} {cc : ByteArray} {own : String} {i vc na cm sm : Nat} {Sp : mjSp} {pc : Nat} {L : mjL} {S : List Value} {M : mjM} {u : Nat × Nat}
    (hx : p.tables.exec = Jvm.exec) (hb : c.code = cc) (hml : c.maxLocals = nL) (hown : s.vm.findClass own = some m.cls) (hts : ∀ w ∈ mjW, w.before args s = true) (hK : mjK D tc s) (hA : ∀ q, H0.size ≤ q → A q) (hR : mc ≤ R.cells ∧ ms ≤ R.slots) (hmc : G.2.2.2.2.2.2.2.2.1 = mc) (hms : G.2.2.2.2.2.2.2.2.2.1 = ms)
    (hnx : mjNx p l e R s m args below meth c Q D tc ad0 n0 mc ms A H0 nL nx) (hq : mjcallOK l R own (i, 1, vc, na, cm, sm, Sp)) (hd : decode cc pc = .ok (.invokestatic i, 3)) (h : mjcall G nx false (1, vc, na, cm, sm, Sp) pc L S M u) : mjT p l e R s m args below meth c Q D tc ad0 n0 mc ms A H0 nL pc L S M u := by
  intro ad H locs ls hag hmz hn0 hM4 hu hL hP hD hS
  obtain ⟨⟨b1, b2, b3, b4, b5, b6, b7, -⟩, P, o, r, M1, hsp, hPp, hres, hgo⟩ := mjcall_inv h
  obtain ⟨y, cc', maxL', ret', rm', hM, ⟨rfl, rfl⟩, hRm, hna, ⟨hy, hcode, hini⟩, hlk, hst⟩ := hq
  have hlen : (S.take na).reverse.length = na := by simp; omega
  have hmet := hM D tc (fun j => ad (mjui (G.2.2.2.1 pc) M.length j)) H.size (mjext (G.2.2.2.1 pc) M) ((S.take na).reverse.map (mjv (mjri (G.2.2.2.1 pc)))) (by rw [mjext_len]; exact b5) (mjone_map _ (mjall_rev b2)) (by rw [List.length_map, hlen]; exact hna) (by rw [hsp]; exact hPp)
  rw [hsp] at hmet
  have hpre := mjpre_of (as := (S.take na).reverse) hK b5 b4 hP hD
  have hgood : GoodIn mjW (va_wsS own i y (.code y cc' maxL' ret' :: mjW)) := mjgood_l (by
    intro w hw
    simp only [List.mem_cons, List.not_mem_nil, or_false] at hw
    rcases hw with rfl | rfl | rfl
    · exact hlk
    · exact hst
    · exact hini) (mjgood_ws hcode)
  have hrun := va_runS (As := (S.take na).reverse.map (mjv ad)) (rest := (S.drop na).map (mjv ad)) (g := F0 m pc ls (S.map (mjv ad))) (cells := u.1) (slots := u.2) (locs := locs) (H := H) (below := below) (e := e) (meth := meth) ⟨hx, hb, hml, hown, hts⟩ hmet (va_cwS na hts hgood rfl rfl rfl hy hRm) ⟨mjpre_blind, hpre⟩ rfl (by rw [List.length_map, hlen]) (hL.2.1) (by
      show S.map (mjv ad) = _
      rw [← List.map_reverse, List.reverse_reverse, ← List.map_append, List.take_append_drop]) (lv_room (by rw [mjcat_sum]; exact b3)) hd ⟨by omega, by omega⟩
  exact mj_behind hrun hA b5 b4 hres (fun z => by omega) hag hn0 hM4 hL hP hD hS (fun ad1 H1 locs1 k1 k2 k3 k4 k5 k6 k7 k8 => hnx _ _ _ _ _ hgo ad1 H1 locs1 ls k1 (fun z => (k2 z).trans (hmz z)) k3 k4 ⟨by rw [← hmc]; exact b6, by rw [← hms]; exact b7⟩ k5 k6 k7 k8)
/-- the arguments of a constructor: the object first -/
theorem mjargs_ref {S : List Value} {na : Nat} (h1 : na ≤ S.length) (h2 : 1 ≤ na) {M : mjM} {vc : Nat} (h3 : mjrecv M vc (S.take na).reverse = true) : ∃ b as', (S.take na).reverse = .ref b :: as' ∧ as'.length = na - 1 ∧ S = (as'.reverse ++ [.ref b]) ++ S.drop na := by
  cases has : (S.take na).reverse with
  | nil => rw [has] at h3; cases h3
  | cons v as' =>
    rw [has] at h3
    have hlen : (S.take na).reverse.length = na := by simp; omega
    rw [has] at hlen
    have h4 : S.take na = as'.reverse ++ [v] := by
      have := congrArg List.reverse has
      simpa using this
    cases v with
    | ref b => exact ⟨b, as', rfl, by simp at hlen; omega, by rw [← h4, List.take_append_drop]⟩
    | _ => cases h3
theorem mjcallI {G : mjG} {nx : Nat → mjL → List Value → mjM → Nat × Nat → Prop} {cc : ByteArray} {own : String} {i vc na cm sm : Nat} {Sp : mjSp} {pc : Nat} {L : mjL} {S : List Value} {M : mjM} {u : Nat × Nat}
    (hx : p.tables.exec = Jvm.exec) (hb : c.code = cc) (hml : c.maxLocals = nL) (hown : s.vm.findClass own = some m.cls) (hts : ∀ w ∈ mjW, w.before args s = true) (hK : mjK D tc s) (hA : ∀ q, H0.size ≤ q → A q) (hR : mc ≤ R.cells ∧ ms ≤ R.slots) (hmc : G.2.2.2.2.2.2.2.2.1 = mc) (hms : G.2.2.2.2.2.2.2.2.2.1 = ms)
    (hnx : mjNx p l e R s m args below meth c Q D tc ad0 n0 mc ms A H0 nL nx) (hq : mjcallOK l R own (i, 2, vc, na, cm, sm, Sp)) (hd : decode cc pc = .ok (.invokespecial i, 3)) (h : mjcall G nx true (2, vc, na, cm, sm, Sp) pc L S M u) : mjT p l e R s m args below meth c Q D tc ad0 n0 mc ms A H0 nL pc L S M u := by
  intro ad H locs ls hag hmz hn0 hM4 hu hL hP hD hS
  obtain ⟨⟨b1, b2, b3, b4, b5, b6, b7, b8⟩, P, o, r, M1, hsp, hPp, hres, hgo⟩ := mjcall_inv h
  obtain ⟨y, cc', maxL', rm', hM, ⟨rfl, rfl⟩, hRm, hna, hna1, ⟨hy, hcode, hini⟩, hlk, hinst, hnm⟩ := hq
  obtain ⟨b, as', has, hlen2, hstk⟩ := mjargs_ref b1 hna1 (b8 rfl)
  have hlen : (S.take na).reverse.length = na := by simp; omega
  have hmet := hM D tc (fun j => ad (mjui (G.2.2.2.1 pc) M.length j)) H.size (mjext (G.2.2.2.1 pc) M) ((S.take na).reverse.map (mjv (mjri (G.2.2.2.1 pc)))) (by rw [mjext_len]; exact b5) (mjone_map _ (mjall_rev b2)) (by rw [List.length_map, hlen]; exact hna) (by rw [hsp]; exact hPp)
  rw [hsp] at hmet
  have hpre := mjpre_of (as := (S.take na).reverse) hK b5 b4 hP hD
  have hrun := va_runI (b := ad b) (As := as'.map (mjv ad)) (rest := (S.drop na).map (mjv ad)) (g := F0 m pc ls (S.map (mjv ad))) (cells := u.1) (slots := u.2) (locs := locs) (H := H) (below := below) (e := e) (meth := meth) ⟨hx, hb, hml, hown, hts⟩ hmet (cwI (na - 1) hts (mjgood_ws hcode) rfl rfl rfl (hts _ hini) (hts _ hlk) (hts _ hinst) hnm hy hRm) ⟨mjpre_blind, fun U hU hW => by
      have := hpre U hU hW
      rw [has] at this ⊢
      exact this⟩ rfl (by rw [List.length_map, hlen2]) (hL.2.1) (by
      show S.map (mjv ad) = _
      conv => lhs; rw [hstk]
      simp [mjv]) (lv_room (by rw [mjcat_sum]; exact b3)) hd ⟨by omega, by omega⟩
  exact mj_behind hrun hA b5 b4 hres (fun z => by omega) hag hn0 hM4 hL hP hD hS (fun ad1 H1 locs1 k1 k2 k3 k4 k5 k6 k7 k8 => hnx _ _ _ _ _ hgo ad1 H1 locs1 ls k1 (fun z => (k2 z).trans (hmz z)) k3 k4 ⟨by rw [← hmc]; exact b6, by rw [← hms]; exact b7⟩ k5 k6 k7 k8)
theorem mjcallIN {G : mjG} {nx : Nat → mjL → List Value → mjM → Nat × Nat → Prop} {cc : ByteArray} {own : String} {i vc na cm sm : Nat} {Sp : mjSp} {pc : Nat} {L : mjL} {S : List Value} {M : mjM} {u : Nat × Nat}
    (hx : p.tables.exec = Jvm.exec) (hb : c.code = cc) (hml : c.maxLocals = nL) (hown : s.vm.findClass own = some m.cls) (hts : ∀ w ∈ mjW, w.before args s = true) (hK : mjK D tc s) (hA : ∀ q, H0.size ≤ q → A q) (hR : mc ≤ R.cells ∧ ms ≤ R.slots) (hmc : G.2.2.2.2.2.2.2.2.1 = mc) (hms : G.2.2.2.2.2.2.2.2.2.1 = ms)
    (hnx : mjNx p l e R s m args below meth c Q D tc ad0 n0 mc ms A H0 nL nx) (hq : mjcallOK l R own (i, 5, vc, na, cm, sm, Sp)) (hd : decode cc pc = .ok (.invokespecial i, 3)) (h : mjcall G nx true (5, vc, na, cm, sm, Sp) pc L S M u) : mjT p l e R s m args below meth c Q D tc ad0 n0 mc ms A H0 nL pc L S M u := by
  intro ad H locs ls hag hmz hn0 hM4 hu hL hP hD hS
  obtain ⟨⟨b1, b2, b3, b4, b5, b6, b7, b8⟩, P, o, r, M1, hsp, hPp, hres, hgo⟩ := mjcall_inv h
  obtain ⟨y, cc', maxL', rm', hM, ⟨rfl, rfl⟩, hRm, hna, hna1, ⟨hy, hcode, hini⟩, hlk, hinst, hnm⟩ := hq
  obtain ⟨b, as', has, hlen2, hstk⟩ := mjargs_ref b1 hna1 (b8 rfl)
  have hlen : (S.take na).reverse.length = na := by simp; omega
  have hmet := hM D tc (fun j => ad (mjui (G.2.2.2.1 pc) M.length j)) H.size (mjext (G.2.2.2.1 pc) M) ((S.take na).reverse.map (mjv (mjri (G.2.2.2.1 pc)))) (by rw [mjext_len]; exact b5) (mjone_map _ (mjall_rev b2)) (by rw [List.length_map, hlen]; exact hna) (by rw [hsp]; exact hPp)
  rw [hsp] at hmet
  have hpre := mjpre_of (as := (S.take na).reverse) hK b5 b4 hP hD
  have hrun := va_runIN (b := ad b) (As := as'.map (mjv ad)) (rest := (S.drop na).map (mjv ad)) (g := F0 m pc ls (S.map (mjv ad))) (cells := u.1) (slots := u.2) (locs := locs) (H := H) (below := below) (e := e) (meth := meth) ⟨hx, hb, hml, hown, hts⟩ hmet ⟨va_cnB (na - 1) hts (mjgood_ws hcode) rfl rfl rfl (hK.2.1 _ hlk) (hts _ hini) hy hRm, hnm, hts _ hinst⟩ ⟨mjpre_blind, fun U hU hW => by
      have := hpre U hU hW
      rw [has] at this ⊢
      exact this⟩ rfl (by rw [List.length_map, hlen2]) (hL.2.1) (by
      show S.map (mjv ad) = _
      conv => lhs; rw [hstk]
      simp [mjv]) (lv_room (by rw [mjcat_sum]; exact b3)) hd ⟨by omega, by omega⟩
  exact mj_behind hrun hA b5 b4 hres (fun z => by omega) hag hn0 hM4 hL hP hD hS (fun ad1 H1 locs1 k1 k2 k3 k4 k5 k6 k7 k8 => hnx _ _ _ _ _ hgo ad1 H1 locs1 ls k1 (fun z => (k2 z).trans (hmz z)) k3 k4 ⟨by rw [← hmc]; exact b6, by rw [← hms]; exact b7⟩ k5 k6 k7 k8)
end MJS
end
section
/-! mj: every step -/
section MJS
variable {p : Program} {l : Launch} {e : Env} {R : Room} {s : State} {m : MethodId} {args : Array Value} {below : List Frame} {meth : Method} {c : Code} {Q : State → Prop} {D : va_G} {tc : Nat → ClassId} {ad0 : Nat → Nat} {n0 mc ms nL : Nat} {A : Nat → Prop} {H0 : Heap}
/-- what is known of a method's tables -/
def mjG_ok (l : Launch) (R : Room) (cc : ByteArray) (own : String) (G : mjG) (meth : Method) (nL : Nat) : Prop :=
  (∀ pc row, G.1 pc = some row → mjrow G.2.2.2.2.1 cc pc row = true) ∧ (∀ i ci k tk, G.2.1 i = some (ci, k, tk) → mjfldOK own i ci k tk) ∧ (∀ q ∈ G.2.2.1, mjcallOK l R own q) ∧ (∀ i ci fs, G.2.2.2.2.2.1 i = some (ci, fs) → mjnewOK own i ci fs) ∧ (∀ i x, G.2.2.2.2.2.2.1 i = some x → Cond.constantDouble own i x ∈ mjW) ∧ (G.2.2.2.2.2.2.2.2.1 ≤ R.cells ∧ G.2.2.2.2.2.2.2.2.2.1 ≤ R.slots) ∧ (G.2.2.2.2.2.2.2.2.2.2 = true → meth.name = "<init>") ∧ (0 < G.2.2.2.2.2.2.2.2.1 → Cond.arrayClass .int ∈ mjW ∧ Cond.arrayClass .char ∈ mjW ∧ ∀ pc i, G.1 pc = some i → ∀ k, i.1 = .anewarray k → Cond.classLink own k RX4 ∈ mjW)
/-- the ends of a method -/
def mjRet (p : Program) (l : Launch) (e : Env) (R : Room) (s : State) (m : MethodId) (args : Array Value) (below : List Frame) (meth : Method) (c : Code) (Q : State → Prop) (D : va_G) (tc : Nat → ClassId) (ad0 : Nat → Nat) (n0 mc ms : Nat) (A : Nat → Prop) (H0 : Heap) (cc : ByteArray) (rt : Option FieldType) (rp : Instr → Bool) (Rr : mjM → Option Value → Nat × Nat → Prop) : Prop :=
  ∀ (M : mjM) (o : Option Value) (u : Nat × Nat) (ad : Nat → Nat) (H : Heap) (locs : List Loc) (ls : Array Slot) (pc : Nat) (ins : Instr), Rr M o u → (∀ i, (i < n0 ∨ 4000 < i) → ad i = ad0 i) → (mc = 0 → ad = ad0) → (u.1 ≤ mc ∧ u.2 ≤ ms) → va_P D vwCl (mjw tc ad M) H → va_D A (mjw tc ad M) → va_S A H0 H locs → decode cc pc = .ok (ins, 1) → rp ins = true →
    ((∃ x ty, ins = .ireturn ∧ o = some (.int x) ∧ rt = some ty ∧ narrow ty (.int x) = .int x) ∨ (∃ x, ins = .dreturn ∧ o = some (.double x)) ∨ (ins = .areturn ∧ ((∃ x, o = some (.ref x)) ∨ o = some .null)) ∨ (ins = .return_ ∧ o = none)) →
    W p l e R s m args below meth c H locs u.1 u.2 Q (F0 m pc ls ((o.map (mjv ad)).toList))
theorem mjfree_new {ad : Nat → Nat} {M : mjM} {q : Nat} {x : va_E} {tc : Nat → ClassId} (hM : M.all (mjqc (mjPf M.length)) = true) (hn : M.length < 4000) (hx : mje tc (va_up ad M.length q) x = mje tc ad x) : mjw tc (va_up ad M.length q) (M ++ [x]) = mjw tc ad M ++ [(q, mje tc ad x)] := by
  rw [mjw_app, mjw_congr tc (fun i hi => mjup_pf (ad := ad) (q := q) hn i hi) hM, hx]
  simp [va_up]
set_option maxHeartbeats 4000000 in
theorem mjs_sound {G : mjG} {Z : Option (Nat × (Nat → Int32))} {Rr : mjM → Option Value → Nat × Nat → Prop} {nx : Nat → mjL → List Value → mjM → Nat × Nat → Prop} {cc : ByteArray} {own : String} {ins : Instr} {len t pc : Nat} {v : Int32} {L : mjL} {S : List Value} {M : mjM} {u : Nat × Nat} {rp : Instr → Bool}
    (hx : p.tables.exec = Jvm.exec) (hb : c.code = cc) (hml : c.maxLocals = nL) (hown : s.vm.findClass own = some m.cls) (hts : ∀ w ∈ mjW, w.before args s = true) (hK : mjK D tc s) (hA : ∀ q, H0.size ≤ q → A q) (hmc : G.2.2.2.2.2.2.2.2.1 = mc) (hms : G.2.2.2.2.2.2.2.2.2.1 = ms)
    (hG : mjG_ok l R cc own G meth nL) (hZ : ∀ n f, Z = some (n, f) → ∃ b, ad0 4095 = b ∧ va_X b n f s H0 ∧ b < H0.size ∧ ¬ A b) (hRet : mjRet p l e R s m args below meth c Q D tc ad0 n0 mc ms A H0 cc G.2.2.2.2.2.2.2.1 rp Rr) (hrp : ∀ pc row, G.1 pc = some row → rp row.1 = true)
    (hnx : mjNx p l e R s m args below meth c Q D tc ad0 n0 mc ms A H0 nL nx) (hrow : mjrow G.2.2.2.2.1 cc pc (ins, len, v, t) = true) (hi : G.1 pc = some (ins, len, v, t)) (h : mjs G Z Rr nx ins v t pc L S M u) : mjT p l e R s m args below meth c Q D tc ad0 n0 mc ms A H0 nL pc L S M u := by
  obtain ⟨-, hfld, hcalls, hnew, hcon, hR, hini, harr⟩ := hG
  have hRm : mc ≤ R.cells ∧ ms ≤ R.slots := ⟨by rw [← hmc]; exact hR.1, by rw [← hms]; exact hR.2⟩
  cases ins with
  | invokevirtual i =>
    have hd : decode cc pc = .ok (.invokevirtual i, 3) := mjr1 hrow
    obtain ⟨⟨k, vc, na, cm, sm, Sp⟩, hf, h⟩ := mjo_inv h
    obtain ⟨hk, h⟩ := mjb_inv h
    have hk := Nat.eq_of_beq_eq_true hk
    subst hk
    exact mjcallV hx hb hml hown hts hK hA hRm hmc hms hnx (hcalls _ (mjfind_mem hf)) hd h
  | invokestatic i =>
    have hd : decode cc pc = .ok (.invokestatic i, 3) := mjr1 hrow
    obtain ⟨⟨k, vc, na, cm, sm, Sp⟩, hf, h⟩ := mjo_inv h
    have hq := hcalls _ (mjfind_mem hf)
    match k, h, hq with
    | 1, h, hq => exact mjcallS hx hb hml hown hts hK hA hRm hmc hms hnx hq hd h
    | 4, h, hq =>
      intro ad H locs ls hag hmz hn0 hM4 hu hL hP hD hS
      obtain ⟨n, dp, a1, sp, a0, S', rfl, h⟩ := mjiriri_inv h
      obtain ⟨n0', f, hm0, h⟩ := mjA_inv h
      obtain ⟨n1, g, hm1, h⟩ := mjA_inv h
      obtain ⟨⟨c1, c2, c3, c4, c5⟩, h⟩ := h
      obtain ⟨hc8, h⟩ := mjb_inv h
      have hc8 := Nat.le_of_ble_eq_true hc8
      obtain ⟨q1, q2, q3, q4, q5, q6⟩ := hq
      refine va_copyi hx hb (by rw [hml]; exact hL.2.1.symm) hown (hts _ q1) (hts _ q2) (hts _ q3) (hts _ q4) hK.1 hP hD hS a0 a1 0 0 (mjw_at hm0) (mjw_at hm1) rfl rfl rfl c1 c2 c3 c4 c5 (fun _ _ => rfl) q5 (by rw [mjcat_sum]; omega) hd (fun H1 locs1 hP1 hD1 hS1 => ?_)
      refine hnx _ _ _ _ _ h ad H1 locs1 ls hag hmz (by rw [List.length_set]; exact hn0) (by rw [List.length_set]; exact hM4) hu hL ?_ ?_ hS1
      · rw [mjw_set]; exact hP1
      · rw [mjw_set]; exact hD1
    | 0, h, _ => exact h.elim
    | 2, h, _ => exact h.elim
    | 3, h, _ => exact h.elim
    | k + 5, h, _ => exact h.elim
  | invokespecial i =>
    have hd : decode cc pc = .ok (.invokespecial i, 3) := mjr1 hrow
    obtain ⟨⟨k, vc, na, cm, sm, Sp⟩, hf, h⟩ := mjo_inv h
    have hq := hcalls _ (mjfind_mem hf)
    match k, h, hq with
    | 2, h, hq => exact mjcallI hx hb hml hown hts hK hA hRm hmc hms hnx hq hd h
    | 5, h, hq => exact mjcallIN hx hb hml hown hts hK hA hRm hmc hms hnx hq hd h
    | 3, h, hq =>
      intro ad H locs ls hag hmz hn0 hM4 hu hL hP hD hS
      obtain ⟨a, S', rfl, h⟩ := mjr_inv h
      obtain ⟨hc8, h⟩ := mjb_inv h
      have hc8 := Nat.le_of_ble_eq_true hc8
      obtain ⟨q1, q2, q3, q4, q5⟩ := hq
      have hz : (F0 m pc ls (Value.ref (ad a) :: S'.map (mjv ad))).monitorRoom = 0 := rfl
      refine W.objInit hx hb hown (hts _ q1) (hts _ q2) (hts _ q3) rfl (by rw [hml]; exact hL.2.1) rfl hd q4 (by
        rw [mjcat_sum]
        have : 2 * (F0 m pc ls (List.map (mjv ad) (Value.ref a :: S'))).monitorRoom = 0 := by rfl
        omega) ?_
      exact hnx _ _ _ _ _ h ad H locs ls hag hmz hn0 hM4 hu hL hP hD hS
    | 0, h, _ => exact h.elim
    | 1, h, _ => exact h.elim
    | 4, h, _ => exact h.elim
    | k + 6, h, _ => exact h.elim
  | iconst n =>
    intro ad H locs ls hag hmz hn0 hM4 hu hL hP hD hS
    obtain ⟨hd, hv⟩ : decode cc pc = .ok (.iconst n, 1) ∧ _ := mjr2 hrow
    exact lv_iconst hx hb hd hv (hnx _ _ _ _ _ h ad H locs ls hag hmz hn0 hM4 hu hL hP hD hS)
  | bipush n =>
    intro ad H locs ls hag hmz hn0 hM4 hu hL hP hD hS
    obtain ⟨hd, hv⟩ : decode cc pc = .ok (.bipush n, 2) ∧ _ := mjr2 hrow
    exact lv_bipush hx hb hd hv (hnx _ _ _ _ _ h ad H locs ls hag hmz hn0 hM4 hu hL hP hD hS)
  | sipush n =>
    intro ad H locs ls hag hmz hn0 hM4 hu hL hP hD hS
    obtain ⟨hd, hv⟩ : decode cc pc = .ok (.sipush n, 3) ∧ _ := mjr2 hrow
    exact lv_sipush hx hb hd hv (hnx _ _ _ _ _ h ad H locs ls hag hmz hn0 hM4 hu hL hP hD hS)
  | iload i =>
    intro ad H locs ls hag hmz hn0 hM4 hu hL hP hD hS
    have hd : decode cc pc = .ok (.iload i, 2) := mjr1 hrow
    obtain ⟨x, S', e1, h⟩ := mji_inv h
    exact lv_iload hx hb hd (mjlv_get hL (mjtol e1)) (hnx _ _ _ _ _ h ad H locs ls hag hmz hn0 hM4 hu hL hP hD hS)
  | iload_n i =>
    intro ad H locs ls hag hmz hn0 hM4 hu hL hP hD hS
    have hd : decode cc pc = .ok (.iload_n i, 1) := mjr1 hrow
    obtain ⟨x, S', e1, h⟩ := mji_inv h
    exact lv_iload_n hx hb hd rfl (mjlv_get hL (mjtol e1)) (hnx _ _ _ _ _ h ad H locs ls hag hmz hn0 hM4 hu hL hP hD hS)
  | dload i =>
    intro ad H locs ls hag hmz hn0 hM4 hu hL hP hD hS
    have hd : decode cc pc = .ok (.dload i, 2) := mjr1 hrow
    obtain ⟨x, S', e1, h⟩ := mjd_inv h
    exact lv_dload hx hb hd (mjlv_get hL (mjtol e1)) (hnx _ _ _ _ _ h ad H locs ls hag hmz hn0 hM4 hu hL hP hD hS)
  | dload_n i =>
    intro ad H locs ls hag hmz hn0 hM4 hu hL hP hD hS
    have hd : decode cc pc = .ok (.dload_n i, 1) := mjr1 hrow
    obtain ⟨x, S', e1, h⟩ := mjd_inv h
    exact lv_dload_n hx hb hd rfl (mjlv_get hL (mjtol e1)) (hnx _ _ _ _ _ h ad H locs ls hag hmz hn0 hM4 hu hL hP hD hS)
  | aload i =>
    intro ad H locs ls hag hmz hn0 hM4 hu hL hP hD hS
    have hd : decode cc pc = .ok (.aload i, 2) := mjr1 hrow
    have h0 : mjrn (mjlg L i).toList (fun x _ _ => nx (pc + 2) L (x :: S) M u) := h
    rcases mjrn_inv h0 with ⟨x, S', e1, h⟩ | ⟨S', e1, h⟩
    · exact lv_aload hx hb hd (mjlv_get hL (mjtol e1)) (hnx _ _ _ _ _ h ad H locs ls hag hmz hn0 hM4 hu hL hP hD hS)
    · exact lv_aloadN hx hb hd (mjlv_get hL (mjtol e1)) (hnx _ _ _ _ _ h ad H locs ls hag hmz hn0 hM4 hu hL hP hD hS)
  | aload_n i =>
    intro ad H locs ls hag hmz hn0 hM4 hu hL hP hD hS
    have hd : decode cc pc = .ok (.aload_n i, 1) := mjr1 hrow
    have h0 : mjrn (mjlg L i.val).toList (fun x _ _ => nx (pc + 1) L (x :: S) M u) := h
    rcases mjrn_inv h0 with ⟨x, S', e1, h⟩ | ⟨S', e1, h⟩
    · exact lv_aload_n hx hb hd rfl (mjlv_get hL (mjtol e1)) (hnx _ _ _ _ _ h ad H locs ls hag hmz hn0 hM4 hu hL hP hD hS)
    · exact lv_aload_nN hx hb hd rfl (mjlv_get hL (mjtol e1)) (hnx _ _ _ _ _ h ad H locs ls hag hmz hn0 hM4 hu hL hP hD hS)
  | istore i =>
    intro ad H locs ls hag hmz hn0 hM4 hu hL hP hD hS
    have hd : decode cc pc = .ok (.istore i, 2) := mjr1 hrow
    obtain ⟨x, S', rfl, h⟩ := mji_inv h
    obtain ⟨hb1, h⟩ := mjb_inv h
    exact lv_istore hx hb hd hL.2 (by rw [← hL.1]; exact Nat.le_of_ble_eq_true hb1) rfl (fun ls' h' => hnx _ _ _ _ _ h ad H locs ls' hag hmz hn0 hM4 hu (mjlv_put (v := .int x) hL h') hP hD hS)
  | istore_n i =>
    intro ad H locs ls hag hmz hn0 hM4 hu hL hP hD hS
    have hd : decode cc pc = .ok (.istore_n i, 1) := mjr1 hrow
    obtain ⟨x, S', rfl, h⟩ := mji_inv h
    obtain ⟨hb1, h⟩ := mjb_inv h
    exact lv_istore_n hx hb hd rfl hL.2 (by rw [← hL.1]; exact Nat.le_of_ble_eq_true hb1) rfl (fun ls' h' => hnx _ _ _ _ _ h ad H locs ls' hag hmz hn0 hM4 hu (mjlv_put (v := .int x) hL h') hP hD hS)
  | dstore i =>
    intro ad H locs ls hag hmz hn0 hM4 hu hL hP hD hS
    have hd : decode cc pc = .ok (.dstore i, 2) := mjr1 hrow
    obtain ⟨x, S', rfl, h⟩ := mjd_inv h
    obtain ⟨hb1, h⟩ := mjb_inv h
    exact lv_dstore hx hb hd hL.2 (by rw [← hL.1]; exact Nat.le_of_ble_eq_true hb1) rfl (fun ls' h' => hnx _ _ _ _ _ h ad H locs ls' hag hmz hn0 hM4 hu (mjlv_put2 (v := .double x) hL h') hP hD hS)
  | dstore_n i =>
    intro ad H locs ls hag hmz hn0 hM4 hu hL hP hD hS
    have hd : decode cc pc = .ok (.dstore_n i, 1) := mjr1 hrow
    obtain ⟨x, S', rfl, h⟩ := mjd_inv h
    obtain ⟨hb1, h⟩ := mjb_inv h
    exact lv_dstore_n hx hb hd rfl hL.2 (by rw [← hL.1]; exact Nat.le_of_ble_eq_true hb1) rfl (fun ls' h' => hnx _ _ _ _ _ h ad H locs ls' hag hmz hn0 hM4 hu (mjlv_put2 (v := .double x) hL h') hP hD hS)
  | astore i =>
    intro ad H locs ls hag hmz hn0 hM4 hu hL hP hD hS
    have hd : decode cc pc = .ok (.astore i, 2) := mjr1 hrow
    have h0 : mjrn S (fun x _ S' => mjb (Nat.ble (i + 1) L.length) (nx (pc + 2) (mjlp L i x) S' M u)) := h
    rcases mjrn_inv h0 with ⟨x, S', rfl, h1⟩ | ⟨S', rfl, h1⟩
    · obtain ⟨hb1, h2⟩ := mjb_inv h1
      exact lv_astore hx hb hd hL.2 (by rw [← hL.1]; exact Nat.le_of_ble_eq_true hb1) rfl (fun ls' h' => hnx _ _ _ _ _ h2 ad H locs ls' hag hmz hn0 hM4 hu (mjlv_put (v := .ref x) hL h') hP hD hS)
    · obtain ⟨hb1, h2⟩ := mjb_inv h1
      exact lv_astoreN hx hb hd hL.2 (by rw [← hL.1]; exact Nat.le_of_ble_eq_true hb1) rfl (fun ls' h' => hnx _ _ _ _ _ h2 ad H locs ls' hag hmz hn0 hM4 hu (mjlv_put (v := .null) hL h') hP hD hS)
  | astore_n i =>
    intro ad H locs ls hag hmz hn0 hM4 hu hL hP hD hS
    have hd : decode cc pc = .ok (.astore_n i, 1) := mjr1 hrow
    have h0 : mjrn S (fun x _ S' => mjb (Nat.ble (i.val + 1) L.length) (nx (pc + 1) (mjlp L i.val x) S' M u)) := h
    rcases mjrn_inv h0 with ⟨x, S', rfl, h1⟩ | ⟨S', rfl, h1⟩
    · obtain ⟨hb1, h2⟩ := mjb_inv h1
      exact lv_astore_n hx hb hd rfl hL.2 (by rw [← hL.1]; exact Nat.le_of_ble_eq_true hb1) rfl (fun ls' h' => hnx _ _ _ _ _ h2 ad H locs ls' hag hmz hn0 hM4 hu (mjlv_put (v := .ref x) hL h') hP hD hS)
    · obtain ⟨hb1, h2⟩ := mjb_inv h1
      exact lv_astore_nN hx hb hd rfl hL.2 (by rw [← hL.1]; exact Nat.le_of_ble_eq_true hb1) rfl (fun ls' h' => hnx _ _ _ _ _ h2 ad H locs ls' hag hmz hn0 hM4 hu (mjlv_put (v := .null) hL h') hP hD hS)
  | iinc i n =>
    intro ad H locs ls hag hmz hn0 hM4 hu hL hP hD hS
    obtain ⟨hd, hv⟩ : decode cc pc = .ok (.iinc i n, 3) ∧ Int32.ofInt n = v := mjr2 hrow
    obtain ⟨x, S', e1, h⟩ := mji_inv h
    obtain ⟨k, hk⟩ := List.getElem?_of_mem (mjpr_mem (ad := ad).mpr ⟨.int x, mjtol e1, rfl⟩ : ((i, .int x) : Nat × Value) ∈ mjpr ad L)
    have hin : i < nL := by
      have := (List.getElem?_eq_some_iff.mp (mjlg_some.mp (mjtol e1))).1
      rw [hL.1] at this
      exact this
    exact lv_iinc hx hb hd hL.2 hk (v := x + v) (by rw [hv]) hin rfl (fun ls' h' => hnx _ _ _ _ _ h ad H locs ls' hag hmz hn0 hM4 hu (mjlv_put (v := .int (x + v)) hL h') hP hD hS)
  | iadd =>
    intro ad H locs ls hag hmz hn0 hM4 hu hL hP hD hS
    have hd : decode cc pc = .ok (.iadd, 1) := mjr1 hrow
    obtain ⟨y, x, S', rfl, h⟩ := mjii_inv h
    exact lv_iadd hx hb hd (hnx _ _ _ _ _ h ad H locs ls hag hmz hn0 hM4 hu hL hP hD hS)
  | isub =>
    intro ad H locs ls hag hmz hn0 hM4 hu hL hP hD hS
    have hd : decode cc pc = .ok (.isub, 1) := mjr1 hrow
    obtain ⟨y, x, S', rfl, h⟩ := mjii_inv h
    exact lv_isub hx hb hd (hnx _ _ _ _ _ h ad H locs ls hag hmz hn0 hM4 hu hL hP hD hS)
  | imul =>
    intro ad H locs ls hag hmz hn0 hM4 hu hL hP hD hS
    have hd : decode cc pc = .ok (.imul, 1) := mjr1 hrow
    obtain ⟨y, x, S', rfl, h⟩ := mjii_inv h
    exact lv_imul hx hb hd (hnx _ _ _ _ _ h ad H locs ls hag hmz hn0 hM4 hu hL hP hD hS)
  | iand =>
    intro ad H locs ls hag hmz hn0 hM4 hu hL hP hD hS
    have hd : decode cc pc = .ok (.iand, 1) := mjr1 hrow
    obtain ⟨y, x, S', rfl, h⟩ := mjii_inv h
    exact lv_iand hx hb hd (hnx _ _ _ _ _ h ad H locs ls hag hmz hn0 hM4 hu hL hP hD hS)
  | idiv =>
    intro ad H locs ls hag hmz hn0 hM4 hu hL hP hD hS
    have hd : decode cc pc = .ok (.idiv, 1) := mjr1 hrow
    obtain ⟨y, x, S', rfl, h⟩ := mjii_inv h
    obtain ⟨hy, h⟩ := mjb_inv h
    exact lv_idiv hx hb hd (by simpa using hy) (hnx _ _ _ _ _ h ad H locs ls hag hmz hn0 hM4 hu hL hP hD hS)
  | irem =>
    intro ad H locs ls hag hmz hn0 hM4 hu hL hP hD hS
    have hd : decode cc pc = .ok (.irem, 1) := mjr1 hrow
    obtain ⟨y, x, S', rfl, h⟩ := mjii_inv h
    obtain ⟨hy, h⟩ := mjb_inv h
    exact lv_irem hx hb hd (by simpa using hy) (hnx _ _ _ _ _ h ad H locs ls hag hmz hn0 hM4 hu hL hP hD hS)
  | ineg =>
    intro ad H locs ls hag hmz hn0 hM4 hu hL hP hD hS
    have hd : decode cc pc = .ok (.ineg, 1) := mjr1 hrow
    obtain ⟨x, S', rfl, h⟩ := mji_inv h
    exact lv_ineg hx hb hd (hnx _ _ _ _ _ h ad H locs ls hag hmz hn0 hM4 hu hL hP hD hS)
  | i2c =>
    intro ad H locs ls hag hmz hn0 hM4 hu hL hP hD hS
    have hd : decode cc pc = .ok (.i2c, 1) := mjr1 hrow
    obtain ⟨x, S', rfl, h⟩ := mji_inv h
    exact lv_i2c hx hb hd rfl (hnx _ _ _ _ _ h ad H locs ls hag hmz hn0 hM4 hu hL hP hD hS)
  | i2d =>
    intro ad H locs ls hag hmz hn0 hM4 hu hL hP hD hS
    have hd : decode cc pc = .ok (.i2d, 1) := mjr1 hrow
    obtain ⟨x, S', rfl, h⟩ := mji_inv h
    exact lv_i2d hx hb hd (hnx _ _ _ _ _ h ad H locs ls hag hmz hn0 hM4 hu hL hP hD hS)
  | dadd =>
    intro ad H locs ls hag hmz hn0 hM4 hu hL hP hD hS
    have hd : decode cc pc = .ok (.dadd, 1) := mjr1 hrow
    obtain ⟨y, x, S', rfl, h⟩ := mjdd_inv h
    exact lv_dadd hx hb hd h.1 (hnx _ _ _ _ _ h.2 ad H locs ls hag hmz hn0 hM4 hu hL hP hD hS)
  | ddiv =>
    intro ad H locs ls hag hmz hn0 hM4 hu hL hP hD hS
    have hd : decode cc pc = .ok (.ddiv, 1) := mjr1 hrow
    obtain ⟨y, x, S', rfl, h⟩ := mjdd_inv h
    exact lv_ddiv hx hb hd h.1 (hnx _ _ _ _ _ h.2 ad H locs ls hag hmz hn0 hM4 hu hL hP hD hS)
  | dcmp o =>
    intro ad H locs ls hag hmz hn0 hM4 hu hL hP hD hS
    have hd : decode cc pc = .ok (.dcmp o, 1) := mjr1 hrow
    obtain ⟨y, x, S', rfl, h⟩ := mjdd_inv h
    exact lv_dcmp hx hb hd (hnx _ _ _ _ _ h ad H locs ls hag hmz hn0 hM4 hu hL hP hD hS)
  | dconst d =>
    intro ad H locs ls hag hmz hn0 hM4 hu hL hP hD hS
    obtain ⟨hd0, h⟩ := mjb_inv h
    have hdv := Nat.eq_of_beq_eq_true hd0
    have hd : decode cc pc = .ok (.dconst 0, 1) := by
      have hd1 : decode cc pc = .ok (.dconst d, 1) := mjr1 hrow
      rw [hd1, show d = 0 from Fin.ext hdv]
    exact lv_dconst0 hx hb hd (hnx _ _ _ _ _ h ad H locs ls hag hmz hn0 hM4 hu hL hP hD hS)
  | ldc2_w i =>
    intro ad H locs ls hag hmz hn0 hM4 hu hL hP hD hS
    have hd : decode cc pc = .ok (.ldc2_w i, 3) := mjr1 hrow
    obtain ⟨x, hq, h⟩ := mjo_inv h
    exact lv_ldc2d hx hb hown (hts _ (hcon i x hq)) hd (hnx _ _ _ _ _ h ad H locs ls hag hmz hn0 hM4 hu hL hP hD hS)
  | dup =>
    intro ad H locs ls hag hmz hn0 hM4 hu hL hP hD hS
    have hd : decode cc pc = .ok (.dup, 1) := mjr1 hrow
    have h0 : mjan S (fun x S' => nx (pc + 1) L (x :: x :: S') M u) := h
    obtain ⟨x, S', rfl, hc, h1⟩ := mjan_inv h0
    exact lv_dup hx hb hd (by rw [mjv_cat]; exact hc) (hnx _ _ _ _ _ h1 ad H locs ls hag hmz hn0 hM4 hu hL hP hD hS)
  | dup2 =>
    intro ad H locs ls hag hmz hn0 hM4 hu hL hP hD hS
    have hd : decode cc pc = .ok (.dup2, 1) := mjr1 hrow
    have h0 : mji S (fun x S' => mjan S' fun y S' => nx (pc + 1) L (.int x :: y :: .int x :: y :: S') M u) := h
    obtain ⟨x, S1, rfl, h1⟩ := mji_inv h0
    obtain ⟨y, S', rfl, hc, h2⟩ := mjan_inv h1
    exact lv_dup2_11 (va := .int x) (vb := mjv ad y) hx hb hd rfl (by rw [mjv_cat]; exact hc) (hnx _ _ _ _ _ h2 ad H locs ls hag hmz hn0 hM4 hu hL hP hD hS)
  | pop =>
    intro ad H locs ls hag hmz hn0 hM4 hu hL hP hD hS
    have hd : decode cc pc = .ok (.pop, 1) := mjr1 hrow
    have h0 : mjan S (fun _ S' => nx (pc + 1) L S' M u) := h
    obtain ⟨x, S', rfl, hc, h1⟩ := mjan_inv h0
    exact lv_pop hx hb hd (by rw [mjv_cat]; exact hc) (hnx _ _ _ _ _ h1 ad H locs ls hag hmz hn0 hM4 hu hL hP hD hS)
  | aconst_null =>
    intro ad H locs ls hag hmz hn0 hM4 hu hL hP hD hS
    have hd : decode cc pc = .ok (.aconst_null, 1) := mjr1 hrow
    exact lv_null hx hb hd (hnx _ _ _ _ _ h ad H locs ls hag hmz hn0 hM4 hu hL hP hD hS)
  | goto o =>
    intro ad H locs ls hag hmz hn0 hM4 hu hL hP hD hS
    obtain ⟨hd, ht⟩ : decode cc pc = .ok (.goto o, 3) ∧ (pc : Int) + o = (t : Int) := mjr2 hrow
    exact lv_goto hx hb hd ht (hnx _ _ _ _ _ h ad H locs ls hag hmz hn0 hM4 hu hL hP hD hS)
  | ifCond o off =>
    intro ad H locs ls hag hmz hn0 hM4 hu hL hP hD hS
    obtain ⟨hd, ht⟩ : decode cc pc = .ok (.ifCond o off, 3) ∧ (pc : Int) + off = (t : Int) := mjr2 hrow
    obtain ⟨x, S', rfl, h⟩ := mji_inv h
    cases o with
    | eq => exact lv_if_eq hx hb hd ht (fun q => hnx _ _ _ _ _ (h.1 q) ad H locs ls hag hmz hn0 hM4 hu hL hP hD hS) (fun q => hnx _ _ _ _ _ (h.2 q) ad H locs ls hag hmz hn0 hM4 hu hL hP hD hS)
    | ne => exact lv_if_ne hx hb hd ht (fun q => hnx _ _ _ _ _ (h.1 q) ad H locs ls hag hmz hn0 hM4 hu hL hP hD hS) (fun q => hnx _ _ _ _ _ (h.2 q) ad H locs ls hag hmz hn0 hM4 hu hL hP hD hS)
    | lt => exact lv_if_lt hx hb hd ht (fun q => hnx _ _ _ _ _ (h.1 q) ad H locs ls hag hmz hn0 hM4 hu hL hP hD hS) (fun q => hnx _ _ _ _ _ (h.2 q) ad H locs ls hag hmz hn0 hM4 hu hL hP hD hS)
    | ge => exact lv_if_ge hx hb hd ht (fun q => hnx _ _ _ _ _ (h.1 q) ad H locs ls hag hmz hn0 hM4 hu hL hP hD hS) (fun q => hnx _ _ _ _ _ (h.2 q) ad H locs ls hag hmz hn0 hM4 hu hL hP hD hS)
    | gt => exact lv_if_gt hx hb hd ht (fun q => hnx _ _ _ _ _ (h.1 q) ad H locs ls hag hmz hn0 hM4 hu hL hP hD hS) (fun q => hnx _ _ _ _ _ (h.2 q) ad H locs ls hag hmz hn0 hM4 hu hL hP hD hS)
    | le => exact lv_if_le hx hb hd ht (fun q => hnx _ _ _ _ _ (h.1 q) ad H locs ls hag hmz hn0 hM4 hu hL hP hD hS) (fun q => hnx _ _ _ _ _ (h.2 q) ad H locs ls hag hmz hn0 hM4 hu hL hP hD hS)
  | if_icmp o off =>
    intro ad H locs ls hag hmz hn0 hM4 hu hL hP hD hS
    obtain ⟨hd, ht⟩ : decode cc pc = .ok (.if_icmp o off, 3) ∧ (pc : Int) + off = (t : Int) := mjr2 hrow
    obtain ⟨y, x, S', rfl, h⟩ := mjii_inv h
    cases o with
    | eq => exact lv_icmp_eq hx hb hd ht (fun q => hnx _ _ _ _ _ (h.1 q) ad H locs ls hag hmz hn0 hM4 hu hL hP hD hS) (fun q => hnx _ _ _ _ _ (h.2 q) ad H locs ls hag hmz hn0 hM4 hu hL hP hD hS)
    | ne => exact lv_icmp_ne hx hb hd ht (fun q => hnx _ _ _ _ _ (h.1 q) ad H locs ls hag hmz hn0 hM4 hu hL hP hD hS) (fun q => hnx _ _ _ _ _ (h.2 q) ad H locs ls hag hmz hn0 hM4 hu hL hP hD hS)
    | lt => exact lv_icmp_lt hx hb hd ht (fun q => hnx _ _ _ _ _ (h.1 q) ad H locs ls hag hmz hn0 hM4 hu hL hP hD hS) (fun q => hnx _ _ _ _ _ (h.2 q) ad H locs ls hag hmz hn0 hM4 hu hL hP hD hS)
    | ge => exact lv_icmp_ge hx hb hd ht (fun q => hnx _ _ _ _ _ (h.1 q) ad H locs ls hag hmz hn0 hM4 hu hL hP hD hS) (fun q => hnx _ _ _ _ _ (h.2 q) ad H locs ls hag hmz hn0 hM4 hu hL hP hD hS)
    | gt => exact lv_icmp_gt hx hb hd ht (fun q => hnx _ _ _ _ _ (h.1 q) ad H locs ls hag hmz hn0 hM4 hu hL hP hD hS) (fun q => hnx _ _ _ _ _ (h.2 q) ad H locs ls hag hmz hn0 hM4 hu hL hP hD hS)
    | le => exact lv_icmp_le hx hb hd ht (fun q => hnx _ _ _ _ _ (h.1 q) ad H locs ls hag hmz hn0 hM4 hu hL hP hD hS) (fun q => hnx _ _ _ _ _ (h.2 q) ad H locs ls hag hmz hn0 hM4 hu hL hP hD hS)
  | ifnull off =>
    intro ad H locs ls hag hmz hn0 hM4 hu hL hP hD hS
    obtain ⟨hd, ht⟩ : decode cc pc = .ok (.ifnull off, 3) ∧ (pc : Int) + off = (t : Int) := mjr2 hrow
    have h0 : mjrn S (fun _ b S' => nx (bif b then pc + 3 else t) L S' M u) := h
    rcases mjrn_inv h0 with ⟨x, S', rfl, h1⟩ | ⟨S', rfl, h1⟩
    · exact lv_ifnull hx hb hd (hnx _ _ _ _ _ h1 ad H locs ls hag hmz hn0 hM4 hu hL hP hD hS)
    · exact lv_ifnullN hx hb hd ht (hnx _ _ _ _ _ h1 ad H locs ls hag hmz hn0 hM4 hu hL hP hD hS)
  | ifnonnull off =>
    intro ad H locs ls hag hmz hn0 hM4 hu hL hP hD hS
    obtain ⟨hd, ht⟩ : decode cc pc = .ok (.ifnonnull off, 3) ∧ (pc : Int) + off = (t : Int) := mjr2 hrow
    have h0 : mjrn S (fun _ b S' => nx (bif b then t else pc + 3) L S' M u) := h
    rcases mjrn_inv h0 with ⟨x, S', rfl, h1⟩ | ⟨S', rfl, h1⟩
    · exact lv_ifnonnull hx hb hd ht (hnx _ _ _ _ _ h1 ad H locs ls hag hmz hn0 hM4 hu hL hP hD hS)
    · exact lv_ifnonnullN hx hb hd (hnx _ _ _ _ _ h1 ad H locs ls hag hmz hn0 hM4 hu hL hP hD hS)
  | tableswitch d lo top os =>
    intro ad H locs ls hag hmz hn0 hM4 hu hL hP hD hS
    simp only [mjrow, Bool.and_eq_true, decide_eq_true_eq] at hrow
    obtain ⟨hd, ⟨⟨ht, hlo, hhi, hsz, hsm⟩, hlen⟩, hall⟩ := hrow
    obtain ⟨x, S', rfl, h⟩ := mji_inv h
    have row : ∀ i : Nat, i < os.size → ∃ (k : Int32) (tt : Nat) (o : Int), (G.2.2.2.2.1 pc)[i]? = some (k, tt) ∧ os[i]? = some o ∧ k.toInt = lo + (i : Int) ∧ (pc : Int) + o = (tt : Int) := by
      intro i hi
      have h1 := List.all_eq_true.mp hall i (List.mem_range.mpr hi)
      split at h1
      · rename_i k tt o g1 g2
        simp only [Bool.and_eq_true, decide_eq_true_eq] at h1
        exact ⟨k, tt, o, g1, g2, h1.1, h1.2⟩
      · cases h1
    rcases mjsw_inv h with ⟨i, k, tt, g1, -, rfl, h⟩ | ⟨g1, h⟩
    · have hil : i < os.size := by rw [← hlen]; exact (List.getElem?_eq_some_iff.mp g1).1
      obtain ⟨k', tt', o, g2, g3, g4, g5⟩ := row i hil
      rw [g1] at g2
      cases g2
      exact lv_tableIn hx hb hd (by omega) (by omega) (by rw [show (x.toInt - lo).toNat = i by omega]; exact g3) g5 (hnx _ _ _ _ _ h ad H locs ls hag hmz hn0 hM4 hu hL hP hD hS)
    · refine lv_tableOut hx hb hd ?_ ht (hnx _ _ _ _ _ h ad H locs ls hag hmz hn0 hM4 hu hL hP hD hS)
      by_cases z1 : x.toInt < lo
      · exact Or.inl z1
      · by_cases z2 : top < x.toInt
        · exact Or.inr z2
        · exfalso
          obtain ⟨k, tt, o, g2, g3, g4, g5⟩ := row (x.toInt - lo).toNat (by omega)
          exact g1 _ (List.mem_of_getElem? g2) (Int32.toInt_inj.mp (by show x.toInt = k.toInt; omega))
  | lookupswitch d ps =>
    intro ad H locs ls hag hmz hn0 hM4 hu hL hP hD hS
    simp only [mjrow, Bool.and_eq_true, decide_eq_true_eq] at hrow
    obtain ⟨hd, ⟨⟨ht, hord⟩, hlen⟩, hall⟩ := hrow
    obtain ⟨x, S', rfl, h⟩ := mji_inv h
    have row : ∀ i : Nat, i < ps.toList.length → ∃ (k : Int32) (tt : Nat) (a o : Int), (G.2.2.2.2.1 pc)[i]? = some (k, tt) ∧ ps.toList[i]? = some (a, o) ∧ k.toInt = a ∧ (pc : Int) + o = (tt : Int) := by
      intro i hi
      have h1 := List.all_eq_true.mp hall i (List.mem_range.mpr hi)
      split at h1
      · rename_i k tt a o g1 g2
        simp only [Bool.and_eq_true, decide_eq_true_eq] at h1
        exact ⟨k, tt, a, o, g1, g2, h1.1, h1.2⟩
      · cases h1
    rcases mjsw_inv h with ⟨i, k, tt, g1, gb, rfl, h⟩ | ⟨g1, h⟩
    · have hil : i < ps.toList.length := by rw [← hlen]; exact (List.getElem?_eq_some_iff.mp g1).1
      obtain ⟨k', tt', a, o, g2, g3, g4, g5⟩ := row i hil
      rw [g1] at g2
      cases g2
      refine lv_lookup hx hb hd (by simpa using hord) (mjlook g3 (fun j hj q hq z => ?_) g4.symm) g5 (hnx _ _ _ _ _ h ad H locs ls hag hmz hn0 hM4 hu hL hP hD hS)
      obtain ⟨k2, t2, a2, o2, e1, e2, e3, e4⟩ := row j (by omega)
      rw [hq] at e2
      cases e2
      exact gb j hj _ e1 (Int32.toInt_inj.mp (by show x.toInt = k2.toInt; omega))
    · refine lv_lookup hx hb hd (by simpa using hord) (mjlook_none (fun q hq z => ?_)) ht (hnx _ _ _ _ _ h ad H locs ls hag hmz hn0 hM4 hu hL hP hD hS)
      obtain ⟨j, hj⟩ := List.getElem?_of_mem hq
      obtain ⟨k2, t2, a2, o2, e1, e2, e3, e4⟩ := row j (List.getElem?_eq_some_iff.mp hj).1
      rw [hj] at e2
      cases e2
      exact g1 _ (List.mem_of_getElem? e1) (Int32.toInt_inj.mp (by show x.toInt = k2.toInt; omega))
  | getfield i =>
    intro ad H locs ls hag hmz hn0 hM4 hu hL hP hD hS
    have hd : decode cc pc = .ok (.getfield i, 3) := mjr1 hrow
    obtain ⟨a, S', rfl, h⟩ := mjr_inv h
    obtain ⟨⟨ci, k, tk⟩, hq, h⟩ := mjo_inv h
    obtain ⟨fs, hm, h⟩ := mjO_inv h
    obtain ⟨w, hw, h⟩ := mjo_inv h
    obtain ⟨C, T, N, ty, hc, hk, hin, hty, hnm, hlink, -⟩ := hfld i ci k tk hq
    have hw' : (fs.map (mjv ad))[k]? = some (mjv ad w) := by rw [List.getElem?_map, hw]; rfl
    rcases hlink with hlink | ⟨host, hlink⟩
    · exact va_get (D := D) (ci := ci) hx hb hts hin hown hK.1 hP a (mjw_at hm) hc k hk (hts _ hlink) (fun _ z => z) hw' hd (hnx _ _ _ _ _ h ad H locs ls hag hmz hn0 hM4 hu hL hP hD hS)
    · exact va_getN (D := D) (ci := ci) hx hb hts hin hown hK.1 hP a (mjw_at hm) hc k hk (va_Nw.use rfl (hK.2.1 _ hlink)) (fun _ z => z) hw' hd (hnx _ _ _ _ _ h ad H locs ls hag hmz hn0 hM4 hu hL hP hD hS)
  | putfield i =>
    intro ad H locs ls hag hmz hn0 hM4 hu hL hP hD hS
    have hd : decode cc pc = .ok (.putfield i, 3) := mjr1 hrow
    obtain ⟨w, a, S', rfl, h⟩ := mjtop_inv h
    obtain ⟨⟨ci, k, tk⟩, hq, h⟩ := mjo_inv h
    obtain ⟨fs, hm, h⟩ := mjO_inv h
    obtain ⟨hkl, h⟩ := mjb_inv h
    have hkl2 : k < (fs.map (mjv ad)).length := by rw [List.length_map]; exact Nat.le_of_ble_eq_true hkl
    obtain ⟨C, T, N, ty, hc, hk, hin, hty, hnm, hlink, hkind⟩ := hfld i ci k tk hq
    have put : ∀ (x : Value), w = x → (T k).2.2.2 = false → narrow (ty k) (mjv ad x) = mjv ad x → fits (ty k) (mjv ad x) = true → nx (pc + 3) L S' (M.set a (.inr (ci, fs.set k x))) u → W p l e R s m args below meth c H locs u.1 u.2 Q (F0 m pc ls ((w :: .ref a :: S').map (mjv ad))) := by
      intro x hwx hf hnar hfit h
      subst hwx
      rcases hlink with hlink | ⟨host, hlink⟩
      · exact va_put (D := D) (ci := ci) (v := mjv ad w) hx hb hts hin ty hty hnm hown hK.1 hP hD hS a (mjw_at hm) hc k hk (hts _ hlink) (fun _ z => z) hf (hty k hk) hnar hfit hkl2 hd (fun H1 locs1 hP1 hD1 hS1 => hnx _ _ _ _ _ h ad H1 locs1 ls hag hmz (by rw [List.length_set]; exact hn0) (by rw [List.length_set]; exact hM4) hu hL (by rw [mjw_setO]; exact hP1) (by rw [mjw_setO]; exact hD1) hS1)
      · exact va_putN (D := D) (ci := ci) (v := mjv ad w) hx hb hts hin ty hty hnm hown hK.1 hP hD hS a (mjw_at hm) hc k hk (va_Nw.use rfl (hK.2.1 _ hlink)) (fun _ z => z) hf (hty k hk) hnar hfit hkl2 hd (fun H1 locs1 hP1 hD1 hS1 => hnx _ _ _ _ _ h ad H1 locs1 ls hag hmz (by rw [List.length_set]; exact hn0) (by rw [List.length_set]; exact hM4) hu hL (by rw [mjw_setO]; exact hP1) (by rw [mjw_setO]; exact hD1) hS1)
    match tk, h, hkind with
    | 0, h, hkind =>
      obtain ⟨x, S2, e1, hgo⟩ := mji_inv h
      cases e1
      exact put (.int x) rfl hkind.2 (by rw [hkind.1]; rfl) (by rw [hkind.1]; rfl) hgo
    | 1, h, hkind =>
      obtain ⟨x, S2, e1, hx01, hgo⟩ := mji_inv h
      cases e1
      exact put (.int x) rfl hkind.2 (by rw [hkind.1]; rcases hx01 with rfl | rfl <;> rfl) (by rw [hkind.1]; rcases hx01 with rfl | rfl <;> rfl) hgo
    | 2, h, hkind =>
      obtain ⟨x, S2, e1, hgo⟩ := mjr_inv h
      cases e1
      exact put (.ref x) rfl hkind.2 (by rcases hkind.1 with ⟨z, hz⟩ | ⟨z, hz⟩ <;> (rw [hz]; rfl)) (by rcases hkind.1 with ⟨z, hz⟩ | ⟨z, hz⟩ <;> (rw [hz]; rfl)) hgo
    | 3, h, hkind =>
      obtain ⟨hi3, h⟩ := mjb_inv h
      obtain ⟨x, S2, e1, hgo⟩ := mjr_inv h
      cases e1
      exact va_putF (D := D) (ci := ci) (v := mjv ad (.ref x)) hx hb hts hin ty hty hnm hown hK.1 hP hD hS a (mjw_at hm) hc k hk (hts _ hkind.2.2.2) (fun _ z => z) hkind.2.1 (hini hi3) hkind.2.2.1 (hty k hk) (by rcases hkind.1 with ⟨z, hz⟩ | ⟨z, hz⟩ <;> (rw [hz]; rfl)) (by rcases hkind.1 with ⟨z, hz⟩ | ⟨z, hz⟩ <;> (rw [hz]; rfl)) hkl2 hd (fun H1 locs1 hP1 hD1 hS1 => hnx _ _ _ _ _ hgo ad H1 locs1 ls hag hmz (by rw [List.length_set]; exact hn0) (by rw [List.length_set]; exact hM4) hu hL (by rw [mjw_setO]; exact hP1) (by rw [mjw_setO]; exact hD1) hS1)
    | k' + 4, h, _ => exact h.elim
  | arraylength =>
    intro ad H locs ls hag hmz hn0 hM4 hu hL hP hD hS
    have hd : decode cc pc = .ok (.arraylength, 1) := mjr1 hrow
    have h0 : mjr S (fun a S' => bif Nat.beq a 4095 then mjo Z fun z => nx (pc + 1) L (.int (nI z.1) :: S') M u
      else mjA 0 M[a]? fun n _ => nx (pc + 1) L (.int (nI n) :: S') M u) := h
    obtain ⟨a, S', rfl, h1⟩ := mjr_inv h0
    by_cases ha : Nat.beq a 4095 = true
    · rw [ha] at h1
      obtain ⟨⟨n, f⟩, hz, h⟩ := mjo_inv h1
      obtain ⟨b, hb1, hX, hbl, hbA⟩ := hZ n f hz
      have hab : ad a = b := by rw [Nat.eq_of_beq_eq_true ha, hag 4095 (Or.inr (by omega))]; exact hb1
      subst hab
      exact va_slen hx hb hX hbl hbA hS hd (hnx _ _ _ _ _ h ad H locs ls hag hmz hn0 hM4 hu hL hP hD hS)
    · rw [Bool.not_eq_true] at ha
      rw [ha] at h1
      obtain ⟨n, f, hm, h⟩ := mjA_inv h1
      exact va_alen hx hb hK.1 hP a 0 (mjw_at hm) rfl rfl hd (hnx _ _ _ _ _ h ad H locs ls hag hmz hn0 hM4 hu hL hP hD hS)
  | iaload =>
    intro ad H locs ls hag hmz hn0 hM4 hu hL hP hD hS
    have hd : decode cc pc = .ok (.iaload, 1) := mjr1 hrow
    have h0 : mjir S (fun i a S' => bif Nat.beq a 4095 then mjo Z fun z => mjix i z.1 fun j => nx (pc + 1) L (.int (z.2 j) :: S') M u
      else mjA 0 M[a]? fun n f => mjix i n fun j => nx (pc + 1) L (.int (f j) :: S') M u) := h
    obtain ⟨i, a, S', rfl, h1⟩ := mjir_inv h0
    by_cases ha : Nat.beq a 4095 = true
    · rw [ha] at h1
      obtain ⟨⟨n, f⟩, hz, h⟩ := mjo_inv h1
      obtain ⟨j, rfl, ⟨hj, hn31⟩, h⟩ := h
      obtain ⟨b, hb1, hX, hbl, hbA⟩ := hZ n f hz
      have hab : ad a = b := by rw [Nat.eq_of_beq_eq_true ha, hag 4095 (Or.inr (by omega))]; exact hb1
      subst hab
      refine va_sld hx hb hX hbl hbA hS (vp_in_nI hj hn31) hd ?_
      rw [nI_clamp (by omega : j < 2 ^ 31)]
      exact hnx _ _ _ _ _ h ad H locs ls hag hmz hn0 hM4 hu hL hP hD hS
    · rw [Bool.not_eq_true] at ha
      rw [ha] at h1
      obtain ⟨n, f, hm, h⟩ := mjA_inv h1
      obtain ⟨j, rfl, ⟨hj, hn31⟩, h⟩ := h
      refine va_iald hx hb hK.1 hP a 0 (mjw_at hm) rfl (vp_in_nI hj hn31) hd ?_
      rw [nI_clamp (by omega : j < 2 ^ 31)]
      exact hnx _ _ _ _ _ h ad H locs ls hag hmz hn0 hM4 hu hL hP hD hS
  | caload =>
    intro ad H locs ls hag hmz hn0 hM4 hu hL hP hD hS
    have hd : decode cc pc = .ok (.caload, 1) := mjr1 hrow
    obtain ⟨i, a, S', rfl, h⟩ := mjir_inv h
    obtain ⟨n, f, hm, h⟩ := mjA_inv h
    obtain ⟨j, rfl, ⟨hj, hn31⟩, h⟩ := h
    refine va_cald hx hb hK.1 hP a 1 (mjw_at hm) rfl (vp_in_nI hj hn31) hd ?_
    rw [nI_clamp (by omega : j < 2 ^ 31)]
    exact hnx _ _ _ _ _ h ad H locs ls hag hmz hn0 hM4 hu hL hP hD hS
  | aaload =>
    intro ad H locs ls hag hmz hn0 hM4 hu hL hP hD hS
    have hd : decode cc pc = .ok (.aaload, 1) := mjr1 hrow
    obtain ⟨i, a, S', rfl, h⟩ := mjir_inv h
    obtain ⟨n, f, hm, h⟩ := mjQ_inv h
    obtain ⟨j, rfl, ⟨hj, hn31⟩, r, hr, h⟩ := h
    refine va_aldq hx hb hK.1 hP a 2 (mjw_at hm) rfl (vp_in_nI hj hn31) hd ?_
    rw [nI_clamp (by omega : j < 2 ^ 31), show mjcut ad n f j = some (ad r) by unfold mjcut; rw [if_pos hj, hr]; rfl]
    exact hnx _ _ _ _ _ h ad H locs ls hag hmz hn0 hM4 hu hL hP hD hS
  | iastore =>
    intro ad H locs ls hag hmz hn0 hM4 hu hL hP hD hS
    have hd : decode cc pc = .ok (.iastore, 1) := mjr1 hrow
    obtain ⟨x, i, a, S', rfl, h⟩ := mjiir_inv h
    obtain ⟨n, f, hm, h⟩ := mjA_inv h
    obtain ⟨j, rfl, ⟨hj, hn31⟩, h⟩ := h
    exact va_iast hx hb hK.1 hP hD hS a 0 (mjw_at hm) rfl (vp_in_nI hj hn31) hd (fun H1 locs1 hP1 hD1 hS1 => hnx _ _ _ _ _ h ad H1 locs1 ls hag hmz (by rw [List.length_set]; exact hn0) (by rw [List.length_set]; exact hM4) hu hL (by rw [mjw_set]; rw [nI_clamp (by omega : j < 2 ^ 31)] at hP1; exact hP1) (by rw [mjw_set]; rw [nI_clamp (by omega : j < 2 ^ 31)] at hD1; exact hD1) hS1)
  | castore =>
    intro ad H locs ls hag hmz hn0 hM4 hu hL hP hD hS
    have hd : decode cc pc = .ok (.castore, 1) := mjr1 hrow
    obtain ⟨x, i, a, S', rfl, h⟩ := mjiir_inv h
    obtain ⟨n, f, hm, h⟩ := mjA_inv h
    obtain ⟨j, rfl, ⟨hj, hn31⟩, h⟩ := h
    exact va_cast hx hb hK.1 hP hD hS a 1 (mjw_at hm) rfl (vp_in_nI hj hn31) hd (fun H1 locs1 hP1 hD1 hS1 => hnx _ _ _ _ _ h ad H1 locs1 ls hag hmz (by rw [List.length_set]; exact hn0) (by rw [List.length_set]; exact hM4) hu hL (by rw [mjw_set]; rw [nI_clamp (by omega : j < 2 ^ 31)] at hP1; exact hP1) (by rw [mjw_set]; rw [nI_clamp (by omega : j < 2 ^ 31)] at hD1; exact hD1) hS1)
  | aastore =>
    intro ad H locs ls hag hmz hn0 hM4 hu hL hP hD hS
    have hd : decode cc pc = .ok (.aastore, 1) := mjr1 hrow
    obtain ⟨x, i, a, S', rfl, h⟩ := mjrir_inv h
    obtain ⟨n, f, hm, h⟩ := mjQ_inv h
    obtain ⟨fs, hmx, h⟩ := mjO_inv h
    obtain ⟨j, rfl, ⟨hj, hn31⟩, h⟩ := h
    have hcut : va_up (mjcut ad n f) j (some (ad x)) = mjcut ad n (va_up f j (some x)) := by
      funext k
      unfold mjcut va_up
      by_cases hkj : k = j
      · subst hkj
        simp [hj]
      · simp [hkj]
    have hset : mjw tc ad (M.set a (.inl (2, (n, .inr (.inr (.inr (.inr (va_up f j (some x)))))))))  = (mjw tc ad M).set a (ad a, .inl (tc 2, (n, .inr (.inr (.inr (.inr (va_up (mjcut ad n f) j (some (ad x)))))))))  := by
      rw [mjw_set, hcut]
      rfl
    refine va_astq hx hb hK.1 hP hD hS a 2 x 3 (mjw_at hm) rfl (mjw_at hmx) rfl (vp_in_nI hj hn31) hd (fun H1 locs1 hP1 hD1 hS1 => ?_)
    rw [nI_clamp (by omega : j < 2 ^ 31)] at hP1 hD1
    exact hnx _ _ _ _ _ h ad H1 locs1 ls hag hmz (by rw [List.length_set]; exact hn0) (by rw [List.length_set]; exact hM4) hu hL (by rw [hset]; exact hP1) (by rw [hset]; exact hD1) hS1
  | new i =>
    intro ad H locs ls hag hmz hn0 hM4 hu hL hP hD hS
    have hd : decode cc pc = .ok (.new i, 3) := mjr1 hrow
    obtain ⟨⟨ci, fs⟩, hq, h⟩ := mjo_inv h
    obtain ⟨hroom, h⟩ := mjb_inv h
    simp only [mjfr, Bool.and_eq_true] at hroom
    obtain ⟨⟨⟨⟨⟨hf1, hf2⟩, hf3⟩, hlen⟩, hu1⟩, hu2⟩ := hroom
    have hlen := Nat.le_of_ble_eq_true hlen
    have hu1 := Nat.le_of_ble_eq_true hu1
    have hu2 := Nat.le_of_ble_eq_true hu2
    rw [hmc] at hu1
    rw [hms] at hu2
    have hold : ∀ q i, mjPf M.length i = true → va_up ad M.length q i = ad i := fun q i hi => mjup_pf (by omega) i hi
    obtain ⟨C, T, N, ty, hc, hin, hty, q1, q2, q3, q4, q5, q6⟩ := hnew i ci fs hq
    subst q4
    refine va_new (ci := ci) (fs := fs) hx hb hts hin ty hty hown (hts _ q1) (hts _ q2) (hts _ q3) hK.1 hP hD hS hA hc q5 (by omega) (by omega) hd (fun q H1 hP1 hD1 hS1 => ?_)
    have hw := mjfree_new (ad := ad) (q := q) (x := .inr (ci, fs)) (tc := tc) hf3 (by omega) (by show Sum.inr (ci, fs.map _) = Sum.inr (ci, fs.map _); rw [mjplain_map _ q6, mjplain_map _ q6])
    have hx2 : mje tc ad (.inr (ci, fs)) = .inr (ci, fs) := by show Sum.inr (ci, fs.map _) = _; rw [mjplain_map _ q6]
    rw [hx2] at hw
    rw [← hw] at hP1 hD1
    have hst : (Value.ref q :: S.map (mjv ad)) = (Value.ref M.length :: S).map (mjv (va_up ad M.length q)) := by
      rw [List.map_cons, mjvs_congr (hold q) hf2]
      simp [mjv, va_up]
    rw [hst]
    exact hnx _ _ _ _ _ h (va_up ad M.length q) H1 locs ls (fun i hi => by rw [hold q i (mjPf_iff.mpr (by omega)), hag i hi]) (fun z => absurd z (by omega)) (by rw [List.length_append]; omega) (by rw [List.length_append]; exact hlen) ⟨hu1, hu2⟩ (mjlv_congr hL (mjql_congr (hold q) hf1)) hP1 hD1 hS1
  | newarray ty =>
    intro ad H locs ls hag hmz hn0 hM4 hu hL hP hD hS
    have hd : decode cc pc = .ok (.newarray ty, 2) := mjr1 hrow
    obtain ⟨i, S', rfl, h⟩ := mji_inv h
    cases ty with
    | int =>
      obtain ⟨j, rfl, ⟨hj, -⟩, h⟩ := h
      obtain ⟨hroom, h⟩ := mjb_inv h
      simp only [mjfr, Bool.and_eq_true] at hroom
      obtain ⟨⟨⟨⟨⟨hf1, hf2⟩, hf3⟩, hlen⟩, hu1⟩, hu2⟩ := hroom
      have hlen := Nat.le_of_ble_eq_true hlen
      have hu1 := Nat.le_of_ble_eq_true hu1
      have hu2 := Nat.le_of_ble_eq_true hu2
      rw [hmc] at hu1
      rw [hms] at hu2
      have hold : ∀ q i, mjPf M.length i = true → va_up ad M.length q i = ad i := fun q i hi => mjup_pf (by omega) i hi
      have hmcp : 0 < G.2.2.2.2.2.2.2.2.1 := by rw [hmc]; omega
      refine va_newa (ty := .int) (a0 := (j, .inl (fun _ => 0))) (N' := j) hx hb (atype := .int) (hts _ (harr hmcp).1) rfl hK.1 hP hD hS hA (fun cA => rfl) (nI_pos (by omega : j < 2 ^ 31)) (nI_clamp (by omega : j < 2 ^ 31)) (by show j * _ ≤ _; simp [componentBytes]; omega) (by omega) (by omega) hd (fun q cA H1 hK1 hP1 hD1 hS1 => ?_)
      have hcA : cA = tc 0 := by
        have g1 := (hK1.2 3 (cA, .int) rfl).2
        have g2 := (hK1.2 0 (tc 0, .int) rfl).2
        exact Option.some.inj (g1.symm.trans g2)
      subst hcA
      have hw := mjfree_new (ad := ad) (q := q) (x := .inl (0, (j, .inl (fun _ => 0)))) (tc := tc) hf3 (by omega) rfl
      have hx2 : mje tc ad (.inl (0, (j, .inl (fun _ => 0)))) = .inl (tc 0, (j, .inl (fun _ => 0))) := rfl
      rw [hx2] at hw
      rw [← hw] at hP1 hD1
      have hst : (Value.ref q :: S'.map (mjv ad)) = (Value.ref M.length :: S').map (mjv (va_up ad M.length q)) := by
        rw [List.map_cons, mjvs_congr (hold q) hf2]
        simp [mjv, va_up]
      rw [hst]
      exact hnx _ _ _ _ _ h (va_up ad M.length q) H1 locs ls (fun i hi => by rw [hold q i (mjPf_iff.mpr (by omega)), hag i hi]) (fun z => absurd z (by omega)) (by rw [List.length_append]; omega) (by rw [List.length_append]; exact hlen) ⟨hu1, hu2⟩ (mjlv_congr hL (mjql_congr (hold q) hf1)) hP1 hD1 hS1
    | char =>
      obtain ⟨j, rfl, ⟨hj, -⟩, h⟩ := h
      obtain ⟨hroom, h⟩ := mjb_inv h
      simp only [mjfr, Bool.and_eq_true] at hroom
      obtain ⟨⟨⟨⟨⟨hf1, hf2⟩, hf3⟩, hlen⟩, hu1⟩, hu2⟩ := hroom
      have hlen := Nat.le_of_ble_eq_true hlen
      have hu1 := Nat.le_of_ble_eq_true hu1
      have hu2 := Nat.le_of_ble_eq_true hu2
      rw [hmc] at hu1
      rw [hms] at hu2
      have hold : ∀ q i, mjPf M.length i = true → va_up ad M.length q i = ad i := fun q i hi => mjup_pf (by omega) i hi
      have hmcp : 0 < G.2.2.2.2.2.2.2.2.1 := by rw [hmc]; omega
      refine va_newa (ty := .char) (a0 := (j, .inl (fun _ => 0))) (N' := j) hx hb (atype := .char) (hts _ (harr hmcp).2.1) rfl hK.1 hP hD hS hA (fun cA => rfl) (nI_pos (by omega : j < 2 ^ 31)) (nI_clamp (by omega : j < 2 ^ 31)) (by show j * _ ≤ _; simp [componentBytes]; omega) (by omega) (by omega) hd (fun q cA H1 hK1 hP1 hD1 hS1 => ?_)
      have hcA : cA = tc 1 := by
        have g1 := (hK1.2 3 (cA, .char) rfl).2
        have g2 := (hK1.2 1 (tc 1, .char) rfl).2
        exact Option.some.inj (g1.symm.trans g2)
      subst hcA
      have hw := mjfree_new (ad := ad) (q := q) (x := .inl (1, (j, .inl (fun _ => 0)))) (tc := tc) hf3 (by omega) rfl
      have hx2 : mje tc ad (.inl (1, (j, .inl (fun _ => 0)))) = .inl (tc 1, (j, .inl (fun _ => 0))) := rfl
      rw [hx2] at hw
      rw [← hw] at hP1 hD1
      have hst : (Value.ref q :: S'.map (mjv ad)) = (Value.ref M.length :: S').map (mjv (va_up ad M.length q)) := by
        rw [List.map_cons, mjvs_congr (hold q) hf2]
        simp [mjv, va_up]
      rw [hst]
      exact hnx _ _ _ _ _ h (va_up ad M.length q) H1 locs ls (fun i hi => by rw [hold q i (mjPf_iff.mpr (by omega)), hag i hi]) (fun z => absurd z (by omega)) (by rw [List.length_append]; omega) (by rw [List.length_append]; exact hlen) ⟨hu1, hu2⟩ (mjlv_congr hL (mjql_congr (hold q) hf1)) hP1 hD1 hS1
    | _ => exact h.elim
  | anewarray i =>
    intro ad H locs ls hag hmz hn0 hM4 hu hL hP hD hS
    have hd : decode cc pc = .ok (.anewarray i, 3) := mjr1 hrow
    obtain ⟨n, S', rfl, h⟩ := mji_inv h
    obtain ⟨j, rfl, ⟨hj, -⟩, h⟩ := h
    obtain ⟨hroom, h⟩ := mjb_inv h
    simp only [mjfr, Bool.and_eq_true] at hroom
    obtain ⟨⟨⟨⟨⟨hf1, hf2⟩, hf3⟩, hlen⟩, hu1⟩, hu2⟩ := hroom
    have hlen := Nat.le_of_ble_eq_true hlen
    have hu1 := Nat.le_of_ble_eq_true hu1
    have hu2 := Nat.le_of_ble_eq_true hu2
    rw [hmc] at hu1
    rw [hms] at hu2
    have hold : ∀ q i, mjPf M.length i = true → va_up ad M.length q i = ad i := fun q i hi => mjup_pf (by omega) i hi
    have hmcp : 0 < G.2.2.2.2.2.2.2.2.1 := by rw [hmc]; omega
    refine va_newq (C := RX4) (N' := j) hx hb hown (hts _ ((harr hmcp).2.2 pc _ hi i rfl)) hK.2.2 hK.1 hP hD hS hA (nI_pos (by omega : j < 2 ^ 31)) (nI_clamp (by omega : j < 2 ^ 31)) (by omega) (by omega) (by omega) hd (fun q cA H1 hK1 hP1 hD1 hS1 => ?_)
    have hcA : cA = tc 2 := by
      have g1 := (hK1.2 3 (cA, .object RX4) rfl).2
      have g2 := (hK1.2 2 (tc 2, .object RX4) rfl).2
      obtain ⟨kA, comp, -, -, -, g3⟩ := g1
      obtain ⟨kA', comp', -, -, -, g4⟩ := g2
      exact Option.some.inj (g3.symm.trans g4)
    subst hcA
    have hnone : ∀ f : Nat → Nat, mje tc f (.inl (2, (j, .inr (.inr (.inr (.inr (fun _ => none))))))) = .inl (tc 2, (j, .inr (.inr (.inr (.inr (fun _ => none)))))) := by
      intro f
      have : mjcut f j (fun _ => none) = (fun _ => none) := by
        funext k
        unfold mjcut
        split <;> rfl
      show Sum.inl (tc 2, j, _) = _
      rw [this]
    have hw := mjfree_new (ad := ad) (q := q) (x := .inl (2, (j, .inr (.inr (.inr (.inr (fun _ => none))))))) (tc := tc) hf3 (by omega) (by rw [hnone, hnone])
    rw [hnone] at hw
    rw [← hw] at hP1 hD1
    have hst : (Value.ref q :: S'.map (mjv ad)) = (Value.ref M.length :: S').map (mjv (va_up ad M.length q)) := by
      rw [List.map_cons, mjvs_congr (hold q) hf2]
      simp [mjv, va_up]
    rw [hst]
    exact hnx _ _ _ _ _ h (va_up ad M.length q) H1 locs ls (fun i hi => by rw [hold q i (mjPf_iff.mpr (by omega)), hag i hi]) (fun z => absurd z (by omega)) (by rw [List.length_append]; omega) (by rw [List.length_append]; exact hlen) ⟨hu1, hu2⟩ (mjlv_congr hL (mjql_congr (hold q) hf1)) hP1 hD1 hS1
  | ireturn =>
    intro ad H locs ls hag hmz hn0 hM4 hu hL hP hD hS
    have hd : decode cc pc = .ok (.ireturn, 1) := mjr1 hrow
    have h0 : mji S (fun x S' => mjno S' (mjrf G Rr x M u)) := h
    obtain ⟨x, S', rfl, h1⟩ := mji_inv h0
    obtain ⟨rfl, h2⟩ := mjno_inv h1
    unfold mjrf at h2
    split at h2
    · rename_i hrt
      exact hRet M (some (.int x)) u ad H locs ls pc .ireturn h2 hag hmz hu hP hD hS hd (hrp pc _ hi) (Or.inl ⟨x, .int, rfl, rfl, hrt, rfl⟩)
    · rename_i ty _ hrt
      exact hRet M (some (.int x)) u ad H locs ls pc .ireturn h2.2 hag hmz hu hP hD hS hd (hrp pc _ hi) (Or.inl ⟨x, ty, rfl, rfl, hrt, h2.1⟩)
    · exact h2.elim
  | dreturn =>
    intro ad H locs ls hag hmz hn0 hM4 hu hL hP hD hS
    have hd : decode cc pc = .ok (.dreturn, 1) := mjr1 hrow
    obtain ⟨x, S', rfl, h⟩ := mjd_inv h
    obtain ⟨rfl, h⟩ := mjno_inv h
    exact hRet M (some (.double x)) u ad H locs ls pc .dreturn h hag hmz hu hP hD hS hd (hrp pc _ hi) (Or.inr (Or.inl ⟨x, rfl, rfl⟩))
  | areturn =>
    intro ad H locs ls hag hmz hn0 hM4 hu hL hP hD hS
    have hd : decode cc pc = .ok (.areturn, 1) := mjr1 hrow
    have h0 : mjrn S (fun x _ S' => mjno S' (Rr M (some x) u)) := h
    rcases mjrn_inv h0 with ⟨x, S', rfl, h1⟩ | ⟨S', rfl, h1⟩
    · obtain ⟨rfl, h2⟩ := mjno_inv h1
      exact hRet M (some (.ref x)) u ad H locs ls pc .areturn h2 hag hmz hu hP hD hS hd (hrp pc _ hi) (Or.inr (Or.inr (Or.inl ⟨rfl, Or.inl ⟨x, rfl⟩⟩)))
    · obtain ⟨rfl, h2⟩ := mjno_inv h1
      exact hRet M (some .null) u ad H locs ls pc .areturn h2 hag hmz hu hP hD hS hd (hrp pc _ hi) (Or.inr (Or.inr (Or.inl ⟨rfl, Or.inr rfl⟩)))
  | return_ =>
    intro ad H locs ls hag hmz hn0 hM4 hu hL hP hD hS
    have hd : decode cc pc = .ok (.return_, 1) := mjr1 hrow
    obtain ⟨rfl, h⟩ := mjno_inv h
    exact hRet M none u ad H locs ls pc .return_ h hag hmz hu hP hD hS hd (hrp pc _ hi) (Or.inr (Or.inr (Or.inr ⟨rfl, rfl⟩)))
  | _ => exact False.elim h
end MJS
end
section
/-! which ends a method of this type may have -/
def mjrp (ret : Option FieldType) (i : Instr) : Bool := match i with
  | .dreturn => decide (ret = some .double)
  | .areturn => (match ret with
    | some (.object _) => true
    | some (.array _) => true
    | _ => false)
  | .return_ => decide (ret = none)
  | _ => true
end
section
/-! code tables of the methods, by program (wip/whole/gen_code.py); mjrow holds each row against the bytes -/
def mjchk (I : Nat → Option mjI) (Y : Nat → List (Int32 × Nat)) (cc : ByteArray) (ret : Option FieldType) (n : Nat) : Bool := (List.range n).all (fun pc => match I pc with
  | none => true
  | some row => mjrow Y cc pc row && mjrp ret row.1)
theorem mjchk_ok {I : Nat → Option mjI} {Y : Nat → List (Int32 × Nat)} {cc : ByteArray} {ret : Option FieldType} {n : Nat} (h : mjchk I Y cc ret n = true) (hn : ∀ pc, Nat.ble n pc = true → I pc = none) : ∀ pc row, I pc = some row → mjrow Y cc pc row = true ∧ mjrp ret row.1 = true := by
  intro pc row hr
  cases hb : Nat.ble n pc with
  | true => rw [hn pc hb] at hr; cases hr
  | false =>
    have hlt : pc < n := by
      rcases Nat.lt_or_ge pc n with q | q
      · exact q
      · rw [Nat.ble_eq_true_of_le q] at hb; cases hb
    have h1 := List.all_eq_true.mp h pc (List.mem_range.mpr hlt)
    rw [hr] at h1
    simpa using h1
theorem mjhi {I : Nat → Option mjI} {J : Nat → Option mjI} {n : Nat} (hI : I = fun pc => bif Nat.ble n pc then none else J pc) : ∀ pc, Nat.ble n pc = true → I pc = none := by
  intro pc h
  rw [hI]
  show (bif Nat.ble n pc then none else J pc) = none
  rw [h]
  rfl
def Y0 : Nat → List (Int32 × Nat) := fun _ => []
def J_X0_init : Nat → Option mjI := fun pc => bif Nat.ble 1 pc then (bif Nat.ble 4 pc then (bif Nat.beq pc 4 then some (.return_, 1, 0, 0) else none) else (bif Nat.beq pc 1 then some (.invokespecial 3, 3, 0, 0) else none)) else (bif Nat.beq pc 0 then some (.aload_n 0, 1, 0, 0) else none)
def I_X0_init : Nat → Option mjI := fun pc => bif Nat.ble 5 pc then none else J_X0_init pc
set_option maxRecDepth 100000 in
theorem I_X0_init_ok : ∀ pc row, I_X0_init pc = some row → mjrow Y0 cX0_init pc row = true ∧ mjrp none row.1 = true := mjchk_ok (n := 5) (by decide +kernel) (mjhi rfl)
def J_X0_look : Nat → Option mjI := fun pc => bif Nat.ble 39 pc then (bif Nat.ble 60 pc then (bif Nat.ble 73 pc then (bif Nat.ble 80 pc then (bif Nat.ble 83 pc then (bif Nat.ble 86 pc then (bif Nat.beq pc 86 then some (.return_, 1, 0, 0) else none) else (bif Nat.beq pc 83 then some (.goto (-65), 3, 0, 18) else none)) else (bif Nat.beq pc 80 then some (.iinc 3 1, 3, 1, 0) else none)) else (bif Nat.ble 74 pc then (bif Nat.ble 77 pc then (bif Nat.beq pc 77 then some (.putfield 15, 3, 0, 0) else none) else (bif Nat.beq pc 74 then some (.getfield 15, 3, 0, 0) else none)) else (bif Nat.beq pc 73 then some (.aload_n 0, 1, 0, 0) else none))) else (bif Nat.ble 66 pc then (bif Nat.ble 69 pc then (bif Nat.ble 70 pc then (bif Nat.beq pc 70 then some (.goto 7, 3, 0, 77) else none) else (bif Nat.beq pc 69 then some (.iload_n 3, 1, 0, 0) else none)) else (bif Nat.beq pc 66 then some (.if_icmp .ne 7, 3, 0, 73) else none)) else (bif Nat.ble 61 pc then (bif Nat.ble 64 pc then (bif Nat.beq pc 64 then some (.bipush (-4), 2, (-4), 0) else none) else (bif Nat.beq pc 61 then some (.getfield 15, 3, 0, 0) else none)) else (bif Nat.beq pc 60 then some (.aload_n 0, 1, 0, 0) else none)))) else (bif Nat.ble 50 pc then (bif Nat.ble 55 pc then (bif Nat.ble 56 pc then (bif Nat.ble 59 pc then (bif Nat.beq pc 59 then some (.aload_n 0, 1, 0, 0) else none) else (bif Nat.beq pc 56 then some (.putfield 9, 3, 0, 0) else none)) else (bif Nat.beq pc 55 then some (.iadd, 1, 0, 0) else none)) else (bif Nat.ble 51 pc then (bif Nat.ble 54 pc then (bif Nat.beq pc 54 then some (.iconst 1, 1, 1, 0) else none) else (bif Nat.beq pc 51 then some (.getfield 9, 3, 0, 0) else none)) else (bif Nat.beq pc 50 then some (.dup, 1, 0, 0) else none))) else (bif Nat.ble 43 pc then (bif Nat.ble 46 pc then (bif Nat.ble 49 pc then (bif Nat.beq pc 49 then some (.aload_n 0, 1, 0, 0) else none) else (bif Nat.beq pc 46 then some (.ifCond .eq 34, 3, 0, 80) else none)) else (bif Nat.beq pc 43 then some (.invokevirtual 35, 3, 0, 0) else none)) else (bif Nat.ble 42 pc then (bif Nat.beq pc 42 then some (.aload_n 1, 1, 0, 0) else none) else (bif Nat.beq pc 39 then some (.putfield 18, 3, 0, 0) else none))))) else (bif Nat.ble 18 pc then (bif Nat.ble 27 pc then (bif Nat.ble 32 pc then (bif Nat.ble 33 pc then (bif Nat.ble 36 pc then (bif Nat.beq pc 36 then some (.invokestatic 29, 3, 0, 0) else none) else (bif Nat.beq pc 33 then some (.invokevirtual 26, 3, 0, 0) else none)) else (bif Nat.beq pc 32 then some (.aload_n 1, 1, 0, 0) else none)) else (bif Nat.ble 28 pc then (bif Nat.ble 29 pc then (bif Nat.beq pc 29 then some (.getfield 18, 3, 0, 0) else none) else (bif Nat.beq pc 28 then some (.aload_n 0, 1, 0, 0) else none)) else (bif Nat.beq pc 27 then some (.aload_n 0, 1, 0, 0) else none))) else (bif Nat.ble 20 pc then (bif Nat.ble 23 pc then (bif Nat.ble 24 pc then (bif Nat.beq pc 24 then some (.invokevirtual 21, 3, 0, 0) else none) else (bif Nat.beq pc 23 then some (.aload_n 1, 1, 0, 0) else none)) else (bif Nat.beq pc 20 then some (.if_icmp .gt 66, 3, 0, 86) else none)) else (bif Nat.ble 19 pc then (bif Nat.beq pc 19 then some (.iload_n 2, 1, 0, 0) else none) else (bif Nat.beq pc 18 then some (.iload_n 3, 1, 0, 0) else none)))) else (bif Nat.ble 8 pc then (bif Nat.ble 13 pc then (bif Nat.ble 16 pc then (bif Nat.ble 17 pc then (bif Nat.beq pc 17 then some (.istore_n 3, 1, 0, 0) else none) else (bif Nat.beq pc 16 then some (.iconst 1, 1, 1, 0) else none)) else (bif Nat.beq pc 13 then some (.putfield 18, 3, 0, 0) else none)) else (bif Nat.ble 11 pc then (bif Nat.ble 12 pc then (bif Nat.beq pc 12 then some (.iconst 0, 1, 0, 0) else none) else (bif Nat.beq pc 11 then some (.aload_n 0, 1, 0, 0) else none)) else (bif Nat.beq pc 8 then some (.putfield 15, 3, 0, 0) else none))) else (bif Nat.ble 2 pc then (bif Nat.ble 5 pc then (bif Nat.ble 6 pc then (bif Nat.beq pc 6 then some (.bipush (-4), 2, (-4), 0) else none) else (bif Nat.beq pc 5 then some (.aload_n 0, 1, 0, 0) else none)) else (bif Nat.beq pc 2 then some (.putfield 9, 3, 0, 0) else none)) else (bif Nat.ble 1 pc then (bif Nat.beq pc 1 then some (.iconst 0, 1, 0, 0) else none) else (bif Nat.beq pc 0 then some (.aload_n 0, 1, 0, 0) else none)))))
def I_X0_look : Nat → Option mjI := fun pc => bif Nat.ble 87 pc then none else J_X0_look pc
set_option maxRecDepth 100000 in
theorem I_X0_look_ok : ∀ pc row, I_X0_look pc = some row → mjrow Y0 cX0_look pc row = true ∧ mjrp none row.1 = true := mjchk_ok (n := 87) (by decide +kernel) (mjhi rfl)
def J_X1_isCell : Nat → Option mjI := fun pc => bif Nat.ble 7 pc then (bif Nat.ble 11 pc then (bif Nat.ble 14 pc then (bif Nat.ble 15 pc then (bif Nat.beq pc 15 then some (.ireturn, 1, 0, 0) else none) else (bif Nat.beq pc 14 then some (.iconst 0, 1, 0, 0) else none)) else (bif Nat.beq pc 11 then some (.goto 4, 3, 0, 15) else none)) else (bif Nat.ble 10 pc then (bif Nat.beq pc 10 then some (.iconst 1, 1, 1, 0) else none) else (bif Nat.beq pc 7 then some (.if_icmp .ge 7, 3, 0, 14) else none))) else (bif Nat.ble 4 pc then (bif Nat.ble 5 pc then (bif Nat.beq pc 5 then some (.bipush 36, 2, 36, 0) else none) else (bif Nat.beq pc 4 then some (.iload_n 0, 1, 0, 0) else none)) else (bif Nat.ble 1 pc then (bif Nat.beq pc 1 then some (.ifCond .lt 13, 3, 0, 14) else none) else (bif Nat.beq pc 0 then some (.iload_n 0, 1, 0, 0) else none)))
def I_X1_isCell : Nat → Option mjI := fun pc => bif Nat.ble 16 pc then none else J_X1_isCell pc
set_option maxRecDepth 100000 in
theorem I_X1_isCell_ok : ∀ pc row, I_X1_isCell pc = some row → mjrow Y0 cX1_isCell pc row = true ∧ mjrp (some .boolean) row.1 = true := mjchk_ok (n := 16) (by decide +kernel) (mjhi rfl)
def J_X1_isJoint : Nat → Option mjI := fun pc => bif Nat.ble 7 pc then (bif Nat.ble 11 pc then (bif Nat.ble 14 pc then (bif Nat.ble 15 pc then (bif Nat.beq pc 15 then some (.ireturn, 1, 0, 0) else none) else (bif Nat.beq pc 14 then some (.iconst 0, 1, 0, 0) else none)) else (bif Nat.beq pc 11 then some (.goto 4, 3, 0, 15) else none)) else (bif Nat.ble 10 pc then (bif Nat.beq pc 10 then some (.iconst 1, 1, 1, 0) else none) else (bif Nat.beq pc 7 then some (.if_icmp .ge 7, 3, 0, 14) else none))) else (bif Nat.ble 4 pc then (bif Nat.ble 5 pc then (bif Nat.beq pc 5 then some (.bipush 60, 2, 60, 0) else none) else (bif Nat.beq pc 4 then some (.iload_n 0, 1, 0, 0) else none)) else (bif Nat.ble 1 pc then (bif Nat.beq pc 1 then some (.ifCond .lt 13, 3, 0, 14) else none) else (bif Nat.beq pc 0 then some (.iload_n 0, 1, 0, 0) else none)))
def I_X1_isJoint : Nat → Option mjI := fun pc => bif Nat.ble 16 pc then none else J_X1_isJoint pc
set_option maxRecDepth 100000 in
theorem I_X1_isJoint_ok : ∀ pc row, I_X1_isJoint pc = some row → mjrow Y0 cX1_isJoint pc row = true ∧ mjrp (some .boolean) row.1 = true := mjchk_ok (n := 16) (by decide +kernel) (mjhi rfl)
def J_X1_firstCell : Nat → Option mjI := fun pc => bif Nat.ble 13 pc then (bif Nat.ble 17 pc then (bif Nat.ble 19 pc then (bif Nat.ble 20 pc then (bif Nat.ble 21 pc then (bif Nat.beq pc 21 then some (.ireturn, 1, 0, 0) else none) else (bif Nat.beq pc 20 then some (.iadd, 1, 0, 0) else none)) else (bif Nat.beq pc 19 then some (.irem, 1, 0, 0) else none)) else (bif Nat.ble 18 pc then (bif Nat.beq pc 18 then some (.iconst 5, 1, 5, 0) else none) else (bif Nat.beq pc 17 then some (.iload_n 0, 1, 0, 0) else none))) else (bif Nat.ble 15 pc then (bif Nat.ble 16 pc then (bif Nat.beq pc 16 then some (.imul, 1, 0, 0) else none) else (bif Nat.beq pc 15 then some (.idiv, 1, 0, 0) else none)) else (bif Nat.ble 14 pc then (bif Nat.beq pc 14 then some (.iconst 5, 1, 5, 0) else none) else (bif Nat.beq pc 13 then some (.iload_n 0, 1, 0, 0) else none)))) else (bif Nat.ble 7 pc then (bif Nat.ble 10 pc then (bif Nat.ble 11 pc then (bif Nat.beq pc 11 then some (.bipush 6, 2, 6, 0) else none) else (bif Nat.beq pc 10 then some (.ireturn, 1, 0, 0) else none)) else (bif Nat.ble 9 pc then (bif Nat.beq pc 9 then some (.isub, 1, 0, 0) else none) else (bif Nat.beq pc 7 then some (.bipush 30, 2, 30, 0) else none))) else (bif Nat.ble 3 pc then (bif Nat.ble 6 pc then (bif Nat.beq pc 6 then some (.iload_n 0, 1, 0, 0) else none) else (bif Nat.beq pc 3 then some (.if_icmp .lt 8, 3, 0, 11) else none)) else (bif Nat.ble 1 pc then (bif Nat.beq pc 1 then some (.bipush 30, 2, 30, 0) else none) else (bif Nat.beq pc 0 then some (.iload_n 0, 1, 0, 0) else none))))
def I_X1_firstCell : Nat → Option mjI := fun pc => bif Nat.ble 22 pc then none else J_X1_firstCell pc
set_option maxRecDepth 100000 in
theorem I_X1_firstCell_ok : ∀ pc row, I_X1_firstCell pc = some row → mjrow Y0 cX1_firstCell pc row = true ∧ mjrp (some .int) row.1 = true := mjchk_ok (n := 22) (by decide +kernel) (mjhi rfl)
def J_X1_secondCell : Nat → Option mjI := fun pc => bif Nat.ble 16 pc then (bif Nat.ble 21 pc then (bif Nat.ble 24 pc then (bif Nat.ble 25 pc then (bif Nat.ble 26 pc then (bif Nat.beq pc 26 then some (.ireturn, 1, 0, 0) else none) else (bif Nat.beq pc 25 then some (.iadd, 1, 0, 0) else none)) else (bif Nat.beq pc 24 then some (.iconst 1, 1, 1, 0) else none)) else (bif Nat.ble 22 pc then (bif Nat.ble 23 pc then (bif Nat.beq pc 23 then some (.iadd, 1, 0, 0) else none) else (bif Nat.beq pc 22 then some (.irem, 1, 0, 0) else none)) else (bif Nat.beq pc 21 then some (.iconst 5, 1, 5, 0) else none))) else (bif Nat.ble 18 pc then (bif Nat.ble 19 pc then (bif Nat.ble 20 pc then (bif Nat.beq pc 20 then some (.iload_n 0, 1, 0, 0) else none) else (bif Nat.beq pc 19 then some (.imul, 1, 0, 0) else none)) else (bif Nat.beq pc 18 then some (.idiv, 1, 0, 0) else none)) else (bif Nat.ble 17 pc then (bif Nat.beq pc 17 then some (.iconst 5, 1, 5, 0) else none) else (bif Nat.beq pc 16 then some (.iload_n 0, 1, 0, 0) else none)))) else (bif Nat.ble 9 pc then (bif Nat.ble 12 pc then (bif Nat.ble 13 pc then (bif Nat.ble 14 pc then (bif Nat.beq pc 14 then some (.bipush 6, 2, 6, 0) else none) else (bif Nat.beq pc 13 then some (.ireturn, 1, 0, 0) else none)) else (bif Nat.beq pc 12 then some (.iadd, 1, 0, 0) else none)) else (bif Nat.ble 10 pc then (bif Nat.beq pc 10 then some (.bipush 6, 2, 6, 0) else none) else (bif Nat.beq pc 9 then some (.isub, 1, 0, 0) else none))) else (bif Nat.ble 3 pc then (bif Nat.ble 6 pc then (bif Nat.ble 7 pc then (bif Nat.beq pc 7 then some (.bipush 30, 2, 30, 0) else none) else (bif Nat.beq pc 6 then some (.iload_n 0, 1, 0, 0) else none)) else (bif Nat.beq pc 3 then some (.if_icmp .lt 11, 3, 0, 14) else none)) else (bif Nat.ble 1 pc then (bif Nat.beq pc 1 then some (.bipush 30, 2, 30, 0) else none) else (bif Nat.beq pc 0 then some (.iload_n 0, 1, 0, 0) else none))))
def I_X1_secondCell : Nat → Option mjI := fun pc => bif Nat.ble 27 pc then none else J_X1_secondCell pc
set_option maxRecDepth 100000 in
theorem I_X1_secondCell_ok : ∀ pc row, I_X1_secondCell pc = some row → mjrow Y0 cX1_secondCell pc row = true ∧ mjrp (some .int) row.1 = true := mjchk_ok (n := 27) (by decide +kernel) (mjhi rfl)
def J_X1_otherCell : Nat → Option mjI := fun pc => bif Nat.ble 9 pc then (bif Nat.ble 15 pc then (bif Nat.ble 16 pc then (bif Nat.ble 19 pc then (bif Nat.beq pc 19 then some (.ireturn, 1, 0, 0) else none) else (bif Nat.beq pc 16 then some (.invokestatic 9, 3, 0, 0) else none)) else (bif Nat.beq pc 15 then some (.iload_n 0, 1, 0, 0) else none)) else (bif Nat.ble 12 pc then (bif Nat.beq pc 12 then some (.goto 7, 3, 0, 19) else none) else (bif Nat.beq pc 9 then some (.invokestatic 15, 3, 0, 0) else none))) else (bif Nat.ble 4 pc then (bif Nat.ble 5 pc then (bif Nat.ble 8 pc then (bif Nat.beq pc 8 then some (.iload_n 0, 1, 0, 0) else none) else (bif Nat.beq pc 5 then some (.if_icmp .ne 10, 3, 0, 15) else none)) else (bif Nat.beq pc 4 then some (.iload_n 1, 1, 0, 0) else none)) else (bif Nat.ble 1 pc then (bif Nat.beq pc 1 then some (.invokestatic 9, 3, 0, 0) else none) else (bif Nat.beq pc 0 then some (.iload_n 0, 1, 0, 0) else none)))
def I_X1_otherCell : Nat → Option mjI := fun pc => bif Nat.ble 20 pc then none else J_X1_otherCell pc
set_option maxRecDepth 100000 in
theorem I_X1_otherCell_ok : ∀ pc row, I_X1_otherCell pc = some row → mjrow Y0 cX1_otherCell pc row = true ∧ mjrp (some .int) row.1 = true := mjchk_ok (n := 20) (by decide +kernel) (mjhi rfl)
def J_X1_jointAt : Nat → Option mjI := fun pc => bif Nat.ble 58 pc then (bif Nat.ble 77 pc then (bif Nat.ble 85 pc then (bif Nat.ble 91 pc then (bif Nat.ble 95 pc then (bif Nat.ble 96 pc then (bif Nat.beq pc 96 then some (.ireturn, 1, 0, 0) else none) else (bif Nat.beq pc 95 then some (.iconst (-1), 1, (-1), 0) else none)) else (bif Nat.ble 92 pc then (bif Nat.beq pc 92 then some (.goto 4, 3, 0, 96) else none) else (bif Nat.beq pc 91 then some (.iadd, 1, 0, 0) else none))) else (bif Nat.ble 88 pc then (bif Nat.ble 90 pc then (bif Nat.beq pc 90 then some (.iload_n 0, 1, 0, 0) else none) else (bif Nat.beq pc 88 then some (.bipush 30, 2, 30, 0) else none)) else (bif Nat.beq pc 85 then some (.if_icmp .ge 10, 3, 0, 95) else none))) else (bif Nat.ble 82 pc then (bif Nat.ble 83 pc then (bif Nat.ble 84 pc then (bif Nat.beq pc 84 then some (.iconst 5, 1, 5, 0) else none) else (bif Nat.beq pc 83 then some (.iload_n 2, 1, 0, 0) else none)) else (bif Nat.beq pc 82 then some (.ireturn, 1, 0, 0) else none)) else (bif Nat.ble 78 pc then (bif Nat.ble 81 pc then (bif Nat.beq pc 81 then some (.iconst (-1), 1, (-1), 0) else none) else (bif Nat.beq pc 78 then some (.goto 4, 3, 0, 82) else none)) else (bif Nat.beq pc 77 then some (.isub, 1, 0, 0) else none)))) else (bif Nat.ble 66 pc then (bif Nat.ble 71 pc then (bif Nat.ble 74 pc then (bif Nat.ble 75 pc then (bif Nat.beq pc 75 then some (.bipush 6, 2, 6, 0) else none) else (bif Nat.beq pc 74 then some (.iadd, 1, 0, 0) else none)) else (bif Nat.ble 73 pc then (bif Nat.beq pc 73 then some (.iload_n 0, 1, 0, 0) else none) else (bif Nat.beq pc 71 then some (.bipush 30, 2, 30, 0) else none))) else (bif Nat.ble 67 pc then (bif Nat.ble 68 pc then (bif Nat.beq pc 68 then some (.ifCond .le 13, 3, 0, 81) else none) else (bif Nat.beq pc 67 then some (.iload_n 2, 1, 0, 0) else none)) else (bif Nat.beq pc 66 then some (.ireturn, 1, 0, 0) else none))) else (bif Nat.ble 61 pc then (bif Nat.ble 62 pc then (bif Nat.ble 65 pc then (bif Nat.beq pc 65 then some (.iconst (-1), 1, (-1), 0) else none) else (bif Nat.beq pc 62 then some (.goto 4, 3, 0, 66) else none)) else (bif Nat.beq pc 61 then some (.iadd, 1, 0, 0) else none)) else (bif Nat.ble 59 pc then (bif Nat.ble 60 pc then (bif Nat.beq pc 60 then some (.iload_n 3, 1, 0, 0) else none) else (bif Nat.beq pc 59 then some (.imul, 1, 0, 0) else none)) else (bif Nat.beq pc 58 then some (.iload_n 2, 1, 0, 0) else none))))) else (bif Nat.ble 41 pc then (bif Nat.ble 47 pc then (bif Nat.ble 52 pc then (bif Nat.ble 54 pc then (bif Nat.ble 57 pc then (bif Nat.beq pc 57 then some (.iconst 5, 1, 5, 0) else none) else (bif Nat.beq pc 54 then some (.if_icmp .ge 11, 3, 0, 65) else none)) else (bif Nat.ble 53 pc then (bif Nat.beq pc 53 then some (.iconst 5, 1, 5, 0) else none) else (bif Nat.beq pc 52 then some (.iload_n 3, 1, 0, 0) else none))) else (bif Nat.ble 50 pc then (bif Nat.ble 51 pc then (bif Nat.beq pc 51 then some (.ireturn, 1, 0, 0) else none) else (bif Nat.beq pc 50 then some (.iconst (-1), 1, (-1), 0) else none)) else (bif Nat.beq pc 47 then some (.goto 4, 3, 0, 51) else none))) else (bif Nat.ble 44 pc then (bif Nat.ble 45 pc then (bif Nat.ble 46 pc then (bif Nat.beq pc 46 then some (.isub, 1, 0, 0) else none) else (bif Nat.beq pc 45 then some (.iconst 1, 1, 1, 0) else none)) else (bif Nat.beq pc 44 then some (.iadd, 1, 0, 0) else none)) else (bif Nat.ble 42 pc then (bif Nat.ble 43 pc then (bif Nat.beq pc 43 then some (.iload_n 3, 1, 0, 0) else none) else (bif Nat.beq pc 42 then some (.imul, 1, 0, 0) else none)) else (bif Nat.beq pc 41 then some (.iload_n 2, 1, 0, 0) else none)))) else (bif Nat.ble 8 pc then (bif Nat.ble 11 pc then (bif Nat.ble 37 pc then (bif Nat.ble 40 pc then (bif Nat.beq pc 40 then some (.iconst 5, 1, 5, 0) else none) else (bif Nat.beq pc 37 then some (.ifCond .le 13, 3, 0, 50) else none)) else (bif Nat.ble 36 pc then (bif Nat.beq pc 36 then some (.iload_n 3, 1, 0, 0) else none) else (bif Nat.beq pc 11 then some (.tableswitch 72 0 2 #[25, 41, 56], 25, 0, 83) else none))) else (bif Nat.ble 9 pc then (bif Nat.ble 10 pc then (bif Nat.beq pc 10 then some (.iload_n 1, 1, 0, 0) else none) else (bif Nat.beq pc 9 then some (.istore_n 3, 1, 0, 0) else none)) else (bif Nat.beq pc 8 then some (.irem, 1, 0, 0) else none))) else (bif Nat.ble 4 pc then (bif Nat.ble 5 pc then (bif Nat.ble 6 pc then (bif Nat.beq pc 6 then some (.bipush 6, 2, 6, 0) else none) else (bif Nat.beq pc 5 then some (.iload_n 0, 1, 0, 0) else none)) else (bif Nat.beq pc 4 then some (.istore_n 2, 1, 0, 0) else none)) else (bif Nat.ble 1 pc then (bif Nat.ble 3 pc then (bif Nat.beq pc 3 then some (.idiv, 1, 0, 0) else none) else (bif Nat.beq pc 1 then some (.bipush 6, 2, 6, 0) else none)) else (bif Nat.beq pc 0 then some (.iload_n 0, 1, 0, 0) else none)))))
def I_X1_jointAt : Nat → Option mjI := fun pc => bif Nat.ble 97 pc then none else J_X1_jointAt pc
def Y_X1_jointAt : Nat → List (Int32 × Nat) := fun pc => bif Nat.beq pc 11 then [(0, 36), (1, 52), (2, 67)] else []
set_option maxRecDepth 100000 in
theorem I_X1_jointAt_ok : ∀ pc row, I_X1_jointAt pc = some row → mjrow Y_X1_jointAt cX1_jointAt pc row = true ∧ mjrp (some .int) row.1 = true := mjchk_ok (n := 97) (by decide +kernel) (mjhi rfl)
def J_X1_rimSides : Nat → Option mjI := fun pc => bif Nat.ble 23 pc then (bif Nat.ble 34 pc then (bif Nat.ble 41 pc then (bif Nat.ble 44 pc then (bif Nat.ble 45 pc then (bif Nat.beq pc 45 then some (.ireturn, 1, 0, 0) else none) else (bif Nat.beq pc 44 then some (.iadd, 1, 0, 0) else none)) else (bif Nat.ble 42 pc then (bif Nat.beq pc 42 then some (.iload 4, 2, 0, 0) else none) else (bif Nat.beq pc 41 then some (.iload_n 3, 1, 0, 0) else none))) else (bif Nat.ble 38 pc then (bif Nat.ble 39 pc then (bif Nat.beq pc 39 then some (.istore 4, 2, 0, 0) else none) else (bif Nat.beq pc 38 then some (.iconst 0, 1, 0, 0) else none)) else (bif Nat.ble 35 pc then (bif Nat.beq pc 35 then some (.goto 4, 3, 0, 39) else none) else (bif Nat.beq pc 34 then some (.iconst 1, 1, 1, 0) else none)))) else (bif Nat.ble 26 pc then (bif Nat.ble 30 pc then (bif Nat.ble 31 pc then (bif Nat.beq pc 31 then some (.if_icmp .ne 7, 3, 0, 38) else none) else (bif Nat.beq pc 30 then some (.iconst 5, 1, 5, 0) else none)) else (bif Nat.ble 29 pc then (bif Nat.beq pc 29 then some (.iload_n 2, 1, 0, 0) else none) else (bif Nat.beq pc 26 then some (.ifCond .eq 8, 3, 0, 34) else none))) else (bif Nat.ble 24 pc then (bif Nat.ble 25 pc then (bif Nat.beq pc 25 then some (.iload_n 2, 1, 0, 0) else none) else (bif Nat.beq pc 24 then some (.istore_n 3, 1, 0, 0) else none)) else (bif Nat.beq pc 23 then some (.iconst 0, 1, 0, 0) else none)))) else (bif Nat.ble 9 pc then (bif Nat.ble 15 pc then (bif Nat.ble 19 pc then (bif Nat.ble 20 pc then (bif Nat.beq pc 20 then some (.goto 4, 3, 0, 24) else none) else (bif Nat.beq pc 19 then some (.iconst 1, 1, 1, 0) else none)) else (bif Nat.ble 16 pc then (bif Nat.beq pc 16 then some (.if_icmp .ne 7, 3, 0, 23) else none) else (bif Nat.beq pc 15 then some (.iconst 5, 1, 5, 0) else none))) else (bif Nat.ble 11 pc then (bif Nat.ble 14 pc then (bif Nat.beq pc 14 then some (.iload_n 1, 1, 0, 0) else none) else (bif Nat.beq pc 11 then some (.ifCond .eq 8, 3, 0, 19) else none)) else (bif Nat.ble 10 pc then (bif Nat.beq pc 10 then some (.iload_n 1, 1, 0, 0) else none) else (bif Nat.beq pc 9 then some (.istore_n 2, 1, 0, 0) else none)))) else (bif Nat.ble 4 pc then (bif Nat.ble 6 pc then (bif Nat.ble 8 pc then (bif Nat.beq pc 8 then some (.irem, 1, 0, 0) else none) else (bif Nat.beq pc 6 then some (.bipush 6, 2, 6, 0) else none)) else (bif Nat.ble 5 pc then (bif Nat.beq pc 5 then some (.iload_n 0, 1, 0, 0) else none) else (bif Nat.beq pc 4 then some (.istore_n 1, 1, 0, 0) else none))) else (bif Nat.ble 1 pc then (bif Nat.ble 3 pc then (bif Nat.beq pc 3 then some (.idiv, 1, 0, 0) else none) else (bif Nat.beq pc 1 then some (.bipush 6, 2, 6, 0) else none)) else (bif Nat.beq pc 0 then some (.iload_n 0, 1, 0, 0) else none))))
def I_X1_rimSides : Nat → Option mjI := fun pc => bif Nat.ble 46 pc then none else J_X1_rimSides pc
set_option maxRecDepth 100000 in
theorem I_X1_rimSides_ok : ∀ pc row, I_X1_rimSides pc = some row → mjrow Y0 cX1_rimSides pc row = true ∧ mjrp (some .int) row.1 = true := mjchk_ok (n := 46) (by decide +kernel) (mjhi rfl)
def J_X1_touch : Nat → Option mjI := fun pc => bif Nat.ble 16 pc then (bif Nat.ble 24 pc then (bif Nat.ble 28 pc then (bif Nat.ble 31 pc then (bif Nat.ble 32 pc then (bif Nat.beq pc 32 then some (.ireturn, 1, 0, 0) else none) else (bif Nat.beq pc 31 then some (.iconst 0, 1, 0, 0) else none)) else (bif Nat.beq pc 28 then some (.goto 4, 3, 0, 32) else none)) else (bif Nat.ble 27 pc then (bif Nat.beq pc 27 then some (.iconst 1, 1, 1, 0) else none) else (bif Nat.beq pc 24 then some (.ifCond .eq 7, 3, 0, 31) else none))) else (bif Nat.ble 20 pc then (bif Nat.ble 21 pc then (bif Nat.beq pc 21 then some (.invokestatic 18, 3, 0, 0) else none) else (bif Nat.beq pc 20 then some (.iload_n 1, 1, 0, 0) else none)) else (bif Nat.ble 17 pc then (bif Nat.beq pc 17 then some (.invokestatic 15, 3, 0, 0) else none) else (bif Nat.beq pc 16 then some (.iload_n 0, 1, 0, 0) else none)))) else (bif Nat.ble 6 pc then (bif Nat.ble 10 pc then (bif Nat.ble 13 pc then (bif Nat.beq pc 13 then some (.ifCond .ne 14, 3, 0, 27) else none) else (bif Nat.beq pc 10 then some (.invokestatic 18, 3, 0, 0) else none)) else (bif Nat.ble 9 pc then (bif Nat.beq pc 9 then some (.iload_n 1, 1, 0, 0) else none) else (bif Nat.beq pc 6 then some (.invokestatic 9, 3, 0, 0) else none))) else (bif Nat.ble 2 pc then (bif Nat.ble 5 pc then (bif Nat.beq pc 5 then some (.iload_n 0, 1, 0, 0) else none) else (bif Nat.beq pc 2 then some (.if_icmp .eq 29, 3, 0, 31) else none)) else (bif Nat.ble 1 pc then (bif Nat.beq pc 1 then some (.iload_n 1, 1, 0, 0) else none) else (bif Nat.beq pc 0 then some (.iload_n 0, 1, 0, 0) else none))))
def I_X1_touch : Nat → Option mjI := fun pc => bif Nat.ble 33 pc then none else J_X1_touch pc
set_option maxRecDepth 100000 in
theorem I_X1_touch_ok : ∀ pc row, I_X1_touch pc = some row → mjrow Y0 cX1_touch pc row = true ∧ mjrp (some .boolean) row.1 = true := mjchk_ok (n := 33) (by decide +kernel) (mjhi rfl)
def J_X1_isEnd : Nat → Option mjI := fun pc => bif Nat.ble 12 pc then (bif Nat.ble 17 pc then (bif Nat.ble 20 pc then (bif Nat.ble 21 pc then (bif Nat.beq pc 21 then some (.ireturn, 1, 0, 0) else none) else (bif Nat.beq pc 20 then some (.iconst 0, 1, 0, 0) else none)) else (bif Nat.beq pc 17 then some (.goto 4, 3, 0, 21) else none)) else (bif Nat.ble 13 pc then (bif Nat.ble 16 pc then (bif Nat.beq pc 16 then some (.iconst 1, 1, 1, 0) else none) else (bif Nat.beq pc 13 then some (.if_icmp .ne 7, 3, 0, 20) else none)) else (bif Nat.beq pc 12 then some (.iload_n 0, 1, 0, 0) else none))) else (bif Nat.ble 5 pc then (bif Nat.ble 8 pc then (bif Nat.ble 9 pc then (bif Nat.beq pc 9 then some (.invokestatic 15, 3, 0, 0) else none) else (bif Nat.beq pc 8 then some (.iload_n 1, 1, 0, 0) else none)) else (bif Nat.beq pc 5 then some (.if_icmp .eq 11, 3, 0, 16) else none)) else (bif Nat.ble 1 pc then (bif Nat.ble 4 pc then (bif Nat.beq pc 4 then some (.iload_n 0, 1, 0, 0) else none) else (bif Nat.beq pc 1 then some (.invokestatic 9, 3, 0, 0) else none)) else (bif Nat.beq pc 0 then some (.iload_n 1, 1, 0, 0) else none)))
def I_X1_isEnd : Nat → Option mjI := fun pc => bif Nat.ble 22 pc then none else J_X1_isEnd pc
set_option maxRecDepth 100000 in
theorem I_X1_isEnd_ok : ∀ pc row, I_X1_isEnd pc = some row → mjrow Y0 cX1_isEnd pc row = true ∧ mjrp (some .boolean) row.1 = true := mjchk_ok (n := 22) (by decide +kernel) (mjhi rfl)
def J_X2_init : Nat → Option mjI := fun pc => bif Nat.ble 20 pc then (bif Nat.ble 32 pc then (bif Nat.ble 37 pc then (bif Nat.ble 40 pc then (bif Nat.ble 43 pc then (bif Nat.beq pc 43 then some (.return_, 1, 0, 0) else none) else (bif Nat.beq pc 40 then some (.goto (-21), 3, 0, 19) else none)) else (bif Nat.beq pc 37 then some (.iinc 1 1, 3, 1, 0) else none)) else (bif Nat.ble 33 pc then (bif Nat.ble 36 pc then (bif Nat.beq pc 36 then some (.aastore, 1, 0, 0) else none) else (bif Nat.beq pc 33 then some (.invokespecial 21, 3, 0, 0) else none)) else (bif Nat.beq pc 32 then some (.dup, 1, 0, 0) else none))) else (bif Nat.ble 25 pc then (bif Nat.ble 28 pc then (bif Nat.ble 29 pc then (bif Nat.beq pc 29 then some (.new 9, 3, 0, 0) else none) else (bif Nat.beq pc 28 then some (.iload_n 1, 1, 0, 0) else none)) else (bif Nat.beq pc 25 then some (.getfield 11, 3, 0, 0) else none)) else (bif Nat.ble 21 pc then (bif Nat.ble 24 pc then (bif Nat.beq pc 24 then some (.aload_n 0, 1, 0, 0) else none) else (bif Nat.beq pc 21 then some (.if_icmp .ge 22, 3, 0, 43) else none)) else (bif Nat.beq pc 20 then some (.iconst 4, 1, 4, 0) else none)))) else (bif Nat.ble 12 pc then (bif Nat.ble 17 pc then (bif Nat.ble 18 pc then (bif Nat.ble 19 pc then (bif Nat.beq pc 19 then some (.iload_n 1, 1, 0, 0) else none) else (bif Nat.beq pc 18 then some (.istore_n 1, 1, 0, 0) else none)) else (bif Nat.beq pc 17 then some (.iconst 0, 1, 0, 0) else none)) else (bif Nat.ble 13 pc then (bif Nat.ble 14 pc then (bif Nat.beq pc 14 then some (.putfield 17, 3, 0, 0) else none) else (bif Nat.beq pc 13 then some (.iconst 0, 1, 0, 0) else none)) else (bif Nat.beq pc 12 then some (.aload_n 0, 1, 0, 0) else none))) else (bif Nat.ble 5 pc then (bif Nat.ble 6 pc then (bif Nat.ble 9 pc then (bif Nat.beq pc 9 then some (.putfield 11, 3, 0, 0) else none) else (bif Nat.beq pc 6 then some (.anewarray 9, 3, 0, 0) else none)) else (bif Nat.beq pc 5 then some (.iconst 4, 1, 4, 0) else none)) else (bif Nat.ble 1 pc then (bif Nat.ble 4 pc then (bif Nat.beq pc 4 then some (.aload_n 0, 1, 0, 0) else none) else (bif Nat.beq pc 1 then some (.invokespecial 3, 3, 0, 0) else none)) else (bif Nat.beq pc 0 then some (.aload_n 0, 1, 0, 0) else none))))
def I_X2_init : Nat → Option mjI := fun pc => bif Nat.ble 44 pc then none else J_X2_init pc
set_option maxRecDepth 100000 in
theorem I_X2_init_ok : ∀ pc row, I_X2_init pc = some row → mjrow Y0 cX2_init pc row = true ∧ mjrp none row.1 = true := mjchk_ok (n := 44) (by decide +kernel) (mjhi rfl)
def J_X2_record : Nat → Option mjI := fun pc => bif Nat.ble 21 pc then (bif Nat.ble 31 pc then (bif Nat.ble 36 pc then (bif Nat.ble 37 pc then (bif Nat.ble 40 pc then (bif Nat.beq pc 40 then some (.return_, 1, 0, 0) else none) else (bif Nat.beq pc 37 then some (.putfield 17, 3, 0, 0) else none)) else (bif Nat.beq pc 36 then some (.iadd, 1, 0, 0) else none)) else (bif Nat.ble 32 pc then (bif Nat.ble 35 pc then (bif Nat.beq pc 35 then some (.iconst 1, 1, 1, 0) else none) else (bif Nat.beq pc 32 then some (.getfield 17, 3, 0, 0) else none)) else (bif Nat.beq pc 31 then some (.dup, 1, 0, 0) else none))) else (bif Nat.ble 26 pc then (bif Nat.ble 27 pc then (bif Nat.ble 30 pc then (bif Nat.beq pc 30 then some (.aload_n 0, 1, 0, 0) else none) else (bif Nat.beq pc 27 then some (.invokevirtual 29, 3, 0, 0) else none)) else (bif Nat.beq pc 26 then some (.aload_n 1, 1, 0, 0) else none)) else (bif Nat.ble 22 pc then (bif Nat.ble 25 pc then (bif Nat.beq pc 25 then some (.aload_n 2, 1, 0, 0) else none) else (bif Nat.beq pc 22 then some (.ifnull 18, 3, 0, 40) else none)) else (bif Nat.beq pc 21 then some (.aload_n 2, 1, 0, 0) else none)))) else (bif Nat.ble 9 pc then (bif Nat.ble 14 pc then (bif Nat.ble 17 pc then (bif Nat.ble 20 pc then (bif Nat.beq pc 20 then some (.astore_n 2, 1, 0, 0) else none) else (bif Nat.beq pc 17 then some (.invokevirtual 25, 3, 0, 0) else none)) else (bif Nat.beq pc 14 then some (.getfield 17, 3, 0, 0) else none)) else (bif Nat.ble 12 pc then (bif Nat.ble 13 pc then (bif Nat.beq pc 13 then some (.aload_n 0, 1, 0, 0) else none) else (bif Nat.beq pc 12 then some (.aload_n 0, 1, 0, 0) else none)) else (bif Nat.beq pc 9 then some (.invokevirtual 22, 3, 0, 0) else none))) else (bif Nat.ble 4 pc then (bif Nat.ble 5 pc then (bif Nat.ble 8 pc then (bif Nat.beq pc 8 then some (.aload_n 0, 1, 0, 0) else none) else (bif Nat.beq pc 5 then some (.if_icmp .lt 7, 3, 0, 12) else none)) else (bif Nat.beq pc 4 then some (.iconst 4, 1, 4, 0) else none)) else (bif Nat.ble 1 pc then (bif Nat.beq pc 1 then some (.getfield 17, 3, 0, 0) else none) else (bif Nat.beq pc 0 then some (.aload_n 0, 1, 0, 0) else none))))
def I_X2_record : Nat → Option mjI := fun pc => bif Nat.ble 41 pc then none else J_X2_record pc
set_option maxRecDepth 100000 in
theorem I_X2_record_ok : ∀ pc row, I_X2_record pc = some row → mjrow Y0 cX2_record pc row = true ∧ mjrp none row.1 = true := mjchk_ok (n := 41) (by decide +kernel) (mjhi rfl)
def J_X2_takeBack : Nat → Option mjI := fun pc => bif Nat.ble 17 pc then (bif Nat.ble 24 pc then (bif Nat.ble 29 pc then (bif Nat.ble 32 pc then (bif Nat.ble 33 pc then (bif Nat.beq pc 33 then some (.ireturn, 1, 0, 0) else none) else (bif Nat.beq pc 32 then some (.iconst 1, 1, 1, 0) else none)) else (bif Nat.beq pc 29 then some (.putfield 17, 3, 0, 0) else none)) else (bif Nat.ble 27 pc then (bif Nat.ble 28 pc then (bif Nat.beq pc 28 then some (.isub, 1, 0, 0) else none) else (bif Nat.beq pc 27 then some (.iconst 1, 1, 1, 0) else none)) else (bif Nat.beq pc 24 then some (.getfield 17, 3, 0, 0) else none))) else (bif Nat.ble 19 pc then (bif Nat.ble 22 pc then (bif Nat.ble 23 pc then (bif Nat.beq pc 23 then some (.dup, 1, 0, 0) else none) else (bif Nat.beq pc 22 then some (.aload_n 0, 1, 0, 0) else none)) else (bif Nat.beq pc 19 then some (.invokevirtual 29, 3, 0, 0) else none)) else (bif Nat.ble 18 pc then (bif Nat.beq pc 18 then some (.aload_n 2, 1, 0, 0) else none) else (bif Nat.beq pc 17 then some (.aload_n 1, 1, 0, 0) else none)))) else (bif Nat.ble 7 pc then (bif Nat.ble 12 pc then (bif Nat.ble 15 pc then (bif Nat.ble 16 pc then (bif Nat.beq pc 16 then some (.ireturn, 1, 0, 0) else none) else (bif Nat.beq pc 15 then some (.iconst 0, 1, 0, 0) else none)) else (bif Nat.beq pc 12 then some (.ifnonnull 5, 3, 0, 17) else none)) else (bif Nat.ble 10 pc then (bif Nat.ble 11 pc then (bif Nat.beq pc 11 then some (.aload_n 2, 1, 0, 0) else none) else (bif Nat.beq pc 10 then some (.astore_n 2, 1, 0, 0) else none)) else (bif Nat.beq pc 7 then some (.invokevirtual 25, 3, 0, 0) else none))) else (bif Nat.ble 2 pc then (bif Nat.ble 5 pc then (bif Nat.ble 6 pc then (bif Nat.beq pc 6 then some (.isub, 1, 0, 0) else none) else (bif Nat.beq pc 5 then some (.iconst 1, 1, 1, 0) else none)) else (bif Nat.beq pc 2 then some (.getfield 17, 3, 0, 0) else none)) else (bif Nat.ble 1 pc then (bif Nat.beq pc 1 then some (.aload_n 0, 1, 0, 0) else none) else (bif Nat.beq pc 0 then some (.aload_n 0, 1, 0, 0) else none))))
def I_X2_takeBack : Nat → Option mjI := fun pc => bif Nat.ble 34 pc then none else J_X2_takeBack pc
set_option maxRecDepth 100000 in
theorem I_X2_takeBack_ok : ∀ pc row, I_X2_takeBack pc = some row → mjrow Y0 cX2_takeBack pc row = true ∧ mjrp (some .boolean) row.1 = true := mjchk_ok (n := 34) (by decide +kernel) (mjhi rfl)
def J_X2_stateAt : Nat → Option mjI := fun pc => bif Nat.ble 10 pc then (bif Nat.ble 15 pc then (bif Nat.ble 18 pc then (bif Nat.ble 19 pc then (bif Nat.beq pc 19 then some (.areturn, 1, 0, 0) else none) else (bif Nat.beq pc 18 then some (.aconst_null, 1, 0, 0) else none)) else (bif Nat.beq pc 15 then some (.goto 4, 3, 0, 19) else none)) else (bif Nat.ble 13 pc then (bif Nat.ble 14 pc then (bif Nat.beq pc 14 then some (.aaload, 1, 0, 0) else none) else (bif Nat.beq pc 13 then some (.iload_n 1, 1, 0, 0) else none)) else (bif Nat.beq pc 10 then some (.getfield 11, 3, 0, 0) else none))) else (bif Nat.ble 5 pc then (bif Nat.ble 6 pc then (bif Nat.ble 9 pc then (bif Nat.beq pc 9 then some (.aload_n 0, 1, 0, 0) else none) else (bif Nat.beq pc 6 then some (.if_icmp .ge 12, 3, 0, 18) else none)) else (bif Nat.beq pc 5 then some (.iconst 4, 1, 4, 0) else none)) else (bif Nat.ble 1 pc then (bif Nat.ble 4 pc then (bif Nat.beq pc 4 then some (.iload_n 1, 1, 0, 0) else none) else (bif Nat.beq pc 1 then some (.ifCond .lt 17, 3, 0, 18) else none)) else (bif Nat.beq pc 0 then some (.iload_n 1, 1, 0, 0) else none)))
def I_X2_stateAt : Nat → Option mjI := fun pc => bif Nat.ble 20 pc then none else J_X2_stateAt pc
set_option maxRecDepth 100000 in
theorem I_X2_stateAt_ok : ∀ pc row, I_X2_stateAt pc = some row → mjrow Y0 cX2_stateAt pc row = true ∧ mjrp (some (.object "ColdPanes$Pane")) row.1 = true := mjchk_ok (n := 20) (by decide +kernel) (mjhi rfl)
def J_X2_dropOldest : Nat → Option mjI := fun pc => bif Nat.ble 21 pc then (bif Nat.ble 35 pc then (bif Nat.ble 41 pc then (bif Nat.ble 43 pc then (bif Nat.ble 46 pc then (bif Nat.beq pc 46 then some (.return_, 1, 0, 0) else none) else (bif Nat.beq pc 43 then some (.putfield 17, 3, 0, 0) else none)) else (bif Nat.ble 42 pc then (bif Nat.beq pc 42 then some (.iconst 3, 1, 3, 0) else none) else (bif Nat.beq pc 41 then some (.aload_n 0, 1, 0, 0) else none))) else (bif Nat.ble 39 pc then (bif Nat.ble 40 pc then (bif Nat.beq pc 40 then some (.aastore, 1, 0, 0) else none) else (bif Nat.beq pc 39 then some (.aload_n 1, 1, 0, 0) else none)) else (bif Nat.ble 38 pc then (bif Nat.beq pc 38 then some (.iconst 3, 1, 3, 0) else none) else (bif Nat.beq pc 35 then some (.getfield 11, 3, 0, 0) else none)))) else (bif Nat.ble 27 pc then (bif Nat.ble 31 pc then (bif Nat.ble 34 pc then (bif Nat.beq pc 34 then some (.aload_n 0, 1, 0, 0) else none) else (bif Nat.beq pc 31 then some (.goto (-22), 3, 0, 9) else none)) else (bif Nat.ble 28 pc then (bif Nat.beq pc 28 then some (.iinc 2 1, 3, 1, 0) else none) else (bif Nat.beq pc 27 then some (.aastore, 1, 0, 0) else none))) else (bif Nat.ble 25 pc then (bif Nat.ble 26 pc then (bif Nat.beq pc 26 then some (.aaload, 1, 0, 0) else none) else (bif Nat.beq pc 25 then some (.iload_n 2, 1, 0, 0) else none)) else (bif Nat.ble 22 pc then (bif Nat.beq pc 22 then some (.getfield 11, 3, 0, 0) else none) else (bif Nat.beq pc 21 then some (.aload_n 0, 1, 0, 0) else none))))) else (bif Nat.ble 9 pc then (bif Nat.ble 15 pc then (bif Nat.ble 19 pc then (bif Nat.ble 20 pc then (bif Nat.beq pc 20 then some (.isub, 1, 0, 0) else none) else (bif Nat.beq pc 19 then some (.iconst 1, 1, 1, 0) else none)) else (bif Nat.ble 18 pc then (bif Nat.beq pc 18 then some (.iload_n 2, 1, 0, 0) else none) else (bif Nat.beq pc 15 then some (.getfield 11, 3, 0, 0) else none))) else (bif Nat.ble 11 pc then (bif Nat.ble 14 pc then (bif Nat.beq pc 14 then some (.aload_n 0, 1, 0, 0) else none) else (bif Nat.beq pc 11 then some (.if_icmp .ge 23, 3, 0, 34) else none)) else (bif Nat.ble 10 pc then (bif Nat.beq pc 10 then some (.iconst 4, 1, 4, 0) else none) else (bif Nat.beq pc 9 then some (.iload_n 2, 1, 0, 0) else none)))) else (bif Nat.ble 5 pc then (bif Nat.ble 7 pc then (bif Nat.ble 8 pc then (bif Nat.beq pc 8 then some (.istore_n 2, 1, 0, 0) else none) else (bif Nat.beq pc 7 then some (.iconst 1, 1, 1, 0) else none)) else (bif Nat.ble 6 pc then (bif Nat.beq pc 6 then some (.astore_n 1, 1, 0, 0) else none) else (bif Nat.beq pc 5 then some (.aaload, 1, 0, 0) else none))) else (bif Nat.ble 1 pc then (bif Nat.ble 4 pc then (bif Nat.beq pc 4 then some (.iconst 0, 1, 0, 0) else none) else (bif Nat.beq pc 1 then some (.getfield 11, 3, 0, 0) else none)) else (bif Nat.beq pc 0 then some (.aload_n 0, 1, 0, 0) else none))))
def I_X2_dropOldest : Nat → Option mjI := fun pc => bif Nat.ble 47 pc then none else J_X2_dropOldest pc
set_option maxRecDepth 100000 in
theorem I_X2_dropOldest_ok : ∀ pc row, I_X2_dropOldest pc = some row → mjrow Y0 cX2_dropOldest pc row = true ∧ mjrp none row.1 = true := mjchk_ok (n := 47) (by decide +kernel) (mjhi rfl)
def J_X3_init : Nat → Option mjI := fun pc => bif Nat.ble 28 pc then (bif Nat.ble 43 pc then (bif Nat.ble 51 pc then (bif Nat.ble 53 pc then (bif Nat.ble 56 pc then (bif Nat.beq pc 56 then some (.return_, 1, 0, 0) else none) else (bif Nat.beq pc 53 then some (.putfield 35, 3, 0, 0) else none)) else (bif Nat.ble 52 pc then (bif Nat.beq pc 52 then some (.iconst (-1), 1, (-1), 0) else none) else (bif Nat.beq pc 51 then some (.aload_n 0, 1, 0, 0) else none))) else (bif Nat.ble 47 pc then (bif Nat.ble 48 pc then (bif Nat.beq pc 48 then some (.putfield 32, 3, 0, 0) else none) else (bif Nat.beq pc 47 then some (.iconst 0, 1, 0, 0) else none)) else (bif Nat.ble 46 pc then (bif Nat.beq pc 46 then some (.aload_n 0, 1, 0, 0) else none) else (bif Nat.beq pc 43 then some (.putfield 29, 3, 0, 0) else none)))) else (bif Nat.ble 36 pc then (bif Nat.ble 41 pc then (bif Nat.ble 42 pc then (bif Nat.beq pc 42 then some (.iconst 0, 1, 0, 0) else none) else (bif Nat.beq pc 41 then some (.aload_n 0, 1, 0, 0) else none)) else (bif Nat.ble 38 pc then (bif Nat.beq pc 38 then some (.putfield 26, 3, 0, 0) else none) else (bif Nat.beq pc 36 then some (.newarray .int, 2, 0, 0) else none))) else (bif Nat.ble 33 pc then (bif Nat.ble 34 pc then (bif Nat.beq pc 34 then some (.bipush 20, 2, 20, 0) else none) else (bif Nat.beq pc 33 then some (.aload_n 0, 1, 0, 0) else none)) else (bif Nat.ble 30 pc then (bif Nat.beq pc 30 then some (.putfield 23, 3, 0, 0) else none) else (bif Nat.beq pc 28 then some (.newarray .int, 2, 0, 0) else none))))) else (bif Nat.ble 13 pc then (bif Nat.ble 20 pc then (bif Nat.ble 25 pc then (bif Nat.ble 26 pc then (bif Nat.beq pc 26 then some (.bipush 20, 2, 20, 0) else none) else (bif Nat.beq pc 25 then some (.aload_n 0, 1, 0, 0) else none)) else (bif Nat.ble 22 pc then (bif Nat.beq pc 22 then some (.putfield 19, 3, 0, 0) else none) else (bif Nat.beq pc 20 then some (.newarray .int, 2, 0, 0) else none))) else (bif Nat.ble 17 pc then (bif Nat.ble 18 pc then (bif Nat.beq pc 18 then some (.bipush 20, 2, 20, 0) else none) else (bif Nat.beq pc 17 then some (.aload_n 0, 1, 0, 0) else none)) else (bif Nat.ble 14 pc then (bif Nat.beq pc 14 then some (.putfield 15, 3, 0, 0) else none) else (bif Nat.beq pc 13 then some (.iconst 0, 1, 0, 0) else none)))) else (bif Nat.ble 5 pc then (bif Nat.ble 9 pc then (bif Nat.ble 12 pc then (bif Nat.beq pc 12 then some (.aload_n 0, 1, 0, 0) else none) else (bif Nat.beq pc 9 then some (.putfield 9, 3, 0, 0) else none)) else (bif Nat.ble 7 pc then (bif Nat.beq pc 7 then some (.newarray .char, 2, 0, 0) else none) else (bif Nat.beq pc 5 then some (.bipush 60, 2, 60, 0) else none))) else (bif Nat.ble 1 pc then (bif Nat.ble 4 pc then (bif Nat.beq pc 4 then some (.aload_n 0, 1, 0, 0) else none) else (bif Nat.beq pc 1 then some (.invokespecial 3, 3, 0, 0) else none)) else (bif Nat.beq pc 0 then some (.aload_n 0, 1, 0, 0) else none))))
def I_X3_init : Nat → Option mjI := fun pc => bif Nat.ble 57 pc then none else J_X3_init pc
set_option maxRecDepth 100000 in
theorem I_X3_init_ok : ∀ pc row, I_X3_init pc = some row → mjrow Y0 cX3_init pc row = true ∧ mjrp none row.1 = true := mjchk_ok (n := 57) (by decide +kernel) (mjhi rfl)
def J_X3_take : Nat → Option mjI := fun pc => bif Nat.ble 22 pc then (bif Nat.ble 30 pc then (bif Nat.ble 35 pc then (bif Nat.ble 38 pc then (bif Nat.ble 39 pc then (bif Nat.beq pc 39 then some (.ireturn, 1, 0, 0) else none) else (bif Nat.beq pc 38 then some (.iconst 1, 1, 1, 0) else none)) else (bif Nat.beq pc 35 then some (.putfield 15, 3, 0, 0) else none)) else (bif Nat.ble 33 pc then (bif Nat.ble 34 pc then (bif Nat.beq pc 34 then some (.iadd, 1, 0, 0) else none) else (bif Nat.beq pc 33 then some (.iconst 1, 1, 1, 0) else none)) else (bif Nat.beq pc 30 then some (.getfield 15, 3, 0, 0) else none))) else (bif Nat.ble 27 pc then (bif Nat.ble 28 pc then (bif Nat.ble 29 pc then (bif Nat.beq pc 29 then some (.dup, 1, 0, 0) else none) else (bif Nat.beq pc 28 then some (.aload_n 0, 1, 0, 0) else none)) else (bif Nat.beq pc 27 then some (.castore, 1, 0, 0) else none)) else (bif Nat.ble 23 pc then (bif Nat.ble 26 pc then (bif Nat.beq pc 26 then some (.iload_n 1, 1, 0, 0) else none) else (bif Nat.beq pc 23 then some (.getfield 15, 3, 0, 0) else none)) else (bif Nat.beq pc 22 then some (.aload_n 0, 1, 0, 0) else none)))) else (bif Nat.ble 11 pc then (bif Nat.ble 17 pc then (bif Nat.ble 18 pc then (bif Nat.ble 19 pc then (bif Nat.beq pc 19 then some (.getfield 9, 3, 0, 0) else none) else (bif Nat.beq pc 18 then some (.aload_n 0, 1, 0, 0) else none)) else (bif Nat.beq pc 17 then some (.ireturn, 1, 0, 0) else none)) else (bif Nat.ble 13 pc then (bif Nat.ble 16 pc then (bif Nat.beq pc 16 then some (.iconst 0, 1, 0, 0) else none) else (bif Nat.beq pc 13 then some (.if_icmp .lt 5, 3, 0, 18) else none)) else (bif Nat.beq pc 11 then some (.bipush 60, 2, 60, 0) else none))) else (bif Nat.ble 4 pc then (bif Nat.ble 7 pc then (bif Nat.ble 8 pc then (bif Nat.beq pc 8 then some (.getfield 15, 3, 0, 0) else none) else (bif Nat.beq pc 7 then some (.aload_n 0, 1, 0, 0) else none)) else (bif Nat.beq pc 4 then some (.ifCond .lt 12, 3, 0, 16) else none)) else (bif Nat.ble 1 pc then (bif Nat.beq pc 1 then some (.getfield 15, 3, 0, 0) else none) else (bif Nat.beq pc 0 then some (.aload_n 0, 1, 0, 0) else none))))
def I_X3_take : Nat → Option mjI := fun pc => bif Nat.ble 40 pc then none else J_X3_take pc
set_option maxRecDepth 100000 in
theorem I_X3_take_ok : ∀ pc row, I_X3_take pc = some row → mjrow Y0 cX3_take pc row = true ∧ mjrp (some .boolean) row.1 = true := mjchk_ok (n := 40) (by decide +kernel) (mjhi rfl)
def J_X3_findFault : Nat → Option mjI := fun pc => bif Nat.ble 37 pc then (bif Nat.ble 60 pc then (bif Nat.ble 69 pc then (bif Nat.ble 74 pc then (bif Nat.ble 77 pc then (bif Nat.ble 79 pc then (bif Nat.beq pc 79 then some (.ireturn, 1, 0, 0) else none) else (bif Nat.beq pc 77 then some (.bipush (-4), 2, (-4), 0) else none)) else (bif Nat.beq pc 74 then some (.invokevirtual 42, 3, 0, 0) else none)) else (bif Nat.ble 72 pc then (bif Nat.ble 73 pc then (bif Nat.beq pc 73 then some (.aload_n 0, 1, 0, 0) else none) else (bif Nat.beq pc 72 then some (.ireturn, 1, 0, 0) else none)) else (bif Nat.beq pc 69 then some (.getfield 15, 3, 0, 0) else none))) else (bif Nat.ble 64 pc then (bif Nat.ble 65 pc then (bif Nat.ble 68 pc then (bif Nat.beq pc 68 then some (.aload_n 0, 1, 0, 0) else none) else (bif Nat.beq pc 65 then some (.if_icmp .ne 8, 3, 0, 73) else none)) else (bif Nat.beq pc 64 then some (.iconst (-1), 1, (-1), 0) else none)) else (bif Nat.ble 61 pc then (bif Nat.beq pc 61 then some (.getfield 35, 3, 0, 0) else none) else (bif Nat.beq pc 60 then some (.aload_n 0, 1, 0, 0) else none)))) else (bif Nat.ble 46 pc then (bif Nat.ble 53 pc then (bif Nat.ble 56 pc then (bif Nat.ble 57 pc then (bif Nat.beq pc 57 then some (.if_icmp .ne 11, 3, 0, 68) else none) else (bif Nat.beq pc 56 then some (.iconst 3, 1, 3, 0) else none)) else (bif Nat.beq pc 53 then some (.getfield 32, 3, 0, 0) else none)) else (bif Nat.ble 49 pc then (bif Nat.ble 52 pc then (bif Nat.beq pc 52 then some (.aload_n 0, 1, 0, 0) else none) else (bif Nat.beq pc 49 then some (.goto (-32), 3, 0, 17) else none)) else (bif Nat.beq pc 46 then some (.iinc 1 1, 3, 1, 0) else none))) else (bif Nat.ble 41 pc then (bif Nat.ble 44 pc then (bif Nat.ble 45 pc then (bif Nat.beq pc 45 then some (.ireturn, 1, 0, 0) else none) else (bif Nat.beq pc 44 then some (.iload_n 1, 1, 0, 0) else none)) else (bif Nat.beq pc 41 then some (.ifCond .ne 5, 3, 0, 46) else none)) else (bif Nat.ble 38 pc then (bif Nat.beq pc 38 then some (.invokevirtual 38, 3, 0, 0) else none) else (bif Nat.beq pc 37 then some (.caload, 1, 0, 0) else none))))) else (bif Nat.ble 17 pc then (bif Nat.ble 26 pc then (bif Nat.ble 32 pc then (bif Nat.ble 33 pc then (bif Nat.ble 36 pc then (bif Nat.beq pc 36 then some (.iload_n 1, 1, 0, 0) else none) else (bif Nat.beq pc 33 then some (.getfield 9, 3, 0, 0) else none)) else (bif Nat.beq pc 32 then some (.aload_n 0, 1, 0, 0) else none)) else (bif Nat.ble 28 pc then (bif Nat.ble 31 pc then (bif Nat.beq pc 31 then some (.aload_n 0, 1, 0, 0) else none) else (bif Nat.beq pc 28 then some (.if_icmp .ge 24, 3, 0, 52) else none)) else (bif Nat.beq pc 26 then some (.bipush 60, 2, 60, 0) else none))) else (bif Nat.ble 19 pc then (bif Nat.ble 22 pc then (bif Nat.ble 25 pc then (bif Nat.beq pc 25 then some (.iload_n 1, 1, 0, 0) else none) else (bif Nat.beq pc 22 then some (.if_icmp .ge 30, 3, 0, 52) else none)) else (bif Nat.beq pc 19 then some (.getfield 15, 3, 0, 0) else none)) else (bif Nat.ble 18 pc then (bif Nat.beq pc 18 then some (.aload_n 0, 1, 0, 0) else none) else (bif Nat.beq pc 17 then some (.iload_n 1, 1, 0, 0) else none)))) else (bif Nat.ble 7 pc then (bif Nat.ble 12 pc then (bif Nat.ble 15 pc then (bif Nat.ble 16 pc then (bif Nat.beq pc 16 then some (.istore_n 1, 1, 0, 0) else none) else (bif Nat.beq pc 15 then some (.iconst 0, 1, 0, 0) else none)) else (bif Nat.beq pc 12 then some (.putfield 35, 3, 0, 0) else none)) else (bif Nat.ble 10 pc then (bif Nat.ble 11 pc then (bif Nat.beq pc 11 then some (.iconst (-1), 1, (-1), 0) else none) else (bif Nat.beq pc 10 then some (.aload_n 0, 1, 0, 0) else none)) else (bif Nat.beq pc 7 then some (.putfield 32, 3, 0, 0) else none))) else (bif Nat.ble 2 pc then (bif Nat.ble 5 pc then (bif Nat.ble 6 pc then (bif Nat.beq pc 6 then some (.iconst 0, 1, 0, 0) else none) else (bif Nat.beq pc 5 then some (.aload_n 0, 1, 0, 0) else none)) else (bif Nat.beq pc 2 then some (.putfield 29, 3, 0, 0) else none)) else (bif Nat.ble 1 pc then (bif Nat.beq pc 1 then some (.iconst 0, 1, 0, 0) else none) else (bif Nat.beq pc 0 then some (.aload_n 0, 1, 0, 0) else none)))))
def I_X3_findFault : Nat → Option mjI := fun pc => bif Nat.ble 80 pc then none else J_X3_findFault pc
set_option maxRecDepth 100000 in
theorem I_X3_findFault_ok : ∀ pc row, I_X3_findFault pc = some row → mjrow Y0 cX3_findFault pc row = true ∧ mjrp (some .int) row.1 = true := mjchk_ok (n := 80) (by decide +kernel) (mjhi rfl)
def J_X3_reads : Nat → Option mjI := fun pc => bif Nat.ble 29 pc then (bif Nat.ble 43 pc then (bif Nat.ble 51 pc then (bif Nat.ble 53 pc then (bif Nat.ble 56 pc then (bif Nat.ble 57 pc then (bif Nat.beq pc 57 then some (.ireturn, 1, 0, 0) else none) else (bif Nat.beq pc 56 then some (.iconst 1, 1, 1, 0) else none)) else (bif Nat.beq pc 53 then some (.invokevirtual 42, 3, 0, 0) else none)) else (bif Nat.ble 52 pc then (bif Nat.beq pc 52 then some (.aload_n 0, 1, 0, 0) else none) else (bif Nat.beq pc 51 then some (.ireturn, 1, 0, 0) else none))) else (bif Nat.ble 47 pc then (bif Nat.ble 50 pc then (bif Nat.beq pc 50 then some (.iconst 0, 1, 0, 0) else none) else (bif Nat.beq pc 47 then some (.if_icmp .eq 5, 3, 0, 52) else none)) else (bif Nat.ble 44 pc then (bif Nat.beq pc 44 then some (.invokevirtual 52, 3, 0, 0) else none) else (bif Nat.beq pc 43 then some (.aload_n 0, 1, 0, 0) else none)))) else (bif Nat.ble 35 pc then (bif Nat.ble 39 pc then (bif Nat.ble 42 pc then (bif Nat.beq pc 42 then some (.iload_n 1, 1, 0, 0) else none) else (bif Nat.beq pc 39 then some (.if_icmp .eq 11, 3, 0, 50) else none)) else (bif Nat.ble 38 pc then (bif Nat.beq pc 38 then some (.iconst (-1), 1, (-1), 0) else none) else (bif Nat.beq pc 35 then some (.getfield 35, 3, 0, 0) else none))) else (bif Nat.ble 33 pc then (bif Nat.ble 34 pc then (bif Nat.beq pc 34 then some (.aload_n 0, 1, 0, 0) else none) else (bif Nat.beq pc 33 then some (.ireturn, 1, 0, 0) else none)) else (bif Nat.ble 30 pc then (bif Nat.beq pc 30 then some (.invokevirtual 49, 3, 0, 0) else none) else (bif Nat.beq pc 29 then some (.iload_n 1, 1, 0, 0) else none))))) else (bif Nat.ble 14 pc then (bif Nat.ble 21 pc then (bif Nat.ble 25 pc then (bif Nat.ble 28 pc then (bif Nat.beq pc 28 then some (.aload_n 0, 1, 0, 0) else none) else (bif Nat.beq pc 25 then some (.ifCond .ne 9, 3, 0, 34) else none)) else (bif Nat.ble 22 pc then (bif Nat.beq pc 22 then some (.getfield 32, 3, 0, 0) else none) else (bif Nat.beq pc 21 then some (.aload_n 0, 1, 0, 0) else none))) else (bif Nat.ble 17 pc then (bif Nat.ble 20 pc then (bif Nat.beq pc 20 then some (.ireturn, 1, 0, 0) else none) else (bif Nat.beq pc 17 then some (.invokevirtual 45, 3, 0, 0) else none)) else (bif Nat.ble 16 pc then (bif Nat.beq pc 16 then some (.isub, 1, 0, 0) else none) else (bif Nat.beq pc 14 then some (.bipush 48, 2, 48, 0) else none)))) else (bif Nat.ble 7 pc then (bif Nat.ble 12 pc then (bif Nat.ble 13 pc then (bif Nat.beq pc 13 then some (.iload_n 1, 1, 0, 0) else none) else (bif Nat.beq pc 12 then some (.aload_n 0, 1, 0, 0) else none)) else (bif Nat.ble 9 pc then (bif Nat.beq pc 9 then some (.if_icmp .gt 12, 3, 0, 21) else none) else (bif Nat.beq pc 7 then some (.bipush 57, 2, 57, 0) else none))) else (bif Nat.ble 3 pc then (bif Nat.ble 6 pc then (bif Nat.beq pc 6 then some (.iload_n 1, 1, 0, 0) else none) else (bif Nat.beq pc 3 then some (.if_icmp .lt 18, 3, 0, 21) else none)) else (bif Nat.ble 1 pc then (bif Nat.beq pc 1 then some (.bipush 48, 2, 48, 0) else none) else (bif Nat.beq pc 0 then some (.iload_n 1, 1, 0, 0) else none)))))
def I_X3_reads : Nat → Option mjI := fun pc => bif Nat.ble 58 pc then none else J_X3_reads pc
set_option maxRecDepth 100000 in
theorem I_X3_reads_ok : ∀ pc row, I_X3_reads pc = some row → mjrow Y0 cX3_reads pc row = true ∧ mjrp (some .boolean) row.1 = true := mjchk_ok (n := 58) (by decide +kernel) (mjhi rfl)
def J_X3_readsHold : Nat → Option mjI := fun pc => bif Nat.ble 10 pc then (bif Nat.ble 18 pc then (bif Nat.ble 22 pc then (bif Nat.ble 23 pc then (bif Nat.beq pc 23 then some (.ireturn, 1, 0, 0) else none) else (bif Nat.beq pc 22 then some (.iconst 1, 1, 1, 0) else none)) else (bif Nat.ble 19 pc then (bif Nat.beq pc 19 then some (.putfield 32, 3, 0, 0) else none) else (bif Nat.beq pc 18 then some (.iconst 3, 1, 3, 0) else none))) else (bif Nat.ble 14 pc then (bif Nat.ble 17 pc then (bif Nat.beq pc 17 then some (.aload_n 0, 1, 0, 0) else none) else (bif Nat.beq pc 14 then some (.invokevirtual 56, 3, 0, 0) else none)) else (bif Nat.ble 13 pc then (bif Nat.beq pc 13 then some (.iconst (-1), 1, (-1), 0) else none) else (bif Nat.beq pc 10 then some (.getfield 19, 3, 0, 0) else none)))) else (bif Nat.ble 6 pc then (bif Nat.ble 8 pc then (bif Nat.ble 9 pc then (bif Nat.beq pc 9 then some (.aload_n 0, 1, 0, 0) else none) else (bif Nat.beq pc 8 then some (.aload_n 0, 1, 0, 0) else none)) else (bif Nat.ble 7 pc then (bif Nat.beq pc 7 then some (.ireturn, 1, 0, 0) else none) else (bif Nat.beq pc 6 then some (.iconst 0, 1, 0, 0) else none))) else (bif Nat.ble 1 pc then (bif Nat.ble 3 pc then (bif Nat.beq pc 3 then some (.if_icmp .eq 5, 3, 0, 8) else none) else (bif Nat.beq pc 1 then some (.bipush 104, 2, 104, 0) else none)) else (bif Nat.beq pc 0 then some (.iload_n 1, 1, 0, 0) else none)))
def I_X3_readsHold : Nat → Option mjI := fun pc => bif Nat.ble 24 pc then none else J_X3_readsHold pc
set_option maxRecDepth 100000 in
theorem I_X3_readsHold_ok : ∀ pc row, I_X3_readsHold pc = some row → mjrow Y0 cX3_readsHold pc row = true ∧ mjrp (some .boolean) row.1 = true := mjchk_ok (n := 24) (by decide +kernel) (mjhi rfl)
def J_X3_readsDigit : Nat → Option mjI := fun pc => bif Nat.ble 36 pc then (bif Nat.ble 54 pc then (bif Nat.ble 65 pc then (bif Nat.ble 69 pc then (bif Nat.ble 72 pc then (bif Nat.ble 73 pc then (bif Nat.beq pc 73 then some (.ireturn, 1, 0, 0) else none) else (bif Nat.beq pc 72 then some (.iconst 0, 1, 0, 0) else none)) else (bif Nat.beq pc 69 then some (.goto 4, 3, 0, 73) else none)) else (bif Nat.ble 68 pc then (bif Nat.beq pc 68 then some (.iconst 1, 1, 1, 0) else none) else (bif Nat.beq pc 65 then some (.if_icmp .gt 7, 3, 0, 72) else none))) else (bif Nat.ble 58 pc then (bif Nat.ble 61 pc then (bif Nat.ble 62 pc then (bif Nat.beq pc 62 then some (.invokevirtual 64, 3, 0, 0) else none) else (bif Nat.beq pc 61 then some (.aload_n 0, 1, 0, 0) else none)) else (bif Nat.beq pc 58 then some (.getfield 35, 3, 0, 0) else none)) else (bif Nat.ble 57 pc then (bif Nat.beq pc 57 then some (.aload_n 0, 1, 0, 0) else none) else (bif Nat.beq pc 54 then some (.if_icmp .lt 18, 3, 0, 72) else none)))) else (bif Nat.ble 43 pc then (bif Nat.ble 47 pc then (bif Nat.ble 50 pc then (bif Nat.ble 51 pc then (bif Nat.beq pc 51 then some (.invokevirtual 60, 3, 0, 0) else none) else (bif Nat.beq pc 50 then some (.aload_n 0, 1, 0, 0) else none)) else (bif Nat.beq pc 47 then some (.getfield 35, 3, 0, 0) else none)) else (bif Nat.ble 46 pc then (bif Nat.beq pc 46 then some (.aload_n 0, 1, 0, 0) else none) else (bif Nat.beq pc 43 then some (.putfield 35, 3, 0, 0) else none))) else (bif Nat.ble 40 pc then (bif Nat.ble 41 pc then (bif Nat.ble 42 pc then (bif Nat.beq pc 42 then some (.iadd, 1, 0, 0) else none) else (bif Nat.beq pc 41 then some (.iload_n 1, 1, 0, 0) else none)) else (bif Nat.beq pc 40 then some (.imul, 1, 0, 0) else none)) else (bif Nat.ble 37 pc then (bif Nat.beq pc 37 then some (.getfield 35, 3, 0, 0) else none) else (bif Nat.beq pc 36 then some (.aload_n 0, 1, 0, 0) else none))))) else (bif Nat.ble 19 pc then (bif Nat.ble 26 pc then (bif Nat.ble 30 pc then (bif Nat.ble 31 pc then (bif Nat.ble 34 pc then (bif Nat.beq pc 34 then some (.bipush 10, 2, 10, 0) else none) else (bif Nat.beq pc 31 then some (.goto 12, 3, 0, 43) else none)) else (bif Nat.beq pc 30 then some (.iload_n 1, 1, 0, 0) else none)) else (bif Nat.ble 27 pc then (bif Nat.beq pc 27 then some (.if_icmp .ne 7, 3, 0, 34) else none) else (bif Nat.beq pc 26 then some (.iconst (-1), 1, (-1), 0) else none))) else (bif Nat.ble 21 pc then (bif Nat.ble 22 pc then (bif Nat.ble 23 pc then (bif Nat.beq pc 23 then some (.getfield 35, 3, 0, 0) else none) else (bif Nat.beq pc 22 then some (.aload_n 0, 1, 0, 0) else none)) else (bif Nat.beq pc 21 then some (.aload_n 0, 1, 0, 0) else none)) else (bif Nat.ble 20 pc then (bif Nat.beq pc 20 then some (.ireturn, 1, 0, 0) else none) else (bif Nat.beq pc 19 then some (.iconst 0, 1, 0, 0) else none)))) else (bif Nat.ble 8 pc then (bif Nat.ble 12 pc then (bif Nat.ble 13 pc then (bif Nat.ble 16 pc then (bif Nat.beq pc 16 then some (.ifCond .ne 5, 3, 0, 21) else none) else (bif Nat.beq pc 13 then some (.getfield 35, 3, 0, 0) else none)) else (bif Nat.beq pc 12 then some (.aload_n 0, 1, 0, 0) else none)) else (bif Nat.ble 9 pc then (bif Nat.beq pc 9 then some (.putfield 32, 3, 0, 0) else none) else (bif Nat.beq pc 8 then some (.iconst 1, 1, 1, 0) else none))) else (bif Nat.ble 4 pc then (bif Nat.ble 7 pc then (bif Nat.beq pc 7 then some (.aload_n 0, 1, 0, 0) else none) else (bif Nat.beq pc 4 then some (.ifCond .ne 8, 3, 0, 12) else none)) else (bif Nat.ble 1 pc then (bif Nat.beq pc 1 then some (.getfield 32, 3, 0, 0) else none) else (bif Nat.beq pc 0 then some (.aload_n 0, 1, 0, 0) else none)))))
def I_X3_readsDigit : Nat → Option mjI := fun pc => bif Nat.ble 74 pc then none else J_X3_readsDigit pc
set_option maxRecDepth 100000 in
theorem I_X3_readsDigit_ok : ∀ pc row, I_X3_readsDigit pc = some row → mjrow Y0 cX3_readsDigit pc row = true ∧ mjrp (some .boolean) row.1 = true := mjchk_ok (n := 74) (by decide +kernel) (mjhi rfl)
def J_X3_endNumber : Nat → Option mjI := fun pc => bif Nat.ble 45 pc then (bif Nat.ble 69 pc then (bif Nat.ble 79 pc then (bif Nat.ble 84 pc then (bif Nat.ble 85 pc then (bif Nat.ble 88 pc then (bif Nat.beq pc 88 then some (.return_, 1, 0, 0) else none) else (bif Nat.beq pc 85 then some (.putfield 35, 3, 0, 0) else none)) else (bif Nat.beq pc 84 then some (.iconst (-1), 1, (-1), 0) else none)) else (bif Nat.ble 80 pc then (bif Nat.ble 83 pc then (bif Nat.beq pc 83 then some (.aload_n 0, 1, 0, 0) else none) else (bif Nat.beq pc 80 then some (.putfield 32, 3, 0, 0) else none)) else (bif Nat.beq pc 79 then some (.iconst 0, 1, 0, 0) else none))) else (bif Nat.ble 74 pc then (bif Nat.ble 75 pc then (bif Nat.ble 78 pc then (bif Nat.beq pc 78 then some (.aload_n 0, 1, 0, 0) else none) else (bif Nat.beq pc 75 then some (.putfield 29, 3, 0, 0) else none)) else (bif Nat.beq pc 74 then some (.iadd, 1, 0, 0) else none)) else (bif Nat.ble 70 pc then (bif Nat.ble 73 pc then (bif Nat.beq pc 73 then some (.iconst 1, 1, 1, 0) else none) else (bif Nat.beq pc 70 then some (.getfield 29, 3, 0, 0) else none)) else (bif Nat.beq pc 69 then some (.dup, 1, 0, 0) else none)))) else (bif Nat.ble 57 pc then (bif Nat.ble 62 pc then (bif Nat.ble 65 pc then (bif Nat.ble 68 pc then (bif Nat.beq pc 68 then some (.aload_n 0, 1, 0, 0) else none) else (bif Nat.beq pc 65 then some (.invokevirtual 56, 3, 0, 0) else none)) else (bif Nat.beq pc 62 then some (.getfield 35, 3, 0, 0) else none)) else (bif Nat.ble 58 pc then (bif Nat.ble 61 pc then (bif Nat.beq pc 61 then some (.aload_n 0, 1, 0, 0) else none) else (bif Nat.beq pc 58 then some (.getfield 26, 3, 0, 0) else none)) else (bif Nat.beq pc 57 then some (.aload_n 0, 1, 0, 0) else none))) else (bif Nat.ble 50 pc then (bif Nat.ble 53 pc then (bif Nat.ble 56 pc then (bif Nat.beq pc 56 then some (.aload_n 0, 1, 0, 0) else none) else (bif Nat.beq pc 53 then some (.goto 30, 3, 0, 83) else none)) else (bif Nat.beq pc 50 then some (.putfield 32, 3, 0, 0) else none)) else (bif Nat.ble 48 pc then (bif Nat.ble 49 pc then (bif Nat.beq pc 49 then some (.iconst 3, 1, 3, 0) else none) else (bif Nat.beq pc 48 then some (.aload_n 0, 1, 0, 0) else none)) else (bif Nat.beq pc 45 then some (.invokevirtual 56, 3, 0, 0) else none))))) else (bif Nat.ble 21 pc then (bif Nat.ble 33 pc then (bif Nat.ble 38 pc then (bif Nat.ble 41 pc then (bif Nat.ble 42 pc then (bif Nat.beq pc 42 then some (.getfield 35, 3, 0, 0) else none) else (bif Nat.beq pc 41 then some (.aload_n 0, 1, 0, 0) else none)) else (bif Nat.beq pc 38 then some (.getfield 23, 3, 0, 0) else none)) else (bif Nat.ble 36 pc then (bif Nat.ble 37 pc then (bif Nat.beq pc 37 then some (.aload_n 0, 1, 0, 0) else none) else (bif Nat.beq pc 36 then some (.aload_n 0, 1, 0, 0) else none)) else (bif Nat.beq pc 33 then some (.if_icmp .ne 23, 3, 0, 56) else none))) else (bif Nat.ble 28 pc then (bif Nat.ble 29 pc then (bif Nat.ble 32 pc then (bif Nat.beq pc 32 then some (.iconst 2, 1, 2, 0) else none) else (bif Nat.beq pc 29 then some (.getfield 32, 3, 0, 0) else none)) else (bif Nat.beq pc 28 then some (.aload_n 0, 1, 0, 0) else none)) else (bif Nat.ble 22 pc then (bif Nat.ble 25 pc then (bif Nat.beq pc 25 then some (.goto 58, 3, 0, 83) else none) else (bif Nat.beq pc 22 then some (.putfield 32, 3, 0, 0) else none)) else (bif Nat.beq pc 21 then some (.iconst 2, 1, 2, 0) else none)))) else (bif Nat.ble 9 pc then (bif Nat.ble 14 pc then (bif Nat.ble 17 pc then (bif Nat.ble 20 pc then (bif Nat.beq pc 20 then some (.aload_n 0, 1, 0, 0) else none) else (bif Nat.beq pc 17 then some (.invokevirtual 56, 3, 0, 0) else none)) else (bif Nat.beq pc 14 then some (.getfield 35, 3, 0, 0) else none)) else (bif Nat.ble 10 pc then (bif Nat.ble 13 pc then (bif Nat.beq pc 13 then some (.aload_n 0, 1, 0, 0) else none) else (bif Nat.beq pc 10 then some (.getfield 19, 3, 0, 0) else none)) else (bif Nat.beq pc 9 then some (.aload_n 0, 1, 0, 0) else none))) else (bif Nat.ble 4 pc then (bif Nat.ble 5 pc then (bif Nat.ble 8 pc then (bif Nat.beq pc 8 then some (.aload_n 0, 1, 0, 0) else none) else (bif Nat.beq pc 5 then some (.if_icmp .ne 23, 3, 0, 28) else none)) else (bif Nat.beq pc 4 then some (.iconst 1, 1, 1, 0) else none)) else (bif Nat.ble 1 pc then (bif Nat.beq pc 1 then some (.getfield 32, 3, 0, 0) else none) else (bif Nat.beq pc 0 then some (.aload_n 0, 1, 0, 0) else none)))))
def I_X3_endNumber : Nat → Option mjI := fun pc => bif Nat.ble 89 pc then none else J_X3_endNumber pc
set_option maxRecDepth 100000 in
theorem I_X3_endNumber_ok : ∀ pc row, I_X3_endNumber pc = some row → mjrow Y0 cX3_endNumber pc row = true ∧ mjrp none row.1 = true := mjchk_ok (n := 89) (by decide +kernel) (mjhi rfl)
def J_X3_keepIn : Nat → Option mjI := fun pc => bif Nat.ble 13 pc then (bif Nat.ble 18 pc then (bif Nat.ble 22 pc then (bif Nat.ble 23 pc then (bif Nat.beq pc 23 then some (.return_, 1, 0, 0) else none) else (bif Nat.beq pc 22 then some (.iastore, 1, 0, 0) else none)) else (bif Nat.ble 21 pc then (bif Nat.beq pc 21 then some (.iload_n 2, 1, 0, 0) else none) else (bif Nat.beq pc 18 then some (.getfield 29, 3, 0, 0) else none))) else (bif Nat.ble 16 pc then (bif Nat.ble 17 pc then (bif Nat.beq pc 17 then some (.aload_n 0, 1, 0, 0) else none) else (bif Nat.beq pc 16 then some (.aload_n 1, 1, 0, 0) else none)) else (bif Nat.beq pc 13 then some (.if_icmp .ge 10, 3, 0, 23) else none))) else (bif Nat.ble 7 pc then (bif Nat.ble 11 pc then (bif Nat.ble 12 pc then (bif Nat.beq pc 12 then some (.arraylength, 1, 0, 0) else none) else (bif Nat.beq pc 11 then some (.aload_n 1, 1, 0, 0) else none)) else (bif Nat.ble 8 pc then (bif Nat.beq pc 8 then some (.getfield 29, 3, 0, 0) else none) else (bif Nat.beq pc 7 then some (.aload_n 0, 1, 0, 0) else none))) else (bif Nat.ble 1 pc then (bif Nat.ble 4 pc then (bif Nat.beq pc 4 then some (.ifCond .lt 19, 3, 0, 23) else none) else (bif Nat.beq pc 1 then some (.getfield 29, 3, 0, 0) else none)) else (bif Nat.beq pc 0 then some (.aload_n 0, 1, 0, 0) else none)))
def I_X3_keepIn : Nat → Option mjI := fun pc => bif Nat.ble 24 pc then none else J_X3_keepIn pc
set_option maxRecDepth 100000 in
theorem I_X3_keepIn_ok : ∀ pc row, I_X3_keepIn pc = some row → mjrow Y0 cX3_keepIn pc row = true ∧ mjrp none row.1 = true := mjchk_ok (n := 24) (by decide +kernel) (mjhi rfl)
def J_X3_endOfPart : Nat → Option mjI := fun pc => bif Nat.ble 12 pc then (bif Nat.ble 19 pc then (bif Nat.ble 24 pc then (bif Nat.ble 26 pc then (bif Nat.beq pc 26 then some (.ireturn, 1, 0, 0) else none) else (bif Nat.beq pc 24 then some (.bipush 59, 2, 59, 0) else none)) else (bif Nat.ble 21 pc then (bif Nat.beq pc 21 then some (.goto 5, 3, 0, 26) else none) else (bif Nat.beq pc 19 then some (.bipush 120, 2, 120, 0) else none))) else (bif Nat.ble 15 pc then (bif Nat.ble 16 pc then (bif Nat.beq pc 16 then some (.if_icmp .ne 8, 3, 0, 24) else none) else (bif Nat.beq pc 15 then some (.iconst 2, 1, 2, 0) else none)) else (bif Nat.beq pc 12 then some (.getfield 32, 3, 0, 0) else none))) else (bif Nat.ble 5 pc then (bif Nat.ble 10 pc then (bif Nat.ble 11 pc then (bif Nat.beq pc 11 then some (.aload_n 0, 1, 0, 0) else none) else (bif Nat.beq pc 10 then some (.ireturn, 1, 0, 0) else none)) else (bif Nat.ble 8 pc then (bif Nat.beq pc 8 then some (.bipush 47, 2, 47, 0) else none) else (bif Nat.beq pc 5 then some (.if_icmp .ne 6, 3, 0, 11) else none))) else (bif Nat.ble 1 pc then (bif Nat.ble 4 pc then (bif Nat.beq pc 4 then some (.iconst 1, 1, 1, 0) else none) else (bif Nat.beq pc 1 then some (.getfield 32, 3, 0, 0) else none)) else (bif Nat.beq pc 0 then some (.aload_n 0, 1, 0, 0) else none)))
def I_X3_endOfPart : Nat → Option mjI := fun pc => bif Nat.ble 27 pc then none else J_X3_endOfPart pc
set_option maxRecDepth 100000 in
theorem I_X3_endOfPart_ok : ∀ pc row, I_X3_endOfPart pc = some row → mjrow Y0 cX3_endOfPart pc row = true ∧ mjrp (some .char) row.1 = true := mjchk_ok (n := 27) (by decide +kernel) (mjhi rfl)
def J_X3_leastOfPart : Nat → Option mjI := fun pc => bif Nat.ble 8 pc then (bif Nat.ble 12 pc then (bif Nat.ble 13 pc then (bif Nat.beq pc 13 then some (.ireturn, 1, 0, 0) else none) else (bif Nat.beq pc 12 then some (.iconst 1, 1, 1, 0) else none)) else (bif Nat.ble 9 pc then (bif Nat.beq pc 9 then some (.goto 4, 3, 0, 13) else none) else (bif Nat.beq pc 8 then some (.iconst 0, 1, 0, 0) else none))) else (bif Nat.ble 4 pc then (bif Nat.ble 5 pc then (bif Nat.beq pc 5 then some (.if_icmp .ne 7, 3, 0, 12) else none) else (bif Nat.beq pc 4 then some (.iconst 1, 1, 1, 0) else none)) else (bif Nat.ble 1 pc then (bif Nat.beq pc 1 then some (.getfield 32, 3, 0, 0) else none) else (bif Nat.beq pc 0 then some (.aload_n 0, 1, 0, 0) else none)))
def I_X3_leastOfPart : Nat → Option mjI := fun pc => bif Nat.ble 14 pc then none else J_X3_leastOfPart pc
set_option maxRecDepth 100000 in
theorem I_X3_leastOfPart_ok : ∀ pc row, I_X3_leastOfPart pc = some row → mjrow Y0 cX3_leastOfPart pc row = true ∧ mjrp (some .int) row.1 = true := mjchk_ok (n := 14) (by decide +kernel) (mjhi rfl)
def J_X3_mostOfPart : Nat → Option mjI := fun pc => bif Nat.ble 13 pc then (bif Nat.ble 20 pc then (bif Nat.ble 25 pc then (bif Nat.ble 27 pc then (bif Nat.beq pc 27 then some (.ireturn, 1, 0, 0) else none) else (bif Nat.beq pc 25 then some (.bipush 99, 2, 99, 0) else none)) else (bif Nat.ble 22 pc then (bif Nat.beq pc 22 then some (.goto 5, 3, 0, 27) else none) else (bif Nat.beq pc 20 then some (.bipush 100, 2, 100, 0) else none))) else (bif Nat.ble 16 pc then (bif Nat.ble 17 pc then (bif Nat.beq pc 17 then some (.if_icmp .ne 8, 3, 0, 25) else none) else (bif Nat.beq pc 16 then some (.iconst 2, 1, 2, 0) else none)) else (bif Nat.beq pc 13 then some (.getfield 32, 3, 0, 0) else none))) else (bif Nat.ble 5 pc then (bif Nat.ble 11 pc then (bif Nat.ble 12 pc then (bif Nat.beq pc 12 then some (.aload_n 0, 1, 0, 0) else none) else (bif Nat.beq pc 11 then some (.ireturn, 1, 0, 0) else none)) else (bif Nat.ble 8 pc then (bif Nat.beq pc 8 then some (.sipush 1000, 3, 1000, 0) else none) else (bif Nat.beq pc 5 then some (.if_icmp .ne 7, 3, 0, 12) else none))) else (bif Nat.ble 1 pc then (bif Nat.ble 4 pc then (bif Nat.beq pc 4 then some (.iconst 1, 1, 1, 0) else none) else (bif Nat.beq pc 1 then some (.getfield 32, 3, 0, 0) else none)) else (bif Nat.beq pc 0 then some (.aload_n 0, 1, 0, 0) else none)))
def I_X3_mostOfPart : Nat → Option mjI := fun pc => bif Nat.ble 28 pc then none else J_X3_mostOfPart pc
set_option maxRecDepth 100000 in
theorem I_X3_mostOfPart_ok : ∀ pc row, I_X3_mostOfPart pc = some row → mjrow Y0 cX3_mostOfPart pc row = true ∧ mjrp (some .int) row.1 = true := mjchk_ok (n := 28) (by decide +kernel) (mjhi rfl)
def J_X3_aimOf : Nat → Option mjI := fun pc => bif Nat.ble 11 pc then (bif Nat.ble 13 pc then (bif Nat.ble 16 pc then (bif Nat.ble 17 pc then (bif Nat.beq pc 17 then some (.ireturn, 1, 0, 0) else none) else (bif Nat.beq pc 16 then some (.iconst (-1), 1, (-1), 0) else none)) else (bif Nat.beq pc 13 then some (.goto 4, 3, 0, 17) else none)) else (bif Nat.ble 12 pc then (bif Nat.beq pc 12 then some (.iaload, 1, 0, 0) else none) else (bif Nat.beq pc 11 then some (.iload_n 1, 1, 0, 0) else none))) else (bif Nat.ble 4 pc then (bif Nat.ble 7 pc then (bif Nat.ble 8 pc then (bif Nat.beq pc 8 then some (.getfield 19, 3, 0, 0) else none) else (bif Nat.beq pc 7 then some (.aload_n 0, 1, 0, 0) else none)) else (bif Nat.beq pc 4 then some (.ifCond .eq 12, 3, 0, 16) else none)) else (bif Nat.ble 1 pc then (bif Nat.beq pc 1 then some (.invokestatic 67, 3, 0, 0) else none) else (bif Nat.beq pc 0 then some (.iload_n 1, 1, 0, 0) else none)))
def I_X3_aimOf : Nat → Option mjI := fun pc => bif Nat.ble 18 pc then none else J_X3_aimOf pc
set_option maxRecDepth 100000 in
theorem I_X3_aimOf_ok : ∀ pc row, I_X3_aimOf pc = some row → mjrow Y0 cX3_aimOf pc row = true ∧ mjrp (some .int) row.1 = true := mjchk_ok (n := 18) (by decide +kernel) (mjhi rfl)
def J_X3_rateOf : Nat → Option mjI := fun pc => bif Nat.ble 11 pc then (bif Nat.ble 13 pc then (bif Nat.ble 16 pc then (bif Nat.ble 17 pc then (bif Nat.beq pc 17 then some (.ireturn, 1, 0, 0) else none) else (bif Nat.beq pc 16 then some (.iconst 1, 1, 1, 0) else none)) else (bif Nat.beq pc 13 then some (.goto 4, 3, 0, 17) else none)) else (bif Nat.ble 12 pc then (bif Nat.beq pc 12 then some (.iaload, 1, 0, 0) else none) else (bif Nat.beq pc 11 then some (.iload_n 1, 1, 0, 0) else none))) else (bif Nat.ble 4 pc then (bif Nat.ble 7 pc then (bif Nat.ble 8 pc then (bif Nat.beq pc 8 then some (.getfield 23, 3, 0, 0) else none) else (bif Nat.beq pc 7 then some (.aload_n 0, 1, 0, 0) else none)) else (bif Nat.beq pc 4 then some (.ifCond .eq 12, 3, 0, 16) else none)) else (bif Nat.ble 1 pc then (bif Nat.beq pc 1 then some (.invokestatic 67, 3, 0, 0) else none) else (bif Nat.beq pc 0 then some (.iload_n 1, 1, 0, 0) else none)))
def I_X3_rateOf : Nat → Option mjI := fun pc => bif Nat.ble 18 pc then none else J_X3_rateOf pc
set_option maxRecDepth 100000 in
theorem I_X3_rateOf_ok : ∀ pc row, I_X3_rateOf pc = some row → mjrow Y0 cX3_rateOf pc row = true ∧ mjrp (some .int) row.1 = true := mjchk_ok (n := 18) (by decide +kernel) (mjhi rfl)
def J_X3_minutesOf : Nat → Option mjI := fun pc => bif Nat.ble 11 pc then (bif Nat.ble 13 pc then (bif Nat.ble 16 pc then (bif Nat.ble 17 pc then (bif Nat.beq pc 17 then some (.ireturn, 1, 0, 0) else none) else (bif Nat.beq pc 16 then some (.iconst 0, 1, 0, 0) else none)) else (bif Nat.beq pc 13 then some (.goto 4, 3, 0, 17) else none)) else (bif Nat.ble 12 pc then (bif Nat.beq pc 12 then some (.iaload, 1, 0, 0) else none) else (bif Nat.beq pc 11 then some (.iload_n 1, 1, 0, 0) else none))) else (bif Nat.ble 4 pc then (bif Nat.ble 7 pc then (bif Nat.ble 8 pc then (bif Nat.beq pc 8 then some (.getfield 26, 3, 0, 0) else none) else (bif Nat.beq pc 7 then some (.aload_n 0, 1, 0, 0) else none)) else (bif Nat.beq pc 4 then some (.ifCond .eq 12, 3, 0, 16) else none)) else (bif Nat.ble 1 pc then (bif Nat.beq pc 1 then some (.invokestatic 67, 3, 0, 0) else none) else (bif Nat.beq pc 0 then some (.iload_n 1, 1, 0, 0) else none)))
def I_X3_minutesOf : Nat → Option mjI := fun pc => bif Nat.ble 18 pc then none else J_X3_minutesOf pc
set_option maxRecDepth 100000 in
theorem I_X3_minutesOf_ok : ∀ pc row, I_X3_minutesOf pc = some row → mjrow Y0 cX3_minutesOf pc row = true ∧ mjrp (some .int) row.1 = true := mjchk_ok (n := 18) (by decide +kernel) (mjhi rfl)
def J_X3_isSegment : Nat → Option mjI := fun pc => bif Nat.ble 7 pc then (bif Nat.ble 11 pc then (bif Nat.ble 14 pc then (bif Nat.ble 15 pc then (bif Nat.beq pc 15 then some (.ireturn, 1, 0, 0) else none) else (bif Nat.beq pc 14 then some (.iconst 0, 1, 0, 0) else none)) else (bif Nat.beq pc 11 then some (.goto 4, 3, 0, 15) else none)) else (bif Nat.ble 10 pc then (bif Nat.beq pc 10 then some (.iconst 1, 1, 1, 0) else none) else (bif Nat.beq pc 7 then some (.if_icmp .ge 7, 3, 0, 14) else none))) else (bif Nat.ble 4 pc then (bif Nat.ble 5 pc then (bif Nat.beq pc 5 then some (.bipush 20, 2, 20, 0) else none) else (bif Nat.beq pc 4 then some (.iload_n 0, 1, 0, 0) else none)) else (bif Nat.ble 1 pc then (bif Nat.beq pc 1 then some (.ifCond .lt 13, 3, 0, 14) else none) else (bif Nat.beq pc 0 then some (.iload_n 0, 1, 0, 0) else none)))
def I_X3_isSegment : Nat → Option mjI := fun pc => bif Nat.ble 16 pc then none else J_X3_isSegment pc
set_option maxRecDepth 100000 in
theorem I_X3_isSegment_ok : ∀ pc row, I_X3_isSegment pc = some row → mjrow Y0 cX3_isSegment pc row = true ∧ mjrp (some .boolean) row.1 = true := mjchk_ok (n := 16) (by decide +kernel) (mjhi rfl)
def J_X4_init : Nat → Option mjI := fun pc => bif Nat.ble 29 pc then (bif Nat.ble 45 pc then (bif Nat.ble 54 pc then (bif Nat.ble 58 pc then (bif Nat.ble 61 pc then (bif Nat.beq pc 61 then some (.return_, 1, 0, 0) else none) else (bif Nat.beq pc 58 then some (.invokevirtual 34, 3, 0, 0) else none)) else (bif Nat.ble 55 pc then (bif Nat.beq pc 55 then some (.sipush 600, 3, 600, 0) else none) else (bif Nat.beq pc 54 then some (.aload_n 0, 1, 0, 0) else none))) else (bif Nat.ble 49 pc then (bif Nat.ble 51 pc then (bif Nat.beq pc 51 then some (.putfield 31, 3, 0, 0) else none) else (bif Nat.beq pc 49 then some (.bipush 8, 2, 8, 0) else none)) else (bif Nat.ble 48 pc then (bif Nat.beq pc 48 then some (.aload_n 0, 1, 0, 0) else none) else (bif Nat.beq pc 45 then some (.putfield 28, 3, 0, 0) else none)))) else (bif Nat.ble 37 pc then (bif Nat.ble 42 pc then (bif Nat.ble 43 pc then (bif Nat.beq pc 43 then some (.bipush 10, 2, 10, 0) else none) else (bif Nat.beq pc 42 then some (.aload_n 0, 1, 0, 0) else none)) else (bif Nat.ble 39 pc then (bif Nat.beq pc 39 then some (.putfield 24, 3, 0, 0) else none) else (bif Nat.beq pc 37 then some (.bipush 10, 2, 10, 0) else none))) else (bif Nat.ble 33 pc then (bif Nat.ble 36 pc then (bif Nat.beq pc 36 then some (.aload_n 0, 1, 0, 0) else none) else (bif Nat.beq pc 33 then some (.putfield 21, 3, 0, 0) else none)) else (bif Nat.ble 31 pc then (bif Nat.beq pc 31 then some (.newarray .int, 2, 0, 0) else none) else (bif Nat.beq pc 29 then some (.bipush 60, 2, 60, 0) else none))))) else (bif Nat.ble 13 pc then (bif Nat.ble 21 pc then (bif Nat.ble 25 pc then (bif Nat.ble 28 pc then (bif Nat.beq pc 28 then some (.aload_n 0, 1, 0, 0) else none) else (bif Nat.beq pc 25 then some (.putfield 18, 3, 0, 0) else none)) else (bif Nat.ble 23 pc then (bif Nat.beq pc 23 then some (.newarray .int, 2, 0, 0) else none) else (bif Nat.beq pc 21 then some (.bipush 60, 2, 60, 0) else none))) else (bif Nat.ble 17 pc then (bif Nat.ble 20 pc then (bif Nat.beq pc 20 then some (.aload_n 0, 1, 0, 0) else none) else (bif Nat.beq pc 17 then some (.putfield 15, 3, 0, 0) else none)) else (bif Nat.ble 15 pc then (bif Nat.beq pc 15 then some (.newarray .int, 2, 0, 0) else none) else (bif Nat.beq pc 13 then some (.bipush 36, 2, 36, 0) else none)))) else (bif Nat.ble 5 pc then (bif Nat.ble 9 pc then (bif Nat.ble 12 pc then (bif Nat.beq pc 12 then some (.aload_n 0, 1, 0, 0) else none) else (bif Nat.beq pc 9 then some (.putfield 9, 3, 0, 0) else none)) else (bif Nat.ble 7 pc then (bif Nat.beq pc 7 then some (.newarray .int, 2, 0, 0) else none) else (bif Nat.beq pc 5 then some (.bipush 36, 2, 36, 0) else none))) else (bif Nat.ble 1 pc then (bif Nat.ble 4 pc then (bif Nat.beq pc 4 then some (.aload_n 0, 1, 0, 0) else none) else (bif Nat.beq pc 1 then some (.invokespecial 3, 3, 0, 0) else none)) else (bif Nat.beq pc 0 then some (.aload_n 0, 1, 0, 0) else none))))
def I_X4_init : Nat → Option mjI := fun pc => bif Nat.ble 62 pc then none else J_X4_init pc
set_option maxRecDepth 100000 in
theorem I_X4_init_ok : ∀ pc row, I_X4_init pc = some row → mjrow Y0 cX4_init pc row = true ∧ mjrp none row.1 = true := mjchk_ok (n := 62) (by decide +kernel) (mjhi rfl)
def J_X4_renew : Nat → Option mjI := fun pc => bif Nat.ble 27 pc then (bif Nat.ble 40 pc then (bif Nat.ble 45 pc then (bif Nat.ble 47 pc then (bif Nat.ble 50 pc then (bif Nat.beq pc 50 then some (.return_, 1, 0, 0) else none) else (bif Nat.beq pc 47 then some (.putfield 56, 3, 0, 0) else none)) else (bif Nat.ble 46 pc then (bif Nat.beq pc 46 then some (.iconst 0, 1, 0, 0) else none) else (bif Nat.beq pc 45 then some (.aload_n 0, 1, 0, 0) else none))) else (bif Nat.ble 41 pc then (bif Nat.ble 42 pc then (bif Nat.beq pc 42 then some (.putfield 53, 3, 0, 0) else none) else (bif Nat.beq pc 41 then some (.iconst 0, 1, 0, 0) else none)) else (bif Nat.beq pc 40 then some (.aload_n 0, 1, 0, 0) else none))) else (bif Nat.ble 32 pc then (bif Nat.ble 36 pc then (bif Nat.ble 37 pc then (bif Nat.beq pc 37 then some (.putfield 50, 3, 0, 0) else none) else (bif Nat.beq pc 36 then some (.iconst 0, 1, 0, 0) else none)) else (bif Nat.ble 35 pc then (bif Nat.beq pc 35 then some (.aload_n 0, 1, 0, 0) else none) else (bif Nat.beq pc 32 then some (.putfield 47, 3, 0, 0) else none))) else (bif Nat.ble 30 pc then (bif Nat.ble 31 pc then (bif Nat.beq pc 31 then some (.iload_n 1, 1, 0, 0) else none) else (bif Nat.beq pc 30 then some (.aload_n 0, 1, 0, 0) else none)) else (bif Nat.beq pc 27 then some (.putfield 44, 3, 0, 0) else none)))) else (bif Nat.ble 14 pc then (bif Nat.ble 21 pc then (bif Nat.ble 25 pc then (bif Nat.ble 26 pc then (bif Nat.beq pc 26 then some (.iload_n 1, 1, 0, 0) else none) else (bif Nat.beq pc 25 then some (.aload_n 0, 1, 0, 0) else none)) else (bif Nat.ble 22 pc then (bif Nat.beq pc 22 then some (.invokestatic 38, 3, 0, 0) else none) else (bif Nat.beq pc 21 then some (.iconst 0, 1, 0, 0) else none))) else (bif Nat.ble 17 pc then (bif Nat.ble 18 pc then (bif Nat.beq pc 18 then some (.getfield 21, 3, 0, 0) else none) else (bif Nat.beq pc 17 then some (.aload_n 0, 1, 0, 0) else none)) else (bif Nat.beq pc 14 then some (.invokestatic 38, 3, 0, 0) else none))) else (bif Nat.ble 5 pc then (bif Nat.ble 9 pc then (bif Nat.ble 12 pc then (bif Nat.beq pc 12 then some (.bipush 100, 2, 100, 0) else none) else (bif Nat.beq pc 9 then some (.getfield 18, 3, 0, 0) else none)) else (bif Nat.ble 8 pc then (bif Nat.beq pc 8 then some (.aload_n 0, 1, 0, 0) else none) else (bif Nat.beq pc 5 then some (.invokestatic 38, 3, 0, 0) else none))) else (bif Nat.ble 1 pc then (bif Nat.ble 4 pc then (bif Nat.beq pc 4 then some (.iload_n 1, 1, 0, 0) else none) else (bif Nat.beq pc 1 then some (.getfield 9, 3, 0, 0) else none)) else (bif Nat.beq pc 0 then some (.aload_n 0, 1, 0, 0) else none))))
def I_X4_renew : Nat → Option mjI := fun pc => bif Nat.ble 51 pc then none else J_X4_renew pc
set_option maxRecDepth 100000 in
theorem I_X4_renew_ok : ∀ pc row, I_X4_renew pc = some row → mjrow Y0 cX4_renew pc row = true ∧ mjrp none row.1 = true := mjchk_ok (n := 51) (by decide +kernel) (mjhi rfl)
def J_X4_copyFrom : Nat → Option mjI := fun pc => bif Nat.ble 53 pc then (bif Nat.ble 79 pc then (bif Nat.ble 94 pc then (bif Nat.ble 102 pc then (bif Nat.ble 106 pc then (bif Nat.ble 109 pc then (bif Nat.beq pc 109 then some (.return_, 1, 0, 0) else none) else (bif Nat.beq pc 106 then some (.putfield 56, 3, 0, 0) else none)) else (bif Nat.ble 103 pc then (bif Nat.beq pc 103 then some (.getfield 56, 3, 0, 0) else none) else (bif Nat.beq pc 102 then some (.aload_n 1, 1, 0, 0) else none))) else (bif Nat.ble 98 pc then (bif Nat.ble 101 pc then (bif Nat.beq pc 101 then some (.aload_n 0, 1, 0, 0) else none) else (bif Nat.beq pc 98 then some (.putfield 53, 3, 0, 0) else none)) else (bif Nat.ble 95 pc then (bif Nat.beq pc 95 then some (.getfield 53, 3, 0, 0) else none) else (bif Nat.beq pc 94 then some (.aload_n 1, 1, 0, 0) else none)))) else (bif Nat.ble 86 pc then (bif Nat.ble 90 pc then (bif Nat.ble 93 pc then (bif Nat.beq pc 93 then some (.aload_n 0, 1, 0, 0) else none) else (bif Nat.beq pc 90 then some (.putfield 50, 3, 0, 0) else none)) else (bif Nat.ble 87 pc then (bif Nat.beq pc 87 then some (.getfield 50, 3, 0, 0) else none) else (bif Nat.beq pc 86 then some (.aload_n 1, 1, 0, 0) else none))) else (bif Nat.ble 82 pc then (bif Nat.ble 85 pc then (bif Nat.beq pc 85 then some (.aload_n 0, 1, 0, 0) else none) else (bif Nat.beq pc 82 then some (.putfield 31, 3, 0, 0) else none)) else (bif Nat.beq pc 79 then some (.getfield 31, 3, 0, 0) else none)))) else (bif Nat.ble 66 pc then (bif Nat.ble 71 pc then (bif Nat.ble 77 pc then (bif Nat.ble 78 pc then (bif Nat.beq pc 78 then some (.aload_n 1, 1, 0, 0) else none) else (bif Nat.beq pc 77 then some (.aload_n 0, 1, 0, 0) else none)) else (bif Nat.ble 74 pc then (bif Nat.beq pc 74 then some (.putfield 28, 3, 0, 0) else none) else (bif Nat.beq pc 71 then some (.getfield 28, 3, 0, 0) else none))) else (bif Nat.ble 69 pc then (bif Nat.ble 70 pc then (bif Nat.beq pc 70 then some (.aload_n 1, 1, 0, 0) else none) else (bif Nat.beq pc 69 then some (.aload_n 0, 1, 0, 0) else none)) else (bif Nat.beq pc 66 then some (.putfield 24, 3, 0, 0) else none))) else (bif Nat.ble 58 pc then (bif Nat.ble 62 pc then (bif Nat.ble 63 pc then (bif Nat.beq pc 63 then some (.getfield 24, 3, 0, 0) else none) else (bif Nat.beq pc 62 then some (.aload_n 1, 1, 0, 0) else none)) else (bif Nat.ble 61 pc then (bif Nat.beq pc 61 then some (.aload_n 0, 1, 0, 0) else none) else (bif Nat.beq pc 58 then some (.putfield 47, 3, 0, 0) else none))) else (bif Nat.ble 54 pc then (bif Nat.ble 55 pc then (bif Nat.beq pc 55 then some (.getfield 47, 3, 0, 0) else none) else (bif Nat.beq pc 54 then some (.aload_n 1, 1, 0, 0) else none)) else (bif Nat.beq pc 53 then some (.aload_n 0, 1, 0, 0) else none))))) else (bif Nat.ble 25 pc then (bif Nat.ble 39 pc then (bif Nat.ble 45 pc then (bif Nat.ble 47 pc then (bif Nat.ble 50 pc then (bif Nat.beq pc 50 then some (.putfield 44, 3, 0, 0) else none) else (bif Nat.beq pc 47 then some (.getfield 44, 3, 0, 0) else none)) else (bif Nat.ble 46 pc then (bif Nat.beq pc 46 then some (.aload_n 1, 1, 0, 0) else none) else (bif Nat.beq pc 45 then some (.aload_n 0, 1, 0, 0) else none))) else (bif Nat.ble 40 pc then (bif Nat.ble 42 pc then (bif Nat.beq pc 42 then some (.invokestatic 59, 3, 0, 0) else none) else (bif Nat.beq pc 40 then some (.bipush 60, 2, 60, 0) else none)) else (bif Nat.beq pc 39 then some (.iconst 0, 1, 0, 0) else none))) else (bif Nat.ble 31 pc then (bif Nat.ble 35 pc then (bif Nat.ble 36 pc then (bif Nat.beq pc 36 then some (.getfield 21, 3, 0, 0) else none) else (bif Nat.beq pc 35 then some (.aload_n 0, 1, 0, 0) else none)) else (bif Nat.ble 34 pc then (bif Nat.beq pc 34 then some (.iconst 0, 1, 0, 0) else none) else (bif Nat.beq pc 31 then some (.getfield 21, 3, 0, 0) else none))) else (bif Nat.ble 27 pc then (bif Nat.ble 30 pc then (bif Nat.beq pc 30 then some (.aload_n 1, 1, 0, 0) else none) else (bif Nat.beq pc 27 then some (.invokestatic 59, 3, 0, 0) else none)) else (bif Nat.beq pc 25 then some (.bipush 60, 2, 60, 0) else none)))) else (bif Nat.ble 12 pc then (bif Nat.ble 19 pc then (bif Nat.ble 21 pc then (bif Nat.ble 24 pc then (bif Nat.beq pc 24 then some (.iconst 0, 1, 0, 0) else none) else (bif Nat.beq pc 21 then some (.getfield 18, 3, 0, 0) else none)) else (bif Nat.ble 20 pc then (bif Nat.beq pc 20 then some (.aload_n 0, 1, 0, 0) else none) else (bif Nat.beq pc 19 then some (.iconst 0, 1, 0, 0) else none))) else (bif Nat.ble 15 pc then (bif Nat.ble 16 pc then (bif Nat.beq pc 16 then some (.getfield 18, 3, 0, 0) else none) else (bif Nat.beq pc 15 then some (.aload_n 1, 1, 0, 0) else none)) else (bif Nat.beq pc 12 then some (.invokestatic 59, 3, 0, 0) else none))) else (bif Nat.ble 5 pc then (bif Nat.ble 9 pc then (bif Nat.ble 10 pc then (bif Nat.beq pc 10 then some (.bipush 36, 2, 36, 0) else none) else (bif Nat.beq pc 9 then some (.iconst 0, 1, 0, 0) else none)) else (bif Nat.ble 6 pc then (bif Nat.beq pc 6 then some (.getfield 9, 3, 0, 0) else none) else (bif Nat.beq pc 5 then some (.aload_n 0, 1, 0, 0) else none))) else (bif Nat.ble 1 pc then (bif Nat.ble 4 pc then (bif Nat.beq pc 4 then some (.iconst 0, 1, 0, 0) else none) else (bif Nat.beq pc 1 then some (.getfield 9, 3, 0, 0) else none)) else (bif Nat.beq pc 0 then some (.aload_n 1, 1, 0, 0) else none)))))
def I_X4_copyFrom : Nat → Option mjI := fun pc => bif Nat.ble 110 pc then none else J_X4_copyFrom pc
set_option maxRecDepth 100000 in
theorem I_X4_copyFrom_ok : ∀ pc row, I_X4_copyFrom pc = some row → mjrow Y0 cX4_copyFrom pc row = true ∧ mjrp none row.1 = true := mjchk_ok (n := 110) (by decide +kernel) (mjhi rfl)
def J_X4_passMinutes : Nat → Option mjI := fun pc => bif Nat.ble 10 pc then (bif Nat.ble 20 pc then (bif Nat.ble 26 pc then (bif Nat.ble 29 pc then (bif Nat.ble 30 pc then (bif Nat.beq pc 30 then some (.ireturn, 1, 0, 0) else none) else (bif Nat.beq pc 29 then some (.iload_n 2, 1, 0, 0) else none)) else (bif Nat.beq pc 26 then some (.goto (-22), 3, 0, 4) else none)) else (bif Nat.ble 23 pc then (bif Nat.beq pc 23 then some (.iinc 3 1, 3, 1, 0) else none) else (bif Nat.beq pc 20 then some (.iinc 2 1, 3, 1, 0) else none))) else (bif Nat.ble 14 pc then (bif Nat.ble 17 pc then (bif Nat.beq pc 17 then some (.ifCond .eq 6, 3, 0, 23) else none) else (bif Nat.beq pc 14 then some (.invokevirtual 68, 3, 0, 0) else none)) else (bif Nat.ble 13 pc then (bif Nat.beq pc 13 then some (.aload_n 0, 1, 0, 0) else none) else (bif Nat.beq pc 10 then some (.invokevirtual 65, 3, 0, 0) else none)))) else (bif Nat.ble 4 pc then (bif Nat.ble 6 pc then (bif Nat.ble 9 pc then (bif Nat.beq pc 9 then some (.aload_n 0, 1, 0, 0) else none) else (bif Nat.beq pc 6 then some (.if_icmp .ge 23, 3, 0, 29) else none)) else (bif Nat.ble 5 pc then (bif Nat.beq pc 5 then some (.iload_n 1, 1, 0, 0) else none) else (bif Nat.beq pc 4 then some (.iload_n 3, 1, 0, 0) else none))) else (bif Nat.ble 2 pc then (bif Nat.ble 3 pc then (bif Nat.beq pc 3 then some (.istore_n 3, 1, 0, 0) else none) else (bif Nat.beq pc 2 then some (.iconst 0, 1, 0, 0) else none)) else (bif Nat.ble 1 pc then (bif Nat.beq pc 1 then some (.istore_n 2, 1, 0, 0) else none) else (bif Nat.beq pc 0 then some (.iconst 0, 1, 0, 0) else none))))
def I_X4_passMinutes : Nat → Option mjI := fun pc => bif Nat.ble 31 pc then none else J_X4_passMinutes pc
set_option maxRecDepth 100000 in
theorem I_X4_passMinutes_ok : ∀ pc row, I_X4_passMinutes pc = some row → mjrow Y0 cX4_passMinutes pc row = true ∧ mjrp (some .int) row.1 = true := mjchk_ok (n := 31) (by decide +kernel) (mjhi rfl)
def J_X4_staysWhole : Nat → Option mjI := fun pc => bif Nat.ble 12 pc then (bif Nat.ble 20 pc then (bif Nat.ble 26 pc then (bif Nat.ble 27 pc then (bif Nat.beq pc 27 then some (.ireturn, 1, 0, 0) else none) else (bif Nat.beq pc 26 then some (.iconst 1, 1, 1, 0) else none)) else (bif Nat.ble 23 pc then (bif Nat.beq pc 23 then some (.goto (-21), 3, 0, 2) else none) else (bif Nat.beq pc 20 then some (.iinc 2 1, 3, 1, 0) else none))) else (bif Nat.ble 18 pc then (bif Nat.ble 19 pc then (bif Nat.beq pc 19 then some (.ireturn, 1, 0, 0) else none) else (bif Nat.beq pc 18 then some (.iconst 0, 1, 0, 0) else none)) else (bif Nat.ble 15 pc then (bif Nat.beq pc 15 then some (.ifCond .eq 5, 3, 0, 20) else none) else (bif Nat.beq pc 12 then some (.invokevirtual 68, 3, 0, 0) else none)))) else (bif Nat.ble 4 pc then (bif Nat.ble 8 pc then (bif Nat.ble 11 pc then (bif Nat.beq pc 11 then some (.aload_n 0, 1, 0, 0) else none) else (bif Nat.beq pc 8 then some (.invokevirtual 65, 3, 0, 0) else none)) else (bif Nat.ble 7 pc then (bif Nat.beq pc 7 then some (.aload_n 0, 1, 0, 0) else none) else (bif Nat.beq pc 4 then some (.if_icmp .ge 22, 3, 0, 26) else none))) else (bif Nat.ble 2 pc then (bif Nat.ble 3 pc then (bif Nat.beq pc 3 then some (.iload_n 1, 1, 0, 0) else none) else (bif Nat.beq pc 2 then some (.iload_n 2, 1, 0, 0) else none)) else (bif Nat.ble 1 pc then (bif Nat.beq pc 1 then some (.istore_n 2, 1, 0, 0) else none) else (bif Nat.beq pc 0 then some (.iconst 0, 1, 0, 0) else none))))
def I_X4_staysWhole : Nat → Option mjI := fun pc => bif Nat.ble 28 pc then none else J_X4_staysWhole pc
set_option maxRecDepth 100000 in
theorem I_X4_staysWhole_ok : ∀ pc row, I_X4_staysWhole pc = some row → mjrow Y0 cX4_staysWhole pc row = true ∧ mjrp (some .boolean) row.1 = true := mjchk_ok (n := 28) (by decide +kernel) (mjhi rfl)
def J_X4_letHeatFlow : Nat → Option mjI := fun pc => bif Nat.ble 31 pc then (bif Nat.ble 45 pc then (bif Nat.ble 51 pc then (bif Nat.ble 53 pc then (bif Nat.ble 56 pc then (bif Nat.ble 59 pc then (bif Nat.beq pc 59 then some (.return_, 1, 0, 0) else none) else (bif Nat.beq pc 56 then some (.goto (-24), 3, 0, 32) else none)) else (bif Nat.beq pc 53 then some (.iinc 1 1, 3, 1, 0) else none)) else (bif Nat.ble 52 pc then (bif Nat.beq pc 52 then some (.iastore, 1, 0, 0) else none) else (bif Nat.beq pc 51 then some (.iadd, 1, 0, 0) else none))) else (bif Nat.ble 49 pc then (bif Nat.ble 50 pc then (bif Nat.beq pc 50 then some (.iaload, 1, 0, 0) else none) else (bif Nat.beq pc 49 then some (.iload_n 1, 1, 0, 0) else none)) else (bif Nat.ble 46 pc then (bif Nat.beq pc 46 then some (.getfield 15, 3, 0, 0) else none) else (bif Nat.beq pc 45 then some (.aload_n 0, 1, 0, 0) else none)))) else (bif Nat.ble 38 pc then (bif Nat.ble 42 pc then (bif Nat.ble 43 pc then (bif Nat.ble 44 pc then (bif Nat.beq pc 44 then some (.iaload, 1, 0, 0) else none) else (bif Nat.beq pc 43 then some (.dup2, 1, 0, 0) else none)) else (bif Nat.beq pc 42 then some (.iload_n 1, 1, 0, 0) else none)) else (bif Nat.ble 39 pc then (bif Nat.beq pc 39 then some (.getfield 9, 3, 0, 0) else none) else (bif Nat.beq pc 38 then some (.aload_n 0, 1, 0, 0) else none))) else (bif Nat.ble 33 pc then (bif Nat.ble 35 pc then (bif Nat.beq pc 35 then some (.if_icmp .ge 24, 3, 0, 59) else none) else (bif Nat.beq pc 33 then some (.bipush 36, 2, 36, 0) else none)) else (bif Nat.ble 32 pc then (bif Nat.beq pc 32 then some (.iload_n 1, 1, 0, 0) else none) else (bif Nat.beq pc 31 then some (.istore_n 1, 1, 0, 0) else none))))) else (bif Nat.ble 14 pc then (bif Nat.ble 22 pc then (bif Nat.ble 26 pc then (bif Nat.ble 27 pc then (bif Nat.ble 30 pc then (bif Nat.beq pc 30 then some (.iconst 0, 1, 0, 0) else none) else (bif Nat.beq pc 27 then some (.invokevirtual 78, 3, 0, 0) else none)) else (bif Nat.beq pc 26 then some (.aload_n 0, 1, 0, 0) else none)) else (bif Nat.ble 23 pc then (bif Nat.beq pc 23 then some (.invokevirtual 75, 3, 0, 0) else none) else (bif Nat.beq pc 22 then some (.aload_n 0, 1, 0, 0) else none))) else (bif Nat.ble 18 pc then (bif Nat.ble 19 pc then (bif Nat.beq pc 19 then some (.invokestatic 38, 3, 0, 0) else none) else (bif Nat.beq pc 18 then some (.iconst 0, 1, 0, 0) else none)) else (bif Nat.ble 15 pc then (bif Nat.beq pc 15 then some (.getfield 15, 3, 0, 0) else none) else (bif Nat.beq pc 14 then some (.aload_n 0, 1, 0, 0) else none)))) else (bif Nat.ble 6 pc then (bif Nat.ble 10 pc then (bif Nat.ble 11 pc then (bif Nat.beq pc 11 then some (.invokevirtual 72, 3, 0, 0) else none) else (bif Nat.beq pc 10 then some (.aload_n 0, 1, 0, 0) else none)) else (bif Nat.ble 7 pc then (bif Nat.beq pc 7 then some (.putfield 50, 3, 0, 0) else none) else (bif Nat.beq pc 6 then some (.iadd, 1, 0, 0) else none))) else (bif Nat.ble 2 pc then (bif Nat.ble 5 pc then (bif Nat.beq pc 5 then some (.iconst 1, 1, 1, 0) else none) else (bif Nat.beq pc 2 then some (.getfield 50, 3, 0, 0) else none)) else (bif Nat.ble 1 pc then (bif Nat.beq pc 1 then some (.dup, 1, 0, 0) else none) else (bif Nat.beq pc 0 then some (.aload_n 0, 1, 0, 0) else none)))))
def I_X4_letHeatFlow : Nat → Option mjI := fun pc => bif Nat.ble 60 pc then none else J_X4_letHeatFlow pc
set_option maxRecDepth 100000 in
theorem I_X4_letHeatFlow_ok : ∀ pc row, I_X4_letHeatFlow pc = some row → mjrow Y0 cX4_letHeatFlow pc row = true ∧ mjrp none row.1 = true := mjchk_ok (n := 60) (by decide +kernel) (mjhi rfl)
def J_X4_moveFurnace : Nat → Option mjI := fun pc => bif Nat.ble 25 pc then (bif Nat.ble 40 pc then (bif Nat.ble 47 pc then (bif Nat.ble 51 pc then (bif Nat.ble 54 pc then (bif Nat.beq pc 54 then some (.return_, 1, 0, 0) else none) else (bif Nat.beq pc 51 then some (.putfield 44, 3, 0, 0) else none)) else (bif Nat.ble 48 pc then (bif Nat.beq pc 48 then some (.invokestatic 87, 3, 0, 0) else none) else (bif Nat.beq pc 47 then some (.isub, 1, 0, 0) else none))) else (bif Nat.ble 43 pc then (bif Nat.ble 44 pc then (bif Nat.beq pc 44 then some (.getfield 24, 3, 0, 0) else none) else (bif Nat.beq pc 43 then some (.aload_n 0, 1, 0, 0) else none)) else (bif Nat.beq pc 40 then some (.getfield 44, 3, 0, 0) else none))) else (bif Nat.ble 34 pc then (bif Nat.ble 36 pc then (bif Nat.ble 39 pc then (bif Nat.beq pc 39 then some (.aload_n 0, 1, 0, 0) else none) else (bif Nat.beq pc 36 then some (.getfield 47, 3, 0, 0) else none)) else (bif Nat.ble 35 pc then (bif Nat.beq pc 35 then some (.aload_n 0, 1, 0, 0) else none) else (bif Nat.beq pc 34 then some (.aload_n 0, 1, 0, 0) else none))) else (bif Nat.ble 28 pc then (bif Nat.ble 31 pc then (bif Nat.beq pc 31 then some (.goto 23, 3, 0, 54) else none) else (bif Nat.beq pc 28 then some (.putfield 44, 3, 0, 0) else none)) else (bif Nat.beq pc 25 then some (.invokestatic 81, 3, 0, 0) else none)))) else (bif Nat.ble 12 pc then (bif Nat.ble 17 pc then (bif Nat.ble 21 pc then (bif Nat.ble 24 pc then (bif Nat.beq pc 24 then some (.iadd, 1, 0, 0) else none) else (bif Nat.beq pc 21 then some (.getfield 24, 3, 0, 0) else none)) else (bif Nat.ble 20 pc then (bif Nat.beq pc 20 then some (.aload_n 0, 1, 0, 0) else none) else (bif Nat.beq pc 17 then some (.getfield 44, 3, 0, 0) else none))) else (bif Nat.ble 13 pc then (bif Nat.ble 16 pc then (bif Nat.beq pc 16 then some (.aload_n 0, 1, 0, 0) else none) else (bif Nat.beq pc 13 then some (.getfield 47, 3, 0, 0) else none)) else (bif Nat.beq pc 12 then some (.aload_n 0, 1, 0, 0) else none))) else (bif Nat.ble 5 pc then (bif Nat.ble 8 pc then (bif Nat.ble 11 pc then (bif Nat.beq pc 11 then some (.aload_n 0, 1, 0, 0) else none) else (bif Nat.beq pc 8 then some (.if_icmp .ge 26, 3, 0, 34) else none)) else (bif Nat.beq pc 5 then some (.getfield 47, 3, 0, 0) else none)) else (bif Nat.ble 1 pc then (bif Nat.ble 4 pc then (bif Nat.beq pc 4 then some (.aload_n 0, 1, 0, 0) else none) else (bif Nat.beq pc 1 then some (.getfield 44, 3, 0, 0) else none)) else (bif Nat.beq pc 0 then some (.aload_n 0, 1, 0, 0) else none))))
def I_X4_moveFurnace : Nat → Option mjI := fun pc => bif Nat.ble 55 pc then none else J_X4_moveFurnace pc
set_option maxRecDepth 100000 in
theorem I_X4_moveFurnace_ok : ∀ pc row, I_X4_moveFurnace pc = some row → mjrow Y0 cX4_moveFurnace pc row = true ∧ mjrp none row.1 = true := mjchk_ok (n := 55) (by decide +kernel) (mjhi rfl)
def J_X4_flowOverJoints : Nat → Option mjI := fun pc => bif Nat.ble 33 pc then (bif Nat.ble 49 pc then (bif Nat.ble 57 pc then (bif Nat.ble 62 pc then (bif Nat.ble 65 pc then (bif Nat.ble 68 pc then (bif Nat.beq pc 68 then some (.return_, 1, 0, 0) else none) else (bif Nat.beq pc 65 then some (.goto (-63), 3, 0, 2) else none)) else (bif Nat.beq pc 62 then some (.iinc 1 1, 3, 1, 0) else none)) else (bif Nat.ble 59 pc then (bif Nat.beq pc 59 then some (.invokevirtual 106, 3, 0, 0) else none) else (bif Nat.beq pc 57 then some (.iload 4, 2, 0, 0) else none))) else (bif Nat.ble 52 pc then (bif Nat.ble 55 pc then (bif Nat.ble 56 pc then (bif Nat.beq pc 56 then some (.iload_n 3, 1, 0, 0) else none) else (bif Nat.beq pc 55 then some (.aload_n 0, 1, 0, 0) else none)) else (bif Nat.beq pc 52 then some (.invokevirtual 106, 3, 0, 0) else none)) else (bif Nat.ble 51 pc then (bif Nat.beq pc 51 then some (.ineg, 1, 0, 0) else none) else (bif Nat.beq pc 49 then some (.iload 4, 2, 0, 0) else none)))) else (bif Nat.ble 42 pc then (bif Nat.ble 45 pc then (bif Nat.ble 47 pc then (bif Nat.ble 48 pc then (bif Nat.beq pc 48 then some (.iload_n 2, 1, 0, 0) else none) else (bif Nat.beq pc 47 then some (.aload_n 0, 1, 0, 0) else none)) else (bif Nat.beq pc 45 then some (.istore 4, 2, 0, 0) else none)) else (bif Nat.ble 44 pc then (bif Nat.beq pc 44 then some (.idiv, 1, 0, 0) else none) else (bif Nat.beq pc 42 then some (.bipush 100, 2, 100, 0) else none))) else (bif Nat.ble 37 pc then (bif Nat.ble 38 pc then (bif Nat.ble 41 pc then (bif Nat.beq pc 41 then some (.imul, 1, 0, 0) else none) else (bif Nat.beq pc 38 then some (.getfield 28, 3, 0, 0) else none)) else (bif Nat.beq pc 37 then some (.aload_n 0, 1, 0, 0) else none)) else (bif Nat.ble 36 pc then (bif Nat.beq pc 36 then some (.isub, 1, 0, 0) else none) else (bif Nat.beq pc 33 then some (.invokevirtual 103, 3, 0, 0) else none))))) else (bif Nat.ble 17 pc then (bif Nat.ble 26 pc then (bif Nat.ble 28 pc then (bif Nat.ble 31 pc then (bif Nat.ble 32 pc then (bif Nat.beq pc 32 then some (.iload_n 3, 1, 0, 0) else none) else (bif Nat.beq pc 31 then some (.aload_n 0, 1, 0, 0) else none)) else (bif Nat.beq pc 28 then some (.invokevirtual 103, 3, 0, 0) else none)) else (bif Nat.ble 27 pc then (bif Nat.beq pc 27 then some (.iload_n 2, 1, 0, 0) else none) else (bif Nat.beq pc 26 then some (.aload_n 0, 1, 0, 0) else none))) else (bif Nat.ble 21 pc then (bif Nat.ble 22 pc then (bif Nat.ble 25 pc then (bif Nat.beq pc 25 then some (.istore_n 3, 1, 0, 0) else none) else (bif Nat.beq pc 22 then some (.invokestatic 100, 3, 0, 0) else none)) else (bif Nat.beq pc 21 then some (.iload_n 1, 1, 0, 0) else none)) else (bif Nat.ble 20 pc then (bif Nat.beq pc 20 then some (.istore_n 2, 1, 0, 0) else none) else (bif Nat.beq pc 17 then some (.invokestatic 94, 3, 0, 0) else none)))) else (bif Nat.ble 8 pc then (bif Nat.ble 10 pc then (bif Nat.ble 13 pc then (bif Nat.ble 16 pc then (bif Nat.beq pc 16 then some (.iload_n 1, 1, 0, 0) else none) else (bif Nat.beq pc 13 then some (.ifCond .eq 49, 3, 0, 62) else none)) else (bif Nat.beq pc 10 then some (.invokevirtual 90, 3, 0, 0) else none)) else (bif Nat.ble 9 pc then (bif Nat.beq pc 9 then some (.iload_n 1, 1, 0, 0) else none) else (bif Nat.beq pc 8 then some (.aload_n 0, 1, 0, 0) else none))) else (bif Nat.ble 2 pc then (bif Nat.ble 3 pc then (bif Nat.ble 5 pc then (bif Nat.beq pc 5 then some (.if_icmp .ge 63, 3, 0, 68) else none) else (bif Nat.beq pc 3 then some (.bipush 60, 2, 60, 0) else none)) else (bif Nat.beq pc 2 then some (.iload_n 1, 1, 0, 0) else none)) else (bif Nat.ble 1 pc then (bif Nat.beq pc 1 then some (.istore_n 1, 1, 0, 0) else none) else (bif Nat.beq pc 0 then some (.iconst 0, 1, 0, 0) else none)))))
def I_X4_flowOverJoints : Nat → Option mjI := fun pc => bif Nat.ble 69 pc then none else J_X4_flowOverJoints pc
set_option maxRecDepth 100000 in
theorem I_X4_flowOverJoints_ok : ∀ pc row, I_X4_flowOverJoints pc = some row → mjrow Y0 cX4_flowOverJoints pc row = true ∧ mjrp none row.1 = true := mjchk_ok (n := 69) (by decide +kernel) (mjhi rfl)
def J_X4_flowAtRim : Nat → Option mjI := fun pc => bif Nat.ble 31 pc then (bif Nat.ble 42 pc then (bif Nat.ble 49 pc then (bif Nat.ble 53 pc then (bif Nat.ble 56 pc then (bif Nat.ble 59 pc then (bif Nat.beq pc 59 then some (.return_, 1, 0, 0) else none) else (bif Nat.beq pc 56 then some (.goto (-54), 3, 0, 2) else none)) else (bif Nat.beq pc 53 then some (.iinc 1 1, 3, 1, 0) else none)) else (bif Nat.ble 50 pc then (bif Nat.beq pc 50 then some (.putfield 53, 3, 0, 0) else none) else (bif Nat.beq pc 49 then some (.iadd, 1, 0, 0) else none))) else (bif Nat.ble 44 pc then (bif Nat.ble 45 pc then (bif Nat.ble 48 pc then (bif Nat.beq pc 48 then some (.iload_n 2, 1, 0, 0) else none) else (bif Nat.beq pc 45 then some (.getfield 53, 3, 0, 0) else none)) else (bif Nat.beq pc 44 then some (.dup, 1, 0, 0) else none)) else (bif Nat.ble 43 pc then (bif Nat.beq pc 43 then some (.aload_n 0, 1, 0, 0) else none) else (bif Nat.beq pc 42 then some (.iastore, 1, 0, 0) else none)))) else (bif Nat.ble 37 pc then (bif Nat.ble 39 pc then (bif Nat.ble 40 pc then (bif Nat.ble 41 pc then (bif Nat.beq pc 41 then some (.isub, 1, 0, 0) else none) else (bif Nat.beq pc 40 then some (.iload_n 2, 1, 0, 0) else none)) else (bif Nat.beq pc 39 then some (.iaload, 1, 0, 0) else none)) else (bif Nat.ble 38 pc then (bif Nat.beq pc 38 then some (.dup2, 1, 0, 0) else none) else (bif Nat.beq pc 37 then some (.iload_n 1, 1, 0, 0) else none))) else (bif Nat.ble 33 pc then (bif Nat.ble 34 pc then (bif Nat.beq pc 34 then some (.getfield 15, 3, 0, 0) else none) else (bif Nat.beq pc 33 then some (.aload_n 0, 1, 0, 0) else none)) else (bif Nat.ble 32 pc then (bif Nat.beq pc 32 then some (.istore_n 2, 1, 0, 0) else none) else (bif Nat.beq pc 31 then some (.imul, 1, 0, 0) else none))))) else (bif Nat.ble 14 pc then (bif Nat.ble 23 pc then (bif Nat.ble 26 pc then (bif Nat.ble 27 pc then (bif Nat.ble 28 pc then (bif Nat.beq pc 28 then some (.invokestatic 110, 3, 0, 0) else none) else (bif Nat.beq pc 27 then some (.iload_n 1, 1, 0, 0) else none)) else (bif Nat.beq pc 26 then some (.idiv, 1, 0, 0) else none)) else (bif Nat.ble 24 pc then (bif Nat.beq pc 24 then some (.bipush 100, 2, 100, 0) else none) else (bif Nat.beq pc 23 then some (.imul, 1, 0, 0) else none))) else (bif Nat.ble 18 pc then (bif Nat.ble 19 pc then (bif Nat.ble 20 pc then (bif Nat.beq pc 20 then some (.getfield 31, 3, 0, 0) else none) else (bif Nat.beq pc 19 then some (.aload_n 0, 1, 0, 0) else none)) else (bif Nat.beq pc 18 then some (.isub, 1, 0, 0) else none)) else (bif Nat.ble 15 pc then (bif Nat.beq pc 15 then some (.getfield 44, 3, 0, 0) else none) else (bif Nat.beq pc 14 then some (.aload_n 0, 1, 0, 0) else none)))) else (bif Nat.ble 5 pc then (bif Nat.ble 9 pc then (bif Nat.ble 12 pc then (bif Nat.ble 13 pc then (bif Nat.beq pc 13 then some (.iaload, 1, 0, 0) else none) else (bif Nat.beq pc 12 then some (.iload_n 1, 1, 0, 0) else none)) else (bif Nat.beq pc 9 then some (.getfield 9, 3, 0, 0) else none)) else (bif Nat.ble 8 pc then (bif Nat.beq pc 8 then some (.aload_n 0, 1, 0, 0) else none) else (bif Nat.beq pc 5 then some (.if_icmp .ge 54, 3, 0, 59) else none))) else (bif Nat.ble 2 pc then (bif Nat.ble 3 pc then (bif Nat.beq pc 3 then some (.bipush 36, 2, 36, 0) else none) else (bif Nat.beq pc 2 then some (.iload_n 1, 1, 0, 0) else none)) else (bif Nat.ble 1 pc then (bif Nat.beq pc 1 then some (.istore_n 1, 1, 0, 0) else none) else (bif Nat.beq pc 0 then some (.iconst 0, 1, 0, 0) else none)))))
def I_X4_flowAtRim : Nat → Option mjI := fun pc => bif Nat.ble 60 pc then none else J_X4_flowAtRim pc
set_option maxRecDepth 100000 in
theorem I_X4_flowAtRim_ok : ∀ pc row, I_X4_flowAtRim pc = some row → mjrow Y0 cX4_flowAtRim pc row = true ∧ mjrp none row.1 = true := mjchk_ok (n := 60) (by decide +kernel) (mjhi rfl)
def J_X4_gain : Nat → Option mjI := fun pc => bif Nat.ble 12 pc then (bif Nat.ble 15 pc then (bif Nat.ble 16 pc then (bif Nat.ble 17 pc then (bif Nat.beq pc 17 then some (.return_, 1, 0, 0) else none) else (bif Nat.beq pc 16 then some (.iastore, 1, 0, 0) else none)) else (bif Nat.beq pc 15 then some (.iadd, 1, 0, 0) else none)) else (bif Nat.ble 13 pc then (bif Nat.ble 14 pc then (bif Nat.beq pc 14 then some (.iload_n 2, 1, 0, 0) else none) else (bif Nat.beq pc 13 then some (.iaload, 1, 0, 0) else none)) else (bif Nat.beq pc 12 then some (.dup2, 1, 0, 0) else none))) else (bif Nat.ble 7 pc then (bif Nat.ble 8 pc then (bif Nat.ble 11 pc then (bif Nat.beq pc 11 then some (.iload_n 1, 1, 0, 0) else none) else (bif Nat.beq pc 8 then some (.getfield 15, 3, 0, 0) else none)) else (bif Nat.beq pc 7 then some (.aload_n 0, 1, 0, 0) else none)) else (bif Nat.ble 1 pc then (bif Nat.ble 4 pc then (bif Nat.beq pc 4 then some (.ifCond .eq 13, 3, 0, 17) else none) else (bif Nat.beq pc 1 then some (.invokestatic 113, 3, 0, 0) else none)) else (bif Nat.beq pc 0 then some (.iload_n 1, 1, 0, 0) else none)))
def I_X4_gain : Nat → Option mjI := fun pc => bif Nat.ble 18 pc then none else J_X4_gain pc
set_option maxRecDepth 100000 in
theorem I_X4_gain_ok : ∀ pc row, I_X4_gain pc = some row → mjrow Y0 cX4_gain pc row = true ∧ mjrp none row.1 = true := mjchk_ok (n := 18) (by decide +kernel) (mjhi rfl)
def J_X4_crackWorst : Nat → Option mjI := fun pc => bif Nat.ble 22 pc then (bif Nat.ble 32 pc then (bif Nat.ble 35 pc then (bif Nat.ble 38 pc then (bif Nat.ble 39 pc then (bif Nat.beq pc 39 then some (.ireturn, 1, 0, 0) else none) else (bif Nat.beq pc 38 then some (.iconst 1, 1, 1, 0) else none)) else (bif Nat.beq pc 35 then some (.invokevirtual 123, 3, 0, 0) else none)) else (bif Nat.ble 33 pc then (bif Nat.ble 34 pc then (bif Nat.beq pc 34 then some (.iload_n 1, 1, 0, 0) else none) else (bif Nat.beq pc 33 then some (.aload_n 0, 1, 0, 0) else none)) else (bif Nat.beq pc 32 then some (.iastore, 1, 0, 0) else none))) else (bif Nat.ble 27 pc then (bif Nat.ble 28 pc then (bif Nat.ble 29 pc then (bif Nat.beq pc 29 then some (.getfield 50, 3, 0, 0) else none) else (bif Nat.beq pc 28 then some (.aload_n 0, 1, 0, 0) else none)) else (bif Nat.beq pc 27 then some (.iload_n 1, 1, 0, 0) else none)) else (bif Nat.ble 23 pc then (bif Nat.ble 24 pc then (bif Nat.beq pc 24 then some (.getfield 21, 3, 0, 0) else none) else (bif Nat.beq pc 23 then some (.aload_n 0, 1, 0, 0) else none)) else (bif Nat.beq pc 22 then some (.ireturn, 1, 0, 0) else none)))) else (bif Nat.ble 10 pc then (bif Nat.ble 15 pc then (bif Nat.ble 18 pc then (bif Nat.ble 21 pc then (bif Nat.beq pc 21 then some (.iconst 0, 1, 0, 0) else none) else (bif Nat.beq pc 18 then some (.ifCond .lt 5, 3, 0, 23) else none)) else (bif Nat.beq pc 15 then some (.invokevirtual 120, 3, 0, 0) else none)) else (bif Nat.ble 13 pc then (bif Nat.ble 14 pc then (bif Nat.beq pc 14 then some (.iload_n 1, 1, 0, 0) else none) else (bif Nat.beq pc 13 then some (.aload_n 0, 1, 0, 0) else none)) else (bif Nat.beq pc 10 then some (.ifCond .eq 11, 3, 0, 21) else none))) else (bif Nat.ble 5 pc then (bif Nat.ble 6 pc then (bif Nat.ble 7 pc then (bif Nat.beq pc 7 then some (.invokevirtual 90, 3, 0, 0) else none) else (bif Nat.beq pc 6 then some (.iload_n 1, 1, 0, 0) else none)) else (bif Nat.beq pc 5 then some (.aload_n 0, 1, 0, 0) else none)) else (bif Nat.ble 1 pc then (bif Nat.ble 4 pc then (bif Nat.beq pc 4 then some (.istore_n 1, 1, 0, 0) else none) else (bif Nat.beq pc 1 then some (.invokevirtual 116, 3, 0, 0) else none)) else (bif Nat.beq pc 0 then some (.aload_n 0, 1, 0, 0) else none))))
def I_X4_crackWorst : Nat → Option mjI := fun pc => bif Nat.ble 40 pc then none else J_X4_crackWorst pc
set_option maxRecDepth 100000 in
theorem I_X4_crackWorst_ok : ∀ pc row, I_X4_crackWorst pc = some row → mjrow Y0 cX4_crackWorst pc row = true ∧ mjrp (some .boolean) row.1 = true := mjchk_ok (n := 40) (by decide +kernel) (mjhi rfl)
def J_X4_weakenBeside : Nat → Option mjI := fun pc => bif Nat.ble 28 pc then (bif Nat.ble 38 pc then (bif Nat.ble 45 pc then (bif Nat.ble 49 pc then (bif Nat.ble 52 pc then (bif Nat.beq pc 52 then some (.return_, 1, 0, 0) else none) else (bif Nat.beq pc 49 then some (.goto (-47), 3, 0, 2) else none)) else (bif Nat.ble 46 pc then (bif Nat.beq pc 46 then some (.iinc 2 1, 3, 1, 0) else none) else (bif Nat.beq pc 45 then some (.iastore, 1, 0, 0) else none))) else (bif Nat.ble 41 pc then (bif Nat.ble 42 pc then (bif Nat.beq pc 42 then some (.invokestatic 87, 3, 0, 0) else none) else (bif Nat.beq pc 41 then some (.idiv, 1, 0, 0) else none)) else (bif Nat.ble 39 pc then (bif Nat.beq pc 39 then some (.bipush 10, 2, 10, 0) else none) else (bif Nat.beq pc 38 then some (.imul, 1, 0, 0) else none)))) else (bif Nat.ble 31 pc then (bif Nat.ble 35 pc then (bif Nat.ble 36 pc then (bif Nat.beq pc 36 then some (.bipush 9, 2, 9, 0) else none) else (bif Nat.beq pc 35 then some (.iaload, 1, 0, 0) else none)) else (bif Nat.ble 34 pc then (bif Nat.beq pc 34 then some (.iload_n 2, 1, 0, 0) else none) else (bif Nat.beq pc 31 then some (.getfield 18, 3, 0, 0) else none))) else (bif Nat.ble 29 pc then (bif Nat.ble 30 pc then (bif Nat.beq pc 30 then some (.aload_n 0, 1, 0, 0) else none) else (bif Nat.beq pc 29 then some (.iconst 1, 1, 1, 0) else none)) else (bif Nat.beq pc 28 then some (.iload_n 2, 1, 0, 0) else none)))) else (bif Nat.ble 10 pc then (bif Nat.ble 18 pc then (bif Nat.ble 24 pc then (bif Nat.ble 25 pc then (bif Nat.beq pc 25 then some (.getfield 18, 3, 0, 0) else none) else (bif Nat.beq pc 24 then some (.aload_n 0, 1, 0, 0) else none)) else (bif Nat.ble 21 pc then (bif Nat.beq pc 21 then some (.ifCond .eq 25, 3, 0, 46) else none) else (bif Nat.beq pc 18 then some (.invokestatic 126, 3, 0, 0) else none))) else (bif Nat.ble 16 pc then (bif Nat.ble 17 pc then (bif Nat.beq pc 17 then some (.iload_n 1, 1, 0, 0) else none) else (bif Nat.beq pc 16 then some (.iload_n 2, 1, 0, 0) else none)) else (bif Nat.ble 13 pc then (bif Nat.beq pc 13 then some (.ifCond .eq 33, 3, 0, 46) else none) else (bif Nat.beq pc 10 then some (.invokevirtual 90, 3, 0, 0) else none)))) else (bif Nat.ble 3 pc then (bif Nat.ble 8 pc then (bif Nat.ble 9 pc then (bif Nat.beq pc 9 then some (.iload_n 2, 1, 0, 0) else none) else (bif Nat.beq pc 8 then some (.aload_n 0, 1, 0, 0) else none)) else (bif Nat.ble 5 pc then (bif Nat.beq pc 5 then some (.if_icmp .ge 47, 3, 0, 52) else none) else (bif Nat.beq pc 3 then some (.bipush 60, 2, 60, 0) else none))) else (bif Nat.ble 1 pc then (bif Nat.ble 2 pc then (bif Nat.beq pc 2 then some (.iload_n 2, 1, 0, 0) else none) else (bif Nat.beq pc 1 then some (.istore_n 2, 1, 0, 0) else none)) else (bif Nat.beq pc 0 then some (.iconst 0, 1, 0, 0) else none))))
def I_X4_weakenBeside : Nat → Option mjI := fun pc => bif Nat.ble 53 pc then none else J_X4_weakenBeside pc
set_option maxRecDepth 100000 in
theorem I_X4_weakenBeside_ok : ∀ pc row, I_X4_weakenBeside pc = some row → mjrow Y0 cX4_weakenBeside pc row = true ∧ mjrp none row.1 = true := mjchk_ok (n := 53) (by decide +kernel) (mjhi rfl)
def J_X4_holdFlame : Nat → Option mjI := fun pc => bif Nat.ble 23 pc then (bif Nat.ble 35 pc then (bif Nat.ble 39 pc then (bif Nat.ble 43 pc then (bif Nat.ble 45 pc then (bif Nat.beq pc 45 then some (.ireturn, 1, 0, 0) else none) else (bif Nat.beq pc 43 then some (.iload 4, 2, 0, 0) else none)) else (bif Nat.ble 40 pc then (bif Nat.beq pc 40 then some (.putfield 56, 3, 0, 0) else none) else (bif Nat.beq pc 39 then some (.iadd, 1, 0, 0) else none))) else (bif Nat.ble 37 pc then (bif Nat.ble 38 pc then (bif Nat.beq pc 38 then some (.isub, 1, 0, 0) else none) else (bif Nat.beq pc 37 then some (.iload_n 3, 1, 0, 0) else none)) else (bif Nat.beq pc 35 then some (.iload 4, 2, 0, 0) else none))) else (bif Nat.ble 29 pc then (bif Nat.ble 31 pc then (bif Nat.ble 32 pc then (bif Nat.beq pc 32 then some (.getfield 56, 3, 0, 0) else none) else (bif Nat.beq pc 31 then some (.dup, 1, 0, 0) else none)) else (bif Nat.ble 30 pc then (bif Nat.beq pc 30 then some (.aload_n 0, 1, 0, 0) else none) else (bif Nat.beq pc 29 then some (.iastore, 1, 0, 0) else none))) else (bif Nat.ble 26 pc then (bif Nat.ble 27 pc then (bif Nat.beq pc 27 then some (.iload 4, 2, 0, 0) else none) else (bif Nat.beq pc 26 then some (.iload_n 1, 1, 0, 0) else none)) else (bif Nat.beq pc 23 then some (.getfield 9, 3, 0, 0) else none)))) else (bif Nat.ble 9 pc then (bif Nat.ble 15 pc then (bif Nat.ble 19 pc then (bif Nat.ble 22 pc then (bif Nat.beq pc 22 then some (.aload_n 0, 1, 0, 0) else none) else (bif Nat.beq pc 19 then some (.ifCond .eq 11, 3, 0, 30) else none)) else (bif Nat.ble 16 pc then (bif Nat.beq pc 16 then some (.invokestatic 113, 3, 0, 0) else none) else (bif Nat.beq pc 15 then some (.iload_n 1, 1, 0, 0) else none))) else (bif Nat.ble 10 pc then (bif Nat.ble 13 pc then (bif Nat.beq pc 13 then some (.istore 4, 2, 0, 0) else none) else (bif Nat.beq pc 10 then some (.invokestatic 87, 3, 0, 0) else none)) else (bif Nat.beq pc 9 then some (.iadd, 1, 0, 0) else none))) else (bif Nat.ble 5 pc then (bif Nat.ble 7 pc then (bif Nat.ble 8 pc then (bif Nat.beq pc 8 then some (.iload_n 2, 1, 0, 0) else none) else (bif Nat.beq pc 7 then some (.iload_n 3, 1, 0, 0) else none)) else (bif Nat.ble 6 pc then (bif Nat.beq pc 6 then some (.iconst 0, 1, 0, 0) else none) else (bif Nat.beq pc 5 then some (.istore_n 3, 1, 0, 0) else none))) else (bif Nat.ble 1 pc then (bif Nat.ble 2 pc then (bif Nat.beq pc 2 then some (.invokevirtual 103, 3, 0, 0) else none) else (bif Nat.beq pc 1 then some (.iload_n 1, 1, 0, 0) else none)) else (bif Nat.beq pc 0 then some (.aload_n 0, 1, 0, 0) else none))))
def I_X4_holdFlame : Nat → Option mjI := fun pc => bif Nat.ble 46 pc then none else J_X4_holdFlame pc
set_option maxRecDepth 100000 in
theorem I_X4_holdFlame_ok : ∀ pc row, I_X4_holdFlame pc = some row → mjrow Y0 cX4_holdFlame pc row = true ∧ mjrp (some .int) row.1 = true := mjchk_ok (n := 46) (by decide +kernel) (mjhi rfl)
def J_X4_makeWhole : Nat → Option mjI := fun pc => bif Nat.ble 8 pc then (bif Nat.ble 12 pc then (bif Nat.ble 13 pc then (bif Nat.ble 14 pc then (bif Nat.beq pc 14 then some (.return_, 1, 0, 0) else none) else (bif Nat.beq pc 13 then some (.iastore, 1, 0, 0) else none)) else (bif Nat.beq pc 12 then some (.iconst 0, 1, 0, 0) else none)) else (bif Nat.ble 11 pc then (bif Nat.beq pc 11 then some (.iload_n 1, 1, 0, 0) else none) else (bif Nat.beq pc 8 then some (.getfield 21, 3, 0, 0) else none))) else (bif Nat.ble 4 pc then (bif Nat.ble 7 pc then (bif Nat.beq pc 7 then some (.aload_n 0, 1, 0, 0) else none) else (bif Nat.beq pc 4 then some (.ifCond .eq 10, 3, 0, 14) else none)) else (bif Nat.ble 1 pc then (bif Nat.beq pc 1 then some (.invokestatic 130, 3, 0, 0) else none) else (bif Nat.beq pc 0 then some (.iload_n 1, 1, 0, 0) else none)))
def I_X4_makeWhole : Nat → Option mjI := fun pc => bif Nat.ble 15 pc then none else J_X4_makeWhole pc
set_option maxRecDepth 100000 in
theorem I_X4_makeWhole_ok : ∀ pc row, I_X4_makeWhole pc = some row → mjrow Y0 cX4_makeWhole pc row = true ∧ mjrp none row.1 = true := mjchk_ok (n := 15) (by decide +kernel) (mjhi rfl)
def J_X4_strengthen : Nat → Option mjI := fun pc => bif Nat.ble 8 pc then (bif Nat.ble 12 pc then (bif Nat.ble 13 pc then (bif Nat.ble 14 pc then (bif Nat.beq pc 14 then some (.return_, 1, 0, 0) else none) else (bif Nat.beq pc 13 then some (.iastore, 1, 0, 0) else none)) else (bif Nat.beq pc 12 then some (.iload_n 2, 1, 0, 0) else none)) else (bif Nat.ble 11 pc then (bif Nat.beq pc 11 then some (.iload_n 1, 1, 0, 0) else none) else (bif Nat.beq pc 8 then some (.getfield 18, 3, 0, 0) else none))) else (bif Nat.ble 4 pc then (bif Nat.ble 7 pc then (bif Nat.beq pc 7 then some (.aload_n 0, 1, 0, 0) else none) else (bif Nat.beq pc 4 then some (.ifCond .eq 10, 3, 0, 14) else none)) else (bif Nat.ble 1 pc then (bif Nat.beq pc 1 then some (.invokestatic 130, 3, 0, 0) else none) else (bif Nat.beq pc 0 then some (.iload_n 1, 1, 0, 0) else none)))
def I_X4_strengthen : Nat → Option mjI := fun pc => bif Nat.ble 15 pc then none else J_X4_strengthen pc
set_option maxRecDepth 100000 in
theorem I_X4_strengthen_ok : ∀ pc row, I_X4_strengthen pc = some row → mjrow Y0 cX4_strengthen pc row = true ∧ mjrp none row.1 = true := mjchk_ok (n := 15) (by decide +kernel) (mjhi rfl)
def J_X4_heatAt : Nat → Option mjI := fun pc => bif Nat.ble 11 pc then (bif Nat.ble 16 pc then (bif Nat.ble 19 pc then (bif Nat.ble 20 pc then (bif Nat.beq pc 20 then some (.ireturn, 1, 0, 0) else none) else (bif Nat.beq pc 19 then some (.iconst 0, 1, 0, 0) else none)) else (bif Nat.beq pc 16 then some (.goto 4, 3, 0, 20) else none)) else (bif Nat.ble 14 pc then (bif Nat.ble 15 pc then (bif Nat.beq pc 15 then some (.iaload, 1, 0, 0) else none) else (bif Nat.beq pc 14 then some (.iload_n 1, 1, 0, 0) else none)) else (bif Nat.beq pc 11 then some (.getfield 9, 3, 0, 0) else none))) else (bif Nat.ble 5 pc then (bif Nat.ble 7 pc then (bif Nat.ble 10 pc then (bif Nat.beq pc 10 then some (.aload_n 0, 1, 0, 0) else none) else (bif Nat.beq pc 7 then some (.if_icmp .ge 12, 3, 0, 19) else none)) else (bif Nat.beq pc 5 then some (.bipush 36, 2, 36, 0) else none)) else (bif Nat.ble 1 pc then (bif Nat.ble 4 pc then (bif Nat.beq pc 4 then some (.iload_n 1, 1, 0, 0) else none) else (bif Nat.beq pc 1 then some (.ifCond .lt 18, 3, 0, 19) else none)) else (bif Nat.beq pc 0 then some (.iload_n 1, 1, 0, 0) else none)))
def I_X4_heatAt : Nat → Option mjI := fun pc => bif Nat.ble 21 pc then none else J_X4_heatAt pc
set_option maxRecDepth 100000 in
theorem I_X4_heatAt_ok : ∀ pc row, I_X4_heatAt pc = some row → mjrow Y0 cX4_heatAt pc row = true ∧ mjrp (some .int) row.1 = true := mjchk_ok (n := 21) (by decide +kernel) (mjhi rfl)
def J_X4_isWhole : Nat → Option mjI := fun pc => bif Nat.ble 14 pc then (bif Nat.ble 19 pc then (bif Nat.ble 23 pc then (bif Nat.ble 24 pc then (bif Nat.beq pc 24 then some (.ireturn, 1, 0, 0) else none) else (bif Nat.beq pc 23 then some (.iconst 0, 1, 0, 0) else none)) else (bif Nat.ble 20 pc then (bif Nat.beq pc 20 then some (.goto 4, 3, 0, 24) else none) else (bif Nat.beq pc 19 then some (.iconst 1, 1, 1, 0) else none))) else (bif Nat.ble 15 pc then (bif Nat.ble 16 pc then (bif Nat.beq pc 16 then some (.ifCond .ne 7, 3, 0, 23) else none) else (bif Nat.beq pc 15 then some (.iaload, 1, 0, 0) else none)) else (bif Nat.beq pc 14 then some (.iload_n 1, 1, 0, 0) else none))) else (bif Nat.ble 5 pc then (bif Nat.ble 10 pc then (bif Nat.ble 11 pc then (bif Nat.beq pc 11 then some (.getfield 21, 3, 0, 0) else none) else (bif Nat.beq pc 10 then some (.aload_n 0, 1, 0, 0) else none)) else (bif Nat.ble 7 pc then (bif Nat.beq pc 7 then some (.if_icmp .ge 16, 3, 0, 23) else none) else (bif Nat.beq pc 5 then some (.bipush 60, 2, 60, 0) else none))) else (bif Nat.ble 1 pc then (bif Nat.ble 4 pc then (bif Nat.beq pc 4 then some (.iload_n 1, 1, 0, 0) else none) else (bif Nat.beq pc 1 then some (.ifCond .lt 22, 3, 0, 23) else none)) else (bif Nat.beq pc 0 then some (.iload_n 1, 1, 0, 0) else none)))
def I_X4_isWhole : Nat → Option mjI := fun pc => bif Nat.ble 25 pc then none else J_X4_isWhole pc
set_option maxRecDepth 100000 in
theorem I_X4_isWhole_ok : ∀ pc row, I_X4_isWhole pc = some row → mjrow Y0 cX4_isWhole pc row = true ∧ mjrp (some .boolean) row.1 = true := mjchk_ok (n := 25) (by decide +kernel) (mjhi rfl)
def J_X4_crackedMinuteOf : Nat → Option mjI := fun pc => bif Nat.ble 11 pc then (bif Nat.ble 13 pc then (bif Nat.ble 16 pc then (bif Nat.ble 17 pc then (bif Nat.beq pc 17 then some (.ireturn, 1, 0, 0) else none) else (bif Nat.beq pc 16 then some (.iconst 0, 1, 0, 0) else none)) else (bif Nat.beq pc 13 then some (.goto 4, 3, 0, 17) else none)) else (bif Nat.ble 12 pc then (bif Nat.beq pc 12 then some (.iaload, 1, 0, 0) else none) else (bif Nat.beq pc 11 then some (.iload_n 1, 1, 0, 0) else none))) else (bif Nat.ble 4 pc then (bif Nat.ble 7 pc then (bif Nat.ble 8 pc then (bif Nat.beq pc 8 then some (.getfield 21, 3, 0, 0) else none) else (bif Nat.beq pc 7 then some (.aload_n 0, 1, 0, 0) else none)) else (bif Nat.beq pc 4 then some (.ifCond .eq 12, 3, 0, 16) else none)) else (bif Nat.ble 1 pc then (bif Nat.beq pc 1 then some (.invokestatic 130, 3, 0, 0) else none) else (bif Nat.beq pc 0 then some (.iload_n 1, 1, 0, 0) else none)))
def I_X4_crackedMinuteOf : Nat → Option mjI := fun pc => bif Nat.ble 18 pc then none else J_X4_crackedMinuteOf pc
set_option maxRecDepth 100000 in
theorem I_X4_crackedMinuteOf_ok : ∀ pc row, I_X4_crackedMinuteOf pc = some row → mjrow Y0 cX4_crackedMinuteOf pc row = true ∧ mjrp (some .int) row.1 = true := mjchk_ok (n := 18) (by decide +kernel) (mjhi rfl)
def J_X4_strengthOf : Nat → Option mjI := fun pc => bif Nat.ble 11 pc then (bif Nat.ble 13 pc then (bif Nat.ble 16 pc then (bif Nat.ble 17 pc then (bif Nat.beq pc 17 then some (.ireturn, 1, 0, 0) else none) else (bif Nat.beq pc 16 then some (.iconst 0, 1, 0, 0) else none)) else (bif Nat.beq pc 13 then some (.goto 4, 3, 0, 17) else none)) else (bif Nat.ble 12 pc then (bif Nat.beq pc 12 then some (.iaload, 1, 0, 0) else none) else (bif Nat.beq pc 11 then some (.iload_n 1, 1, 0, 0) else none))) else (bif Nat.ble 4 pc then (bif Nat.ble 7 pc then (bif Nat.ble 8 pc then (bif Nat.beq pc 8 then some (.getfield 18, 3, 0, 0) else none) else (bif Nat.beq pc 7 then some (.aload_n 0, 1, 0, 0) else none)) else (bif Nat.beq pc 4 then some (.ifCond .eq 12, 3, 0, 16) else none)) else (bif Nat.ble 1 pc then (bif Nat.beq pc 1 then some (.invokestatic 130, 3, 0, 0) else none) else (bif Nat.beq pc 0 then some (.iload_n 1, 1, 0, 0) else none)))
def I_X4_strengthOf : Nat → Option mjI := fun pc => bif Nat.ble 18 pc then none else J_X4_strengthOf pc
set_option maxRecDepth 100000 in
theorem I_X4_strengthOf_ok : ∀ pc row, I_X4_strengthOf pc = some row → mjrow Y0 cX4_strengthOf pc row = true ∧ mjrp (some .int) row.1 = true := mjchk_ok (n := 18) (by decide +kernel) (mjhi rfl)
def J_X4_stressOf : Nat → Option mjI := fun pc => bif Nat.ble 9 pc then (bif Nat.ble 16 pc then (bif Nat.ble 17 pc then (bif Nat.ble 20 pc then (bif Nat.beq pc 20 then some (.ireturn, 1, 0, 0) else none) else (bif Nat.beq pc 17 then some (.invokestatic 133, 3, 0, 0) else none)) else (bif Nat.beq pc 16 then some (.isub, 1, 0, 0) else none)) else (bif Nat.ble 10 pc then (bif Nat.ble 13 pc then (bif Nat.beq pc 13 then some (.invokevirtual 103, 3, 0, 0) else none) else (bif Nat.beq pc 10 then some (.invokestatic 100, 3, 0, 0) else none)) else (bif Nat.beq pc 9 then some (.iload_n 1, 1, 0, 0) else none))) else (bif Nat.ble 2 pc then (bif Nat.ble 5 pc then (bif Nat.ble 8 pc then (bif Nat.beq pc 8 then some (.aload_n 0, 1, 0, 0) else none) else (bif Nat.beq pc 5 then some (.invokevirtual 103, 3, 0, 0) else none)) else (bif Nat.beq pc 2 then some (.invokestatic 94, 3, 0, 0) else none)) else (bif Nat.ble 1 pc then (bif Nat.beq pc 1 then some (.iload_n 1, 1, 0, 0) else none) else (bif Nat.beq pc 0 then some (.aload_n 0, 1, 0, 0) else none)))
def I_X4_stressOf : Nat → Option mjI := fun pc => bif Nat.ble 21 pc then none else J_X4_stressOf pc
set_option maxRecDepth 100000 in
theorem I_X4_stressOf_ok : ∀ pc row, I_X4_stressOf pc = some row → mjrow Y0 cX4_stressOf pc row = true ∧ mjrp (some .int) row.1 = true := mjchk_ok (n := 21) (by decide +kernel) (mjhi rfl)
def J_X4_marginOf : Nat → Option mjI := fun pc => bif Nat.ble 6 pc then (bif Nat.ble 10 pc then (bif Nat.ble 11 pc then (bif Nat.beq pc 11 then some (.ireturn, 1, 0, 0) else none) else (bif Nat.beq pc 10 then some (.isub, 1, 0, 0) else none)) else (bif Nat.ble 7 pc then (bif Nat.beq pc 7 then some (.invokevirtual 139, 3, 0, 0) else none) else (bif Nat.beq pc 6 then some (.iload_n 1, 1, 0, 0) else none))) else (bif Nat.ble 2 pc then (bif Nat.ble 5 pc then (bif Nat.beq pc 5 then some (.aload_n 0, 1, 0, 0) else none) else (bif Nat.beq pc 2 then some (.invokevirtual 136, 3, 0, 0) else none)) else (bif Nat.ble 1 pc then (bif Nat.beq pc 1 then some (.iload_n 1, 1, 0, 0) else none) else (bif Nat.beq pc 0 then some (.aload_n 0, 1, 0, 0) else none)))
def I_X4_marginOf : Nat → Option mjI := fun pc => bif Nat.ble 12 pc then none else J_X4_marginOf pc
set_option maxRecDepth 100000 in
theorem I_X4_marginOf_ok : ∀ pc row, I_X4_marginOf pc = some row → mjrow Y0 cX4_marginOf pc row = true ∧ mjrp (some .int) row.1 = true := mjchk_ok (n := 12) (by decide +kernel) (mjhi rfl)
def J_X4_wholeJointsOf : Nat → Option mjI := fun pc => bif Nat.ble 11 pc then (bif Nat.ble 21 pc then (bif Nat.ble 27 pc then (bif Nat.ble 30 pc then (bif Nat.ble 31 pc then (bif Nat.beq pc 31 then some (.ireturn, 1, 0, 0) else none) else (bif Nat.beq pc 30 then some (.iload_n 2, 1, 0, 0) else none)) else (bif Nat.beq pc 27 then some (.goto (-23), 3, 0, 4) else none)) else (bif Nat.ble 24 pc then (bif Nat.beq pc 24 then some (.iinc 3 1, 3, 1, 0) else none) else (bif Nat.beq pc 21 then some (.iinc 2 1, 3, 1, 0) else none))) else (bif Nat.ble 15 pc then (bif Nat.ble 18 pc then (bif Nat.beq pc 18 then some (.ifCond .eq 6, 3, 0, 24) else none) else (bif Nat.beq pc 15 then some (.invokevirtual 90, 3, 0, 0) else none)) else (bif Nat.ble 12 pc then (bif Nat.beq pc 12 then some (.invokestatic 142, 3, 0, 0) else none) else (bif Nat.beq pc 11 then some (.iload_n 3, 1, 0, 0) else none)))) else (bif Nat.ble 4 pc then (bif Nat.ble 6 pc then (bif Nat.ble 9 pc then (bif Nat.ble 10 pc then (bif Nat.beq pc 10 then some (.iload_n 1, 1, 0, 0) else none) else (bif Nat.beq pc 9 then some (.aload_n 0, 1, 0, 0) else none)) else (bif Nat.beq pc 6 then some (.if_icmp .ge 24, 3, 0, 30) else none)) else (bif Nat.ble 5 pc then (bif Nat.beq pc 5 then some (.iconst 4, 1, 4, 0) else none) else (bif Nat.beq pc 4 then some (.iload_n 3, 1, 0, 0) else none))) else (bif Nat.ble 2 pc then (bif Nat.ble 3 pc then (bif Nat.beq pc 3 then some (.istore_n 3, 1, 0, 0) else none) else (bif Nat.beq pc 2 then some (.iconst 0, 1, 0, 0) else none)) else (bif Nat.ble 1 pc then (bif Nat.beq pc 1 then some (.istore_n 2, 1, 0, 0) else none) else (bif Nat.beq pc 0 then some (.iconst 0, 1, 0, 0) else none))))
def I_X4_wholeJointsOf : Nat → Option mjI := fun pc => bif Nat.ble 32 pc then none else J_X4_wholeJointsOf pc
set_option maxRecDepth 100000 in
theorem I_X4_wholeJointsOf_ok : ∀ pc row, I_X4_wholeJointsOf pc = some row → mjrow Y0 cX4_wholeJointsOf pc row = true ∧ mjrp (some .int) row.1 = true := mjchk_ok (n := 32) (by decide +kernel) (mjhi rfl)
def J_X4_wholeJointsBeside : Nat → Option mjI := fun pc => bif Nat.ble 15 pc then (bif Nat.ble 26 pc then (bif Nat.ble 32 pc then (bif Nat.ble 35 pc then (bif Nat.ble 36 pc then (bif Nat.beq pc 36 then some (.ireturn, 1, 0, 0) else none) else (bif Nat.beq pc 35 then some (.iload_n 2, 1, 0, 0) else none)) else (bif Nat.beq pc 32 then some (.goto (-28), 3, 0, 4) else none)) else (bif Nat.ble 29 pc then (bif Nat.beq pc 29 then some (.iinc 3 1, 3, 1, 0) else none) else (bif Nat.beq pc 26 then some (.iinc 2 1, 3, 1, 0) else none))) else (bif Nat.ble 19 pc then (bif Nat.ble 20 pc then (bif Nat.ble 23 pc then (bif Nat.beq pc 23 then some (.ifCond .eq 6, 3, 0, 29) else none) else (bif Nat.beq pc 20 then some (.invokestatic 126, 3, 0, 0) else none)) else (bif Nat.beq pc 19 then some (.iload_n 1, 1, 0, 0) else none)) else (bif Nat.ble 18 pc then (bif Nat.beq pc 18 then some (.iload_n 3, 1, 0, 0) else none) else (bif Nat.beq pc 15 then some (.ifCond .eq 14, 3, 0, 29) else none)))) else (bif Nat.ble 5 pc then (bif Nat.ble 10 pc then (bif Nat.ble 11 pc then (bif Nat.ble 12 pc then (bif Nat.beq pc 12 then some (.invokevirtual 90, 3, 0, 0) else none) else (bif Nat.beq pc 11 then some (.iload_n 3, 1, 0, 0) else none)) else (bif Nat.beq pc 10 then some (.aload_n 0, 1, 0, 0) else none)) else (bif Nat.ble 7 pc then (bif Nat.beq pc 7 then some (.if_icmp .ge 28, 3, 0, 35) else none) else (bif Nat.beq pc 5 then some (.bipush 60, 2, 60, 0) else none))) else (bif Nat.ble 2 pc then (bif Nat.ble 3 pc then (bif Nat.ble 4 pc then (bif Nat.beq pc 4 then some (.iload_n 3, 1, 0, 0) else none) else (bif Nat.beq pc 3 then some (.istore_n 3, 1, 0, 0) else none)) else (bif Nat.beq pc 2 then some (.iconst 0, 1, 0, 0) else none)) else (bif Nat.ble 1 pc then (bif Nat.beq pc 1 then some (.istore_n 2, 1, 0, 0) else none) else (bif Nat.beq pc 0 then some (.iconst 0, 1, 0, 0) else none))))
def I_X4_wholeJointsBeside : Nat → Option mjI := fun pc => bif Nat.ble 37 pc then none else J_X4_wholeJointsBeside pc
set_option maxRecDepth 100000 in
theorem I_X4_wholeJointsBeside_ok : ∀ pc row, I_X4_wholeJointsBeside pc = some row → mjrow Y0 cX4_wholeJointsBeside pc row = true ∧ mjrp (some .int) row.1 = true := mjchk_ok (n := 37) (by decide +kernel) (mjhi rfl)
def J_X4_greatestStressOf : Nat → Option mjI := fun pc => bif Nat.ble 18 pc then (bif Nat.ble 30 pc then (bif Nat.ble 37 pc then (bif Nat.ble 43 pc then (bif Nat.ble 44 pc then (bif Nat.beq pc 44 then some (.ireturn, 1, 0, 0) else none) else (bif Nat.beq pc 43 then some (.iload_n 2, 1, 0, 0) else none)) else (bif Nat.ble 40 pc then (bif Nat.beq pc 40 then some (.goto (-35), 3, 0, 5) else none) else (bif Nat.beq pc 37 then some (.iinc 3 1, 3, 1, 0) else none))) else (bif Nat.ble 33 pc then (bif Nat.ble 36 pc then (bif Nat.beq pc 36 then some (.istore_n 2, 1, 0, 0) else none) else (bif Nat.beq pc 33 then some (.invokestatic 87, 3, 0, 0) else none)) else (bif Nat.beq pc 30 then some (.invokevirtual 139, 3, 0, 0) else none))) else (bif Nat.ble 26 pc then (bif Nat.ble 27 pc then (bif Nat.ble 28 pc then (bif Nat.beq pc 28 then some (.iload 4, 2, 0, 0) else none) else (bif Nat.beq pc 27 then some (.aload_n 0, 1, 0, 0) else none)) else (bif Nat.beq pc 26 then some (.iload_n 2, 1, 0, 0) else none)) else (bif Nat.ble 20 pc then (bif Nat.ble 23 pc then (bif Nat.beq pc 23 then some (.ifCond .eq 14, 3, 0, 37) else none) else (bif Nat.beq pc 20 then some (.invokevirtual 90, 3, 0, 0) else none)) else (bif Nat.beq pc 18 then some (.iload 4, 2, 0, 0) else none)))) else (bif Nat.ble 7 pc then (bif Nat.ble 12 pc then (bif Nat.ble 15 pc then (bif Nat.ble 17 pc then (bif Nat.beq pc 17 then some (.aload_n 0, 1, 0, 0) else none) else (bif Nat.beq pc 15 then some (.istore 4, 2, 0, 0) else none)) else (bif Nat.beq pc 12 then some (.invokestatic 142, 3, 0, 0) else none)) else (bif Nat.ble 10 pc then (bif Nat.ble 11 pc then (bif Nat.beq pc 11 then some (.iload_n 3, 1, 0, 0) else none) else (bif Nat.beq pc 10 then some (.iload_n 1, 1, 0, 0) else none)) else (bif Nat.beq pc 7 then some (.if_icmp .ge 36, 3, 0, 43) else none))) else (bif Nat.ble 4 pc then (bif Nat.ble 5 pc then (bif Nat.ble 6 pc then (bif Nat.beq pc 6 then some (.iconst 4, 1, 4, 0) else none) else (bif Nat.beq pc 5 then some (.iload_n 3, 1, 0, 0) else none)) else (bif Nat.beq pc 4 then some (.istore_n 3, 1, 0, 0) else none)) else (bif Nat.ble 2 pc then (bif Nat.ble 3 pc then (bif Nat.beq pc 3 then some (.iconst 0, 1, 0, 0) else none) else (bif Nat.beq pc 2 then some (.istore_n 2, 1, 0, 0) else none)) else (bif Nat.beq pc 0 then some (.bipush (-4), 2, (-4), 0) else none))))
def I_X4_greatestStressOf : Nat → Option mjI := fun pc => bif Nat.ble 45 pc then none else J_X4_greatestStressOf pc
set_option maxRecDepth 100000 in
theorem I_X4_greatestStressOf_ok : ∀ pc row, I_X4_greatestStressOf pc = some row → mjrow Y0 cX4_greatestStressOf pc row = true ∧ mjrp (some .int) row.1 = true := mjchk_ok (n := 45) (by decide +kernel) (mjhi rfl)
def J_X4_greatestStress : Nat → Option mjI := fun pc => bif Nat.ble 16 pc then (bif Nat.ble 25 pc then (bif Nat.ble 32 pc then (bif Nat.ble 35 pc then (bif Nat.ble 36 pc then (bif Nat.beq pc 36 then some (.ireturn, 1, 0, 0) else none) else (bif Nat.beq pc 35 then some (.iload_n 1, 1, 0, 0) else none)) else (bif Nat.beq pc 32 then some (.goto (-27), 3, 0, 5) else none)) else (bif Nat.ble 28 pc then (bif Nat.ble 29 pc then (bif Nat.beq pc 29 then some (.iinc 2 1, 3, 1, 0) else none) else (bif Nat.beq pc 28 then some (.istore_n 1, 1, 0, 0) else none)) else (bif Nat.beq pc 25 then some (.invokestatic 87, 3, 0, 0) else none))) else (bif Nat.ble 20 pc then (bif Nat.ble 21 pc then (bif Nat.ble 22 pc then (bif Nat.beq pc 22 then some (.invokevirtual 139, 3, 0, 0) else none) else (bif Nat.beq pc 21 then some (.iload_n 2, 1, 0, 0) else none)) else (bif Nat.beq pc 20 then some (.aload_n 0, 1, 0, 0) else none)) else (bif Nat.ble 19 pc then (bif Nat.beq pc 19 then some (.iload_n 1, 1, 0, 0) else none) else (bif Nat.beq pc 16 then some (.ifCond .eq 13, 3, 0, 29) else none)))) else (bif Nat.ble 6 pc then (bif Nat.ble 11 pc then (bif Nat.ble 12 pc then (bif Nat.ble 13 pc then (bif Nat.beq pc 13 then some (.invokevirtual 90, 3, 0, 0) else none) else (bif Nat.beq pc 12 then some (.iload_n 2, 1, 0, 0) else none)) else (bif Nat.beq pc 11 then some (.aload_n 0, 1, 0, 0) else none)) else (bif Nat.ble 8 pc then (bif Nat.beq pc 8 then some (.if_icmp .ge 27, 3, 0, 35) else none) else (bif Nat.beq pc 6 then some (.bipush 60, 2, 60, 0) else none))) else (bif Nat.ble 3 pc then (bif Nat.ble 4 pc then (bif Nat.ble 5 pc then (bif Nat.beq pc 5 then some (.iload_n 2, 1, 0, 0) else none) else (bif Nat.beq pc 4 then some (.istore_n 2, 1, 0, 0) else none)) else (bif Nat.beq pc 3 then some (.iconst 0, 1, 0, 0) else none)) else (bif Nat.ble 2 pc then (bif Nat.beq pc 2 then some (.istore_n 1, 1, 0, 0) else none) else (bif Nat.beq pc 0 then some (.bipush (-4), 2, (-4), 0) else none))))
def I_X4_greatestStress : Nat → Option mjI := fun pc => bif Nat.ble 37 pc then none else J_X4_greatestStress pc
set_option maxRecDepth 100000 in
theorem I_X4_greatestStress_ok : ∀ pc row, I_X4_greatestStress pc = some row → mjrow Y0 cX4_greatestStress pc row = true ∧ mjrp (some .int) row.1 = true := mjchk_ok (n := 37) (by decide +kernel) (mjhi rfl)
def J_X4_leastMargin : Nat → Option mjI := fun pc => bif Nat.ble 10 pc then (bif Nat.ble 16 pc then (bif Nat.ble 17 pc then (bif Nat.ble 20 pc then (bif Nat.beq pc 20 then some (.ireturn, 1, 0, 0) else none) else (bif Nat.beq pc 17 then some (.invokevirtual 120, 3, 0, 0) else none)) else (bif Nat.beq pc 16 then some (.iload_n 1, 1, 0, 0) else none)) else (bif Nat.ble 12 pc then (bif Nat.ble 15 pc then (bif Nat.beq pc 15 then some (.aload_n 0, 1, 0, 0) else none) else (bif Nat.beq pc 12 then some (.goto 8, 3, 0, 20) else none)) else (bif Nat.beq pc 10 then some (.bipush (-4), 2, (-4), 0) else none))) else (bif Nat.ble 5 pc then (bif Nat.ble 6 pc then (bif Nat.ble 7 pc then (bif Nat.beq pc 7 then some (.if_icmp .ne 8, 3, 0, 15) else none) else (bif Nat.beq pc 6 then some (.iconst (-1), 1, (-1), 0) else none)) else (bif Nat.beq pc 5 then some (.iload_n 1, 1, 0, 0) else none)) else (bif Nat.ble 1 pc then (bif Nat.ble 4 pc then (bif Nat.beq pc 4 then some (.istore_n 1, 1, 0, 0) else none) else (bif Nat.beq pc 1 then some (.invokevirtual 116, 3, 0, 0) else none)) else (bif Nat.beq pc 0 then some (.aload_n 0, 1, 0, 0) else none)))
def I_X4_leastMargin : Nat → Option mjI := fun pc => bif Nat.ble 21 pc then none else J_X4_leastMargin pc
set_option maxRecDepth 100000 in
theorem I_X4_leastMargin_ok : ∀ pc row, I_X4_leastMargin pc = some row → mjrow Y0 cX4_leastMargin pc row = true ∧ mjrp (some .int) row.1 = true := mjchk_ok (n := 21) (by decide +kernel) (mjhi rfl)
def J_X4_mostStrained : Nat → Option mjI := fun pc => bif Nat.ble 22 pc then (bif Nat.ble 38 pc then (bif Nat.ble 43 pc then (bif Nat.ble 49 pc then (bif Nat.ble 50 pc then (bif Nat.beq pc 50 then some (.ireturn, 1, 0, 0) else none) else (bif Nat.beq pc 49 then some (.iload_n 1, 1, 0, 0) else none)) else (bif Nat.ble 46 pc then (bif Nat.beq pc 46 then some (.goto (-40), 3, 0, 6) else none) else (bif Nat.beq pc 43 then some (.iinc 3 1, 3, 1, 0) else none))) else (bif Nat.ble 40 pc then (bif Nat.ble 42 pc then (bif Nat.beq pc 42 then some (.istore_n 2, 1, 0, 0) else none) else (bif Nat.beq pc 40 then some (.iload 4, 2, 0, 0) else none)) else (bif Nat.ble 39 pc then (bif Nat.beq pc 39 then some (.istore_n 1, 1, 0, 0) else none) else (bif Nat.beq pc 38 then some (.iload_n 3, 1, 0, 0) else none)))) else (bif Nat.ble 29 pc then (bif Nat.ble 34 pc then (bif Nat.ble 35 pc then (bif Nat.beq pc 35 then some (.if_icmp .ge 8, 3, 0, 43) else none) else (bif Nat.beq pc 34 then some (.iload_n 2, 1, 0, 0) else none)) else (bif Nat.ble 32 pc then (bif Nat.beq pc 32 then some (.iload 4, 2, 0, 0) else none) else (bif Nat.beq pc 29 then some (.if_icmp .eq 9, 3, 0, 38) else none))) else (bif Nat.ble 27 pc then (bif Nat.ble 28 pc then (bif Nat.beq pc 28 then some (.iconst (-1), 1, (-1), 0) else none) else (bif Nat.beq pc 27 then some (.iload_n 1, 1, 0, 0) else none)) else (bif Nat.ble 25 pc then (bif Nat.beq pc 25 then some (.istore 4, 2, 0, 0) else none) else (bif Nat.beq pc 22 then some (.invokevirtual 120, 3, 0, 0) else none))))) else (bif Nat.ble 7 pc then (bif Nat.ble 14 pc then (bif Nat.ble 20 pc then (bif Nat.ble 21 pc then (bif Nat.beq pc 21 then some (.iload_n 3, 1, 0, 0) else none) else (bif Nat.beq pc 20 then some (.aload_n 0, 1, 0, 0) else none)) else (bif Nat.ble 17 pc then (bif Nat.beq pc 17 then some (.ifCond .eq 26, 3, 0, 43) else none) else (bif Nat.beq pc 14 then some (.invokevirtual 90, 3, 0, 0) else none))) else (bif Nat.ble 12 pc then (bif Nat.ble 13 pc then (bif Nat.beq pc 13 then some (.iload_n 3, 1, 0, 0) else none) else (bif Nat.beq pc 12 then some (.aload_n 0, 1, 0, 0) else none)) else (bif Nat.ble 9 pc then (bif Nat.beq pc 9 then some (.if_icmp .ge 40, 3, 0, 49) else none) else (bif Nat.beq pc 7 then some (.bipush 60, 2, 60, 0) else none)))) else (bif Nat.ble 3 pc then (bif Nat.ble 5 pc then (bif Nat.ble 6 pc then (bif Nat.beq pc 6 then some (.iload_n 3, 1, 0, 0) else none) else (bif Nat.beq pc 5 then some (.istore_n 3, 1, 0, 0) else none)) else (bif Nat.ble 4 pc then (bif Nat.beq pc 4 then some (.iconst 0, 1, 0, 0) else none) else (bif Nat.beq pc 3 then some (.istore_n 2, 1, 0, 0) else none))) else (bif Nat.ble 1 pc then (bif Nat.ble 2 pc then (bif Nat.beq pc 2 then some (.iconst 0, 1, 0, 0) else none) else (bif Nat.beq pc 1 then some (.istore_n 1, 1, 0, 0) else none)) else (bif Nat.beq pc 0 then some (.iconst (-1), 1, (-1), 0) else none))))
def I_X4_mostStrained : Nat → Option mjI := fun pc => bif Nat.ble 51 pc then none else J_X4_mostStrained pc
set_option maxRecDepth 100000 in
theorem I_X4_mostStrained_ok : ∀ pc row, I_X4_mostStrained pc = some row → mjrow Y0 cX4_mostStrained pc row = true ∧ mjrp (some .int) row.1 = true := mjchk_ok (n := 51) (by decide +kernel) (mjhi rfl)
def J_X4_strainedAt : Nat → Option mjI := fun pc => bif Nat.ble 17 pc then (bif Nat.ble 26 pc then (bif Nat.ble 30 pc then (bif Nat.ble 33 pc then (bif Nat.ble 35 pc then (bif Nat.beq pc 35 then some (.ireturn, 1, 0, 0) else none) else (bif Nat.beq pc 33 then some (.bipush (-4), 2, (-4), 0) else none)) else (bif Nat.beq pc 30 then some (.goto (-28), 3, 0, 2) else none)) else (bif Nat.ble 27 pc then (bif Nat.beq pc 27 then some (.iinc 2 1, 3, 1, 0) else none) else (bif Nat.beq pc 26 then some (.ireturn, 1, 0, 0) else none))) else (bif Nat.ble 21 pc then (bif Nat.ble 22 pc then (bif Nat.ble 25 pc then (bif Nat.beq pc 25 then some (.iload_n 2, 1, 0, 0) else none) else (bif Nat.beq pc 22 then some (.if_icmp .ne 5, 3, 0, 27) else none)) else (bif Nat.beq pc 21 then some (.iload_n 1, 1, 0, 0) else none)) else (bif Nat.ble 18 pc then (bif Nat.beq pc 18 then some (.invokevirtual 145, 3, 0, 0) else none) else (bif Nat.beq pc 17 then some (.iload_n 2, 1, 0, 0) else none)))) else (bif Nat.ble 8 pc then (bif Nat.ble 10 pc then (bif Nat.ble 13 pc then (bif Nat.ble 16 pc then (bif Nat.beq pc 16 then some (.aload_n 0, 1, 0, 0) else none) else (bif Nat.beq pc 13 then some (.ifCond .eq 14, 3, 0, 27) else none)) else (bif Nat.beq pc 10 then some (.invokevirtual 90, 3, 0, 0) else none)) else (bif Nat.ble 9 pc then (bif Nat.beq pc 9 then some (.iload_n 2, 1, 0, 0) else none) else (bif Nat.beq pc 8 then some (.aload_n 0, 1, 0, 0) else none))) else (bif Nat.ble 2 pc then (bif Nat.ble 3 pc then (bif Nat.ble 5 pc then (bif Nat.beq pc 5 then some (.if_icmp .ge 28, 3, 0, 33) else none) else (bif Nat.beq pc 3 then some (.bipush 60, 2, 60, 0) else none)) else (bif Nat.beq pc 2 then some (.iload_n 2, 1, 0, 0) else none)) else (bif Nat.ble 1 pc then (bif Nat.beq pc 1 then some (.istore_n 2, 1, 0, 0) else none) else (bif Nat.beq pc 0 then some (.iconst 0, 1, 0, 0) else none))))
def I_X4_strainedAt : Nat → Option mjI := fun pc => bif Nat.ble 36 pc then none else J_X4_strainedAt pc
set_option maxRecDepth 100000 in
theorem I_X4_strainedAt_ok : ∀ pc row, I_X4_strainedAt pc = some row → mjrow Y0 cX4_strainedAt pc row = true ∧ mjrp (some .int) row.1 = true := mjchk_ok (n := 36) (by decide +kernel) (mjhi rfl)
def J_X4_placeOf : Nat → Option mjI := fun pc => bif Nat.ble 28 pc then (bif Nat.ble 44 pc then (bif Nat.ble 53 pc then (bif Nat.ble 59 pc then (bif Nat.ble 62 pc then (bif Nat.ble 63 pc then (bif Nat.beq pc 63 then some (.ireturn, 1, 0, 0) else none) else (bif Nat.beq pc 62 then some (.iload_n 3, 1, 0, 0) else none)) else (bif Nat.beq pc 59 then some (.goto (-48), 3, 0, 11) else none)) else (bif Nat.ble 56 pc then (bif Nat.beq pc 56 then some (.iinc 4 1, 3, 1, 0) else none) else (bif Nat.beq pc 53 then some (.iinc 3 1, 3, 1, 0) else none))) else (bif Nat.ble 49 pc then (bif Nat.ble 50 pc then (bif Nat.beq pc 50 then some (.if_icmp .ge 6, 3, 0, 56) else none) else (bif Nat.beq pc 49 then some (.iload_n 1, 1, 0, 0) else none)) else (bif Nat.ble 47 pc then (bif Nat.beq pc 47 then some (.iload 4, 2, 0, 0) else none) else (bif Nat.beq pc 44 then some (.if_icmp .ne 12, 3, 0, 56) else none)))) else (bif Nat.ble 37 pc then (bif Nat.ble 41 pc then (bif Nat.ble 43 pc then (bif Nat.beq pc 43 then some (.iload_n 2, 1, 0, 0) else none) else (bif Nat.beq pc 41 then some (.iload 5, 2, 0, 0) else none)) else (bif Nat.ble 38 pc then (bif Nat.beq pc 38 then some (.if_icmp .lt 15, 3, 0, 53) else none) else (bif Nat.beq pc 37 then some (.iload_n 2, 1, 0, 0) else none))) else (bif Nat.ble 33 pc then (bif Nat.ble 35 pc then (bif Nat.beq pc 35 then some (.iload 5, 2, 0, 0) else none) else (bif Nat.beq pc 33 then some (.istore 5, 2, 0, 0) else none)) else (bif Nat.ble 30 pc then (bif Nat.beq pc 30 then some (.invokevirtual 120, 3, 0, 0) else none) else (bif Nat.beq pc 28 then some (.iload 4, 2, 0, 0) else none))))) else (bif Nat.ble 11 pc then (bif Nat.ble 19 pc then (bif Nat.ble 24 pc then (bif Nat.ble 27 pc then (bif Nat.beq pc 27 then some (.aload_n 0, 1, 0, 0) else none) else (bif Nat.beq pc 24 then some (.ifCond .eq 32, 3, 0, 56) else none)) else (bif Nat.ble 21 pc then (bif Nat.beq pc 21 then some (.invokevirtual 90, 3, 0, 0) else none) else (bif Nat.beq pc 19 then some (.iload 4, 2, 0, 0) else none))) else (bif Nat.ble 15 pc then (bif Nat.ble 18 pc then (bif Nat.beq pc 18 then some (.aload_n 0, 1, 0, 0) else none) else (bif Nat.beq pc 15 then some (.if_icmp .ge 47, 3, 0, 62) else none)) else (bif Nat.ble 13 pc then (bif Nat.beq pc 13 then some (.bipush 60, 2, 60, 0) else none) else (bif Nat.beq pc 11 then some (.iload 4, 2, 0, 0) else none)))) else (bif Nat.ble 6 pc then (bif Nat.ble 8 pc then (bif Nat.ble 9 pc then (bif Nat.beq pc 9 then some (.istore 4, 2, 0, 0) else none) else (bif Nat.beq pc 8 then some (.iconst 0, 1, 0, 0) else none)) else (bif Nat.ble 7 pc then (bif Nat.beq pc 7 then some (.istore_n 3, 1, 0, 0) else none) else (bif Nat.beq pc 6 then some (.iconst 0, 1, 0, 0) else none))) else (bif Nat.ble 2 pc then (bif Nat.ble 5 pc then (bif Nat.beq pc 5 then some (.istore_n 2, 1, 0, 0) else none) else (bif Nat.beq pc 2 then some (.invokevirtual 120, 3, 0, 0) else none)) else (bif Nat.ble 1 pc then (bif Nat.beq pc 1 then some (.iload_n 1, 1, 0, 0) else none) else (bif Nat.beq pc 0 then some (.aload_n 0, 1, 0, 0) else none)))))
def I_X4_placeOf : Nat → Option mjI := fun pc => bif Nat.ble 64 pc then none else J_X4_placeOf pc
set_option maxRecDepth 100000 in
theorem I_X4_placeOf_ok : ∀ pc row, I_X4_placeOf pc = some row → mjrow Y0 cX4_placeOf pc row = true ∧ mjrp (some .int) row.1 = true := mjchk_ok (n := 64) (by decide +kernel) (mjhi rfl)
def J_X4_crackedJoints : Nat → Option mjI := fun pc => bif Nat.ble 11 pc then (bif Nat.ble 21 pc then (bif Nat.ble 27 pc then (bif Nat.ble 28 pc then (bif Nat.beq pc 28 then some (.ireturn, 1, 0, 0) else none) else (bif Nat.beq pc 27 then some (.iload_n 1, 1, 0, 0) else none)) else (bif Nat.ble 24 pc then (bif Nat.beq pc 24 then some (.goto (-20), 3, 0, 4) else none) else (bif Nat.beq pc 21 then some (.iinc 2 1, 3, 1, 0) else none))) else (bif Nat.ble 15 pc then (bif Nat.ble 18 pc then (bif Nat.beq pc 18 then some (.iinc 1 1, 3, 1, 0) else none) else (bif Nat.beq pc 15 then some (.ifCond .ne 6, 3, 0, 21) else none)) else (bif Nat.ble 12 pc then (bif Nat.beq pc 12 then some (.invokevirtual 90, 3, 0, 0) else none) else (bif Nat.beq pc 11 then some (.iload_n 2, 1, 0, 0) else none)))) else (bif Nat.ble 4 pc then (bif Nat.ble 7 pc then (bif Nat.ble 10 pc then (bif Nat.beq pc 10 then some (.aload_n 0, 1, 0, 0) else none) else (bif Nat.beq pc 7 then some (.if_icmp .ge 20, 3, 0, 27) else none)) else (bif Nat.ble 5 pc then (bif Nat.beq pc 5 then some (.bipush 60, 2, 60, 0) else none) else (bif Nat.beq pc 4 then some (.iload_n 2, 1, 0, 0) else none))) else (bif Nat.ble 2 pc then (bif Nat.ble 3 pc then (bif Nat.beq pc 3 then some (.istore_n 2, 1, 0, 0) else none) else (bif Nat.beq pc 2 then some (.iconst 0, 1, 0, 0) else none)) else (bif Nat.ble 1 pc then (bif Nat.beq pc 1 then some (.istore_n 1, 1, 0, 0) else none) else (bif Nat.beq pc 0 then some (.iconst 0, 1, 0, 0) else none))))
def I_X4_crackedJoints : Nat → Option mjI := fun pc => bif Nat.ble 29 pc then none else J_X4_crackedJoints pc
set_option maxRecDepth 100000 in
theorem I_X4_crackedJoints_ok : ∀ pc row, I_X4_crackedJoints pc = some row → mjrow Y0 cX4_crackedJoints pc row = true ∧ mjrp (some .int) row.1 = true := mjchk_ok (n := 29) (by decide +kernel) (mjhi rfl)
def J_X4_sumOfHeats : Nat → Option mjI := fun pc => bif Nat.ble 12 pc then (bif Nat.ble 18 pc then (bif Nat.ble 22 pc then (bif Nat.ble 25 pc then (bif Nat.ble 26 pc then (bif Nat.beq pc 26 then some (.ireturn, 1, 0, 0) else none) else (bif Nat.beq pc 25 then some (.iload_n 1, 1, 0, 0) else none)) else (bif Nat.beq pc 22 then some (.goto (-18), 3, 0, 4) else none)) else (bif Nat.ble 19 pc then (bif Nat.beq pc 19 then some (.iinc 2 1, 3, 1, 0) else none) else (bif Nat.beq pc 18 then some (.istore_n 1, 1, 0, 0) else none))) else (bif Nat.ble 16 pc then (bif Nat.ble 17 pc then (bif Nat.beq pc 17 then some (.iadd, 1, 0, 0) else none) else (bif Nat.beq pc 16 then some (.iaload, 1, 0, 0) else none)) else (bif Nat.ble 15 pc then (bif Nat.beq pc 15 then some (.iload_n 2, 1, 0, 0) else none) else (bif Nat.beq pc 12 then some (.getfield 9, 3, 0, 0) else none)))) else (bif Nat.ble 4 pc then (bif Nat.ble 7 pc then (bif Nat.ble 10 pc then (bif Nat.ble 11 pc then (bif Nat.beq pc 11 then some (.aload_n 0, 1, 0, 0) else none) else (bif Nat.beq pc 10 then some (.iload_n 1, 1, 0, 0) else none)) else (bif Nat.beq pc 7 then some (.if_icmp .ge 18, 3, 0, 25) else none)) else (bif Nat.ble 5 pc then (bif Nat.beq pc 5 then some (.bipush 36, 2, 36, 0) else none) else (bif Nat.beq pc 4 then some (.iload_n 2, 1, 0, 0) else none))) else (bif Nat.ble 2 pc then (bif Nat.ble 3 pc then (bif Nat.beq pc 3 then some (.istore_n 2, 1, 0, 0) else none) else (bif Nat.beq pc 2 then some (.iconst 0, 1, 0, 0) else none)) else (bif Nat.ble 1 pc then (bif Nat.beq pc 1 then some (.istore_n 1, 1, 0, 0) else none) else (bif Nat.beq pc 0 then some (.iconst 0, 1, 0, 0) else none))))
def I_X4_sumOfHeats : Nat → Option mjI := fun pc => bif Nat.ble 27 pc then none else J_X4_sumOfHeats pc
set_option maxRecDepth 100000 in
theorem I_X4_sumOfHeats_ok : ∀ pc row, I_X4_sumOfHeats pc = some row → mjrow Y0 cX4_sumOfHeats pc row = true ∧ mjrp (some .int) row.1 = true := mjchk_ok (n := 27) (by decide +kernel) (mjhi rfl)
def J_X4_greatestHeat : Nat → Option mjI := fun pc => bif Nat.ble 15 pc then (bif Nat.ble 22 pc then (bif Nat.ble 29 pc then (bif Nat.ble 32 pc then (bif Nat.ble 33 pc then (bif Nat.beq pc 33 then some (.ireturn, 1, 0, 0) else none) else (bif Nat.beq pc 32 then some (.iload_n 1, 1, 0, 0) else none)) else (bif Nat.beq pc 29 then some (.goto (-20), 3, 0, 9) else none)) else (bif Nat.ble 25 pc then (bif Nat.ble 26 pc then (bif Nat.beq pc 26 then some (.iinc 2 1, 3, 1, 0) else none) else (bif Nat.beq pc 25 then some (.istore_n 1, 1, 0, 0) else none)) else (bif Nat.beq pc 22 then some (.invokestatic 87, 3, 0, 0) else none))) else (bif Nat.ble 17 pc then (bif Nat.ble 20 pc then (bif Nat.ble 21 pc then (bif Nat.beq pc 21 then some (.iaload, 1, 0, 0) else none) else (bif Nat.beq pc 20 then some (.iload_n 2, 1, 0, 0) else none)) else (bif Nat.beq pc 17 then some (.getfield 9, 3, 0, 0) else none)) else (bif Nat.ble 16 pc then (bif Nat.beq pc 16 then some (.aload_n 0, 1, 0, 0) else none) else (bif Nat.beq pc 15 then some (.iload_n 1, 1, 0, 0) else none)))) else (bif Nat.ble 7 pc then (bif Nat.ble 9 pc then (bif Nat.ble 10 pc then (bif Nat.ble 12 pc then (bif Nat.beq pc 12 then some (.if_icmp .ge 20, 3, 0, 32) else none) else (bif Nat.beq pc 10 then some (.bipush 36, 2, 36, 0) else none)) else (bif Nat.beq pc 9 then some (.iload_n 2, 1, 0, 0) else none)) else (bif Nat.ble 8 pc then (bif Nat.beq pc 8 then some (.istore_n 2, 1, 0, 0) else none) else (bif Nat.beq pc 7 then some (.iconst 1, 1, 1, 0) else none))) else (bif Nat.ble 4 pc then (bif Nat.ble 5 pc then (bif Nat.ble 6 pc then (bif Nat.beq pc 6 then some (.istore_n 1, 1, 0, 0) else none) else (bif Nat.beq pc 5 then some (.iaload, 1, 0, 0) else none)) else (bif Nat.beq pc 4 then some (.iconst 0, 1, 0, 0) else none)) else (bif Nat.ble 1 pc then (bif Nat.beq pc 1 then some (.getfield 9, 3, 0, 0) else none) else (bif Nat.beq pc 0 then some (.aload_n 0, 1, 0, 0) else none))))
def I_X4_greatestHeat : Nat → Option mjI := fun pc => bif Nat.ble 34 pc then none else J_X4_greatestHeat pc
set_option maxRecDepth 100000 in
theorem I_X4_greatestHeat_ok : ∀ pc row, I_X4_greatestHeat pc = some row → mjrow Y0 cX4_greatestHeat pc row = true ∧ mjrp (some .int) row.1 = true := mjchk_ok (n := 34) (by decide +kernel) (mjhi rfl)
def J_X4_leastHeat : Nat → Option mjI := fun pc => bif Nat.ble 15 pc then (bif Nat.ble 22 pc then (bif Nat.ble 29 pc then (bif Nat.ble 32 pc then (bif Nat.ble 33 pc then (bif Nat.beq pc 33 then some (.ireturn, 1, 0, 0) else none) else (bif Nat.beq pc 32 then some (.iload_n 1, 1, 0, 0) else none)) else (bif Nat.beq pc 29 then some (.goto (-20), 3, 0, 9) else none)) else (bif Nat.ble 25 pc then (bif Nat.ble 26 pc then (bif Nat.beq pc 26 then some (.iinc 2 1, 3, 1, 0) else none) else (bif Nat.beq pc 25 then some (.istore_n 1, 1, 0, 0) else none)) else (bif Nat.beq pc 22 then some (.invokestatic 81, 3, 0, 0) else none))) else (bif Nat.ble 17 pc then (bif Nat.ble 20 pc then (bif Nat.ble 21 pc then (bif Nat.beq pc 21 then some (.iaload, 1, 0, 0) else none) else (bif Nat.beq pc 20 then some (.iload_n 2, 1, 0, 0) else none)) else (bif Nat.beq pc 17 then some (.getfield 9, 3, 0, 0) else none)) else (bif Nat.ble 16 pc then (bif Nat.beq pc 16 then some (.aload_n 0, 1, 0, 0) else none) else (bif Nat.beq pc 15 then some (.iload_n 1, 1, 0, 0) else none)))) else (bif Nat.ble 7 pc then (bif Nat.ble 9 pc then (bif Nat.ble 10 pc then (bif Nat.ble 12 pc then (bif Nat.beq pc 12 then some (.if_icmp .ge 20, 3, 0, 32) else none) else (bif Nat.beq pc 10 then some (.bipush 36, 2, 36, 0) else none)) else (bif Nat.beq pc 9 then some (.iload_n 2, 1, 0, 0) else none)) else (bif Nat.ble 8 pc then (bif Nat.beq pc 8 then some (.istore_n 2, 1, 0, 0) else none) else (bif Nat.beq pc 7 then some (.iconst 1, 1, 1, 0) else none))) else (bif Nat.ble 4 pc then (bif Nat.ble 5 pc then (bif Nat.ble 6 pc then (bif Nat.beq pc 6 then some (.istore_n 1, 1, 0, 0) else none) else (bif Nat.beq pc 5 then some (.iaload, 1, 0, 0) else none)) else (bif Nat.beq pc 4 then some (.iconst 0, 1, 0, 0) else none)) else (bif Nat.ble 1 pc then (bif Nat.beq pc 1 then some (.getfield 9, 3, 0, 0) else none) else (bif Nat.beq pc 0 then some (.aload_n 0, 1, 0, 0) else none))))
def I_X4_leastHeat : Nat → Option mjI := fun pc => bif Nat.ble 34 pc then none else J_X4_leastHeat pc
set_option maxRecDepth 100000 in
theorem I_X4_leastHeat_ok : ∀ pc row, I_X4_leastHeat pc = some row → mjrow Y0 cX4_leastHeat pc row = true ∧ mjrp (some .int) row.1 = true := mjchk_ok (n := 34) (by decide +kernel) (mjhi rfl)
def J_X5_init : Nat → Option mjI := fun pc => bif Nat.ble 13 pc then (bif Nat.ble 20 pc then (bif Nat.ble 22 pc then (bif Nat.ble 25 pc then (bif Nat.beq pc 25 then some (.return_, 1, 0, 0) else none) else (bif Nat.beq pc 22 then some (.putfield 18, 3, 0, 0) else none)) else (bif Nat.ble 21 pc then (bif Nat.beq pc 21 then some (.iconst 0, 1, 0, 0) else none) else (bif Nat.beq pc 20 then some (.aload_n 0, 1, 0, 0) else none))) else (bif Nat.ble 15 pc then (bif Nat.ble 17 pc then (bif Nat.beq pc 17 then some (.putfield 15, 3, 0, 0) else none) else (bif Nat.beq pc 15 then some (.newarray .int, 2, 0, 0) else none)) else (bif Nat.beq pc 13 then some (.bipush 36, 2, 36, 0) else none))) else (bif Nat.ble 5 pc then (bif Nat.ble 9 pc then (bif Nat.ble 12 pc then (bif Nat.beq pc 12 then some (.aload_n 0, 1, 0, 0) else none) else (bif Nat.beq pc 9 then some (.putfield 9, 3, 0, 0) else none)) else (bif Nat.ble 7 pc then (bif Nat.beq pc 7 then some (.newarray .int, 2, 0, 0) else none) else (bif Nat.beq pc 5 then some (.bipush 36, 2, 36, 0) else none))) else (bif Nat.ble 1 pc then (bif Nat.ble 4 pc then (bif Nat.beq pc 4 then some (.aload_n 0, 1, 0, 0) else none) else (bif Nat.beq pc 1 then some (.invokespecial 3, 3, 0, 0) else none)) else (bif Nat.beq pc 0 then some (.aload_n 0, 1, 0, 0) else none)))
def I_X5_init : Nat → Option mjI := fun pc => bif Nat.ble 26 pc then none else J_X5_init pc
set_option maxRecDepth 100000 in
theorem I_X5_init_ok : ∀ pc row, I_X5_init pc = some row → mjrow Y0 cX5_init pc row = true ∧ mjrp none row.1 = true := mjchk_ok (n := 26) (by decide +kernel) (mjhi rfl)
def J_X5_tellByGoing : Nat → Option mjI := fun pc => bif Nat.ble 22 pc then (bif Nat.ble 30 pc then (bif Nat.ble 37 pc then (bif Nat.ble 43 pc then (bif Nat.ble 44 pc then (bif Nat.beq pc 44 then some (.ireturn, 1, 0, 0) else none) else (bif Nat.beq pc 43 then some (.iload_n 2, 1, 0, 0) else none)) else (bif Nat.ble 40 pc then (bif Nat.beq pc 40 then some (.goto (-28), 3, 0, 12) else none) else (bif Nat.beq pc 37 then some (.iinc 3 1, 3, 1, 0) else none))) else (bif Nat.ble 31 pc then (bif Nat.ble 34 pc then (bif Nat.beq pc 34 then some (.iinc 2 1, 3, 1, 0) else none) else (bif Nat.beq pc 31 then some (.invokevirtual 28, 3, 0, 0) else none)) else (bif Nat.beq pc 30 then some (.iload_n 3, 1, 0, 0) else none))) else (bif Nat.ble 25 pc then (bif Nat.ble 28 pc then (bif Nat.ble 29 pc then (bif Nat.beq pc 29 then some (.aload_n 1, 1, 0, 0) else none) else (bif Nat.beq pc 28 then some (.aload_n 0, 1, 0, 0) else none)) else (bif Nat.beq pc 25 then some (.if_icmp .ne 12, 3, 0, 37) else none)) else (bif Nat.ble 23 pc then (bif Nat.ble 24 pc then (bif Nat.beq pc 24 then some (.iconst (-1), 1, (-1), 0) else none) else (bif Nat.beq pc 23 then some (.iaload, 1, 0, 0) else none)) else (bif Nat.beq pc 22 then some (.iload_n 3, 1, 0, 0) else none)))) else (bif Nat.ble 10 pc then (bif Nat.ble 13 pc then (bif Nat.ble 18 pc then (bif Nat.ble 19 pc then (bif Nat.beq pc 19 then some (.getfield 9, 3, 0, 0) else none) else (bif Nat.beq pc 18 then some (.aload_n 0, 1, 0, 0) else none)) else (bif Nat.ble 15 pc then (bif Nat.beq pc 15 then some (.if_icmp .ge 28, 3, 0, 43) else none) else (bif Nat.beq pc 13 then some (.bipush 36, 2, 36, 0) else none))) else (bif Nat.ble 11 pc then (bif Nat.ble 12 pc then (bif Nat.beq pc 12 then some (.iload_n 3, 1, 0, 0) else none) else (bif Nat.beq pc 11 then some (.istore_n 3, 1, 0, 0) else none)) else (bif Nat.beq pc 10 then some (.iconst 0, 1, 0, 0) else none))) else (bif Nat.ble 5 pc then (bif Nat.ble 8 pc then (bif Nat.ble 9 pc then (bif Nat.beq pc 9 then some (.istore_n 2, 1, 0, 0) else none) else (bif Nat.beq pc 8 then some (.iconst 0, 1, 0, 0) else none)) else (bif Nat.beq pc 5 then some (.invokestatic 22, 3, 0, 0) else none)) else (bif Nat.ble 1 pc then (bif Nat.ble 4 pc then (bif Nat.beq pc 4 then some (.iconst (-1), 1, (-1), 0) else none) else (bif Nat.beq pc 1 then some (.getfield 9, 3, 0, 0) else none)) else (bif Nat.beq pc 0 then some (.aload_n 0, 1, 0, 0) else none))))
def I_X5_tellByGoing : Nat → Option mjI := fun pc => bif Nat.ble 45 pc then none else J_X5_tellByGoing pc
set_option maxRecDepth 100000 in
theorem I_X5_tellByGoing_ok : ∀ pc row, I_X5_tellByGoing pc = some row → mjrow Y0 cX5_tellByGoing pc row = true ∧ mjrp (some .int) row.1 = true := mjchk_ok (n := 45) (by decide +kernel) (mjhi rfl)
def J_X5_spreadFrom : Nat → Option mjI := fun pc => bif Nat.ble 36 pc then (bif Nat.ble 59 pc then (bif Nat.ble 71 pc then (bif Nat.ble 80 pc then (bif Nat.ble 83 pc then (bif Nat.ble 86 pc then (bif Nat.beq pc 86 then some (.return_, 1, 0, 0) else none) else (bif Nat.beq pc 83 then some (.goto (-70), 3, 0, 13) else none)) else (bif Nat.beq pc 80 then some (.iinc 3 1, 3, 1, 0) else none)) else (bif Nat.ble 74 pc then (bif Nat.ble 77 pc then (bif Nat.beq pc 77 then some (.goto (-39), 3, 0, 38) else none) else (bif Nat.beq pc 74 then some (.iinc 5 1, 3, 1, 0) else none)) else (bif Nat.beq pc 71 then some (.invokevirtual 32, 3, 0, 0) else none))) else (bif Nat.ble 65 pc then (bif Nat.ble 67 pc then (bif Nat.ble 70 pc then (bif Nat.beq pc 70 then some (.iload_n 2, 1, 0, 0) else none) else (bif Nat.beq pc 67 then some (.invokestatic 48, 3, 0, 0) else none)) else (bif Nat.beq pc 65 then some (.iload 4, 2, 0, 0) else none)) else (bif Nat.ble 62 pc then (bif Nat.ble 63 pc then (bif Nat.beq pc 63 then some (.iload 6, 2, 0, 0) else none) else (bif Nat.beq pc 62 then some (.aload_n 0, 1, 0, 0) else none)) else (bif Nat.beq pc 59 then some (.ifCond .eq 15, 3, 0, 74) else none)))) else (bif Nat.ble 46 pc then (bif Nat.ble 53 pc then (bif Nat.ble 54 pc then (bif Nat.ble 56 pc then (bif Nat.beq pc 56 then some (.invokevirtual 42, 3, 0, 0) else none) else (bif Nat.beq pc 54 then some (.iload 6, 2, 0, 0) else none)) else (bif Nat.beq pc 53 then some (.aload_n 1, 1, 0, 0) else none)) else (bif Nat.ble 48 pc then (bif Nat.ble 51 pc then (bif Nat.beq pc 51 then some (.istore 6, 2, 0, 0) else none) else (bif Nat.beq pc 48 then some (.invokestatic 36, 3, 0, 0) else none)) else (bif Nat.beq pc 46 then some (.iload 5, 2, 0, 0) else none))) else (bif Nat.ble 40 pc then (bif Nat.ble 41 pc then (bif Nat.ble 44 pc then (bif Nat.beq pc 44 then some (.iload 4, 2, 0, 0) else none) else (bif Nat.beq pc 41 then some (.if_icmp .ge 39, 3, 0, 80) else none)) else (bif Nat.beq pc 40 then some (.iconst 4, 1, 4, 0) else none)) else (bif Nat.ble 38 pc then (bif Nat.beq pc 38 then some (.iload 5, 2, 0, 0) else none) else (bif Nat.beq pc 36 then some (.istore 5, 2, 0, 0) else none))))) else (bif Nat.ble 15 pc then (bif Nat.ble 27 pc then (bif Nat.ble 32 pc then (bif Nat.ble 33 pc then (bif Nat.ble 35 pc then (bif Nat.beq pc 35 then some (.iconst 0, 1, 0, 0) else none) else (bif Nat.beq pc 33 then some (.istore 4, 2, 0, 0) else none)) else (bif Nat.beq pc 32 then some (.iaload, 1, 0, 0) else none)) else (bif Nat.ble 28 pc then (bif Nat.ble 31 pc then (bif Nat.beq pc 31 then some (.iload_n 3, 1, 0, 0) else none) else (bif Nat.beq pc 28 then some (.getfield 15, 3, 0, 0) else none)) else (bif Nat.beq pc 27 then some (.aload_n 0, 1, 0, 0) else none))) else (bif Nat.ble 21 pc then (bif Nat.ble 22 pc then (bif Nat.ble 24 pc then (bif Nat.beq pc 24 then some (.if_icmp .ge 62, 3, 0, 86) else none) else (bif Nat.beq pc 22 then some (.bipush 36, 2, 36, 0) else none)) else (bif Nat.beq pc 21 then some (.iload_n 3, 1, 0, 0) else none)) else (bif Nat.ble 18 pc then (bif Nat.beq pc 18 then some (.if_icmp .ge 68, 3, 0, 86) else none) else (bif Nat.beq pc 15 then some (.getfield 18, 3, 0, 0) else none)))) else (bif Nat.ble 7 pc then (bif Nat.ble 12 pc then (bif Nat.ble 13 pc then (bif Nat.ble 14 pc then (bif Nat.beq pc 14 then some (.aload_n 0, 1, 0, 0) else none) else (bif Nat.beq pc 13 then some (.iload_n 3, 1, 0, 0) else none)) else (bif Nat.beq pc 12 then some (.istore_n 3, 1, 0, 0) else none)) else (bif Nat.ble 8 pc then (bif Nat.ble 11 pc then (bif Nat.beq pc 11 then some (.iconst 0, 1, 0, 0) else none) else (bif Nat.beq pc 8 then some (.invokevirtual 32, 3, 0, 0) else none)) else (bif Nat.beq pc 7 then some (.iload_n 2, 1, 0, 0) else none))) else (bif Nat.ble 2 pc then (bif Nat.ble 5 pc then (bif Nat.ble 6 pc then (bif Nat.beq pc 6 then some (.iload_n 2, 1, 0, 0) else none) else (bif Nat.beq pc 5 then some (.aload_n 0, 1, 0, 0) else none)) else (bif Nat.beq pc 2 then some (.putfield 18, 3, 0, 0) else none)) else (bif Nat.ble 1 pc then (bif Nat.beq pc 1 then some (.iconst 0, 1, 0, 0) else none) else (bif Nat.beq pc 0 then some (.aload_n 0, 1, 0, 0) else none)))))
def I_X5_spreadFrom : Nat → Option mjI := fun pc => bif Nat.ble 87 pc then none else J_X5_spreadFrom pc
set_option maxRecDepth 100000 in
theorem I_X5_spreadFrom_ok : ∀ pc row, I_X5_spreadFrom pc = some row → mjrow Y0 cX5_spreadFrom pc row = true ∧ mjrp none row.1 = true := mjchk_ok (n := 87) (by decide +kernel) (mjhi rfl)
def J_X5_reach : Nat → Option mjI := fun pc => bif Nat.ble 31 pc then (bif Nat.ble 42 pc then (bif Nat.ble 48 pc then (bif Nat.ble 50 pc then (bif Nat.ble 53 pc then (bif Nat.beq pc 53 then some (.return_, 1, 0, 0) else none) else (bif Nat.beq pc 50 then some (.putfield 18, 3, 0, 0) else none)) else (bif Nat.ble 49 pc then (bif Nat.beq pc 49 then some (.iadd, 1, 0, 0) else none) else (bif Nat.beq pc 48 then some (.iconst 1, 1, 1, 0) else none))) else (bif Nat.ble 44 pc then (bif Nat.ble 45 pc then (bif Nat.beq pc 45 then some (.getfield 18, 3, 0, 0) else none) else (bif Nat.beq pc 44 then some (.dup, 1, 0, 0) else none)) else (bif Nat.ble 43 pc then (bif Nat.beq pc 43 then some (.aload_n 0, 1, 0, 0) else none) else (bif Nat.beq pc 42 then some (.iastore, 1, 0, 0) else none)))) else (bif Nat.ble 34 pc then (bif Nat.ble 38 pc then (bif Nat.ble 41 pc then (bif Nat.beq pc 41 then some (.iload_n 1, 1, 0, 0) else none) else (bif Nat.beq pc 38 then some (.getfield 18, 3, 0, 0) else none)) else (bif Nat.ble 37 pc then (bif Nat.beq pc 37 then some (.aload_n 0, 1, 0, 0) else none) else (bif Nat.beq pc 34 then some (.getfield 15, 3, 0, 0) else none))) else (bif Nat.ble 32 pc then (bif Nat.ble 33 pc then (bif Nat.beq pc 33 then some (.aload_n 0, 1, 0, 0) else none) else (bif Nat.beq pc 32 then some (.iastore, 1, 0, 0) else none)) else (bif Nat.beq pc 31 then some (.iload_n 2, 1, 0, 0) else none)))) else (bif Nat.ble 13 pc then (bif Nat.ble 23 pc then (bif Nat.ble 27 pc then (bif Nat.ble 30 pc then (bif Nat.beq pc 30 then some (.iload_n 1, 1, 0, 0) else none) else (bif Nat.beq pc 27 then some (.getfield 9, 3, 0, 0) else none)) else (bif Nat.ble 26 pc then (bif Nat.beq pc 26 then some (.aload_n 0, 1, 0, 0) else none) else (bif Nat.beq pc 23 then some (.ifCond .eq 30, 3, 0, 53) else none))) else (bif Nat.ble 17 pc then (bif Nat.ble 20 pc then (bif Nat.beq pc 20 then some (.invokestatic 55, 3, 0, 0) else none) else (bif Nat.beq pc 17 then some (.getfield 18, 3, 0, 0) else none)) else (bif Nat.ble 16 pc then (bif Nat.beq pc 16 then some (.aload_n 0, 1, 0, 0) else none) else (bif Nat.beq pc 13 then some (.ifCond .eq 40, 3, 0, 53) else none)))) else (bif Nat.ble 5 pc then (bif Nat.ble 9 pc then (bif Nat.ble 10 pc then (bif Nat.beq pc 10 then some (.invokestatic 55, 3, 0, 0) else none) else (bif Nat.beq pc 9 then some (.iload_n 1, 1, 0, 0) else none)) else (bif Nat.ble 6 pc then (bif Nat.beq pc 6 then some (.if_icmp .ne 47, 3, 0, 53) else none) else (bif Nat.beq pc 5 then some (.iconst (-1), 1, (-1), 0) else none))) else (bif Nat.ble 1 pc then (bif Nat.ble 2 pc then (bif Nat.beq pc 2 then some (.invokevirtual 51, 3, 0, 0) else none) else (bif Nat.beq pc 1 then some (.iload_n 1, 1, 0, 0) else none)) else (bif Nat.beq pc 0 then some (.aload_n 0, 1, 0, 0) else none))))
def I_X5_reach : Nat → Option mjI := fun pc => bif Nat.ble 54 pc then none else J_X5_reach pc
set_option maxRecDepth 100000 in
theorem I_X5_reach_ok : ∀ pc row, I_X5_reach pc = some row → mjrow Y0 cX5_reach pc row = true ∧ mjrp none row.1 = true := mjchk_ok (n := 54) (by decide +kernel) (mjhi rfl)
def J_X5_tellByJoining : Nat → Option mjI := fun pc => bif Nat.ble 32 pc then (bif Nat.ble 50 pc then (bif Nat.ble 63 pc then (bif Nat.ble 69 pc then (bif Nat.ble 72 pc then (bif Nat.ble 73 pc then (bif Nat.beq pc 73 then some (.ireturn, 1, 0, 0) else none) else (bif Nat.beq pc 72 then some (.iload_n 2, 1, 0, 0) else none)) else (bif Nat.beq pc 69 then some (.goto (-43), 3, 0, 26) else none)) else (bif Nat.ble 66 pc then (bif Nat.beq pc 66 then some (.iinc 3 1, 3, 1, 0) else none) else (bif Nat.beq pc 63 then some (.iinc 2 (-1), 3, (-1), 0) else none))) else (bif Nat.ble 54 pc then (bif Nat.ble 57 pc then (bif Nat.ble 60 pc then (bif Nat.beq pc 60 then some (.ifCond .eq 6, 3, 0, 66) else none) else (bif Nat.beq pc 57 then some (.invokevirtual 64, 3, 0, 0) else none)) else (bif Nat.beq pc 54 then some (.invokevirtual 51, 3, 0, 0) else none)) else (bif Nat.ble 51 pc then (bif Nat.beq pc 51 then some (.invokestatic 61, 3, 0, 0) else none) else (bif Nat.beq pc 50 then some (.iload_n 3, 1, 0, 0) else none)))) else (bif Nat.ble 41 pc then (bif Nat.ble 43 pc then (bif Nat.ble 46 pc then (bif Nat.ble 49 pc then (bif Nat.beq pc 49 then some (.aload_n 0, 1, 0, 0) else none) else (bif Nat.beq pc 46 then some (.invokevirtual 51, 3, 0, 0) else none)) else (bif Nat.beq pc 43 then some (.invokestatic 58, 3, 0, 0) else none)) else (bif Nat.ble 42 pc then (bif Nat.beq pc 42 then some (.iload_n 3, 1, 0, 0) else none) else (bif Nat.beq pc 41 then some (.aload_n 0, 1, 0, 0) else none))) else (bif Nat.ble 34 pc then (bif Nat.ble 37 pc then (bif Nat.ble 40 pc then (bif Nat.beq pc 40 then some (.aload_n 0, 1, 0, 0) else none) else (bif Nat.beq pc 37 then some (.ifCond .eq 29, 3, 0, 66) else none)) else (bif Nat.beq pc 34 then some (.invokevirtual 42, 3, 0, 0) else none)) else (bif Nat.ble 33 pc then (bif Nat.beq pc 33 then some (.iload_n 3, 1, 0, 0) else none) else (bif Nat.beq pc 32 then some (.aload_n 1, 1, 0, 0) else none))))) else (bif Nat.ble 14 pc then (bif Nat.ble 24 pc then (bif Nat.ble 26 pc then (bif Nat.ble 27 pc then (bif Nat.ble 29 pc then (bif Nat.beq pc 29 then some (.if_icmp .ge 43, 3, 0, 72) else none) else (bif Nat.beq pc 27 then some (.bipush 60, 2, 60, 0) else none)) else (bif Nat.beq pc 26 then some (.iload_n 3, 1, 0, 0) else none)) else (bif Nat.ble 25 pc then (bif Nat.beq pc 25 then some (.istore_n 3, 1, 0, 0) else none) else (bif Nat.beq pc 24 then some (.iconst 0, 1, 0, 0) else none))) else (bif Nat.ble 18 pc then (bif Nat.ble 21 pc then (bif Nat.ble 23 pc then (bif Nat.beq pc 23 then some (.istore_n 2, 1, 0, 0) else none) else (bif Nat.beq pc 21 then some (.bipush 36, 2, 36, 0) else none)) else (bif Nat.beq pc 18 then some (.goto (-16), 3, 0, 2) else none)) else (bif Nat.ble 15 pc then (bif Nat.beq pc 15 then some (.iinc 2 1, 3, 1, 0) else none) else (bif Nat.beq pc 14 then some (.iastore, 1, 0, 0) else none)))) else (bif Nat.ble 5 pc then (bif Nat.ble 9 pc then (bif Nat.ble 12 pc then (bif Nat.ble 13 pc then (bif Nat.beq pc 13 then some (.iload_n 2, 1, 0, 0) else none) else (bif Nat.beq pc 12 then some (.iload_n 2, 1, 0, 0) else none)) else (bif Nat.beq pc 9 then some (.getfield 9, 3, 0, 0) else none)) else (bif Nat.ble 8 pc then (bif Nat.beq pc 8 then some (.aload_n 0, 1, 0, 0) else none) else (bif Nat.beq pc 5 then some (.if_icmp .ge 16, 3, 0, 21) else none))) else (bif Nat.ble 2 pc then (bif Nat.ble 3 pc then (bif Nat.beq pc 3 then some (.bipush 36, 2, 36, 0) else none) else (bif Nat.beq pc 2 then some (.iload_n 2, 1, 0, 0) else none)) else (bif Nat.ble 1 pc then (bif Nat.beq pc 1 then some (.istore_n 2, 1, 0, 0) else none) else (bif Nat.beq pc 0 then some (.iconst 0, 1, 0, 0) else none)))))
def I_X5_tellByJoining : Nat → Option mjI := fun pc => bif Nat.ble 74 pc then none else J_X5_tellByJoining pc
set_option maxRecDepth 100000 in
theorem I_X5_tellByJoining_ok : ∀ pc row, I_X5_tellByJoining pc = some row → mjrow Y0 cX5_tellByJoining pc row = true ∧ mjrp (some .int) row.1 = true := mjchk_ok (n := 74) (by decide +kernel) (mjhi rfl)
def J_X5_join : Nat → Option mjI := fun pc => bif Nat.ble 29 pc then (bif Nat.ble 43 pc then (bif Nat.ble 52 pc then (bif Nat.ble 56 pc then (bif Nat.ble 59 pc then (bif Nat.ble 60 pc then (bif Nat.beq pc 60 then some (.ireturn, 1, 0, 0) else none) else (bif Nat.beq pc 59 then some (.iconst 0, 1, 0, 0) else none)) else (bif Nat.beq pc 56 then some (.goto 4, 3, 0, 60) else none)) else (bif Nat.ble 55 pc then (bif Nat.beq pc 55 then some (.iconst 1, 1, 1, 0) else none) else (bif Nat.beq pc 52 then some (.if_icmp .eq 7, 3, 0, 59) else none))) else (bif Nat.ble 49 pc then (bif Nat.ble 50 pc then (bif Nat.beq pc 50 then some (.iload 4, 2, 0, 0) else none) else (bif Nat.beq pc 49 then some (.iload_n 3, 1, 0, 0) else none)) else (bif Nat.ble 46 pc then (bif Nat.beq pc 46 then some (.goto (-30), 3, 0, 16) else none) else (bif Nat.beq pc 43 then some (.iinc 5 1, 3, 1, 0) else none)))) else (bif Nat.ble 36 pc then (bif Nat.ble 41 pc then (bif Nat.ble 42 pc then (bif Nat.beq pc 42 then some (.iastore, 1, 0, 0) else none) else (bif Nat.beq pc 41 then some (.iload_n 3, 1, 0, 0) else none)) else (bif Nat.ble 39 pc then (bif Nat.beq pc 39 then some (.iload 5, 2, 0, 0) else none) else (bif Nat.beq pc 36 then some (.getfield 9, 3, 0, 0) else none))) else (bif Nat.ble 32 pc then (bif Nat.ble 35 pc then (bif Nat.beq pc 35 then some (.aload_n 0, 1, 0, 0) else none) else (bif Nat.beq pc 32 then some (.if_icmp .ne 11, 3, 0, 43) else none)) else (bif Nat.ble 30 pc then (bif Nat.beq pc 30 then some (.iload 4, 2, 0, 0) else none) else (bif Nat.beq pc 29 then some (.iaload, 1, 0, 0) else none))))) else (bif Nat.ble 13 pc then (bif Nat.ble 20 pc then (bif Nat.ble 24 pc then (bif Nat.ble 27 pc then (bif Nat.beq pc 27 then some (.iload 5, 2, 0, 0) else none) else (bif Nat.beq pc 24 then some (.getfield 9, 3, 0, 0) else none)) else (bif Nat.ble 23 pc then (bif Nat.beq pc 23 then some (.aload_n 0, 1, 0, 0) else none) else (bif Nat.beq pc 20 then some (.if_icmp .ge 29, 3, 0, 49) else none))) else (bif Nat.ble 16 pc then (bif Nat.ble 18 pc then (bif Nat.beq pc 18 then some (.bipush 36, 2, 36, 0) else none) else (bif Nat.beq pc 16 then some (.iload 5, 2, 0, 0) else none)) else (bif Nat.ble 14 pc then (bif Nat.beq pc 14 then some (.istore 5, 2, 0, 0) else none) else (bif Nat.beq pc 13 then some (.iconst 0, 1, 0, 0) else none)))) else (bif Nat.ble 6 pc then (bif Nat.ble 8 pc then (bif Nat.ble 11 pc then (bif Nat.beq pc 11 then some (.istore 4, 2, 0, 0) else none) else (bif Nat.beq pc 8 then some (.invokestatic 73, 3, 0, 0) else none)) else (bif Nat.ble 7 pc then (bif Nat.beq pc 7 then some (.iload_n 2, 1, 0, 0) else none) else (bif Nat.beq pc 6 then some (.iload_n 1, 1, 0, 0) else none))) else (bif Nat.ble 2 pc then (bif Nat.ble 5 pc then (bif Nat.beq pc 5 then some (.istore_n 3, 1, 0, 0) else none) else (bif Nat.beq pc 2 then some (.invokestatic 68, 3, 0, 0) else none)) else (bif Nat.ble 1 pc then (bif Nat.beq pc 1 then some (.iload_n 2, 1, 0, 0) else none) else (bif Nat.beq pc 0 then some (.iload_n 1, 1, 0, 0) else none)))))
def I_X5_join : Nat → Option mjI := fun pc => bif Nat.ble 61 pc then none else J_X5_join pc
set_option maxRecDepth 100000 in
theorem I_X5_join_ok : ∀ pc row, I_X5_join pc = some row → mjrow Y0 cX5_join pc row = true ∧ mjrp (some .boolean) row.1 = true := mjchk_ok (n := 61) (by decide +kernel) (mjhi rfl)
def J_X5_nameOf : Nat → Option mjI := fun pc => bif Nat.ble 11 pc then (bif Nat.ble 13 pc then (bif Nat.ble 16 pc then (bif Nat.ble 17 pc then (bif Nat.beq pc 17 then some (.ireturn, 1, 0, 0) else none) else (bif Nat.beq pc 16 then some (.iconst (-1), 1, (-1), 0) else none)) else (bif Nat.beq pc 13 then some (.goto 4, 3, 0, 17) else none)) else (bif Nat.ble 12 pc then (bif Nat.beq pc 12 then some (.iaload, 1, 0, 0) else none) else (bif Nat.beq pc 11 then some (.iload_n 1, 1, 0, 0) else none))) else (bif Nat.ble 4 pc then (bif Nat.ble 7 pc then (bif Nat.ble 8 pc then (bif Nat.beq pc 8 then some (.getfield 9, 3, 0, 0) else none) else (bif Nat.beq pc 7 then some (.aload_n 0, 1, 0, 0) else none)) else (bif Nat.beq pc 4 then some (.ifCond .eq 12, 3, 0, 16) else none)) else (bif Nat.ble 1 pc then (bif Nat.beq pc 1 then some (.invokestatic 55, 3, 0, 0) else none) else (bif Nat.beq pc 0 then some (.iload_n 1, 1, 0, 0) else none)))
def I_X5_nameOf : Nat → Option mjI := fun pc => bif Nat.ble 18 pc then none else J_X5_nameOf pc
set_option maxRecDepth 100000 in
theorem I_X5_nameOf_ok : ∀ pc row, I_X5_nameOf pc = some row → mjrow Y0 cX5_nameOf pc row = true ∧ mjrp (some .int) row.1 = true := mjchk_ok (n := 18) (by decide +kernel) (mjhi rfl)
def J_X5_greatestSize : Nat → Option mjI := fun pc => bif Nat.ble 11 pc then (bif Nat.ble 19 pc then (bif Nat.ble 23 pc then (bif Nat.ble 26 pc then (bif Nat.ble 27 pc then (bif Nat.beq pc 27 then some (.ireturn, 1, 0, 0) else none) else (bif Nat.beq pc 26 then some (.iload_n 1, 1, 0, 0) else none)) else (bif Nat.beq pc 23 then some (.goto (-19), 3, 0, 4) else none)) else (bif Nat.ble 20 pc then (bif Nat.beq pc 20 then some (.iinc 2 1, 3, 1, 0) else none) else (bif Nat.beq pc 19 then some (.istore_n 1, 1, 0, 0) else none))) else (bif Nat.ble 13 pc then (bif Nat.ble 16 pc then (bif Nat.beq pc 16 then some (.invokestatic 73, 3, 0, 0) else none) else (bif Nat.beq pc 13 then some (.invokevirtual 76, 3, 0, 0) else none)) else (bif Nat.ble 12 pc then (bif Nat.beq pc 12 then some (.iload_n 2, 1, 0, 0) else none) else (bif Nat.beq pc 11 then some (.aload_n 0, 1, 0, 0) else none)))) else (bif Nat.ble 4 pc then (bif Nat.ble 7 pc then (bif Nat.ble 10 pc then (bif Nat.beq pc 10 then some (.iload_n 1, 1, 0, 0) else none) else (bif Nat.beq pc 7 then some (.if_icmp .ge 19, 3, 0, 26) else none)) else (bif Nat.ble 5 pc then (bif Nat.beq pc 5 then some (.bipush 36, 2, 36, 0) else none) else (bif Nat.beq pc 4 then some (.iload_n 2, 1, 0, 0) else none))) else (bif Nat.ble 2 pc then (bif Nat.ble 3 pc then (bif Nat.beq pc 3 then some (.istore_n 2, 1, 0, 0) else none) else (bif Nat.beq pc 2 then some (.iconst 0, 1, 0, 0) else none)) else (bif Nat.ble 1 pc then (bif Nat.beq pc 1 then some (.istore_n 1, 1, 0, 0) else none) else (bif Nat.beq pc 0 then some (.iconst 0, 1, 0, 0) else none))))
def I_X5_greatestSize : Nat → Option mjI := fun pc => bif Nat.ble 28 pc then none else J_X5_greatestSize pc
set_option maxRecDepth 100000 in
theorem I_X5_greatestSize_ok : ∀ pc row, I_X5_greatestSize pc = some row → mjrow Y0 cX5_greatestSize pc row = true ∧ mjrp (some .int) row.1 = true := mjchk_ok (n := 28) (by decide +kernel) (mjhi rfl)
def J_X5_sizeOf : Nat → Option mjI := fun pc => bif Nat.ble 14 pc then (bif Nat.ble 20 pc then (bif Nat.ble 26 pc then (bif Nat.ble 29 pc then (bif Nat.ble 30 pc then (bif Nat.beq pc 30 then some (.ireturn, 1, 0, 0) else none) else (bif Nat.beq pc 29 then some (.iload_n 2, 1, 0, 0) else none)) else (bif Nat.beq pc 26 then some (.goto (-22), 3, 0, 4) else none)) else (bif Nat.ble 23 pc then (bif Nat.beq pc 23 then some (.iinc 3 1, 3, 1, 0) else none) else (bif Nat.beq pc 20 then some (.iinc 2 1, 3, 1, 0) else none))) else (bif Nat.ble 16 pc then (bif Nat.ble 17 pc then (bif Nat.beq pc 17 then some (.if_icmp .ne 6, 3, 0, 23) else none) else (bif Nat.beq pc 16 then some (.iload_n 1, 1, 0, 0) else none)) else (bif Nat.ble 15 pc then (bif Nat.beq pc 15 then some (.iaload, 1, 0, 0) else none) else (bif Nat.beq pc 14 then some (.iload_n 3, 1, 0, 0) else none)))) else (bif Nat.ble 4 pc then (bif Nat.ble 7 pc then (bif Nat.ble 10 pc then (bif Nat.ble 11 pc then (bif Nat.beq pc 11 then some (.getfield 9, 3, 0, 0) else none) else (bif Nat.beq pc 10 then some (.aload_n 0, 1, 0, 0) else none)) else (bif Nat.beq pc 7 then some (.if_icmp .ge 22, 3, 0, 29) else none)) else (bif Nat.ble 5 pc then (bif Nat.beq pc 5 then some (.bipush 36, 2, 36, 0) else none) else (bif Nat.beq pc 4 then some (.iload_n 3, 1, 0, 0) else none))) else (bif Nat.ble 2 pc then (bif Nat.ble 3 pc then (bif Nat.beq pc 3 then some (.istore_n 3, 1, 0, 0) else none) else (bif Nat.beq pc 2 then some (.iconst 0, 1, 0, 0) else none)) else (bif Nat.ble 1 pc then (bif Nat.beq pc 1 then some (.istore_n 2, 1, 0, 0) else none) else (bif Nat.beq pc 0 then some (.iconst 0, 1, 0, 0) else none))))
def I_X5_sizeOf : Nat → Option mjI := fun pc => bif Nat.ble 31 pc then none else J_X5_sizeOf pc
set_option maxRecDepth 100000 in
theorem I_X5_sizeOf_ok : ∀ pc row, I_X5_sizeOf pc = some row → mjrow Y0 cX5_sizeOf pc row = true ∧ mjrp (some .int) row.1 = true := mjchk_ok (n := 31) (by decide +kernel) (mjhi rfl)
def J_X5_meanHeat : Nat → Option mjI := fun pc => bif Nat.ble 31 pc then (bif Nat.ble 47 pc then (bif Nat.ble 56 pc then (bif Nat.ble 59 pc then (bif Nat.ble 60 pc then (bif Nat.ble 61 pc then (bif Nat.beq pc 61 then some (.dreturn, 1, 0, 0) else none) else (bif Nat.beq pc 60 then some (.ddiv, 1, 0, 0) else none)) else (bif Nat.beq pc 59 then some (.i2d, 1, 0, 0) else none)) else (bif Nat.ble 58 pc then (bif Nat.beq pc 58 then some (.iload_n 3, 1, 0, 0) else none) else (bif Nat.beq pc 56 then some (.dload 4, 2, 0, 0) else none))) else (bif Nat.ble 50 pc then (bif Nat.ble 53 pc then (bif Nat.beq pc 53 then some (.goto (-33), 3, 0, 20) else none) else (bif Nat.beq pc 50 then some (.iinc 6 1, 3, 1, 0) else none)) else (bif Nat.ble 48 pc then (bif Nat.beq pc 48 then some (.dstore 4, 2, 0, 0) else none) else (bif Nat.beq pc 47 then some (.dadd, 1, 0, 0) else none)))) else (bif Nat.ble 38 pc then (bif Nat.ble 41 pc then (bif Nat.ble 43 pc then (bif Nat.ble 46 pc then (bif Nat.beq pc 46 then some (.i2d, 1, 0, 0) else none) else (bif Nat.beq pc 43 then some (.invokevirtual 81, 3, 0, 0) else none)) else (bif Nat.beq pc 41 then some (.iload 6, 2, 0, 0) else none)) else (bif Nat.ble 40 pc then (bif Nat.beq pc 40 then some (.aload_n 1, 1, 0, 0) else none) else (bif Nat.beq pc 38 then some (.dload 4, 2, 0, 0) else none))) else (bif Nat.ble 34 pc then (bif Nat.ble 35 pc then (bif Nat.beq pc 35 then some (.if_icmp .ne 15, 3, 0, 50) else none) else (bif Nat.beq pc 34 then some (.iload_n 2, 1, 0, 0) else none)) else (bif Nat.ble 33 pc then (bif Nat.beq pc 33 then some (.iaload, 1, 0, 0) else none) else (bif Nat.beq pc 31 then some (.iload 6, 2, 0, 0) else none))))) else (bif Nat.ble 14 pc then (bif Nat.ble 20 pc then (bif Nat.ble 24 pc then (bif Nat.ble 27 pc then (bif Nat.ble 28 pc then (bif Nat.beq pc 28 then some (.getfield 9, 3, 0, 0) else none) else (bif Nat.beq pc 27 then some (.aload_n 0, 1, 0, 0) else none)) else (bif Nat.beq pc 24 then some (.if_icmp .ge 32, 3, 0, 56) else none)) else (bif Nat.ble 22 pc then (bif Nat.beq pc 22 then some (.bipush 36, 2, 36, 0) else none) else (bif Nat.beq pc 20 then some (.iload 6, 2, 0, 0) else none))) else (bif Nat.ble 17 pc then (bif Nat.ble 18 pc then (bif Nat.beq pc 18 then some (.istore 6, 2, 0, 0) else none) else (bif Nat.beq pc 17 then some (.iconst 0, 1, 0, 0) else none)) else (bif Nat.ble 15 pc then (bif Nat.beq pc 15 then some (.dstore 4, 2, 0, 0) else none) else (bif Nat.beq pc 14 then some (.dconst 0, 1, 0, 0) else none)))) else (bif Nat.ble 6 pc then (bif Nat.ble 10 pc then (bif Nat.ble 13 pc then (bif Nat.beq pc 13 then some (.dreturn, 1, 0, 0) else none) else (bif Nat.beq pc 10 then some (.ldc2_w 79, 3, 0, 0) else none)) else (bif Nat.ble 7 pc then (bif Nat.beq pc 7 then some (.ifCond .ne 7, 3, 0, 14) else none) else (bif Nat.beq pc 6 then some (.iload_n 3, 1, 0, 0) else none))) else (bif Nat.ble 2 pc then (bif Nat.ble 5 pc then (bif Nat.beq pc 5 then some (.istore_n 3, 1, 0, 0) else none) else (bif Nat.beq pc 2 then some (.invokevirtual 76, 3, 0, 0) else none)) else (bif Nat.ble 1 pc then (bif Nat.beq pc 1 then some (.iload_n 2, 1, 0, 0) else none) else (bif Nat.beq pc 0 then some (.aload_n 0, 1, 0, 0) else none)))))
def I_X5_meanHeat : Nat → Option mjI := fun pc => bif Nat.ble 62 pc then none else J_X5_meanHeat pc
set_option maxRecDepth 100000 in
theorem I_X5_meanHeat_ok : ∀ pc row, I_X5_meanHeat pc = some row → mjrow Y0 cX5_meanHeat pc row = true ∧ mjrp (some .double) row.1 = true := mjchk_ok (n := 62) (by decide +kernel) (mjhi rfl)
def J_X6_init : Nat → Option mjI := fun pc => bif Nat.ble 42 pc then (bif Nat.ble 64 pc then (bif Nat.ble 75 pc then (bif Nat.ble 80 pc then (bif Nat.ble 83 pc then (bif Nat.ble 86 pc then (bif Nat.beq pc 86 then some (.return_, 1, 0, 0) else none) else (bif Nat.beq pc 83 then some (.putfield 50, 3, 0, 0) else none)) else (bif Nat.beq pc 80 then some (.invokespecial 49, 3, 0, 0) else none)) else (bif Nat.ble 76 pc then (bif Nat.ble 79 pc then (bif Nat.beq pc 79 then some (.dup, 1, 0, 0) else none) else (bif Nat.beq pc 76 then some (.new 47, 3, 0, 0) else none)) else (bif Nat.beq pc 75 then some (.aload_n 0, 1, 0, 0) else none))) else (bif Nat.ble 68 pc then (bif Nat.ble 69 pc then (bif Nat.ble 72 pc then (bif Nat.beq pc 72 then some (.putfield 43, 3, 0, 0) else none) else (bif Nat.beq pc 69 then some (.invokespecial 42, 3, 0, 0) else none)) else (bif Nat.beq pc 68 then some (.dup, 1, 0, 0) else none)) else (bif Nat.ble 65 pc then (bif Nat.beq pc 65 then some (.new 40, 3, 0, 0) else none) else (bif Nat.beq pc 64 then some (.aload_n 0, 1, 0, 0) else none)))) else (bif Nat.ble 53 pc then (bif Nat.ble 57 pc then (bif Nat.ble 58 pc then (bif Nat.ble 61 pc then (bif Nat.beq pc 61 then some (.putfield 36, 3, 0, 0) else none) else (bif Nat.beq pc 58 then some (.invokespecial 35, 3, 0, 0) else none)) else (bif Nat.beq pc 57 then some (.dup, 1, 0, 0) else none)) else (bif Nat.ble 54 pc then (bif Nat.beq pc 54 then some (.new 33, 3, 0, 0) else none) else (bif Nat.beq pc 53 then some (.aload_n 0, 1, 0, 0) else none))) else (bif Nat.ble 46 pc then (bif Nat.ble 47 pc then (bif Nat.ble 50 pc then (bif Nat.beq pc 50 then some (.putfield 29, 3, 0, 0) else none) else (bif Nat.beq pc 47 then some (.invokespecial 28, 3, 0, 0) else none)) else (bif Nat.beq pc 46 then some (.dup, 1, 0, 0) else none)) else (bif Nat.ble 43 pc then (bif Nat.beq pc 43 then some (.new 26, 3, 0, 0) else none) else (bif Nat.beq pc 42 then some (.aload_n 0, 1, 0, 0) else none))))) else (bif Nat.ble 20 pc then (bif Nat.ble 31 pc then (bif Nat.ble 37 pc then (bif Nat.ble 38 pc then (bif Nat.ble 39 pc then (bif Nat.beq pc 39 then some (.putfield 22, 3, 0, 0) else none) else (bif Nat.beq pc 38 then some (.iconst 0, 1, 0, 0) else none)) else (bif Nat.beq pc 37 then some (.aload_n 0, 1, 0, 0) else none)) else (bif Nat.ble 34 pc then (bif Nat.beq pc 34 then some (.putfield 19, 3, 0, 0) else none) else (bif Nat.beq pc 31 then some (.invokespecial 11, 3, 0, 0) else none))) else (bif Nat.ble 26 pc then (bif Nat.ble 27 pc then (bif Nat.ble 30 pc then (bif Nat.beq pc 30 then some (.dup, 1, 0, 0) else none) else (bif Nat.beq pc 27 then some (.new 9, 3, 0, 0) else none)) else (bif Nat.beq pc 26 then some (.aload_n 0, 1, 0, 0) else none)) else (bif Nat.ble 23 pc then (bif Nat.beq pc 23 then some (.putfield 16, 3, 0, 0) else none) else (bif Nat.beq pc 20 then some (.invokespecial 11, 3, 0, 0) else none)))) else (bif Nat.ble 9 pc then (bif Nat.ble 15 pc then (bif Nat.ble 16 pc then (bif Nat.ble 19 pc then (bif Nat.beq pc 19 then some (.dup, 1, 0, 0) else none) else (bif Nat.beq pc 16 then some (.new 9, 3, 0, 0) else none)) else (bif Nat.beq pc 15 then some (.aload_n 0, 1, 0, 0) else none)) else (bif Nat.ble 12 pc then (bif Nat.beq pc 12 then some (.putfield 12, 3, 0, 0) else none) else (bif Nat.beq pc 9 then some (.invokespecial 11, 3, 0, 0) else none))) else (bif Nat.ble 4 pc then (bif Nat.ble 5 pc then (bif Nat.ble 8 pc then (bif Nat.beq pc 8 then some (.dup, 1, 0, 0) else none) else (bif Nat.beq pc 5 then some (.new 9, 3, 0, 0) else none)) else (bif Nat.beq pc 4 then some (.aload_n 0, 1, 0, 0) else none)) else (bif Nat.ble 1 pc then (bif Nat.beq pc 1 then some (.invokespecial 3, 3, 0, 0) else none) else (bif Nat.beq pc 0 then some (.aload_n 0, 1, 0, 0) else none)))))
def I_X6_init : Nat → Option mjI := fun pc => bif Nat.ble 87 pc then none else J_X6_init pc
set_option maxRecDepth 100000 in
theorem I_X6_init_ok : ∀ pc row, I_X6_init pc = some row → mjrow Y0 cX6_init pc row = true ∧ mjrp none row.1 = true := mjchk_ok (n := 87) (by decide +kernel) (mjhi rfl)
def J_X6_begin : Nat → Option mjI := fun pc => bif Nat.ble 18 pc then (bif Nat.ble 29 pc then (bif Nat.ble 33 pc then (bif Nat.ble 36 pc then (bif Nat.ble 39 pc then (bif Nat.beq pc 39 then some (.ireturn, 1, 0, 0) else none) else (bif Nat.beq pc 36 then some (.invokevirtual 66, 3, 0, 0) else none)) else (bif Nat.beq pc 33 then some (.getfield 12, 3, 0, 0) else none)) else (bif Nat.ble 32 pc then (bif Nat.beq pc 32 then some (.aload_n 0, 1, 0, 0) else none) else (bif Nat.beq pc 29 then some (.invokevirtual 62, 3, 0, 0) else none))) else (bif Nat.ble 24 pc then (bif Nat.ble 25 pc then (bif Nat.ble 28 pc then (bif Nat.beq pc 28 then some (.iload_n 1, 1, 0, 0) else none) else (bif Nat.beq pc 25 then some (.getfield 12, 3, 0, 0) else none)) else (bif Nat.beq pc 24 then some (.aload_n 0, 1, 0, 0) else none)) else (bif Nat.ble 21 pc then (bif Nat.beq pc 21 then some (.invokevirtual 58, 3, 0, 0) else none) else (bif Nat.beq pc 18 then some (.getfield 12, 3, 0, 0) else none)))) else (bif Nat.ble 11 pc then (bif Nat.ble 13 pc then (bif Nat.ble 14 pc then (bif Nat.ble 17 pc then (bif Nat.beq pc 17 then some (.aload_n 0, 1, 0, 0) else none) else (bif Nat.beq pc 14 then some (.getfield 29, 3, 0, 0) else none)) else (bif Nat.beq pc 13 then some (.aload_n 0, 1, 0, 0) else none)) else (bif Nat.ble 12 pc then (bif Nat.beq pc 12 then some (.ireturn, 1, 0, 0) else none) else (bif Nat.beq pc 11 then some (.iconst (-1), 1, (-1), 0) else none))) else (bif Nat.ble 2 pc then (bif Nat.ble 5 pc then (bif Nat.ble 8 pc then (bif Nat.beq pc 8 then some (.ifCond .eq 5, 3, 0, 13) else none) else (bif Nat.beq pc 5 then some (.invokestatic 54, 3, 0, 0) else none)) else (bif Nat.beq pc 2 then some (.sipush 1000, 3, 1000, 0) else none)) else (bif Nat.ble 1 pc then (bif Nat.beq pc 1 then some (.iconst 0, 1, 0, 0) else none) else (bif Nat.beq pc 0 then some (.iload_n 1, 1, 0, 0) else none))))
def I_X6_begin : Nat → Option mjI := fun pc => bif Nat.ble 40 pc then none else J_X6_begin pc
set_option maxRecDepth 100000 in
theorem I_X6_begin_ok : ∀ pc row, I_X6_begin pc = some row → mjrow Y0 cX6_begin pc row = true ∧ mjrp (some .int) row.1 = true := mjchk_ok (n := 40) (by decide +kernel) (mjhi rfl)
def J_X6_aim : Nat → Option mjI := fun pc => bif Nat.ble 28 pc then (bif Nat.ble 46 pc then (bif Nat.ble 54 pc then (bif Nat.ble 58 pc then (bif Nat.ble 59 pc then (bif Nat.beq pc 59 then some (.ireturn, 1, 0, 0) else none) else (bif Nat.beq pc 58 then some (.iload_n 3, 1, 0, 0) else none)) else (bif Nat.ble 55 pc then (bif Nat.beq pc 55 then some (.putfield 74, 3, 0, 0) else none) else (bif Nat.beq pc 54 then some (.iload_n 2, 1, 0, 0) else none))) else (bif Nat.ble 50 pc then (bif Nat.ble 51 pc then (bif Nat.beq pc 51 then some (.getfield 12, 3, 0, 0) else none) else (bif Nat.beq pc 50 then some (.aload_n 0, 1, 0, 0) else none)) else (bif Nat.ble 47 pc then (bif Nat.beq pc 47 then some (.putfield 70, 3, 0, 0) else none) else (bif Nat.beq pc 46 then some (.iload_n 1, 1, 0, 0) else none)))) else (bif Nat.ble 38 pc then (bif Nat.ble 42 pc then (bif Nat.ble 43 pc then (bif Nat.beq pc 43 then some (.getfield 12, 3, 0, 0) else none) else (bif Nat.beq pc 42 then some (.aload_n 0, 1, 0, 0) else none)) else (bif Nat.ble 41 pc then (bif Nat.beq pc 41 then some (.istore_n 3, 1, 0, 0) else none) else (bif Nat.beq pc 38 then some (.getfield 70, 3, 0, 0) else none))) else (bif Nat.ble 34 pc then (bif Nat.ble 35 pc then (bif Nat.beq pc 35 then some (.getfield 12, 3, 0, 0) else none) else (bif Nat.beq pc 34 then some (.aload_n 0, 1, 0, 0) else none)) else (bif Nat.ble 31 pc then (bif Nat.beq pc 31 then some (.invokevirtual 58, 3, 0, 0) else none) else (bif Nat.beq pc 28 then some (.getfield 12, 3, 0, 0) else none))))) else (bif Nat.ble 13 pc then (bif Nat.ble 22 pc then (bif Nat.ble 24 pc then (bif Nat.ble 27 pc then (bif Nat.beq pc 27 then some (.aload_n 0, 1, 0, 0) else none) else (bif Nat.beq pc 24 then some (.getfield 29, 3, 0, 0) else none)) else (bif Nat.ble 23 pc then (bif Nat.beq pc 23 then some (.aload_n 0, 1, 0, 0) else none) else (bif Nat.beq pc 22 then some (.ireturn, 1, 0, 0) else none))) else (bif Nat.ble 18 pc then (bif Nat.ble 21 pc then (bif Nat.beq pc 21 then some (.iconst (-1), 1, (-1), 0) else none) else (bif Nat.beq pc 18 then some (.ifCond .eq 5, 3, 0, 23) else none)) else (bif Nat.ble 15 pc then (bif Nat.beq pc 15 then some (.invokestatic 54, 3, 0, 0) else none) else (bif Nat.beq pc 13 then some (.bipush 100, 2, 100, 0) else none)))) else (bif Nat.ble 5 pc then (bif Nat.ble 11 pc then (bif Nat.ble 12 pc then (bif Nat.beq pc 12 then some (.iconst 1, 1, 1, 0) else none) else (bif Nat.beq pc 11 then some (.iload_n 2, 1, 0, 0) else none)) else (bif Nat.ble 8 pc then (bif Nat.beq pc 8 then some (.ifCond .ne 13, 3, 0, 21) else none) else (bif Nat.beq pc 5 then some (.invokestatic 54, 3, 0, 0) else none))) else (bif Nat.ble 1 pc then (bif Nat.ble 2 pc then (bif Nat.beq pc 2 then some (.sipush 1000, 3, 1000, 0) else none) else (bif Nat.beq pc 1 then some (.iconst 0, 1, 0, 0) else none)) else (bif Nat.beq pc 0 then some (.iload_n 1, 1, 0, 0) else none))))
def I_X6_aim : Nat → Option mjI := fun pc => bif Nat.ble 60 pc then none else J_X6_aim pc
set_option maxRecDepth 100000 in
theorem I_X6_aim_ok : ∀ pc row, I_X6_aim pc = some row → mjrow Y0 cX6_aim pc row = true ∧ mjrp (some .int) row.1 = true := mjchk_ok (n := 60) (by decide +kernel) (mjhi rfl)
def J_X6_pass : Nat → Option mjI := fun pc => bif Nat.ble 13 pc then (bif Nat.ble 23 pc then (bif Nat.ble 27 pc then (bif Nat.ble 28 pc then (bif Nat.ble 31 pc then (bif Nat.beq pc 31 then some (.ireturn, 1, 0, 0) else none) else (bif Nat.beq pc 28 then some (.invokevirtual 77, 3, 0, 0) else none)) else (bif Nat.beq pc 27 then some (.iload_n 1, 1, 0, 0) else none)) else (bif Nat.ble 24 pc then (bif Nat.beq pc 24 then some (.getfield 12, 3, 0, 0) else none) else (bif Nat.beq pc 23 then some (.aload_n 0, 1, 0, 0) else none))) else (bif Nat.ble 17 pc then (bif Nat.ble 20 pc then (bif Nat.beq pc 20 then some (.invokevirtual 58, 3, 0, 0) else none) else (bif Nat.beq pc 17 then some (.getfield 12, 3, 0, 0) else none)) else (bif Nat.ble 16 pc then (bif Nat.beq pc 16 then some (.aload_n 0, 1, 0, 0) else none) else (bif Nat.beq pc 13 then some (.getfield 29, 3, 0, 0) else none)))) else (bif Nat.ble 7 pc then (bif Nat.ble 11 pc then (bif Nat.ble 12 pc then (bif Nat.beq pc 12 then some (.aload_n 0, 1, 0, 0) else none) else (bif Nat.beq pc 11 then some (.ireturn, 1, 0, 0) else none)) else (bif Nat.ble 10 pc then (bif Nat.beq pc 10 then some (.iconst (-1), 1, (-1), 0) else none) else (bif Nat.beq pc 7 then some (.ifCond .eq 5, 3, 0, 12) else none))) else (bif Nat.ble 2 pc then (bif Nat.ble 4 pc then (bif Nat.beq pc 4 then some (.invokestatic 54, 3, 0, 0) else none) else (bif Nat.beq pc 2 then some (.bipush 99, 2, 99, 0) else none)) else (bif Nat.ble 1 pc then (bif Nat.beq pc 1 then some (.iconst 1, 1, 1, 0) else none) else (bif Nat.beq pc 0 then some (.iload_n 1, 1, 0, 0) else none))))
def I_X6_pass : Nat → Option mjI := fun pc => bif Nat.ble 32 pc then none else J_X6_pass pc
set_option maxRecDepth 100000 in
theorem I_X6_pass_ok : ∀ pc row, I_X6_pass pc = some row → mjrow Y0 cX6_pass pc row = true ∧ mjrp (some .int) row.1 = true := mjchk_ok (n := 32) (by decide +kernel) (mjhi rfl)
def J_X6_scratch : Nat → Option mjI := fun pc => bif Nat.ble 34 pc then (bif Nat.ble 50 pc then (bif Nat.ble 58 pc then (bif Nat.ble 60 pc then (bif Nat.ble 63 pc then (bif Nat.ble 64 pc then (bif Nat.beq pc 64 then some (.ireturn, 1, 0, 0) else none) else (bif Nat.beq pc 63 then some (.iload_n 3, 1, 0, 0) else none)) else (bif Nat.beq pc 60 then some (.invokevirtual 93, 3, 0, 0) else none)) else (bif Nat.ble 59 pc then (bif Nat.beq pc 59 then some (.iload_n 2, 1, 0, 0) else none) else (bif Nat.beq pc 58 then some (.iload_n 1, 1, 0, 0) else none))) else (bif Nat.ble 54 pc then (bif Nat.ble 55 pc then (bif Nat.beq pc 55 then some (.getfield 12, 3, 0, 0) else none) else (bif Nat.beq pc 54 then some (.aload_n 0, 1, 0, 0) else none)) else (bif Nat.ble 53 pc then (bif Nat.beq pc 53 then some (.istore_n 3, 1, 0, 0) else none) else (bif Nat.beq pc 50 then some (.invokevirtual 90, 3, 0, 0) else none)))) else (bif Nat.ble 42 pc then (bif Nat.ble 46 pc then (bif Nat.ble 49 pc then (bif Nat.beq pc 49 then some (.iload_n 1, 1, 0, 0) else none) else (bif Nat.beq pc 46 then some (.getfield 12, 3, 0, 0) else none)) else (bif Nat.ble 45 pc then (bif Nat.beq pc 45 then some (.aload_n 0, 1, 0, 0) else none) else (bif Nat.beq pc 42 then some (.invokevirtual 58, 3, 0, 0) else none))) else (bif Nat.ble 38 pc then (bif Nat.ble 39 pc then (bif Nat.beq pc 39 then some (.getfield 12, 3, 0, 0) else none) else (bif Nat.beq pc 38 then some (.aload_n 0, 1, 0, 0) else none)) else (bif Nat.ble 35 pc then (bif Nat.beq pc 35 then some (.getfield 29, 3, 0, 0) else none) else (bif Nat.beq pc 34 then some (.aload_n 0, 1, 0, 0) else none))))) else (bif Nat.ble 18 pc then (bif Nat.ble 24 pc then (bif Nat.ble 28 pc then (bif Nat.ble 31 pc then (bif Nat.ble 33 pc then (bif Nat.beq pc 33 then some (.ireturn, 1, 0, 0) else none) else (bif Nat.beq pc 31 then some (.bipush (-2), 2, (-2), 0) else none)) else (bif Nat.beq pc 28 then some (.ifCond .ne 6, 3, 0, 34) else none)) else (bif Nat.ble 25 pc then (bif Nat.beq pc 25 then some (.invokevirtual 87, 3, 0, 0) else none) else (bif Nat.beq pc 24 then some (.iload_n 1, 1, 0, 0) else none))) else (bif Nat.ble 20 pc then (bif Nat.ble 21 pc then (bif Nat.beq pc 21 then some (.getfield 12, 3, 0, 0) else none) else (bif Nat.beq pc 20 then some (.aload_n 0, 1, 0, 0) else none)) else (bif Nat.ble 19 pc then (bif Nat.beq pc 19 then some (.ireturn, 1, 0, 0) else none) else (bif Nat.beq pc 18 then some (.iconst (-1), 1, (-1), 0) else none)))) else (bif Nat.ble 8 pc then (bif Nat.ble 12 pc then (bif Nat.ble 15 pc then (bif Nat.beq pc 15 then some (.ifCond .eq 5, 3, 0, 20) else none) else (bif Nat.beq pc 12 then some (.invokestatic 54, 3, 0, 0) else none)) else (bif Nat.ble 9 pc then (bif Nat.beq pc 9 then some (.sipush 500, 3, 500, 0) else none) else (bif Nat.beq pc 8 then some (.iconst 1, 1, 1, 0) else none))) else (bif Nat.ble 4 pc then (bif Nat.ble 7 pc then (bif Nat.beq pc 7 then some (.iload_n 2, 1, 0, 0) else none) else (bif Nat.beq pc 4 then some (.ifCond .eq 14, 3, 0, 18) else none)) else (bif Nat.ble 1 pc then (bif Nat.beq pc 1 then some (.invokestatic 81, 3, 0, 0) else none) else (bif Nat.beq pc 0 then some (.iload_n 1, 1, 0, 0) else none)))))
def I_X6_scratch : Nat → Option mjI := fun pc => bif Nat.ble 65 pc then none else J_X6_scratch pc
set_option maxRecDepth 100000 in
theorem I_X6_scratch_ok : ∀ pc row, I_X6_scratch pc = some row → mjrow Y0 cX6_scratch pc row = true ∧ mjrp (some .int) row.1 = true := mjchk_ok (n := 65) (by decide +kernel) (mjhi rfl)
def J_X6_mend : Nat → Option mjI := fun pc => bif Nat.ble 28 pc then (bif Nat.ble 43 pc then (bif Nat.ble 52 pc then (bif Nat.ble 56 pc then (bif Nat.ble 59 pc then (bif Nat.beq pc 59 then some (.ireturn, 1, 0, 0) else none) else (bif Nat.beq pc 56 then some (.invokevirtual 100, 3, 0, 0) else none)) else (bif Nat.ble 53 pc then (bif Nat.beq pc 53 then some (.getfield 12, 3, 0, 0) else none) else (bif Nat.beq pc 52 then some (.aload_n 0, 1, 0, 0) else none))) else (bif Nat.ble 47 pc then (bif Nat.ble 49 pc then (bif Nat.beq pc 49 then some (.invokevirtual 93, 3, 0, 0) else none) else (bif Nat.beq pc 47 then some (.bipush 50, 2, 50, 0) else none)) else (bif Nat.ble 46 pc then (bif Nat.beq pc 46 then some (.iload_n 1, 1, 0, 0) else none) else (bif Nat.beq pc 43 then some (.getfield 12, 3, 0, 0) else none)))) else (bif Nat.ble 35 pc then (bif Nat.ble 39 pc then (bif Nat.ble 42 pc then (bif Nat.beq pc 42 then some (.aload_n 0, 1, 0, 0) else none) else (bif Nat.beq pc 39 then some (.invokevirtual 97, 3, 0, 0) else none)) else (bif Nat.ble 38 pc then (bif Nat.beq pc 38 then some (.iload_n 1, 1, 0, 0) else none) else (bif Nat.beq pc 35 then some (.getfield 12, 3, 0, 0) else none))) else (bif Nat.ble 31 pc then (bif Nat.ble 34 pc then (bif Nat.beq pc 34 then some (.aload_n 0, 1, 0, 0) else none) else (bif Nat.beq pc 31 then some (.invokevirtual 58, 3, 0, 0) else none)) else (bif Nat.beq pc 28 then some (.getfield 12, 3, 0, 0) else none)))) else (bif Nat.ble 13 pc then (bif Nat.ble 22 pc then (bif Nat.ble 24 pc then (bif Nat.ble 27 pc then (bif Nat.beq pc 27 then some (.aload_n 0, 1, 0, 0) else none) else (bif Nat.beq pc 24 then some (.getfield 29, 3, 0, 0) else none)) else (bif Nat.ble 23 pc then (bif Nat.beq pc 23 then some (.aload_n 0, 1, 0, 0) else none) else (bif Nat.beq pc 22 then some (.ireturn, 1, 0, 0) else none))) else (bif Nat.ble 17 pc then (bif Nat.ble 20 pc then (bif Nat.beq pc 20 then some (.bipush (-2), 2, (-2), 0) else none) else (bif Nat.beq pc 17 then some (.ifCond .eq 6, 3, 0, 23) else none)) else (bif Nat.ble 14 pc then (bif Nat.beq pc 14 then some (.invokevirtual 87, 3, 0, 0) else none) else (bif Nat.beq pc 13 then some (.iload_n 1, 1, 0, 0) else none)))) else (bif Nat.ble 7 pc then (bif Nat.ble 9 pc then (bif Nat.ble 10 pc then (bif Nat.beq pc 10 then some (.getfield 12, 3, 0, 0) else none) else (bif Nat.beq pc 9 then some (.aload_n 0, 1, 0, 0) else none)) else (bif Nat.ble 8 pc then (bif Nat.beq pc 8 then some (.ireturn, 1, 0, 0) else none) else (bif Nat.beq pc 7 then some (.iconst (-1), 1, (-1), 0) else none))) else (bif Nat.ble 1 pc then (bif Nat.ble 4 pc then (bif Nat.beq pc 4 then some (.ifCond .ne 5, 3, 0, 9) else none) else (bif Nat.beq pc 1 then some (.invokestatic 81, 3, 0, 0) else none)) else (bif Nat.beq pc 0 then some (.iload_n 1, 1, 0, 0) else none))))
def I_X6_mend : Nat → Option mjI := fun pc => bif Nat.ble 60 pc then none else J_X6_mend pc
set_option maxRecDepth 100000 in
theorem I_X6_mend_ok : ∀ pc row, I_X6_mend pc = some row → mjrow Y0 cX6_mend pc row = true ∧ mjrp (some .int) row.1 = true := mjchk_ok (n := 60) (by decide +kernel) (mjhi rfl)
def J_X6_heat : Nat → Option mjI := fun pc => bif Nat.ble 22 pc then (bif Nat.ble 33 pc then (bif Nat.ble 38 pc then (bif Nat.ble 39 pc then (bif Nat.ble 42 pc then (bif Nat.beq pc 42 then some (.ireturn, 1, 0, 0) else none) else (bif Nat.beq pc 39 then some (.invokevirtual 106, 3, 0, 0) else none)) else (bif Nat.beq pc 38 then some (.iload_n 2, 1, 0, 0) else none)) else (bif Nat.ble 34 pc then (bif Nat.ble 37 pc then (bif Nat.beq pc 37 then some (.iload_n 1, 1, 0, 0) else none) else (bif Nat.beq pc 34 then some (.getfield 12, 3, 0, 0) else none)) else (bif Nat.beq pc 33 then some (.aload_n 0, 1, 0, 0) else none))) else (bif Nat.ble 26 pc then (bif Nat.ble 27 pc then (bif Nat.ble 30 pc then (bif Nat.beq pc 30 then some (.invokevirtual 58, 3, 0, 0) else none) else (bif Nat.beq pc 27 then some (.getfield 12, 3, 0, 0) else none)) else (bif Nat.beq pc 26 then some (.aload_n 0, 1, 0, 0) else none)) else (bif Nat.ble 23 pc then (bif Nat.beq pc 23 then some (.getfield 29, 3, 0, 0) else none) else (bif Nat.beq pc 22 then some (.aload_n 0, 1, 0, 0) else none)))) else (bif Nat.ble 11 pc then (bif Nat.ble 17 pc then (bif Nat.ble 20 pc then (bif Nat.ble 21 pc then (bif Nat.beq pc 21 then some (.ireturn, 1, 0, 0) else none) else (bif Nat.beq pc 20 then some (.iconst (-1), 1, (-1), 0) else none)) else (bif Nat.beq pc 17 then some (.ifCond .eq 5, 3, 0, 22) else none)) else (bif Nat.ble 14 pc then (bif Nat.beq pc 14 then some (.invokestatic 54, 3, 0, 0) else none) else (bif Nat.beq pc 11 then some (.sipush 200, 3, 200, 0) else none))) else (bif Nat.ble 4 pc then (bif Nat.ble 7 pc then (bif Nat.ble 8 pc then (bif Nat.beq pc 8 then some (.sipush (-200), 3, (-200), 0) else none) else (bif Nat.beq pc 7 then some (.iload_n 2, 1, 0, 0) else none)) else (bif Nat.beq pc 4 then some (.ifCond .eq 16, 3, 0, 20) else none)) else (bif Nat.ble 1 pc then (bif Nat.beq pc 1 then some (.invokestatic 103, 3, 0, 0) else none) else (bif Nat.beq pc 0 then some (.iload_n 1, 1, 0, 0) else none))))
def I_X6_heat : Nat → Option mjI := fun pc => bif Nat.ble 43 pc then none else J_X6_heat pc
set_option maxRecDepth 100000 in
theorem I_X6_heat_ok : ∀ pc row, I_X6_heat pc = some row → mjrow Y0 cX6_heat pc row = true ∧ mjrp (some .int) row.1 = true := mjchk_ok (n := 43) (by decide +kernel) (mjhi rfl)
def J_X6_set : Nat → Option mjI := fun pc => bif Nat.ble 37 pc then (bif Nat.ble 59 pc then (bif Nat.ble 70 pc then (bif Nat.ble 74 pc then (bif Nat.ble 77 pc then (bif Nat.ble 78 pc then (bif Nat.beq pc 78 then some (.ireturn, 1, 0, 0) else none) else (bif Nat.beq pc 77 then some (.iload_n 3, 1, 0, 0) else none)) else (bif Nat.beq pc 74 then some (.putfield 113, 3, 0, 0) else none)) else (bif Nat.ble 73 pc then (bif Nat.beq pc 73 then some (.iload_n 2, 1, 0, 0) else none) else (bif Nat.beq pc 70 then some (.getfield 12, 3, 0, 0) else none))) else (bif Nat.ble 63 pc then (bif Nat.ble 66 pc then (bif Nat.ble 69 pc then (bif Nat.beq pc 69 then some (.aload_n 0, 1, 0, 0) else none) else (bif Nat.beq pc 66 then some (.goto 11, 3, 0, 77) else none)) else (bif Nat.beq pc 63 then some (.putfield 110, 3, 0, 0) else none)) else (bif Nat.ble 62 pc then (bif Nat.beq pc 62 then some (.iload_n 2, 1, 0, 0) else none) else (bif Nat.beq pc 59 then some (.getfield 12, 3, 0, 0) else none)))) else (bif Nat.ble 50 pc then (bif Nat.ble 54 pc then (bif Nat.ble 55 pc then (bif Nat.ble 58 pc then (bif Nat.beq pc 58 then some (.aload_n 0, 1, 0, 0) else none) else (bif Nat.beq pc 55 then some (.ifCond .ne 14, 3, 0, 69) else none)) else (bif Nat.beq pc 54 then some (.iload_n 1, 1, 0, 0) else none)) else (bif Nat.ble 53 pc then (bif Nat.beq pc 53 then some (.istore_n 3, 1, 0, 0) else none) else (bif Nat.beq pc 50 then some (.getfield 113, 3, 0, 0) else none))) else (bif Nat.ble 43 pc then (bif Nat.ble 46 pc then (bif Nat.ble 47 pc then (bif Nat.beq pc 47 then some (.getfield 12, 3, 0, 0) else none) else (bif Nat.beq pc 46 then some (.aload_n 0, 1, 0, 0) else none)) else (bif Nat.beq pc 43 then some (.goto 10, 3, 0, 53) else none)) else (bif Nat.ble 40 pc then (bif Nat.beq pc 40 then some (.getfield 110, 3, 0, 0) else none) else (bif Nat.beq pc 37 then some (.getfield 12, 3, 0, 0) else none))))) else (bif Nat.ble 19 pc then (bif Nat.ble 26 pc then (bif Nat.ble 32 pc then (bif Nat.ble 33 pc then (bif Nat.ble 36 pc then (bif Nat.beq pc 36 then some (.aload_n 0, 1, 0, 0) else none) else (bif Nat.beq pc 33 then some (.ifCond .ne 13, 3, 0, 46) else none)) else (bif Nat.beq pc 32 then some (.iload_n 1, 1, 0, 0) else none)) else (bif Nat.ble 29 pc then (bif Nat.beq pc 29 then some (.invokevirtual 58, 3, 0, 0) else none) else (bif Nat.beq pc 26 then some (.getfield 12, 3, 0, 0) else none))) else (bif Nat.ble 21 pc then (bif Nat.ble 22 pc then (bif Nat.ble 25 pc then (bif Nat.beq pc 25 then some (.aload_n 0, 1, 0, 0) else none) else (bif Nat.beq pc 22 then some (.getfield 29, 3, 0, 0) else none)) else (bif Nat.beq pc 21 then some (.aload_n 0, 1, 0, 0) else none)) else (bif Nat.ble 20 pc then (bif Nat.beq pc 20 then some (.ireturn, 1, 0, 0) else none) else (bif Nat.beq pc 19 then some (.iconst (-1), 1, (-1), 0) else none)))) else (bif Nat.ble 9 pc then (bif Nat.ble 11 pc then (bif Nat.ble 13 pc then (bif Nat.ble 16 pc then (bif Nat.beq pc 16 then some (.ifCond .eq 5, 3, 0, 21) else none) else (bif Nat.beq pc 13 then some (.invokestatic 54, 3, 0, 0) else none)) else (bif Nat.beq pc 11 then some (.bipush 20, 2, 20, 0) else none)) else (bif Nat.ble 10 pc then (bif Nat.beq pc 10 then some (.iconst 0, 1, 0, 0) else none) else (bif Nat.beq pc 9 then some (.iload_n 2, 1, 0, 0) else none))) else (bif Nat.ble 2 pc then (bif Nat.ble 3 pc then (bif Nat.ble 6 pc then (bif Nat.beq pc 6 then some (.ifCond .ne 13, 3, 0, 19) else none) else (bif Nat.beq pc 3 then some (.invokestatic 54, 3, 0, 0) else none)) else (bif Nat.beq pc 2 then some (.iconst 1, 1, 1, 0) else none)) else (bif Nat.ble 1 pc then (bif Nat.beq pc 1 then some (.iconst 0, 1, 0, 0) else none) else (bif Nat.beq pc 0 then some (.iload_n 1, 1, 0, 0) else none)))))
def I_X6_set : Nat → Option mjI := fun pc => bif Nat.ble 79 pc then none else J_X6_set pc
set_option maxRecDepth 100000 in
theorem I_X6_set_ok : ∀ pc row, I_X6_set pc = some row → mjrow Y0 cX6_set pc row = true ∧ mjrp (some .int) row.1 = true := mjchk_ok (n := 79) (by decide +kernel) (mjhi rfl)
def J_X6_append : Nat → Option mjI := fun pc => bif Nat.ble 17 pc then (bif Nat.ble 26 pc then (bif Nat.ble 32 pc then (bif Nat.ble 35 pc then (bif Nat.ble 37 pc then (bif Nat.beq pc 37 then some (.ireturn, 1, 0, 0) else none) else (bif Nat.beq pc 35 then some (.bipush (-3), 2, (-3), 0) else none)) else (bif Nat.beq pc 32 then some (.goto 5, 3, 0, 37) else none)) else (bif Nat.ble 29 pc then (bif Nat.beq pc 29 then some (.getfield 120, 3, 0, 0) else none) else (bif Nat.beq pc 26 then some (.getfield 36, 3, 0, 0) else none))) else (bif Nat.ble 19 pc then (bif Nat.ble 22 pc then (bif Nat.ble 25 pc then (bif Nat.beq pc 25 then some (.aload_n 0, 1, 0, 0) else none) else (bif Nat.beq pc 22 then some (.ifCond .eq 13, 3, 0, 35) else none)) else (bif Nat.beq pc 19 then some (.invokevirtual 116, 3, 0, 0) else none)) else (bif Nat.ble 18 pc then (bif Nat.beq pc 18 then some (.i2c, 1, 0, 0) else none) else (bif Nat.beq pc 17 then some (.iload_n 1, 1, 0, 0) else none)))) else (bif Nat.ble 8 pc then (bif Nat.ble 12 pc then (bif Nat.ble 13 pc then (bif Nat.ble 14 pc then (bif Nat.beq pc 14 then some (.getfield 36, 3, 0, 0) else none) else (bif Nat.beq pc 13 then some (.aload_n 0, 1, 0, 0) else none)) else (bif Nat.beq pc 12 then some (.ireturn, 1, 0, 0) else none)) else (bif Nat.ble 11 pc then (bif Nat.beq pc 11 then some (.iconst (-1), 1, (-1), 0) else none) else (bif Nat.beq pc 8 then some (.ifCond .eq 5, 3, 0, 13) else none))) else (bif Nat.ble 3 pc then (bif Nat.ble 5 pc then (bif Nat.beq pc 5 then some (.invokestatic 54, 3, 0, 0) else none) else (bif Nat.beq pc 3 then some (.bipush 126, 2, 126, 0) else none)) else (bif Nat.ble 1 pc then (bif Nat.beq pc 1 then some (.bipush 33, 2, 33, 0) else none) else (bif Nat.beq pc 0 then some (.iload_n 1, 1, 0, 0) else none))))
def I_X6_append : Nat → Option mjI := fun pc => bif Nat.ble 38 pc then none else J_X6_append pc
set_option maxRecDepth 100000 in
theorem I_X6_append_ok : ∀ pc row, I_X6_append pc = some row → mjrow Y0 cX6_append pc row = true ∧ mjrp (some .int) row.1 = true := mjchk_ok (n := 38) (by decide +kernel) (mjhi rfl)
def J_X6_clear : Nat → Option mjI := fun pc => bif Nat.ble 9 pc then (bif Nat.ble 13 pc then (bif Nat.ble 16 pc then (bif Nat.ble 17 pc then (bif Nat.beq pc 17 then some (.ireturn, 1, 0, 0) else none) else (bif Nat.beq pc 16 then some (.iload_n 1, 1, 0, 0) else none)) else (bif Nat.beq pc 13 then some (.putfield 120, 3, 0, 0) else none)) else (bif Nat.ble 12 pc then (bif Nat.beq pc 12 then some (.iconst 0, 1, 0, 0) else none) else (bif Nat.beq pc 9 then some (.getfield 36, 3, 0, 0) else none))) else (bif Nat.ble 4 pc then (bif Nat.ble 7 pc then (bif Nat.ble 8 pc then (bif Nat.beq pc 8 then some (.aload_n 0, 1, 0, 0) else none) else (bif Nat.beq pc 7 then some (.istore_n 1, 1, 0, 0) else none)) else (bif Nat.beq pc 4 then some (.getfield 120, 3, 0, 0) else none)) else (bif Nat.ble 1 pc then (bif Nat.beq pc 1 then some (.getfield 36, 3, 0, 0) else none) else (bif Nat.beq pc 0 then some (.aload_n 0, 1, 0, 0) else none)))
def I_X6_clear : Nat → Option mjI := fun pc => bif Nat.ble 18 pc then none else J_X6_clear pc
set_option maxRecDepth 100000 in
theorem I_X6_clear_ok : ∀ pc row, I_X6_clear pc = some row → mjrow Y0 cX6_clear pc row = true ∧ mjrp (some .int) row.1 = true := mjchk_ok (n := 18) (by decide +kernel) (mjhi rfl)
def J_X6_fault : Nat → Option mjI := fun pc => bif Nat.ble 4 pc then (bif Nat.ble 7 pc then (bif Nat.beq pc 7 then some (.ireturn, 1, 0, 0) else none) else (bif Nat.beq pc 4 then some (.invokevirtual 123, 3, 0, 0) else none)) else (bif Nat.ble 1 pc then (bif Nat.beq pc 1 then some (.getfield 36, 3, 0, 0) else none) else (bif Nat.beq pc 0 then some (.aload_n 0, 1, 0, 0) else none))
def I_X6_fault : Nat → Option mjI := fun pc => bif Nat.ble 8 pc then none else J_X6_fault pc
set_option maxRecDepth 100000 in
theorem I_X6_fault_ok : ∀ pc row, I_X6_fault pc = some row → mjrow Y0 cX6_fault pc row = true ∧ mjrp (some .int) row.1 = true := mjchk_ok (n := 8) (by decide +kernel) (mjhi rfl)
def J_X6_run : Nat → Option mjI := fun pc => bif Nat.ble 57 pc then (bif Nat.ble 88 pc then (bif Nat.ble 103 pc then (bif Nat.ble 113 pc then (bif Nat.ble 117 pc then (bif Nat.ble 118 pc then (bif Nat.beq pc 118 then some (.ireturn, 1, 0, 0) else none) else (bif Nat.beq pc 117 then some (.iload_n 1, 1, 0, 0) else none)) else (bif Nat.ble 114 pc then (bif Nat.beq pc 114 then some (.putfield 120, 3, 0, 0) else none) else (bif Nat.beq pc 113 then some (.iconst 0, 1, 0, 0) else none))) else (bif Nat.ble 109 pc then (bif Nat.ble 110 pc then (bif Nat.beq pc 110 then some (.getfield 36, 3, 0, 0) else none) else (bif Nat.beq pc 109 then some (.aload_n 0, 1, 0, 0) else none)) else (bif Nat.ble 106 pc then (bif Nat.beq pc 106 then some (.goto (-76), 3, 0, 30) else none) else (bif Nat.beq pc 103 then some (.iinc 1 1, 3, 1, 0) else none)))) else (bif Nat.ble 95 pc then (bif Nat.ble 99 pc then (bif Nat.ble 102 pc then (bif Nat.beq pc 102 then some (.istore_n 2, 1, 0, 0) else none) else (bif Nat.beq pc 99 then some (.invokevirtual 77, 3, 0, 0) else none)) else (bif Nat.ble 96 pc then (bif Nat.beq pc 96 then some (.invokevirtual 135, 3, 0, 0) else none) else (bif Nat.beq pc 95 then some (.iload_n 1, 1, 0, 0) else none))) else (bif Nat.ble 91 pc then (bif Nat.ble 92 pc then (bif Nat.beq pc 92 then some (.getfield 36, 3, 0, 0) else none) else (bif Nat.beq pc 91 then some (.aload_n 0, 1, 0, 0) else none)) else (bif Nat.beq pc 88 then some (.getfield 12, 3, 0, 0) else none)))) else (bif Nat.ble 72 pc then (bif Nat.ble 80 pc then (bif Nat.ble 84 pc then (bif Nat.ble 87 pc then (bif Nat.beq pc 87 then some (.aload_n 0, 1, 0, 0) else none) else (bif Nat.beq pc 84 then some (.putfield 74, 3, 0, 0) else none)) else (bif Nat.ble 81 pc then (bif Nat.beq pc 81 then some (.invokevirtual 132, 3, 0, 0) else none) else (bif Nat.beq pc 80 then some (.iload_n 1, 1, 0, 0) else none))) else (bif Nat.ble 76 pc then (bif Nat.ble 77 pc then (bif Nat.beq pc 77 then some (.getfield 36, 3, 0, 0) else none) else (bif Nat.beq pc 76 then some (.aload_n 0, 1, 0, 0) else none)) else (bif Nat.ble 73 pc then (bif Nat.beq pc 73 then some (.getfield 12, 3, 0, 0) else none) else (bif Nat.beq pc 72 then some (.aload_n 0, 1, 0, 0) else none)))) else (bif Nat.ble 62 pc then (bif Nat.ble 66 pc then (bif Nat.ble 69 pc then (bif Nat.beq pc 69 then some (.putfield 70, 3, 0, 0) else none) else (bif Nat.beq pc 66 then some (.invokevirtual 129, 3, 0, 0) else none)) else (bif Nat.ble 65 pc then (bif Nat.beq pc 65 then some (.iload_n 1, 1, 0, 0) else none) else (bif Nat.beq pc 62 then some (.getfield 36, 3, 0, 0) else none))) else (bif Nat.ble 58 pc then (bif Nat.ble 61 pc then (bif Nat.beq pc 61 then some (.aload_n 0, 1, 0, 0) else none) else (bif Nat.beq pc 58 then some (.getfield 12, 3, 0, 0) else none)) else (bif Nat.beq pc 57 then some (.aload_n 0, 1, 0, 0) else none))))) else (bif Nat.ble 28 pc then (bif Nat.ble 41 pc then (bif Nat.ble 49 pc then (bif Nat.ble 53 pc then (bif Nat.ble 54 pc then (bif Nat.beq pc 54 then some (.if_icmp .eq 33, 3, 0, 87) else none) else (bif Nat.beq pc 53 then some (.iconst (-1), 1, (-1), 0) else none)) else (bif Nat.ble 50 pc then (bif Nat.beq pc 50 then some (.invokevirtual 129, 3, 0, 0) else none) else (bif Nat.beq pc 49 then some (.iload_n 1, 1, 0, 0) else none))) else (bif Nat.ble 45 pc then (bif Nat.ble 46 pc then (bif Nat.beq pc 46 then some (.getfield 36, 3, 0, 0) else none) else (bif Nat.beq pc 45 then some (.aload_n 0, 1, 0, 0) else none)) else (bif Nat.ble 42 pc then (bif Nat.beq pc 42 then some (.ifCond .ne 67, 3, 0, 109) else none) else (bif Nat.beq pc 41 then some (.iload_n 2, 1, 0, 0) else none)))) else (bif Nat.ble 31 pc then (bif Nat.ble 35 pc then (bif Nat.ble 38 pc then (bif Nat.beq pc 38 then some (.if_icmp .ge 71, 3, 0, 109) else none) else (bif Nat.beq pc 35 then some (.getfield 126, 3, 0, 0) else none)) else (bif Nat.ble 32 pc then (bif Nat.beq pc 32 then some (.getfield 36, 3, 0, 0) else none) else (bif Nat.beq pc 31 then some (.aload_n 0, 1, 0, 0) else none))) else (bif Nat.ble 29 pc then (bif Nat.ble 30 pc then (bif Nat.beq pc 30 then some (.iload_n 1, 1, 0, 0) else none) else (bif Nat.beq pc 29 then some (.istore_n 2, 1, 0, 0) else none)) else (bif Nat.beq pc 28 then some (.iconst 0, 1, 0, 0) else none)))) else (bif Nat.ble 15 pc then (bif Nat.ble 20 pc then (bif Nat.ble 26 pc then (bif Nat.ble 27 pc then (bif Nat.beq pc 27 then some (.istore_n 1, 1, 0, 0) else none) else (bif Nat.beq pc 26 then some (.iconst 0, 1, 0, 0) else none)) else (bif Nat.ble 23 pc then (bif Nat.beq pc 23 then some (.invokevirtual 58, 3, 0, 0) else none) else (bif Nat.beq pc 20 then some (.getfield 12, 3, 0, 0) else none))) else (bif Nat.ble 16 pc then (bif Nat.ble 19 pc then (bif Nat.beq pc 19 then some (.aload_n 0, 1, 0, 0) else none) else (bif Nat.beq pc 16 then some (.getfield 29, 3, 0, 0) else none)) else (bif Nat.beq pc 15 then some (.aload_n 0, 1, 0, 0) else none))) else (bif Nat.ble 7 pc then (bif Nat.ble 12 pc then (bif Nat.ble 14 pc then (bif Nat.beq pc 14 then some (.ireturn, 1, 0, 0) else none) else (bif Nat.beq pc 12 then some (.bipush (-2), 2, (-2), 0) else none)) else (bif Nat.ble 9 pc then (bif Nat.beq pc 9 then some (.if_icmp .eq 6, 3, 0, 15) else none) else (bif Nat.beq pc 7 then some (.bipush (-4), 2, (-4), 0) else none))) else (bif Nat.ble 1 pc then (bif Nat.ble 4 pc then (bif Nat.beq pc 4 then some (.invokevirtual 123, 3, 0, 0) else none) else (bif Nat.beq pc 1 then some (.getfield 36, 3, 0, 0) else none)) else (bif Nat.beq pc 0 then some (.aload_n 0, 1, 0, 0) else none)))))
def I_X6_run : Nat → Option mjI := fun pc => bif Nat.ble 119 pc then none else J_X6_run pc
set_option maxRecDepth 100000 in
theorem I_X6_run_ok : ∀ pc row, I_X6_run pc = some row → mjrow Y0 cX6_run pc row = true ∧ mjrp (some .int) row.1 = true := mjchk_ok (n := 119) (by decide +kernel) (mjhi rfl)
def J_X6_cell : Nat → Option mjI := fun pc => bif Nat.ble 66 pc then (bif Nat.ble 83 pc then (bif Nat.ble 92 pc then (bif Nat.ble 96 pc then (bif Nat.ble 97 pc then (bif Nat.ble 98 pc then (bif Nat.beq pc 98 then some (.ireturn, 1, 0, 0) else none) else (bif Nat.beq pc 97 then some (.iconst (-1), 1, (-1), 0) else none)) else (bif Nat.beq pc 96 then some (.ireturn, 1, 0, 0) else none)) else (bif Nat.ble 93 pc then (bif Nat.beq pc 93 then some (.invokevirtual 154, 3, 0, 0) else none) else (bif Nat.beq pc 92 then some (.iload_n 1, 1, 0, 0) else none))) else (bif Nat.ble 87 pc then (bif Nat.ble 88 pc then (bif Nat.ble 89 pc then (bif Nat.beq pc 89 then some (.getfield 12, 3, 0, 0) else none) else (bif Nat.beq pc 88 then some (.aload_n 0, 1, 0, 0) else none)) else (bif Nat.beq pc 87 then some (.ireturn, 1, 0, 0) else none)) else (bif Nat.ble 84 pc then (bif Nat.beq pc 84 then some (.invokestatic 151, 3, 0, 0) else none) else (bif Nat.beq pc 83 then some (.iload_n 1, 1, 0, 0) else none)))) else (bif Nat.ble 74 pc then (bif Nat.ble 78 pc then (bif Nat.ble 79 pc then (bif Nat.ble 82 pc then (bif Nat.beq pc 82 then some (.ireturn, 1, 0, 0) else none) else (bif Nat.beq pc 79 then some (.invokevirtual 148, 3, 0, 0) else none)) else (bif Nat.beq pc 78 then some (.iload_n 1, 1, 0, 0) else none)) else (bif Nat.ble 75 pc then (bif Nat.beq pc 75 then some (.getfield 12, 3, 0, 0) else none) else (bif Nat.beq pc 74 then some (.aload_n 0, 1, 0, 0) else none))) else (bif Nat.ble 70 pc then (bif Nat.ble 73 pc then (bif Nat.beq pc 73 then some (.ireturn, 1, 0, 0) else none) else (bif Nat.beq pc 70 then some (.invokevirtual 145, 3, 0, 0) else none)) else (bif Nat.ble 69 pc then (bif Nat.beq pc 69 then some (.iload_n 1, 1, 0, 0) else none) else (bif Nat.beq pc 66 then some (.getfield 43, 3, 0, 0) else none))))) else (bif Nat.ble 48 pc then (bif Nat.ble 57 pc then (bif Nat.ble 61 pc then (bif Nat.ble 64 pc then (bif Nat.ble 65 pc then (bif Nat.beq pc 65 then some (.aload_n 0, 1, 0, 0) else none) else (bif Nat.beq pc 64 then some (.pop, 1, 0, 0) else none)) else (bif Nat.beq pc 61 then some (.invokevirtual 141, 3, 0, 0) else none)) else (bif Nat.ble 58 pc then (bif Nat.beq pc 58 then some (.getfield 12, 3, 0, 0) else none) else (bif Nat.beq pc 57 then some (.aload_n 0, 1, 0, 0) else none))) else (bif Nat.ble 52 pc then (bif Nat.ble 53 pc then (bif Nat.ble 54 pc then (bif Nat.beq pc 54 then some (.getfield 43, 3, 0, 0) else none) else (bif Nat.beq pc 53 then some (.aload_n 0, 1, 0, 0) else none)) else (bif Nat.beq pc 52 then some (.ireturn, 1, 0, 0) else none)) else (bif Nat.ble 49 pc then (bif Nat.beq pc 49 then some (.invokevirtual 138, 3, 0, 0) else none) else (bif Nat.beq pc 48 then some (.iload_n 1, 1, 0, 0) else none)))) else (bif Nat.ble 8 pc then (bif Nat.ble 10 pc then (bif Nat.ble 44 pc then (bif Nat.ble 45 pc then (bif Nat.beq pc 45 then some (.getfield 12, 3, 0, 0) else none) else (bif Nat.beq pc 44 then some (.aload_n 0, 1, 0, 0) else none)) else (bif Nat.beq pc 10 then some (.tableswitch 87 0 4 #[34, 43, 64, 73, 78], 34, 0, 97) else none)) else (bif Nat.ble 9 pc then (bif Nat.beq pc 9 then some (.iload_n 2, 1, 0, 0) else none) else (bif Nat.beq pc 8 then some (.ireturn, 1, 0, 0) else none))) else (bif Nat.ble 4 pc then (bif Nat.ble 7 pc then (bif Nat.beq pc 7 then some (.iconst (-1), 1, (-1), 0) else none) else (bif Nat.beq pc 4 then some (.ifCond .ne 5, 3, 0, 9) else none)) else (bif Nat.ble 1 pc then (bif Nat.beq pc 1 then some (.invokestatic 103, 3, 0, 0) else none) else (bif Nat.beq pc 0 then some (.iload_n 1, 1, 0, 0) else none)))))
def I_X6_cell : Nat → Option mjI := fun pc => bif Nat.ble 99 pc then none else J_X6_cell pc
def Y_X6_cell : Nat → List (Int32 × Nat) := fun pc => bif Nat.beq pc 10 then [(0, 44), (1, 53), (2, 74), (3, 83), (4, 88)] else []
set_option maxRecDepth 100000 in
theorem I_X6_cell_ok : ∀ pc row, I_X6_cell pc = some row → mjrow Y_X6_cell cX6_cell pc row = true ∧ mjrp (some .int) row.1 = true := mjchk_ok (n := 99) (by decide +kernel) (mjhi rfl)
def J_X6_joint : Nat → Option mjI := fun pc => bif Nat.ble 81 pc then (bif Nat.ble 104 pc then (bif Nat.ble 116 pc then (bif Nat.ble 121 pc then (bif Nat.ble 125 pc then (bif Nat.ble 126 pc then (bif Nat.beq pc 126 then some (.ireturn, 1, 0, 0) else none) else (bif Nat.beq pc 125 then some (.iconst (-1), 1, (-1), 0) else none)) else (bif Nat.ble 124 pc then (bif Nat.beq pc 124 then some (.ireturn, 1, 0, 0) else none) else (bif Nat.beq pc 121 then some (.invokevirtual 169, 3, 0, 0) else none))) else (bif Nat.ble 117 pc then (bif Nat.ble 120 pc then (bif Nat.beq pc 120 then some (.iload_n 1, 1, 0, 0) else none) else (bif Nat.beq pc 117 then some (.getfield 12, 3, 0, 0) else none)) else (bif Nat.beq pc 116 then some (.aload_n 0, 1, 0, 0) else none))) else (bif Nat.ble 111 pc then (bif Nat.ble 112 pc then (bif Nat.ble 115 pc then (bif Nat.beq pc 115 then some (.ireturn, 1, 0, 0) else none) else (bif Nat.beq pc 112 then some (.invokevirtual 166, 3, 0, 0) else none)) else (bif Nat.beq pc 111 then some (.iload_n 1, 1, 0, 0) else none)) else (bif Nat.ble 107 pc then (bif Nat.ble 108 pc then (bif Nat.beq pc 108 then some (.getfield 12, 3, 0, 0) else none) else (bif Nat.beq pc 107 then some (.aload_n 0, 1, 0, 0) else none)) else (bif Nat.beq pc 104 then some (.goto 11, 3, 0, 115) else none)))) else (bif Nat.ble 93 pc then (bif Nat.ble 98 pc then (bif Nat.ble 99 pc then (bif Nat.ble 102 pc then (bif Nat.beq pc 102 then some (.bipush (-4), 2, (-4), 0) else none) else (bif Nat.beq pc 99 then some (.ifCond .eq 8, 3, 0, 107) else none)) else (bif Nat.beq pc 98 then some (.iload_n 3, 1, 0, 0) else none)) else (bif Nat.ble 94 pc then (bif Nat.ble 97 pc then (bif Nat.beq pc 97 then some (.ireturn, 1, 0, 0) else none) else (bif Nat.beq pc 94 then some (.invokevirtual 163, 3, 0, 0) else none)) else (bif Nat.beq pc 93 then some (.iload_n 1, 1, 0, 0) else none))) else (bif Nat.ble 88 pc then (bif Nat.ble 89 pc then (bif Nat.ble 90 pc then (bif Nat.beq pc 90 then some (.getfield 12, 3, 0, 0) else none) else (bif Nat.beq pc 89 then some (.aload_n 0, 1, 0, 0) else none)) else (bif Nat.beq pc 88 then some (.ireturn, 1, 0, 0) else none)) else (bif Nat.ble 84 pc then (bif Nat.ble 85 pc then (bif Nat.beq pc 85 then some (.invokevirtual 90, 3, 0, 0) else none) else (bif Nat.beq pc 84 then some (.iload_n 1, 1, 0, 0) else none)) else (bif Nat.beq pc 81 then some (.getfield 12, 3, 0, 0) else none))))) else (bif Nat.ble 60 pc then (bif Nat.ble 70 pc then (bif Nat.ble 75 pc then (bif Nat.ble 79 pc then (bif Nat.ble 80 pc then (bif Nat.beq pc 80 then some (.aload_n 0, 1, 0, 0) else none) else (bif Nat.beq pc 79 then some (.ireturn, 1, 0, 0) else none)) else (bif Nat.ble 78 pc then (bif Nat.beq pc 78 then some (.iconst 0, 1, 0, 0) else none) else (bif Nat.beq pc 75 then some (.goto 4, 3, 0, 79) else none))) else (bif Nat.ble 71 pc then (bif Nat.ble 74 pc then (bif Nat.beq pc 74 then some (.iconst 1, 1, 1, 0) else none) else (bif Nat.beq pc 71 then some (.ifCond .eq 7, 3, 0, 78) else none)) else (bif Nat.beq pc 70 then some (.iload_n 3, 1, 0, 0) else none))) else (bif Nat.ble 65 pc then (bif Nat.ble 66 pc then (bif Nat.ble 69 pc then (bif Nat.beq pc 69 then some (.ireturn, 1, 0, 0) else none) else (bif Nat.beq pc 66 then some (.invokestatic 160, 3, 0, 0) else none)) else (bif Nat.beq pc 65 then some (.iload_n 1, 1, 0, 0) else none)) else (bif Nat.ble 61 pc then (bif Nat.ble 64 pc then (bif Nat.beq pc 64 then some (.ireturn, 1, 0, 0) else none) else (bif Nat.beq pc 61 then some (.invokestatic 157, 3, 0, 0) else none)) else (bif Nat.beq pc 60 then some (.iload_n 1, 1, 0, 0) else none)))) else (bif Nat.ble 10 pc then (bif Nat.ble 17 pc then (bif Nat.ble 18 pc then (bif Nat.ble 19 pc then (bif Nat.beq pc 19 then some (.tableswitch 106 0 6 #[41, 46, 51, 61, 70, 79, 97], 41, 0, 125) else none) else (bif Nat.beq pc 18 then some (.iload_n 2, 1, 0, 0) else none)) else (bif Nat.beq pc 17 then some (.istore_n 3, 1, 0, 0) else none)) else (bif Nat.ble 13 pc then (bif Nat.ble 14 pc then (bif Nat.beq pc 14 then some (.invokevirtual 87, 3, 0, 0) else none) else (bif Nat.beq pc 13 then some (.iload_n 1, 1, 0, 0) else none)) else (bif Nat.beq pc 10 then some (.getfield 12, 3, 0, 0) else none))) else (bif Nat.ble 7 pc then (bif Nat.ble 8 pc then (bif Nat.ble 9 pc then (bif Nat.beq pc 9 then some (.aload_n 0, 1, 0, 0) else none) else (bif Nat.beq pc 8 then some (.ireturn, 1, 0, 0) else none)) else (bif Nat.beq pc 7 then some (.iconst (-1), 1, (-1), 0) else none)) else (bif Nat.ble 1 pc then (bif Nat.ble 4 pc then (bif Nat.beq pc 4 then some (.ifCond .ne 5, 3, 0, 9) else none) else (bif Nat.beq pc 1 then some (.invokestatic 81, 3, 0, 0) else none)) else (bif Nat.beq pc 0 then some (.iload_n 1, 1, 0, 0) else none)))))
def I_X6_joint : Nat → Option mjI := fun pc => bif Nat.ble 127 pc then none else J_X6_joint pc
def Y_X6_joint : Nat → List (Int32 × Nat) := fun pc => bif Nat.beq pc 19 then [(0, 60), (1, 65), (2, 70), (3, 80), (4, 89), (5, 98), (6, 116)] else []
set_option maxRecDepth 100000 in
theorem I_X6_joint_ok : ∀ pc row, I_X6_joint pc = some row → mjrow Y_X6_joint cX6_joint pc row = true ∧ mjrp (some .int) row.1 = true := mjchk_ok (n := 127) (by decide +kernel) (mjhi rfl)
def J_X6_strained : Nat → Option mjI := fun pc => bif Nat.ble 8 pc then (bif Nat.ble 12 pc then (bif Nat.ble 13 pc then (bif Nat.ble 16 pc then (bif Nat.beq pc 16 then some (.ireturn, 1, 0, 0) else none) else (bif Nat.beq pc 13 then some (.invokevirtual 172, 3, 0, 0) else none)) else (bif Nat.beq pc 12 then some (.iload_n 1, 1, 0, 0) else none)) else (bif Nat.ble 9 pc then (bif Nat.beq pc 9 then some (.getfield 12, 3, 0, 0) else none) else (bif Nat.beq pc 8 then some (.aload_n 0, 1, 0, 0) else none))) else (bif Nat.ble 4 pc then (bif Nat.ble 5 pc then (bif Nat.beq pc 5 then some (.goto 11, 3, 0, 16) else none) else (bif Nat.beq pc 4 then some (.iconst (-1), 1, (-1), 0) else none)) else (bif Nat.ble 1 pc then (bif Nat.beq pc 1 then some (.ifCond .ge 7, 3, 0, 8) else none) else (bif Nat.beq pc 0 then some (.iload_n 1, 1, 0, 0) else none)))
def I_X6_strained : Nat → Option mjI := fun pc => bif Nat.ble 17 pc then none else J_X6_strained pc
set_option maxRecDepth 100000 in
theorem I_X6_strained_ok : ∀ pc row, I_X6_strained pc = some row → mjrow Y0 cX6_strained pc row = true ∧ mjrp (some .int) row.1 = true := mjchk_ok (n := 17) (by decide +kernel) (mjhi rfl)
def J_X6_pieces : Nat → Option mjI := fun pc => bif Nat.ble 40 pc then (bif Nat.ble 48 pc then (bif Nat.ble 52 pc then (bif Nat.ble 53 pc then (bif Nat.beq pc 53 then some (.ireturn, 1, 0, 0) else none) else (bif Nat.beq pc 52 then some (.iconst (-1), 1, (-1), 0) else none)) else (bif Nat.ble 51 pc then (bif Nat.beq pc 51 then some (.ireturn, 1, 0, 0) else none) else (bif Nat.beq pc 48 then some (.invokevirtual 175, 3, 0, 0) else none))) else (bif Nat.ble 44 pc then (bif Nat.ble 45 pc then (bif Nat.beq pc 45 then some (.getfield 12, 3, 0, 0) else none) else (bif Nat.beq pc 44 then some (.aload_n 0, 1, 0, 0) else none)) else (bif Nat.ble 41 pc then (bif Nat.beq pc 41 then some (.getfield 43, 3, 0, 0) else none) else (bif Nat.beq pc 40 then some (.aload_n 0, 1, 0, 0) else none)))) else (bif Nat.ble 32 pc then (bif Nat.ble 36 pc then (bif Nat.ble 39 pc then (bif Nat.beq pc 39 then some (.ireturn, 1, 0, 0) else none) else (bif Nat.beq pc 36 then some (.invokevirtual 141, 3, 0, 0) else none)) else (bif Nat.ble 33 pc then (bif Nat.beq pc 33 then some (.getfield 12, 3, 0, 0) else none) else (bif Nat.beq pc 32 then some (.aload_n 0, 1, 0, 0) else none))) else (bif Nat.ble 28 pc then (bif Nat.ble 29 pc then (bif Nat.beq pc 29 then some (.getfield 43, 3, 0, 0) else none) else (bif Nat.beq pc 28 then some (.aload_n 0, 1, 0, 0) else none)) else (bif Nat.ble 1 pc then (bif Nat.beq pc 1 then some (.lookupswitch 51 #[(0, 27), (1, 39)], 27, 0, 52) else none) else (bif Nat.beq pc 0 then some (.iload_n 1, 1, 0, 0) else none))))
def I_X6_pieces : Nat → Option mjI := fun pc => bif Nat.ble 54 pc then none else J_X6_pieces pc
def Y_X6_pieces : Nat → List (Int32 × Nat) := fun pc => bif Nat.beq pc 1 then [(0, 28), (1, 40)] else []
set_option maxRecDepth 100000 in
theorem I_X6_pieces_ok : ∀ pc row, I_X6_pieces pc = some row → mjrow Y_X6_pieces cX6_pieces pc row = true ∧ mjrp (some .int) row.1 = true := mjchk_ok (n := 54) (by decide +kernel) (mjhi rfl)
def J_X6_count : Nat → Option mjI := fun pc => bif Nat.ble 157 pc then (bif Nat.ble 196 pc then (bif Nat.ble 216 pc then (bif Nat.ble 225 pc then (bif Nat.ble 231 pc then (bif Nat.ble 232 pc then (bif Nat.ble 233 pc then (bif Nat.beq pc 233 then some (.ireturn, 1, 0, 0) else none) else (bif Nat.beq pc 232 then some (.iconst (-1), 1, (-1), 0) else none)) else (bif Nat.beq pc 231 then some (.ireturn, 1, 0, 0) else none)) else (bif Nat.ble 228 pc then (bif Nat.beq pc 228 then some (.getfield 205, 3, 0, 0) else none) else (bif Nat.beq pc 225 then some (.getfield 29, 3, 0, 0) else none))) else (bif Nat.ble 220 pc then (bif Nat.ble 223 pc then (bif Nat.ble 224 pc then (bif Nat.beq pc 224 then some (.aload_n 0, 1, 0, 0) else none) else (bif Nat.beq pc 223 then some (.ireturn, 1, 0, 0) else none)) else (bif Nat.beq pc 220 then some (.getfield 120, 3, 0, 0) else none)) else (bif Nat.ble 217 pc then (bif Nat.beq pc 217 then some (.getfield 36, 3, 0, 0) else none) else (bif Nat.beq pc 216 then some (.aload_n 0, 1, 0, 0) else none)))) else (bif Nat.ble 207 pc then (bif Nat.ble 209 pc then (bif Nat.ble 212 pc then (bif Nat.ble 215 pc then (bif Nat.beq pc 215 then some (.ireturn, 1, 0, 0) else none) else (bif Nat.beq pc 212 then some (.getfield 202, 3, 0, 0) else none)) else (bif Nat.beq pc 209 then some (.getfield 12, 3, 0, 0) else none)) else (bif Nat.ble 208 pc then (bif Nat.beq pc 208 then some (.aload_n 0, 1, 0, 0) else none) else (bif Nat.beq pc 207 then some (.ireturn, 1, 0, 0) else none))) else (bif Nat.ble 200 pc then (bif Nat.ble 201 pc then (bif Nat.ble 204 pc then (bif Nat.beq pc 204 then some (.getfield 113, 3, 0, 0) else none) else (bif Nat.beq pc 201 then some (.getfield 12, 3, 0, 0) else none)) else (bif Nat.beq pc 200 then some (.aload_n 0, 1, 0, 0) else none)) else (bif Nat.ble 199 pc then (bif Nat.beq pc 199 then some (.ireturn, 1, 0, 0) else none) else (bif Nat.beq pc 196 then some (.getfield 110, 3, 0, 0) else none))))) else (bif Nat.ble 176 pc then (bif Nat.ble 185 pc then (bif Nat.ble 191 pc then (bif Nat.ble 192 pc then (bif Nat.ble 193 pc then (bif Nat.beq pc 193 then some (.getfield 12, 3, 0, 0) else none) else (bif Nat.beq pc 192 then some (.aload_n 0, 1, 0, 0) else none)) else (bif Nat.beq pc 191 then some (.ireturn, 1, 0, 0) else none)) else (bif Nat.ble 188 pc then (bif Nat.beq pc 188 then some (.invokevirtual 199, 3, 0, 0) else none) else (bif Nat.beq pc 185 then some (.getfield 43, 3, 0, 0) else none))) else (bif Nat.ble 180 pc then (bif Nat.ble 183 pc then (bif Nat.ble 184 pc then (bif Nat.beq pc 184 then some (.aload_n 0, 1, 0, 0) else none) else (bif Nat.beq pc 183 then some (.pop, 1, 0, 0) else none)) else (bif Nat.beq pc 180 then some (.invokevirtual 141, 3, 0, 0) else none)) else (bif Nat.ble 177 pc then (bif Nat.beq pc 177 then some (.getfield 12, 3, 0, 0) else none) else (bif Nat.beq pc 176 then some (.aload_n 0, 1, 0, 0) else none)))) else (bif Nat.ble 165 pc then (bif Nat.ble 171 pc then (bif Nat.ble 172 pc then (bif Nat.ble 173 pc then (bif Nat.beq pc 173 then some (.getfield 43, 3, 0, 0) else none) else (bif Nat.beq pc 172 then some (.aload_n 0, 1, 0, 0) else none)) else (bif Nat.beq pc 171 then some (.ireturn, 1, 0, 0) else none)) else (bif Nat.ble 168 pc then (bif Nat.beq pc 168 then some (.invokevirtual 196, 3, 0, 0) else none) else (bif Nat.beq pc 165 then some (.getfield 12, 3, 0, 0) else none))) else (bif Nat.ble 163 pc then (bif Nat.ble 164 pc then (bif Nat.beq pc 164 then some (.aload_n 0, 1, 0, 0) else none) else (bif Nat.beq pc 163 then some (.ireturn, 1, 0, 0) else none)) else (bif Nat.ble 160 pc then (bif Nat.beq pc 160 then some (.invokevirtual 193, 3, 0, 0) else none) else (bif Nat.beq pc 157 then some (.getfield 12, 3, 0, 0) else none)))))) else (bif Nat.ble 117 pc then (bif Nat.ble 139 pc then (bif Nat.ble 148 pc then (bif Nat.ble 152 pc then (bif Nat.ble 155 pc then (bif Nat.ble 156 pc then (bif Nat.beq pc 156 then some (.aload_n 0, 1, 0, 0) else none) else (bif Nat.beq pc 155 then some (.ireturn, 1, 0, 0) else none)) else (bif Nat.beq pc 152 then some (.invokevirtual 190, 3, 0, 0) else none)) else (bif Nat.ble 149 pc then (bif Nat.beq pc 149 then some (.getfield 12, 3, 0, 0) else none) else (bif Nat.beq pc 148 then some (.aload_n 0, 1, 0, 0) else none))) else (bif Nat.ble 141 pc then (bif Nat.ble 144 pc then (bif Nat.ble 147 pc then (bif Nat.beq pc 147 then some (.ireturn, 1, 0, 0) else none) else (bif Nat.beq pc 144 then some (.invokevirtual 187, 3, 0, 0) else none)) else (bif Nat.beq pc 141 then some (.getfield 12, 3, 0, 0) else none)) else (bif Nat.ble 140 pc then (bif Nat.beq pc 140 then some (.aload_n 0, 1, 0, 0) else none) else (bif Nat.beq pc 139 then some (.ireturn, 1, 0, 0) else none)))) else (bif Nat.ble 128 pc then (bif Nat.ble 132 pc then (bif Nat.ble 133 pc then (bif Nat.ble 136 pc then (bif Nat.beq pc 136 then some (.invokevirtual 100, 3, 0, 0) else none) else (bif Nat.beq pc 133 then some (.getfield 12, 3, 0, 0) else none)) else (bif Nat.beq pc 132 then some (.aload_n 0, 1, 0, 0) else none)) else (bif Nat.ble 131 pc then (bif Nat.beq pc 131 then some (.ireturn, 1, 0, 0) else none) else (bif Nat.beq pc 128 then some (.getfield 184, 3, 0, 0) else none))) else (bif Nat.ble 123 pc then (bif Nat.ble 124 pc then (bif Nat.ble 125 pc then (bif Nat.beq pc 125 then some (.getfield 12, 3, 0, 0) else none) else (bif Nat.beq pc 124 then some (.aload_n 0, 1, 0, 0) else none)) else (bif Nat.beq pc 123 then some (.ireturn, 1, 0, 0) else none)) else (bif Nat.ble 120 pc then (bif Nat.beq pc 120 then some (.invokevirtual 66, 3, 0, 0) else none) else (bif Nat.beq pc 117 then some (.getfield 12, 3, 0, 0) else none))))) else (bif Nat.ble 99 pc then (bif Nat.ble 108 pc then (bif Nat.ble 112 pc then (bif Nat.ble 115 pc then (bif Nat.ble 116 pc then (bif Nat.beq pc 116 then some (.aload_n 0, 1, 0, 0) else none) else (bif Nat.beq pc 115 then some (.ireturn, 1, 0, 0) else none)) else (bif Nat.beq pc 112 then some (.getfield 181, 3, 0, 0) else none)) else (bif Nat.ble 109 pc then (bif Nat.beq pc 109 then some (.getfield 12, 3, 0, 0) else none) else (bif Nat.beq pc 108 then some (.aload_n 0, 1, 0, 0) else none))) else (bif Nat.ble 101 pc then (bif Nat.ble 104 pc then (bif Nat.ble 107 pc then (bif Nat.beq pc 107 then some (.ireturn, 1, 0, 0) else none) else (bif Nat.beq pc 104 then some (.getfield 74, 3, 0, 0) else none)) else (bif Nat.beq pc 101 then some (.getfield 12, 3, 0, 0) else none)) else (bif Nat.ble 100 pc then (bif Nat.beq pc 100 then some (.aload_n 0, 1, 0, 0) else none) else (bif Nat.beq pc 99 then some (.ireturn, 1, 0, 0) else none)))) else (bif Nat.ble 88 pc then (bif Nat.ble 92 pc then (bif Nat.ble 93 pc then (bif Nat.ble 96 pc then (bif Nat.beq pc 96 then some (.getfield 70, 3, 0, 0) else none) else (bif Nat.beq pc 93 then some (.getfield 12, 3, 0, 0) else none)) else (bif Nat.beq pc 92 then some (.aload_n 0, 1, 0, 0) else none)) else (bif Nat.ble 91 pc then (bif Nat.beq pc 91 then some (.ireturn, 1, 0, 0) else none) else (bif Nat.beq pc 88 then some (.getfield 178, 3, 0, 0) else none))) else (bif Nat.ble 84 pc then (bif Nat.ble 85 pc then (bif Nat.beq pc 85 then some (.getfield 12, 3, 0, 0) else none) else (bif Nat.beq pc 84 then some (.aload_n 0, 1, 0, 0) else none)) else (bif Nat.ble 1 pc then (bif Nat.beq pc 1 then some (.tableswitch 231 0 16 #[83, 91, 99, 107, 115, 123, 131, 139, 147, 155, 163, 171, 191, 199, 207, 215, 223], 83, 0, 232) else none) else (bif Nat.beq pc 0 then some (.iload_n 1, 1, 0, 0) else none))))))
def I_X6_count : Nat → Option mjI := fun pc => bif Nat.ble 234 pc then none else J_X6_count pc
def Y_X6_count : Nat → List (Int32 × Nat) := fun pc => bif Nat.beq pc 1 then [(0, 84), (1, 92), (2, 100), (3, 108), (4, 116), (5, 124), (6, 132), (7, 140), (8, 148), (9, 156), (10, 164), (11, 172), (12, 192), (13, 200), (14, 208), (15, 216), (16, 224)] else []
set_option maxRecDepth 100000 in
theorem I_X6_count_ok : ∀ pc row, I_X6_count pc = some row → mjrow Y_X6_count cX6_count pc row = true ∧ mjrp (some .int) row.1 = true := mjchk_ok (n := 234) (by decide +kernel) (mjhi rfl)
def J_X6_mean : Nat → Option mjI := fun pc => bif Nat.ble 22 pc then (bif Nat.ble 31 pc then (bif Nat.ble 36 pc then (bif Nat.ble 39 pc then (bif Nat.ble 42 pc then (bif Nat.beq pc 42 then some (.dreturn, 1, 0, 0) else none) else (bif Nat.beq pc 39 then some (.invokevirtual 210, 3, 0, 0) else none)) else (bif Nat.beq pc 36 then some (.invokevirtual 145, 3, 0, 0) else none)) else (bif Nat.ble 32 pc then (bif Nat.ble 35 pc then (bif Nat.beq pc 35 then some (.iload_n 1, 1, 0, 0) else none) else (bif Nat.beq pc 32 then some (.getfield 43, 3, 0, 0) else none)) else (bif Nat.beq pc 31 then some (.aload_n 0, 1, 0, 0) else none))) else (bif Nat.ble 24 pc then (bif Nat.ble 27 pc then (bif Nat.ble 28 pc then (bif Nat.beq pc 28 then some (.getfield 12, 3, 0, 0) else none) else (bif Nat.beq pc 27 then some (.aload_n 0, 1, 0, 0) else none)) else (bif Nat.beq pc 24 then some (.getfield 43, 3, 0, 0) else none)) else (bif Nat.ble 23 pc then (bif Nat.beq pc 23 then some (.aload_n 0, 1, 0, 0) else none) else (bif Nat.beq pc 22 then some (.pop, 1, 0, 0) else none)))) else (bif Nat.ble 11 pc then (bif Nat.ble 15 pc then (bif Nat.ble 16 pc then (bif Nat.ble 19 pc then (bif Nat.beq pc 19 then some (.invokevirtual 141, 3, 0, 0) else none) else (bif Nat.beq pc 16 then some (.getfield 12, 3, 0, 0) else none)) else (bif Nat.beq pc 15 then some (.aload_n 0, 1, 0, 0) else none)) else (bif Nat.ble 12 pc then (bif Nat.beq pc 12 then some (.getfield 43, 3, 0, 0) else none) else (bif Nat.beq pc 11 then some (.aload_n 0, 1, 0, 0) else none))) else (bif Nat.ble 4 pc then (bif Nat.ble 7 pc then (bif Nat.ble 10 pc then (bif Nat.beq pc 10 then some (.dreturn, 1, 0, 0) else none) else (bif Nat.beq pc 7 then some (.ldc2_w 208, 3, 0, 0) else none)) else (bif Nat.beq pc 4 then some (.ifCond .ne 7, 3, 0, 11) else none)) else (bif Nat.ble 1 pc then (bif Nat.beq pc 1 then some (.invokestatic 103, 3, 0, 0) else none) else (bif Nat.beq pc 0 then some (.iload_n 1, 1, 0, 0) else none))))
def I_X6_mean : Nat → Option mjI := fun pc => bif Nat.ble 43 pc then none else J_X6_mean pc
set_option maxRecDepth 100000 in
theorem I_X6_mean_ok : ∀ pc row, I_X6_mean pc = some row → mjrow Y0 cX6_mean pc row = true ∧ mjrp (some .double) row.1 = true := mjchk_ok (n := 43) (by decide +kernel) (mjhi rfl)
def J_X6_ifPassed : Nat → Option mjI := fun pc => bif Nat.ble 37 pc then (bif Nat.ble 81 pc then (bif Nat.ble 92 pc then (bif Nat.ble 97 pc then (bif Nat.ble 100 pc then (bif Nat.ble 103 pc then (bif Nat.beq pc 103 then some (.ireturn, 1, 0, 0) else none) else (bif Nat.beq pc 100 then some (.getfield 184, 3, 0, 0) else none)) else (bif Nat.beq pc 97 then some (.getfield 16, 3, 0, 0) else none)) else (bif Nat.ble 95 pc then (bif Nat.ble 96 pc then (bif Nat.beq pc 96 then some (.aload_n 0, 1, 0, 0) else none) else (bif Nat.beq pc 95 then some (.ireturn, 1, 0, 0) else none)) else (bif Nat.beq pc 92 then some (.getfield 227, 3, 0, 0) else none))) else (bif Nat.ble 87 pc then (bif Nat.ble 88 pc then (bif Nat.ble 89 pc then (bif Nat.beq pc 89 then some (.getfield 50, 3, 0, 0) else none) else (bif Nat.beq pc 88 then some (.aload_n 0, 1, 0, 0) else none)) else (bif Nat.beq pc 87 then some (.ireturn, 1, 0, 0) else none)) else (bif Nat.ble 84 pc then (bif Nat.beq pc 84 then some (.getfield 224, 3, 0, 0) else none) else (bif Nat.beq pc 81 then some (.getfield 50, 3, 0, 0) else none)))) else (bif Nat.ble 72 pc then (bif Nat.ble 76 pc then (bif Nat.ble 79 pc then (bif Nat.ble 80 pc then (bif Nat.beq pc 80 then some (.aload_n 0, 1, 0, 0) else none) else (bif Nat.beq pc 79 then some (.ireturn, 1, 0, 0) else none)) else (bif Nat.beq pc 76 then some (.getfield 221, 3, 0, 0) else none)) else (bif Nat.ble 73 pc then (bif Nat.beq pc 73 then some (.getfield 50, 3, 0, 0) else none) else (bif Nat.beq pc 72 then some (.aload_n 0, 1, 0, 0) else none))) else (bif Nat.ble 41 pc then (bif Nat.ble 44 pc then (bif Nat.ble 45 pc then (bif Nat.beq pc 45 then some (.tableswitch 51 0 2 #[27, 35, 43], 27, 0, 96) else none) else (bif Nat.beq pc 44 then some (.iload_n 2, 1, 0, 0) else none)) else (bif Nat.beq pc 41 then some (.invokevirtual 217, 3, 0, 0) else none)) else (bif Nat.ble 40 pc then (bif Nat.beq pc 40 then some (.iload_n 1, 1, 0, 0) else none) else (bif Nat.beq pc 37 then some (.getfield 16, 3, 0, 0) else none))))) else (bif Nat.ble 19 pc then (bif Nat.ble 26 pc then (bif Nat.ble 32 pc then (bif Nat.ble 33 pc then (bif Nat.ble 36 pc then (bif Nat.beq pc 36 then some (.aload_n 0, 1, 0, 0) else none) else (bif Nat.beq pc 33 then some (.getfield 50, 3, 0, 0) else none)) else (bif Nat.beq pc 32 then some (.aload_n 0, 1, 0, 0) else none)) else (bif Nat.ble 29 pc then (bif Nat.beq pc 29 then some (.invokevirtual 214, 3, 0, 0) else none) else (bif Nat.beq pc 26 then some (.getfield 12, 3, 0, 0) else none))) else (bif Nat.ble 21 pc then (bif Nat.ble 22 pc then (bif Nat.ble 25 pc then (bif Nat.beq pc 25 then some (.aload_n 0, 1, 0, 0) else none) else (bif Nat.beq pc 22 then some (.getfield 16, 3, 0, 0) else none)) else (bif Nat.beq pc 21 then some (.aload_n 0, 1, 0, 0) else none)) else (bif Nat.ble 20 pc then (bif Nat.beq pc 20 then some (.ireturn, 1, 0, 0) else none) else (bif Nat.beq pc 19 then some (.iconst (-1), 1, (-1), 0) else none)))) else (bif Nat.ble 10 pc then (bif Nat.ble 12 pc then (bif Nat.ble 13 pc then (bif Nat.ble 16 pc then (bif Nat.beq pc 16 then some (.ifCond .eq 5, 3, 0, 21) else none) else (bif Nat.beq pc 13 then some (.invokestatic 54, 3, 0, 0) else none)) else (bif Nat.beq pc 12 then some (.iconst 3, 1, 3, 0) else none)) else (bif Nat.ble 11 pc then (bif Nat.beq pc 11 then some (.iconst 0, 1, 0, 0) else none) else (bif Nat.beq pc 10 then some (.iload_n 2, 1, 0, 0) else none))) else (bif Nat.ble 2 pc then (bif Nat.ble 4 pc then (bif Nat.ble 7 pc then (bif Nat.beq pc 7 then some (.ifCond .ne 12, 3, 0, 19) else none) else (bif Nat.beq pc 4 then some (.invokestatic 54, 3, 0, 0) else none)) else (bif Nat.beq pc 2 then some (.bipush 99, 2, 99, 0) else none)) else (bif Nat.ble 1 pc then (bif Nat.beq pc 1 then some (.iconst 1, 1, 1, 0) else none) else (bif Nat.beq pc 0 then some (.iload_n 1, 1, 0, 0) else none)))))
def I_X6_ifPassed : Nat → Option mjI := fun pc => bif Nat.ble 104 pc then none else J_X6_ifPassed pc
def Y_X6_ifPassed : Nat → List (Int32 × Nat) := fun pc => bif Nat.beq pc 45 then [(0, 72), (1, 80), (2, 88)] else []
set_option maxRecDepth 100000 in
theorem I_X6_ifPassed_ok : ∀ pc row, I_X6_ifPassed pc = some row → mjrow Y_X6_ifPassed cX6_ifPassed pc row = true ∧ mjrp (some .int) row.1 = true := mjchk_ok (n := 104) (by decide +kernel) (mjhi rfl)
def J_X6_fastest : Nat → Option mjI := fun pc => bif Nat.ble 36 pc then (bif Nat.ble 58 pc then (bif Nat.ble 69 pc then (bif Nat.ble 74 pc then (bif Nat.ble 77 pc then (bif Nat.ble 79 pc then (bif Nat.beq pc 79 then some (.ireturn, 1, 0, 0) else none) else (bif Nat.beq pc 77 then some (.bipush (-4), 2, (-4), 0) else none)) else (bif Nat.beq pc 74 then some (.goto (-48), 3, 0, 26) else none)) else (bif Nat.ble 70 pc then (bif Nat.ble 71 pc then (bif Nat.beq pc 71 then some (.iinc 3 (-1), 3, (-1), 0) else none) else (bif Nat.beq pc 70 then some (.ireturn, 1, 0, 0) else none)) else (bif Nat.beq pc 69 then some (.iload_n 3, 1, 0, 0) else none))) else (bif Nat.ble 62 pc then (bif Nat.ble 63 pc then (bif Nat.ble 66 pc then (bif Nat.beq pc 66 then some (.ifCond .eq 5, 3, 0, 71) else none) else (bif Nat.beq pc 63 then some (.invokevirtual 229, 3, 0, 0) else none)) else (bif Nat.beq pc 62 then some (.iload_n 2, 1, 0, 0) else none)) else (bif Nat.ble 59 pc then (bif Nat.beq pc 59 then some (.getfield 16, 3, 0, 0) else none) else (bif Nat.beq pc 58 then some (.aload_n 0, 1, 0, 0) else none)))) else (bif Nat.ble 47 pc then (bif Nat.ble 51 pc then (bif Nat.ble 54 pc then (bif Nat.ble 55 pc then (bif Nat.beq pc 55 then some (.putfield 74, 3, 0, 0) else none) else (bif Nat.beq pc 54 then some (.iload_n 3, 1, 0, 0) else none)) else (bif Nat.beq pc 51 then some (.getfield 16, 3, 0, 0) else none)) else (bif Nat.ble 50 pc then (bif Nat.beq pc 50 then some (.aload_n 0, 1, 0, 0) else none) else (bif Nat.beq pc 47 then some (.putfield 70, 3, 0, 0) else none))) else (bif Nat.ble 42 pc then (bif Nat.ble 43 pc then (bif Nat.ble 46 pc then (bif Nat.beq pc 46 then some (.iload_n 1, 1, 0, 0) else none) else (bif Nat.beq pc 43 then some (.getfield 16, 3, 0, 0) else none)) else (bif Nat.beq pc 42 then some (.aload_n 0, 1, 0, 0) else none)) else (bif Nat.ble 39 pc then (bif Nat.beq pc 39 then some (.invokevirtual 214, 3, 0, 0) else none) else (bif Nat.beq pc 36 then some (.getfield 12, 3, 0, 0) else none))))) else (bif Nat.ble 21 pc then (bif Nat.ble 27 pc then (bif Nat.ble 31 pc then (bif Nat.ble 32 pc then (bif Nat.ble 35 pc then (bif Nat.beq pc 35 then some (.aload_n 0, 1, 0, 0) else none) else (bif Nat.beq pc 32 then some (.getfield 16, 3, 0, 0) else none)) else (bif Nat.beq pc 31 then some (.aload_n 0, 1, 0, 0) else none)) else (bif Nat.ble 28 pc then (bif Nat.beq pc 28 then some (.if_icmp .lt 49, 3, 0, 77) else none) else (bif Nat.beq pc 27 then some (.iconst 1, 1, 1, 0) else none))) else (bif Nat.ble 23 pc then (bif Nat.ble 25 pc then (bif Nat.ble 26 pc then (bif Nat.beq pc 26 then some (.iload_n 3, 1, 0, 0) else none) else (bif Nat.beq pc 25 then some (.istore_n 3, 1, 0, 0) else none)) else (bif Nat.beq pc 23 then some (.bipush 100, 2, 100, 0) else none)) else (bif Nat.ble 22 pc then (bif Nat.beq pc 22 then some (.ireturn, 1, 0, 0) else none) else (bif Nat.beq pc 21 then some (.iconst (-1), 1, (-1), 0) else none)))) else (bif Nat.ble 11 pc then (bif Nat.ble 13 pc then (bif Nat.ble 15 pc then (bif Nat.ble 18 pc then (bif Nat.beq pc 18 then some (.ifCond .eq 5, 3, 0, 23) else none) else (bif Nat.beq pc 15 then some (.invokestatic 54, 3, 0, 0) else none)) else (bif Nat.beq pc 13 then some (.bipush 99, 2, 99, 0) else none)) else (bif Nat.ble 12 pc then (bif Nat.beq pc 12 then some (.iconst 1, 1, 1, 0) else none) else (bif Nat.beq pc 11 then some (.iload_n 2, 1, 0, 0) else none))) else (bif Nat.ble 2 pc then (bif Nat.ble 5 pc then (bif Nat.ble 8 pc then (bif Nat.beq pc 8 then some (.ifCond .ne 13, 3, 0, 21) else none) else (bif Nat.beq pc 5 then some (.invokestatic 54, 3, 0, 0) else none)) else (bif Nat.beq pc 2 then some (.sipush 1000, 3, 1000, 0) else none)) else (bif Nat.ble 1 pc then (bif Nat.beq pc 1 then some (.iconst 0, 1, 0, 0) else none) else (bif Nat.beq pc 0 then some (.iload_n 1, 1, 0, 0) else none)))))
def I_X6_fastest : Nat → Option mjI := fun pc => bif Nat.ble 80 pc then none else J_X6_fastest pc
set_option maxRecDepth 100000 in
theorem I_X6_fastest_ok : ∀ pc row, I_X6_fastest pc = some row → mjrow Y0 cX6_fastest pc row = true ∧ mjrp (some .int) row.1 = true := mjchk_ok (n := 80) (by decide +kernel) (mjhi rfl)
def J_X6_evenIn : Nat → Option mjI := fun pc => bif Nat.ble 29 pc then (bif Nat.ble 45 pc then (bif Nat.ble 53 pc then (bif Nat.ble 57 pc then (bif Nat.ble 60 pc then (bif Nat.ble 62 pc then (bif Nat.beq pc 62 then some (.ireturn, 1, 0, 0) else none) else (bif Nat.beq pc 60 then some (.bipush (-4), 2, (-4), 0) else none)) else (bif Nat.beq pc 57 then some (.goto (-31), 3, 0, 26) else none)) else (bif Nat.ble 54 pc then (bif Nat.beq pc 54 then some (.iinc 2 1, 3, 1, 0) else none) else (bif Nat.beq pc 53 then some (.pop, 1, 0, 0) else none))) else (bif Nat.ble 49 pc then (bif Nat.ble 50 pc then (bif Nat.beq pc 50 then some (.invokevirtual 77, 3, 0, 0) else none) else (bif Nat.beq pc 49 then some (.iconst 1, 1, 1, 0) else none)) else (bif Nat.ble 46 pc then (bif Nat.beq pc 46 then some (.getfield 16, 3, 0, 0) else none) else (bif Nat.beq pc 45 then some (.aload_n 0, 1, 0, 0) else none)))) else (bif Nat.ble 39 pc then (bif Nat.ble 43 pc then (bif Nat.ble 44 pc then (bif Nat.beq pc 44 then some (.ireturn, 1, 0, 0) else none) else (bif Nat.beq pc 43 then some (.iload_n 2, 1, 0, 0) else none)) else (bif Nat.ble 40 pc then (bif Nat.beq pc 40 then some (.if_icmp .gt 5, 3, 0, 45) else none) else (bif Nat.beq pc 39 then some (.iload_n 1, 1, 0, 0) else none))) else (bif Nat.ble 33 pc then (bif Nat.ble 36 pc then (bif Nat.beq pc 36 then some (.invokevirtual 193, 3, 0, 0) else none) else (bif Nat.beq pc 33 then some (.getfield 16, 3, 0, 0) else none)) else (bif Nat.ble 32 pc then (bif Nat.beq pc 32 then some (.aload_n 0, 1, 0, 0) else none) else (bif Nat.beq pc 29 then some (.if_icmp .gt 31, 3, 0, 60) else none))))) else (bif Nat.ble 14 pc then (bif Nat.ble 24 pc then (bif Nat.ble 26 pc then (bif Nat.ble 27 pc then (bif Nat.beq pc 27 then some (.bipush 99, 2, 99, 0) else none) else (bif Nat.beq pc 26 then some (.iload_n 2, 1, 0, 0) else none)) else (bif Nat.ble 25 pc then (bif Nat.beq pc 25 then some (.istore_n 2, 1, 0, 0) else none) else (bif Nat.beq pc 24 then some (.iconst 0, 1, 0, 0) else none))) else (bif Nat.ble 18 pc then (bif Nat.ble 21 pc then (bif Nat.beq pc 21 then some (.invokevirtual 214, 3, 0, 0) else none) else (bif Nat.beq pc 18 then some (.getfield 12, 3, 0, 0) else none)) else (bif Nat.ble 17 pc then (bif Nat.beq pc 17 then some (.aload_n 0, 1, 0, 0) else none) else (bif Nat.beq pc 14 then some (.getfield 16, 3, 0, 0) else none)))) else (bif Nat.ble 8 pc then (bif Nat.ble 12 pc then (bif Nat.ble 13 pc then (bif Nat.beq pc 13 then some (.aload_n 0, 1, 0, 0) else none) else (bif Nat.beq pc 12 then some (.ireturn, 1, 0, 0) else none)) else (bif Nat.ble 11 pc then (bif Nat.beq pc 11 then some (.iconst (-1), 1, (-1), 0) else none) else (bif Nat.beq pc 8 then some (.ifCond .eq 5, 3, 0, 13) else none))) else (bif Nat.ble 2 pc then (bif Nat.ble 5 pc then (bif Nat.beq pc 5 then some (.invokestatic 54, 3, 0, 0) else none) else (bif Nat.beq pc 2 then some (.sipush 500, 3, 500, 0) else none)) else (bif Nat.ble 1 pc then (bif Nat.beq pc 1 then some (.iconst 0, 1, 0, 0) else none) else (bif Nat.beq pc 0 then some (.iload_n 1, 1, 0, 0) else none)))))
def I_X6_evenIn : Nat → Option mjI := fun pc => bif Nat.ble 63 pc then none else J_X6_evenIn pc
set_option maxRecDepth 100000 in
theorem I_X6_evenIn_ok : ∀ pc row, I_X6_evenIn pc = some row → mjrow Y0 cX6_evenIn pc row = true ∧ mjrp (some .int) row.1 = true := mjchk_ok (n := 63) (by decide +kernel) (mjhi rfl)
def J_X6_undo : Nat → Option mjI := fun pc => bif Nat.ble 14 pc then (bif Nat.ble 21 pc then (bif Nat.ble 24 pc then (bif Nat.ble 26 pc then (bif Nat.beq pc 26 then some (.ireturn, 1, 0, 0) else none) else (bif Nat.beq pc 24 then some (.bipush (-2), 2, (-2), 0) else none)) else (bif Nat.beq pc 21 then some (.goto 5, 3, 0, 26) else none)) else (bif Nat.ble 15 pc then (bif Nat.ble 18 pc then (bif Nat.beq pc 18 then some (.getfield 205, 3, 0, 0) else none) else (bif Nat.beq pc 15 then some (.getfield 29, 3, 0, 0) else none)) else (bif Nat.beq pc 14 then some (.aload_n 0, 1, 0, 0) else none))) else (bif Nat.ble 5 pc then (bif Nat.ble 8 pc then (bif Nat.ble 11 pc then (bif Nat.beq pc 11 then some (.ifCond .eq 13, 3, 0, 24) else none) else (bif Nat.beq pc 8 then some (.invokevirtual 232, 3, 0, 0) else none)) else (bif Nat.beq pc 5 then some (.getfield 12, 3, 0, 0) else none)) else (bif Nat.ble 1 pc then (bif Nat.ble 4 pc then (bif Nat.beq pc 4 then some (.aload_n 0, 1, 0, 0) else none) else (bif Nat.beq pc 1 then some (.getfield 29, 3, 0, 0) else none)) else (bif Nat.beq pc 0 then some (.aload_n 0, 1, 0, 0) else none)))
def I_X6_undo : Nat → Option mjI := fun pc => bif Nat.ble 27 pc then none else J_X6_undo pc
set_option maxRecDepth 100000 in
theorem I_X6_undo_ok : ∀ pc row, I_X6_undo pc = some row → mjrow Y0 cX6_undo pc row = true ∧ mjrp (some .int) row.1 = true := mjchk_ok (n := 27) (by decide +kernel) (mjhi rfl)
def J_X6_save : Nat → Option mjI := fun pc => bif Nat.ble 12 pc then (bif Nat.ble 17 pc then (bif Nat.ble 20 pc then (bif Nat.ble 23 pc then (bif Nat.beq pc 23 then some (.ireturn, 1, 0, 0) else none) else (bif Nat.beq pc 20 then some (.getfield 181, 3, 0, 0) else none)) else (bif Nat.beq pc 17 then some (.getfield 12, 3, 0, 0) else none)) else (bif Nat.ble 13 pc then (bif Nat.ble 16 pc then (bif Nat.beq pc 16 then some (.aload_n 0, 1, 0, 0) else none) else (bif Nat.beq pc 13 then some (.putfield 22, 3, 0, 0) else none)) else (bif Nat.beq pc 12 then some (.iconst 1, 1, 1, 0) else none))) else (bif Nat.ble 5 pc then (bif Nat.ble 8 pc then (bif Nat.ble 11 pc then (bif Nat.beq pc 11 then some (.aload_n 0, 1, 0, 0) else none) else (bif Nat.beq pc 8 then some (.invokevirtual 214, 3, 0, 0) else none)) else (bif Nat.beq pc 5 then some (.getfield 12, 3, 0, 0) else none)) else (bif Nat.ble 1 pc then (bif Nat.ble 4 pc then (bif Nat.beq pc 4 then some (.aload_n 0, 1, 0, 0) else none) else (bif Nat.beq pc 1 then some (.getfield 19, 3, 0, 0) else none)) else (bif Nat.beq pc 0 then some (.aload_n 0, 1, 0, 0) else none)))
def I_X6_save : Nat → Option mjI := fun pc => bif Nat.ble 24 pc then none else J_X6_save pc
set_option maxRecDepth 100000 in
theorem I_X6_save_ok : ∀ pc row, I_X6_save pc = some row → mjrow Y0 cX6_save pc row = true ∧ mjrp (some .int) row.1 = true := mjchk_ok (n := 24) (by decide +kernel) (mjhi rfl)
def J_X6_restore : Nat → Option mjI := fun pc => bif Nat.ble 18 pc then (bif Nat.ble 29 pc then (bif Nat.ble 33 pc then (bif Nat.ble 36 pc then (bif Nat.ble 39 pc then (bif Nat.beq pc 39 then some (.ireturn, 1, 0, 0) else none) else (bif Nat.beq pc 36 then some (.getfield 181, 3, 0, 0) else none)) else (bif Nat.beq pc 33 then some (.getfield 12, 3, 0, 0) else none)) else (bif Nat.ble 32 pc then (bif Nat.beq pc 32 then some (.aload_n 0, 1, 0, 0) else none) else (bif Nat.beq pc 29 then some (.invokevirtual 214, 3, 0, 0) else none))) else (bif Nat.ble 22 pc then (bif Nat.ble 25 pc then (bif Nat.ble 26 pc then (bif Nat.beq pc 26 then some (.getfield 19, 3, 0, 0) else none) else (bif Nat.beq pc 25 then some (.aload_n 0, 1, 0, 0) else none)) else (bif Nat.beq pc 22 then some (.getfield 12, 3, 0, 0) else none)) else (bif Nat.ble 21 pc then (bif Nat.beq pc 21 then some (.aload_n 0, 1, 0, 0) else none) else (bif Nat.beq pc 18 then some (.invokevirtual 58, 3, 0, 0) else none)))) else (bif Nat.ble 9 pc then (bif Nat.ble 11 pc then (bif Nat.ble 14 pc then (bif Nat.ble 15 pc then (bif Nat.beq pc 15 then some (.getfield 12, 3, 0, 0) else none) else (bif Nat.beq pc 14 then some (.aload_n 0, 1, 0, 0) else none)) else (bif Nat.beq pc 11 then some (.getfield 29, 3, 0, 0) else none)) else (bif Nat.ble 10 pc then (bif Nat.beq pc 10 then some (.aload_n 0, 1, 0, 0) else none) else (bif Nat.beq pc 9 then some (.ireturn, 1, 0, 0) else none))) else (bif Nat.ble 4 pc then (bif Nat.ble 7 pc then (bif Nat.beq pc 7 then some (.bipush (-2), 2, (-2), 0) else none) else (bif Nat.beq pc 4 then some (.ifCond .ne 6, 3, 0, 10) else none)) else (bif Nat.ble 1 pc then (bif Nat.beq pc 1 then some (.getfield 22, 3, 0, 0) else none) else (bif Nat.beq pc 0 then some (.aload_n 0, 1, 0, 0) else none))))
def I_X6_restore : Nat → Option mjI := fun pc => bif Nat.ble 40 pc then none else J_X6_restore pc
set_option maxRecDepth 100000 in
theorem I_X6_restore_ok : ∀ pc row, I_X6_restore pc = some row → mjrow Y0 cX6_restore pc row = true ∧ mjrp (some .int) row.1 = true := mjchk_ok (n := 40) (by decide +kernel) (mjhi rfl)
def J_X6_isOutside : Nat → Option mjI := fun pc => bif Nat.ble 7 pc then (bif Nat.ble 11 pc then (bif Nat.ble 14 pc then (bif Nat.ble 15 pc then (bif Nat.beq pc 15 then some (.ireturn, 1, 0, 0) else none) else (bif Nat.beq pc 14 then some (.iconst 0, 1, 0, 0) else none)) else (bif Nat.beq pc 11 then some (.goto 4, 3, 0, 15) else none)) else (bif Nat.ble 10 pc then (bif Nat.beq pc 10 then some (.iconst 1, 1, 1, 0) else none) else (bif Nat.beq pc 7 then some (.if_icmp .le 7, 3, 0, 14) else none))) else (bif Nat.ble 2 pc then (bif Nat.ble 5 pc then (bif Nat.ble 6 pc then (bif Nat.beq pc 6 then some (.iload_n 2, 1, 0, 0) else none) else (bif Nat.beq pc 5 then some (.iload_n 0, 1, 0, 0) else none)) else (bif Nat.beq pc 2 then some (.if_icmp .lt 8, 3, 0, 10) else none)) else (bif Nat.ble 1 pc then (bif Nat.beq pc 1 then some (.iload_n 1, 1, 0, 0) else none) else (bif Nat.beq pc 0 then some (.iload_n 0, 1, 0, 0) else none)))
def I_X6_isOutside : Nat → Option mjI := fun pc => bif Nat.ble 16 pc then none else J_X6_isOutside pc
set_option maxRecDepth 100000 in
theorem I_X6_isOutside_ok : ∀ pc row, I_X6_isOutside pc = some row → mjrow Y0 cX6_isOutside pc row = true ∧ mjrp (some .boolean) row.1 = true := mjchk_ok (n := 16) (by decide +kernel) (mjhi rfl)
def J_X7_init : Nat → Option mjI := fun pc => bif Nat.ble 53 pc then (bif Nat.ble 76 pc then (bif Nat.ble 87 pc then (bif Nat.ble 91 pc then (bif Nat.ble 97 pc then (bif Nat.ble 98 pc then (bif Nat.beq pc 98 then some (.return_, 1, 0, 0) else none) else (bif Nat.beq pc 97 then some (.pop, 1, 0, 0) else none)) else (bif Nat.ble 94 pc then (bif Nat.beq pc 94 then some (.invokevirtual 31, 3, 0, 0) else none) else (bif Nat.beq pc 91 then some (.sipush 600, 3, 600, 0) else none))) else (bif Nat.ble 89 pc then (bif Nat.ble 90 pc then (bif Nat.beq pc 90 then some (.aload_n 0, 1, 0, 0) else none) else (bif Nat.beq pc 89 then some (.iastore, 1, 0, 0) else none)) else (bif Nat.beq pc 87 then some (.bipush 8, 2, 8, 0) else none))) else (bif Nat.ble 81 pc then (bif Nat.ble 82 pc then (bif Nat.ble 85 pc then (bif Nat.beq pc 85 then some (.bipush 7, 2, 7, 0) else none) else (bif Nat.beq pc 82 then some (.getfield 7, 3, 0, 0) else none)) else (bif Nat.beq pc 81 then some (.aload_n 0, 1, 0, 0) else none)) else (bif Nat.ble 78 pc then (bif Nat.ble 80 pc then (bif Nat.beq pc 80 then some (.iastore, 1, 0, 0) else none) else (bif Nat.beq pc 78 then some (.bipush 10, 2, 10, 0) else none)) else (bif Nat.beq pc 76 then some (.bipush 6, 2, 6, 0) else none)))) else (bif Nat.ble 65 pc then (bif Nat.ble 71 pc then (bif Nat.ble 72 pc then (bif Nat.ble 73 pc then (bif Nat.beq pc 73 then some (.getfield 7, 3, 0, 0) else none) else (bif Nat.beq pc 72 then some (.aload_n 0, 1, 0, 0) else none)) else (bif Nat.beq pc 71 then some (.iastore, 1, 0, 0) else none)) else (bif Nat.ble 68 pc then (bif Nat.ble 69 pc then (bif Nat.beq pc 69 then some (.bipush 10, 2, 10, 0) else none) else (bif Nat.beq pc 68 then some (.iconst 2, 1, 2, 0) else none)) else (bif Nat.beq pc 65 then some (.getfield 7, 3, 0, 0) else none))) else (bif Nat.ble 59 pc then (bif Nat.ble 61 pc then (bif Nat.ble 64 pc then (bif Nat.beq pc 64 then some (.aload_n 0, 1, 0, 0) else none) else (bif Nat.beq pc 61 then some (.putfield 28, 3, 0, 0) else none)) else (bif Nat.beq pc 59 then some (.newarray .int, 2, 0, 0) else none)) else (bif Nat.ble 56 pc then (bif Nat.ble 57 pc then (bif Nat.beq pc 57 then some (.bipush 36, 2, 36, 0) else none) else (bif Nat.beq pc 56 then some (.aload_n 0, 1, 0, 0) else none)) else (bif Nat.beq pc 53 then some (.putfield 25, 3, 0, 0) else none))))) else (bif Nat.ble 26 pc then (bif Nat.ble 40 pc then (bif Nat.ble 45 pc then (bif Nat.ble 49 pc then (bif Nat.ble 51 pc then (bif Nat.beq pc 51 then some (.newarray .int, 2, 0, 0) else none) else (bif Nat.beq pc 49 then some (.bipush 36, 2, 36, 0) else none)) else (bif Nat.ble 48 pc then (bif Nat.beq pc 48 then some (.aload_n 0, 1, 0, 0) else none) else (bif Nat.beq pc 45 then some (.putfield 22, 3, 0, 0) else none))) else (bif Nat.ble 41 pc then (bif Nat.ble 43 pc then (bif Nat.beq pc 43 then some (.newarray .int, 2, 0, 0) else none) else (bif Nat.beq pc 41 then some (.bipush 60, 2, 60, 0) else none)) else (bif Nat.beq pc 40 then some (.aload_n 0, 1, 0, 0) else none))) else (bif Nat.ble 32 pc then (bif Nat.ble 35 pc then (bif Nat.ble 37 pc then (bif Nat.beq pc 37 then some (.putfield 19, 3, 0, 0) else none) else (bif Nat.beq pc 35 then some (.newarray .int, 2, 0, 0) else none)) else (bif Nat.beq pc 32 then some (.sipush 164, 3, 164, 0) else none)) else (bif Nat.ble 28 pc then (bif Nat.ble 31 pc then (bif Nat.beq pc 31 then some (.aload_n 0, 1, 0, 0) else none) else (bif Nat.beq pc 28 then some (.putfield 16, 3, 0, 0) else none)) else (bif Nat.beq pc 26 then some (.newarray .int, 2, 0, 0) else none)))) else (bif Nat.ble 13 pc then (bif Nat.ble 19 pc then (bif Nat.ble 22 pc then (bif Nat.ble 23 pc then (bif Nat.beq pc 23 then some (.sipush 656, 3, 656, 0) else none) else (bif Nat.beq pc 22 then some (.aload_n 0, 1, 0, 0) else none)) else (bif Nat.beq pc 19 then some (.putfield 13, 3, 0, 0) else none)) else (bif Nat.ble 14 pc then (bif Nat.ble 17 pc then (bif Nat.beq pc 17 then some (.newarray .int, 2, 0, 0) else none) else (bif Nat.beq pc 14 then some (.sipush 164, 3, 164, 0) else none)) else (bif Nat.beq pc 13 then some (.aload_n 0, 1, 0, 0) else none))) else (bif Nat.ble 5 pc then (bif Nat.ble 8 pc then (bif Nat.ble 10 pc then (bif Nat.beq pc 10 then some (.putfield 7, 3, 0, 0) else none) else (bif Nat.beq pc 8 then some (.newarray .int, 2, 0, 0) else none)) else (bif Nat.beq pc 5 then some (.sipush 164, 3, 164, 0) else none)) else (bif Nat.ble 1 pc then (bif Nat.ble 4 pc then (bif Nat.beq pc 4 then some (.aload_n 0, 1, 0, 0) else none) else (bif Nat.beq pc 1 then some (.invokespecial 1, 3, 0, 0) else none)) else (bif Nat.beq pc 0 then some (.aload_n 0, 1, 0, 0) else none)))))
def I_X7_init : Nat → Option mjI := fun pc => bif Nat.ble 99 pc then none else J_X7_init pc
set_option maxRecDepth 100000 in
theorem I_X7_init_ok : ∀ pc row, I_X7_init pc = some row → mjrow Y0 cX7_init pc row = true ∧ mjrp none row.1 = true := mjchk_ok (n := 99) (by decide +kernel) (mjhi rfl)
def J_X7_in : Nat → Option mjI := fun pc => bif Nat.ble 7 pc then (bif Nat.ble 11 pc then (bif Nat.ble 14 pc then (bif Nat.ble 15 pc then (bif Nat.beq pc 15 then some (.ireturn, 1, 0, 0) else none) else (bif Nat.beq pc 14 then some (.iconst 0, 1, 0, 0) else none)) else (bif Nat.beq pc 11 then some (.goto 4, 3, 0, 15) else none)) else (bif Nat.ble 10 pc then (bif Nat.beq pc 10 then some (.iconst 1, 1, 1, 0) else none) else (bif Nat.beq pc 7 then some (.if_icmp .gt 7, 3, 0, 14) else none))) else (bif Nat.ble 2 pc then (bif Nat.ble 5 pc then (bif Nat.ble 6 pc then (bif Nat.beq pc 6 then some (.iload_n 2, 1, 0, 0) else none) else (bif Nat.beq pc 5 then some (.iload_n 0, 1, 0, 0) else none)) else (bif Nat.beq pc 2 then some (.if_icmp .lt 12, 3, 0, 14) else none)) else (bif Nat.ble 1 pc then (bif Nat.beq pc 1 then some (.iload_n 1, 1, 0, 0) else none) else (bif Nat.beq pc 0 then some (.iload_n 0, 1, 0, 0) else none)))
def I_X7_in : Nat → Option mjI := fun pc => bif Nat.ble 16 pc then none else J_X7_in pc
set_option maxRecDepth 100000 in
theorem I_X7_in_ok : ∀ pc row, I_X7_in pc = some row → mjrow Y0 cX7_in pc row = true ∧ mjrp (some .boolean) row.1 = true := mjchk_ok (n := 16) (by decide +kernel) (mjhi rfl)
def J_X7_copies : Nat → Option mjI := fun pc => bif Nat.ble 16 pc then (bif Nat.ble 21 pc then (bif Nat.ble 23 pc then (bif Nat.ble 26 pc then (bif Nat.ble 29 pc then (bif Nat.beq pc 29 then some (.return_, 1, 0, 0) else none) else (bif Nat.beq pc 26 then some (.goto (-23), 3, 0, 3) else none)) else (bif Nat.beq pc 23 then some (.iinc 4 1, 3, 1, 0) else none)) else (bif Nat.ble 22 pc then (bif Nat.beq pc 22 then some (.iastore, 1, 0, 0) else none) else (bif Nat.beq pc 21 then some (.iaload, 1, 0, 0) else none))) else (bif Nat.ble 18 pc then (bif Nat.ble 20 pc then (bif Nat.beq pc 20 then some (.iadd, 1, 0, 0) else none) else (bif Nat.beq pc 18 then some (.iload 4, 2, 0, 0) else none)) else (bif Nat.ble 17 pc then (bif Nat.beq pc 17 then some (.iload_n 1, 1, 0, 0) else none) else (bif Nat.beq pc 16 then some (.aload_n 0, 1, 0, 0) else none)))) else (bif Nat.ble 8 pc then (bif Nat.ble 12 pc then (bif Nat.ble 13 pc then (bif Nat.ble 15 pc then (bif Nat.beq pc 15 then some (.iadd, 1, 0, 0) else none) else (bif Nat.beq pc 13 then some (.iload 4, 2, 0, 0) else none)) else (bif Nat.beq pc 12 then some (.iload_n 3, 1, 0, 0) else none)) else (bif Nat.ble 11 pc then (bif Nat.beq pc 11 then some (.aload_n 2, 1, 0, 0) else none) else (bif Nat.beq pc 8 then some (.if_icmp .ge 21, 3, 0, 29) else none))) else (bif Nat.ble 3 pc then (bif Nat.ble 5 pc then (bif Nat.beq pc 5 then some (.sipush 164, 3, 164, 0) else none) else (bif Nat.beq pc 3 then some (.iload 4, 2, 0, 0) else none)) else (bif Nat.ble 1 pc then (bif Nat.beq pc 1 then some (.istore 4, 2, 0, 0) else none) else (bif Nat.beq pc 0 then some (.iconst 0, 1, 0, 0) else none))))
def I_X7_copies : Nat → Option mjI := fun pc => bif Nat.ble 30 pc then none else J_X7_copies pc
set_option maxRecDepth 100000 in
theorem I_X7_copies_ok : ∀ pc row, I_X7_copies pc = some row → mjrow Y0 cX7_copies pc row = true ∧ mjrp none row.1 = true := mjchk_ok (n := 30) (by decide +kernel) (mjhi rfl)
def J_X7_records : Nat → Option mjI := fun pc => bif Nat.ble 40 pc then (bif Nat.ble 61 pc then (bif Nat.ble 70 pc then (bif Nat.ble 75 pc then (bif Nat.ble 76 pc then (bif Nat.ble 79 pc then (bif Nat.beq pc 79 then some (.return_, 1, 0, 0) else none) else (bif Nat.beq pc 76 then some (.putfield 35, 3, 0, 0) else none)) else (bif Nat.beq pc 75 then some (.iadd, 1, 0, 0) else none)) else (bif Nat.ble 71 pc then (bif Nat.ble 74 pc then (bif Nat.beq pc 74 then some (.iconst 1, 1, 1, 0) else none) else (bif Nat.beq pc 71 then some (.getfield 35, 3, 0, 0) else none)) else (bif Nat.beq pc 70 then some (.dup, 1, 0, 0) else none))) else (bif Nat.ble 65 pc then (bif Nat.ble 66 pc then (bif Nat.ble 69 pc then (bif Nat.beq pc 69 then some (.aload_n 0, 1, 0, 0) else none) else (bif Nat.beq pc 66 then some (.invokestatic 39, 3, 0, 0) else none)) else (bif Nat.beq pc 65 then some (.imul, 1, 0, 0) else none)) else (bif Nat.ble 62 pc then (bif Nat.beq pc 62 then some (.getfield 35, 3, 0, 0) else none) else (bif Nat.beq pc 61 then some (.aload_n 0, 1, 0, 0) else none)))) else (bif Nat.ble 49 pc then (bif Nat.ble 54 pc then (bif Nat.ble 55 pc then (bif Nat.ble 58 pc then (bif Nat.beq pc 58 then some (.sipush 164, 3, 164, 0) else none) else (bif Nat.beq pc 55 then some (.getfield 16, 3, 0, 0) else none)) else (bif Nat.beq pc 54 then some (.aload_n 0, 1, 0, 0) else none)) else (bif Nat.ble 50 pc then (bif Nat.ble 53 pc then (bif Nat.beq pc 53 then some (.iconst 0, 1, 0, 0) else none) else (bif Nat.beq pc 50 then some (.getfield 7, 3, 0, 0) else none)) else (bif Nat.beq pc 49 then some (.aload_n 0, 1, 0, 0) else none))) else (bif Nat.ble 44 pc then (bif Nat.ble 45 pc then (bif Nat.ble 46 pc then (bif Nat.beq pc 46 then some (.putfield 35, 3, 0, 0) else none) else (bif Nat.beq pc 45 then some (.isub, 1, 0, 0) else none)) else (bif Nat.beq pc 44 then some (.iconst 1, 1, 1, 0) else none)) else (bif Nat.ble 41 pc then (bif Nat.beq pc 41 then some (.getfield 35, 3, 0, 0) else none) else (bif Nat.beq pc 40 then some (.dup, 1, 0, 0) else none))))) else (bif Nat.ble 21 pc then (bif Nat.ble 30 pc then (bif Nat.ble 33 pc then (bif Nat.ble 36 pc then (bif Nat.ble 39 pc then (bif Nat.beq pc 39 then some (.aload_n 0, 1, 0, 0) else none) else (bif Nat.beq pc 36 then some (.goto (-26), 3, 0, 10) else none)) else (bif Nat.beq pc 33 then some (.iinc 1 1, 3, 1, 0) else none)) else (bif Nat.ble 31 pc then (bif Nat.ble 32 pc then (bif Nat.beq pc 32 then some (.iastore, 1, 0, 0) else none) else (bif Nat.beq pc 31 then some (.iaload, 1, 0, 0) else none)) else (bif Nat.beq pc 30 then some (.iadd, 1, 0, 0) else none))) else (bif Nat.ble 23 pc then (bif Nat.ble 26 pc then (bif Nat.ble 27 pc then (bif Nat.beq pc 27 then some (.sipush 164, 3, 164, 0) else none) else (bif Nat.beq pc 26 then some (.iload_n 1, 1, 0, 0) else none)) else (bif Nat.beq pc 23 then some (.getfield 16, 3, 0, 0) else none)) else (bif Nat.ble 22 pc then (bif Nat.beq pc 22 then some (.aload_n 0, 1, 0, 0) else none) else (bif Nat.beq pc 21 then some (.iload_n 1, 1, 0, 0) else none)))) else (bif Nat.ble 9 pc then (bif Nat.ble 14 pc then (bif Nat.ble 17 pc then (bif Nat.ble 18 pc then (bif Nat.beq pc 18 then some (.getfield 16, 3, 0, 0) else none) else (bif Nat.beq pc 17 then some (.aload_n 0, 1, 0, 0) else none)) else (bif Nat.beq pc 14 then some (.if_icmp .ge 25, 3, 0, 39) else none)) else (bif Nat.ble 10 pc then (bif Nat.ble 11 pc then (bif Nat.beq pc 11 then some (.sipush 492, 3, 492, 0) else none) else (bif Nat.beq pc 10 then some (.iload_n 1, 1, 0, 0) else none)) else (bif Nat.beq pc 9 then some (.istore_n 1, 1, 0, 0) else none))) else (bif Nat.ble 4 pc then (bif Nat.ble 5 pc then (bif Nat.ble 8 pc then (bif Nat.beq pc 8 then some (.iconst 0, 1, 0, 0) else none) else (bif Nat.beq pc 5 then some (.if_icmp .ne 44, 3, 0, 49) else none)) else (bif Nat.beq pc 4 then some (.iconst 4, 1, 4, 0) else none)) else (bif Nat.ble 1 pc then (bif Nat.beq pc 1 then some (.getfield 35, 3, 0, 0) else none) else (bif Nat.beq pc 0 then some (.aload_n 0, 1, 0, 0) else none)))))
def I_X7_records : Nat → Option mjI := fun pc => bif Nat.ble 80 pc then none else J_X7_records pc
set_option maxRecDepth 100000 in
theorem I_X7_records_ok : ∀ pc row, I_X7_records pc = some row → mjrow Y0 cX7_records pc row = true ∧ mjrp none row.1 = true := mjchk_ok (n := 80) (by decide +kernel) (mjhi rfl)
def J_X7_isCell : Nat → Option mjI := fun pc => bif Nat.ble 2 pc then (bif Nat.ble 4 pc then (bif Nat.ble 7 pc then (bif Nat.beq pc 7 then some (.ireturn, 1, 0, 0) else none) else (bif Nat.beq pc 4 then some (.invokestatic 43, 3, 0, 0) else none)) else (bif Nat.beq pc 2 then some (.bipush 35, 2, 35, 0) else none)) else (bif Nat.ble 1 pc then (bif Nat.beq pc 1 then some (.iconst 0, 1, 0, 0) else none) else (bif Nat.beq pc 0 then some (.iload_n 0, 1, 0, 0) else none))
def I_X7_isCell : Nat → Option mjI := fun pc => bif Nat.ble 8 pc then none else J_X7_isCell pc
set_option maxRecDepth 100000 in
theorem I_X7_isCell_ok : ∀ pc row, I_X7_isCell pc = some row → mjrow Y0 cX7_isCell pc row = true ∧ mjrp (some .boolean) row.1 = true := mjchk_ok (n := 8) (by decide +kernel) (mjhi rfl)
def J_X7_isJoint : Nat → Option mjI := fun pc => bif Nat.ble 2 pc then (bif Nat.ble 4 pc then (bif Nat.ble 7 pc then (bif Nat.beq pc 7 then some (.ireturn, 1, 0, 0) else none) else (bif Nat.beq pc 4 then some (.invokestatic 43, 3, 0, 0) else none)) else (bif Nat.beq pc 2 then some (.bipush 59, 2, 59, 0) else none)) else (bif Nat.ble 1 pc then (bif Nat.beq pc 1 then some (.iconst 0, 1, 0, 0) else none) else (bif Nat.beq pc 0 then some (.iload_n 0, 1, 0, 0) else none))
def I_X7_isJoint : Nat → Option mjI := fun pc => bif Nat.ble 8 pc then none else J_X7_isJoint pc
set_option maxRecDepth 100000 in
theorem I_X7_isJoint_ok : ∀ pc row, I_X7_isJoint pc = some row → mjrow Y0 cX7_isJoint pc row = true ∧ mjrp (some .boolean) row.1 = true := mjchk_ok (n := 8) (by decide +kernel) (mjhi rfl)
def J_X7_firstOf : Nat → Option mjI := fun pc => bif Nat.ble 12 pc then (bif Nat.ble 16 pc then (bif Nat.ble 20 pc then (bif Nat.ble 22 pc then (bif Nat.ble 23 pc then (bif Nat.beq pc 23 then some (.ireturn, 1, 0, 0) else none) else (bif Nat.beq pc 22 then some (.isub, 1, 0, 0) else none)) else (bif Nat.beq pc 20 then some (.bipush 30, 2, 30, 0) else none)) else (bif Nat.ble 19 pc then (bif Nat.beq pc 19 then some (.iload_n 0, 1, 0, 0) else none) else (bif Nat.beq pc 16 then some (.goto 7, 3, 0, 23) else none))) else (bif Nat.ble 14 pc then (bif Nat.ble 15 pc then (bif Nat.beq pc 15 then some (.iadd, 1, 0, 0) else none) else (bif Nat.beq pc 14 then some (.irem, 1, 0, 0) else none)) else (bif Nat.ble 13 pc then (bif Nat.beq pc 13 then some (.iconst 5, 1, 5, 0) else none) else (bif Nat.beq pc 12 then some (.iload_n 0, 1, 0, 0) else none)))) else (bif Nat.ble 8 pc then (bif Nat.ble 10 pc then (bif Nat.ble 11 pc then (bif Nat.beq pc 11 then some (.imul, 1, 0, 0) else none) else (bif Nat.beq pc 10 then some (.idiv, 1, 0, 0) else none)) else (bif Nat.ble 9 pc then (bif Nat.beq pc 9 then some (.iconst 5, 1, 5, 0) else none) else (bif Nat.beq pc 8 then some (.iload_n 0, 1, 0, 0) else none))) else (bif Nat.ble 3 pc then (bif Nat.ble 6 pc then (bif Nat.beq pc 6 then some (.bipush 6, 2, 6, 0) else none) else (bif Nat.beq pc 3 then some (.if_icmp .ge 16, 3, 0, 19) else none)) else (bif Nat.ble 1 pc then (bif Nat.beq pc 1 then some (.bipush 30, 2, 30, 0) else none) else (bif Nat.beq pc 0 then some (.iload_n 0, 1, 0, 0) else none))))
def I_X7_firstOf : Nat → Option mjI := fun pc => bif Nat.ble 24 pc then none else J_X7_firstOf pc
set_option maxRecDepth 100000 in
theorem I_X7_firstOf_ok : ∀ pc row, I_X7_firstOf pc = some row → mjrow Y0 cX7_firstOf pc row = true ∧ mjrp (some .int) row.1 = true := mjchk_ok (n := 24) (by decide +kernel) (mjhi rfl)
def J_X7_secondOf : Nat → Option mjI := fun pc => bif Nat.ble 10 pc then (bif Nat.ble 14 pc then (bif Nat.ble 16 pc then (bif Nat.ble 17 pc then (bif Nat.beq pc 17 then some (.ireturn, 1, 0, 0) else none) else (bif Nat.beq pc 16 then some (.iadd, 1, 0, 0) else none)) else (bif Nat.beq pc 14 then some (.bipush 6, 2, 6, 0) else none)) else (bif Nat.ble 11 pc then (bif Nat.beq pc 11 then some (.goto 5, 3, 0, 16) else none) else (bif Nat.beq pc 10 then some (.iconst 1, 1, 1, 0) else none))) else (bif Nat.ble 4 pc then (bif Nat.ble 5 pc then (bif Nat.ble 7 pc then (bif Nat.beq pc 7 then some (.if_icmp .ge 7, 3, 0, 14) else none) else (bif Nat.beq pc 5 then some (.bipush 30, 2, 30, 0) else none)) else (bif Nat.beq pc 4 then some (.iload_n 0, 1, 0, 0) else none)) else (bif Nat.ble 1 pc then (bif Nat.beq pc 1 then some (.invokestatic 47, 3, 0, 0) else none) else (bif Nat.beq pc 0 then some (.iload_n 0, 1, 0, 0) else none)))
def I_X7_secondOf : Nat → Option mjI := fun pc => bif Nat.ble 18 pc then none else J_X7_secondOf pc
set_option maxRecDepth 100000 in
theorem I_X7_secondOf_ok : ∀ pc row, I_X7_secondOf pc = some row → mjrow Y0 cX7_secondOf pc row = true ∧ mjrp (some .int) row.1 = true := mjchk_ok (n := 18) (by decide +kernel) (mjhi rfl)
def J_X7_size : Nat → Option mjI := fun pc => bif Nat.ble 5 pc then (bif Nat.ble 9 pc then (bif Nat.ble 10 pc then (bif Nat.beq pc 10 then some (.ireturn, 1, 0, 0) else none) else (bif Nat.beq pc 9 then some (.iload_n 0, 1, 0, 0) else none)) else (bif Nat.ble 6 pc then (bif Nat.beq pc 6 then some (.goto 4, 3, 0, 10) else none) else (bif Nat.beq pc 5 then some (.ineg, 1, 0, 0) else none))) else (bif Nat.ble 1 pc then (bif Nat.ble 4 pc then (bif Nat.beq pc 4 then some (.iload_n 0, 1, 0, 0) else none) else (bif Nat.beq pc 1 then some (.ifCond .ge 8, 3, 0, 9) else none)) else (bif Nat.beq pc 0 then some (.iload_n 0, 1, 0, 0) else none))
def I_X7_size : Nat → Option mjI := fun pc => bif Nat.ble 11 pc then none else J_X7_size pc
set_option maxRecDepth 100000 in
theorem I_X7_size_ok : ∀ pc row, I_X7_size pc = some row → mjrow Y0 cX7_size pc row = true ∧ mjrp (some .int) row.1 = true := mjchk_ok (n := 11) (by decide +kernel) (mjhi rfl)
def J_X7_isWhole : Nat → Option mjI := fun pc => bif Nat.ble 8 pc then (bif Nat.ble 13 pc then (bif Nat.ble 16 pc then (bif Nat.ble 17 pc then (bif Nat.beq pc 17 then some (.ireturn, 1, 0, 0) else none) else (bif Nat.beq pc 16 then some (.iconst 0, 1, 0, 0) else none)) else (bif Nat.beq pc 13 then some (.goto 4, 3, 0, 17) else none)) else (bif Nat.ble 9 pc then (bif Nat.ble 12 pc then (bif Nat.beq pc 12 then some (.iconst 1, 1, 1, 0) else none) else (bif Nat.beq pc 9 then some (.ifCond .ne 7, 3, 0, 16) else none)) else (bif Nat.beq pc 8 then some (.iaload, 1, 0, 0) else none))) else (bif Nat.ble 4 pc then (bif Nat.ble 6 pc then (bif Nat.ble 7 pc then (bif Nat.beq pc 7 then some (.iadd, 1, 0, 0) else none) else (bif Nat.beq pc 6 then some (.iload_n 1, 1, 0, 0) else none)) else (bif Nat.beq pc 4 then some (.bipush 44, 2, 44, 0) else none)) else (bif Nat.ble 1 pc then (bif Nat.beq pc 1 then some (.getfield 7, 3, 0, 0) else none) else (bif Nat.beq pc 0 then some (.aload_n 0, 1, 0, 0) else none)))
def I_X7_isWhole : Nat → Option mjI := fun pc => bif Nat.ble 18 pc then none else J_X7_isWhole pc
set_option maxRecDepth 100000 in
theorem I_X7_isWhole_ok : ∀ pc row, I_X7_isWhole pc = some row → mjrow Y0 cX7_isWhole pc row = true ∧ mjrp (some .boolean) row.1 = true := mjchk_ok (n := 18) (by decide +kernel) (mjhi rfl)
def J_X7_stressOf : Nat → Option mjI := fun pc => bif Nat.ble 13 pc then (bif Nat.ble 22 pc then (bif Nat.ble 24 pc then (bif Nat.ble 25 pc then (bif Nat.ble 28 pc then (bif Nat.beq pc 28 then some (.ireturn, 1, 0, 0) else none) else (bif Nat.beq pc 25 then some (.invokestatic 53, 3, 0, 0) else none)) else (bif Nat.beq pc 24 then some (.isub, 1, 0, 0) else none)) else (bif Nat.ble 23 pc then (bif Nat.beq pc 23 then some (.iaload, 1, 0, 0) else none) else (bif Nat.beq pc 22 then some (.iadd, 1, 0, 0) else none))) else (bif Nat.ble 18 pc then (bif Nat.ble 19 pc then (bif Nat.beq pc 19 then some (.invokestatic 50, 3, 0, 0) else none) else (bif Nat.beq pc 18 then some (.iload_n 1, 1, 0, 0) else none)) else (bif Nat.ble 16 pc then (bif Nat.beq pc 16 then some (.bipush 8, 2, 8, 0) else none) else (bif Nat.beq pc 13 then some (.getfield 7, 3, 0, 0) else none)))) else (bif Nat.ble 7 pc then (bif Nat.ble 11 pc then (bif Nat.ble 12 pc then (bif Nat.beq pc 12 then some (.aload_n 0, 1, 0, 0) else none) else (bif Nat.beq pc 11 then some (.iaload, 1, 0, 0) else none)) else (bif Nat.ble 10 pc then (bif Nat.beq pc 10 then some (.iadd, 1, 0, 0) else none) else (bif Nat.beq pc 7 then some (.invokestatic 47, 3, 0, 0) else none))) else (bif Nat.ble 4 pc then (bif Nat.ble 6 pc then (bif Nat.beq pc 6 then some (.iload_n 1, 1, 0, 0) else none) else (bif Nat.beq pc 4 then some (.bipush 8, 2, 8, 0) else none)) else (bif Nat.ble 1 pc then (bif Nat.beq pc 1 then some (.getfield 7, 3, 0, 0) else none) else (bif Nat.beq pc 0 then some (.aload_n 0, 1, 0, 0) else none))))
def I_X7_stressOf : Nat → Option mjI := fun pc => bif Nat.ble 29 pc then none else J_X7_stressOf pc
set_option maxRecDepth 100000 in
theorem I_X7_stressOf_ok : ∀ pc row, I_X7_stressOf pc = some row → mjrow Y0 cX7_stressOf pc row = true ∧ mjrp (some .int) row.1 = true := mjchk_ok (n := 29) (by decide +kernel) (mjhi rfl)
def J_X7_marginOf : Nat → Option mjI := fun pc => bif Nat.ble 8 pc then (bif Nat.ble 11 pc then (bif Nat.ble 14 pc then (bif Nat.ble 15 pc then (bif Nat.beq pc 15 then some (.ireturn, 1, 0, 0) else none) else (bif Nat.beq pc 14 then some (.isub, 1, 0, 0) else none)) else (bif Nat.beq pc 11 then some (.invokevirtual 56, 3, 0, 0) else none)) else (bif Nat.ble 9 pc then (bif Nat.ble 10 pc then (bif Nat.beq pc 10 then some (.iload_n 1, 1, 0, 0) else none) else (bif Nat.beq pc 9 then some (.aload_n 0, 1, 0, 0) else none)) else (bif Nat.beq pc 8 then some (.iaload, 1, 0, 0) else none))) else (bif Nat.ble 4 pc then (bif Nat.ble 6 pc then (bif Nat.ble 7 pc then (bif Nat.beq pc 7 then some (.iadd, 1, 0, 0) else none) else (bif Nat.beq pc 6 then some (.iload_n 1, 1, 0, 0) else none)) else (bif Nat.beq pc 4 then some (.bipush 104, 2, 104, 0) else none)) else (bif Nat.ble 1 pc then (bif Nat.beq pc 1 then some (.getfield 7, 3, 0, 0) else none) else (bif Nat.beq pc 0 then some (.aload_n 0, 1, 0, 0) else none)))
def I_X7_marginOf : Nat → Option mjI := fun pc => bif Nat.ble 16 pc then none else J_X7_marginOf pc
set_option maxRecDepth 100000 in
theorem I_X7_marginOf_ok : ∀ pc row, I_X7_marginOf pc = some row → mjrow Y0 cX7_marginOf pc row = true ∧ mjrp (some .int) row.1 = true := mjchk_ok (n := 16) (by decide +kernel) (mjhi rfl)
def J_X7_has : Nat → Option mjI := fun pc => bif Nat.ble 12 pc then (bif Nat.ble 17 pc then (bif Nat.ble 20 pc then (bif Nat.ble 21 pc then (bif Nat.beq pc 21 then some (.ireturn, 1, 0, 0) else none) else (bif Nat.beq pc 20 then some (.iconst 0, 1, 0, 0) else none)) else (bif Nat.beq pc 17 then some (.goto 4, 3, 0, 21) else none)) else (bif Nat.ble 13 pc then (bif Nat.ble 16 pc then (bif Nat.beq pc 16 then some (.iconst 1, 1, 1, 0) else none) else (bif Nat.beq pc 13 then some (.if_icmp .ne 7, 3, 0, 20) else none)) else (bif Nat.beq pc 12 then some (.iload_n 1, 1, 0, 0) else none))) else (bif Nat.ble 5 pc then (bif Nat.ble 8 pc then (bif Nat.ble 9 pc then (bif Nat.beq pc 9 then some (.invokestatic 50, 3, 0, 0) else none) else (bif Nat.beq pc 8 then some (.iload_n 0, 1, 0, 0) else none)) else (bif Nat.beq pc 5 then some (.if_icmp .eq 11, 3, 0, 16) else none)) else (bif Nat.ble 1 pc then (bif Nat.ble 4 pc then (bif Nat.beq pc 4 then some (.iload_n 1, 1, 0, 0) else none) else (bif Nat.beq pc 1 then some (.invokestatic 47, 3, 0, 0) else none)) else (bif Nat.beq pc 0 then some (.iload_n 0, 1, 0, 0) else none)))
def I_X7_has : Nat → Option mjI := fun pc => bif Nat.ble 22 pc then none else J_X7_has pc
set_option maxRecDepth 100000 in
theorem I_X7_has_ok : ∀ pc row, I_X7_has pc = some row → mjrow Y0 cX7_has pc row = true ∧ mjrp (some .boolean) row.1 = true := mjchk_ok (n := 22) (by decide +kernel) (mjhi rfl)
def J_X7_touch : Nat → Option mjI := fun pc => bif Nat.ble 16 pc then (bif Nat.ble 24 pc then (bif Nat.ble 28 pc then (bif Nat.ble 31 pc then (bif Nat.ble 32 pc then (bif Nat.beq pc 32 then some (.ireturn, 1, 0, 0) else none) else (bif Nat.beq pc 31 then some (.iconst 0, 1, 0, 0) else none)) else (bif Nat.beq pc 28 then some (.goto 4, 3, 0, 32) else none)) else (bif Nat.ble 27 pc then (bif Nat.beq pc 27 then some (.iconst 1, 1, 1, 0) else none) else (bif Nat.beq pc 24 then some (.ifCond .eq 7, 3, 0, 31) else none))) else (bif Nat.ble 18 pc then (bif Nat.ble 21 pc then (bif Nat.beq pc 21 then some (.invokestatic 59, 3, 0, 0) else none) else (bif Nat.beq pc 18 then some (.invokestatic 50, 3, 0, 0) else none)) else (bif Nat.ble 17 pc then (bif Nat.beq pc 17 then some (.iload_n 0, 1, 0, 0) else none) else (bif Nat.beq pc 16 then some (.iload_n 1, 1, 0, 0) else none)))) else (bif Nat.ble 6 pc then (bif Nat.ble 10 pc then (bif Nat.ble 13 pc then (bif Nat.beq pc 13 then some (.ifCond .ne 14, 3, 0, 27) else none) else (bif Nat.beq pc 10 then some (.invokestatic 59, 3, 0, 0) else none)) else (bif Nat.ble 7 pc then (bif Nat.beq pc 7 then some (.invokestatic 47, 3, 0, 0) else none) else (bif Nat.beq pc 6 then some (.iload_n 0, 1, 0, 0) else none))) else (bif Nat.ble 2 pc then (bif Nat.ble 5 pc then (bif Nat.beq pc 5 then some (.iload_n 1, 1, 0, 0) else none) else (bif Nat.beq pc 2 then some (.if_icmp .eq 29, 3, 0, 31) else none)) else (bif Nat.ble 1 pc then (bif Nat.beq pc 1 then some (.iload_n 1, 1, 0, 0) else none) else (bif Nat.beq pc 0 then some (.iload_n 0, 1, 0, 0) else none))))
def I_X7_touch : Nat → Option mjI := fun pc => bif Nat.ble 33 pc then none else J_X7_touch pc
set_option maxRecDepth 100000 in
theorem I_X7_touch_ok : ∀ pc row, I_X7_touch pc = some row → mjrow Y0 cX7_touch pc row = true ∧ mjrp (some .boolean) row.1 = true := mjchk_ok (n := 33) (by decide +kernel) (mjhi rfl)
def J_X7_sidesOf : Nat → Option mjI := fun pc => bif Nat.ble 19 pc then (bif Nat.ble 29 pc then (bif Nat.ble 34 pc then (bif Nat.ble 38 pc then (bif Nat.ble 39 pc then (bif Nat.beq pc 39 then some (.ireturn, 1, 0, 0) else none) else (bif Nat.beq pc 38 then some (.iadd, 1, 0, 0) else none)) else (bif Nat.ble 37 pc then (bif Nat.beq pc 37 then some (.iconst 0, 1, 0, 0) else none) else (bif Nat.beq pc 34 then some (.goto 4, 3, 0, 38) else none))) else (bif Nat.ble 30 pc then (bif Nat.ble 33 pc then (bif Nat.beq pc 33 then some (.iconst 1, 1, 1, 0) else none) else (bif Nat.beq pc 30 then some (.if_icmp .ne 7, 3, 0, 37) else none)) else (bif Nat.beq pc 29 then some (.iconst 5, 1, 5, 0) else none))) else (bif Nat.ble 24 pc then (bif Nat.ble 25 pc then (bif Nat.ble 28 pc then (bif Nat.beq pc 28 then some (.iload_n 2, 1, 0, 0) else none) else (bif Nat.beq pc 25 then some (.ifCond .eq 8, 3, 0, 33) else none)) else (bif Nat.beq pc 24 then some (.iload_n 2, 1, 0, 0) else none)) else (bif Nat.ble 20 pc then (bif Nat.ble 23 pc then (bif Nat.beq pc 23 then some (.iconst 0, 1, 0, 0) else none) else (bif Nat.beq pc 20 then some (.goto 4, 3, 0, 24) else none)) else (bif Nat.beq pc 19 then some (.iconst 1, 1, 1, 0) else none)))) else (bif Nat.ble 8 pc then (bif Nat.ble 11 pc then (bif Nat.ble 15 pc then (bif Nat.ble 16 pc then (bif Nat.beq pc 16 then some (.if_icmp .ne 7, 3, 0, 23) else none) else (bif Nat.beq pc 15 then some (.iconst 5, 1, 5, 0) else none)) else (bif Nat.ble 14 pc then (bif Nat.beq pc 14 then some (.iload_n 1, 1, 0, 0) else none) else (bif Nat.beq pc 11 then some (.ifCond .eq 8, 3, 0, 19) else none))) else (bif Nat.ble 9 pc then (bif Nat.ble 10 pc then (bif Nat.beq pc 10 then some (.iload_n 1, 1, 0, 0) else none) else (bif Nat.beq pc 9 then some (.istore_n 2, 1, 0, 0) else none)) else (bif Nat.beq pc 8 then some (.irem, 1, 0, 0) else none))) else (bif Nat.ble 4 pc then (bif Nat.ble 5 pc then (bif Nat.ble 6 pc then (bif Nat.beq pc 6 then some (.bipush 6, 2, 6, 0) else none) else (bif Nat.beq pc 5 then some (.iload_n 0, 1, 0, 0) else none)) else (bif Nat.beq pc 4 then some (.istore_n 1, 1, 0, 0) else none)) else (bif Nat.ble 1 pc then (bif Nat.ble 3 pc then (bif Nat.beq pc 3 then some (.idiv, 1, 0, 0) else none) else (bif Nat.beq pc 1 then some (.bipush 6, 2, 6, 0) else none)) else (bif Nat.beq pc 0 then some (.iload_n 0, 1, 0, 0) else none))))
def I_X7_sidesOf : Nat → Option mjI := fun pc => bif Nat.ble 40 pc then none else J_X7_sidesOf pc
set_option maxRecDepth 100000 in
theorem I_X7_sidesOf_ok : ∀ pc row, I_X7_sidesOf pc = some row → mjrow Y0 cX7_sidesOf pc row = true ∧ mjrp (some .int) row.1 = true := mjchk_ok (n := 40) (by decide +kernel) (mjhi rfl)
def J_X7_goBegin : Nat → Option mjI := fun pc => bif Nat.ble 47 pc then (bif Nat.ble 74 pc then (bif Nat.ble 85 pc then (bif Nat.ble 94 pc then (bif Nat.ble 97 pc then (bif Nat.ble 98 pc then (bif Nat.beq pc 98 then some (.ireturn, 1, 0, 0) else none) else (bif Nat.beq pc 97 then some (.imul, 1, 0, 0) else none)) else (bif Nat.ble 96 pc then (bif Nat.beq pc 96 then some (.iload_n 1, 1, 0, 0) else none) else (bif Nat.beq pc 94 then some (.bipush 36, 2, 36, 0) else none))) else (bif Nat.ble 88 pc then (bif Nat.ble 91 pc then (bif Nat.beq pc 91 then some (.goto (-30), 3, 0, 61) else none) else (bif Nat.beq pc 88 then some (.iinc 2 1, 3, 1, 0) else none)) else (bif Nat.ble 87 pc then (bif Nat.beq pc 87 then some (.iastore, 1, 0, 0) else none) else (bif Nat.beq pc 85 then some (.bipush 100, 2, 100, 0) else none)))) else (bif Nat.ble 78 pc then (bif Nat.ble 83 pc then (bif Nat.ble 84 pc then (bif Nat.beq pc 84 then some (.iadd, 1, 0, 0) else none) else (bif Nat.beq pc 83 then some (.iload_n 2, 1, 0, 0) else none)) else (bif Nat.ble 81 pc then (bif Nat.beq pc 81 then some (.bipush 104, 2, 104, 0) else none) else (bif Nat.beq pc 78 then some (.getfield 7, 3, 0, 0) else none))) else (bif Nat.ble 76 pc then (bif Nat.ble 77 pc then (bif Nat.beq pc 77 then some (.aload_n 0, 1, 0, 0) else none) else (bif Nat.beq pc 76 then some (.iastore, 1, 0, 0) else none)) else (bif Nat.ble 75 pc then (bif Nat.beq pc 75 then some (.iconst 0, 1, 0, 0) else none) else (bif Nat.beq pc 74 then some (.iadd, 1, 0, 0) else none))))) else (bif Nat.ble 60 pc then (bif Nat.ble 67 pc then (bif Nat.ble 71 pc then (bif Nat.ble 73 pc then (bif Nat.beq pc 73 then some (.iload_n 2, 1, 0, 0) else none) else (bif Nat.beq pc 71 then some (.bipush 44, 2, 44, 0) else none)) else (bif Nat.ble 68 pc then (bif Nat.beq pc 68 then some (.getfield 7, 3, 0, 0) else none) else (bif Nat.beq pc 67 then some (.aload_n 0, 1, 0, 0) else none))) else (bif Nat.ble 62 pc then (bif Nat.ble 64 pc then (bif Nat.beq pc 64 then some (.if_icmp .ge 30, 3, 0, 94) else none) else (bif Nat.beq pc 62 then some (.bipush 60, 2, 60, 0) else none)) else (bif Nat.ble 61 pc then (bif Nat.beq pc 61 then some (.iload_n 2, 1, 0, 0) else none) else (bif Nat.beq pc 60 then some (.istore_n 2, 1, 0, 0) else none)))) else (bif Nat.ble 52 pc then (bif Nat.ble 56 pc then (bif Nat.ble 59 pc then (bif Nat.beq pc 59 then some (.iconst 0, 1, 0, 0) else none) else (bif Nat.beq pc 56 then some (.goto (-19), 3, 0, 37) else none)) else (bif Nat.ble 53 pc then (bif Nat.beq pc 53 then some (.iinc 2 1, 3, 1, 0) else none) else (bif Nat.beq pc 52 then some (.iastore, 1, 0, 0) else none))) else (bif Nat.ble 50 pc then (bif Nat.ble 51 pc then (bif Nat.beq pc 51 then some (.iload_n 1, 1, 0, 0) else none) else (bif Nat.beq pc 50 then some (.iadd, 1, 0, 0) else none)) else (bif Nat.ble 49 pc then (bif Nat.beq pc 49 then some (.iload_n 2, 1, 0, 0) else none) else (bif Nat.beq pc 47 then some (.bipush 8, 2, 8, 0) else none)))))) else (bif Nat.ble 22 pc then (bif Nat.ble 34 pc then (bif Nat.ble 38 pc then (bif Nat.ble 43 pc then (bif Nat.ble 44 pc then (bif Nat.beq pc 44 then some (.getfield 7, 3, 0, 0) else none) else (bif Nat.beq pc 43 then some (.aload_n 0, 1, 0, 0) else none)) else (bif Nat.ble 40 pc then (bif Nat.beq pc 40 then some (.if_icmp .ge 19, 3, 0, 59) else none) else (bif Nat.beq pc 38 then some (.bipush 36, 2, 36, 0) else none))) else (bif Nat.ble 36 pc then (bif Nat.ble 37 pc then (bif Nat.beq pc 37 then some (.iload_n 2, 1, 0, 0) else none) else (bif Nat.beq pc 36 then some (.istore_n 2, 1, 0, 0) else none)) else (bif Nat.ble 35 pc then (bif Nat.beq pc 35 then some (.iconst 0, 1, 0, 0) else none) else (bif Nat.beq pc 34 then some (.iastore, 1, 0, 0) else none)))) else (bif Nat.ble 28 pc then (bif Nat.ble 32 pc then (bif Nat.ble 33 pc then (bif Nat.beq pc 33 then some (.iconst 0, 1, 0, 0) else none) else (bif Nat.beq pc 32 then some (.iconst 5, 1, 5, 0) else none)) else (bif Nat.ble 29 pc then (bif Nat.beq pc 29 then some (.getfield 7, 3, 0, 0) else none) else (bif Nat.beq pc 28 then some (.aload_n 0, 1, 0, 0) else none))) else (bif Nat.ble 26 pc then (bif Nat.ble 27 pc then (bif Nat.beq pc 27 then some (.iastore, 1, 0, 0) else none) else (bif Nat.beq pc 26 then some (.iconst 0, 1, 0, 0) else none)) else (bif Nat.ble 25 pc then (bif Nat.beq pc 25 then some (.iconst 4, 1, 4, 0) else none) else (bif Nat.beq pc 22 then some (.getfield 7, 3, 0, 0) else none))))) else (bif Nat.ble 12 pc then (bif Nat.ble 18 pc then (bif Nat.ble 20 pc then (bif Nat.ble 21 pc then (bif Nat.beq pc 21 then some (.aload_n 0, 1, 0, 0) else none) else (bif Nat.beq pc 20 then some (.iastore, 1, 0, 0) else none)) else (bif Nat.ble 19 pc then (bif Nat.beq pc 19 then some (.iconst 0, 1, 0, 0) else none) else (bif Nat.beq pc 18 then some (.iconst 3, 1, 3, 0) else none))) else (bif Nat.ble 14 pc then (bif Nat.ble 15 pc then (bif Nat.beq pc 15 then some (.getfield 7, 3, 0, 0) else none) else (bif Nat.beq pc 14 then some (.aload_n 0, 1, 0, 0) else none)) else (bif Nat.ble 13 pc then (bif Nat.beq pc 13 then some (.iastore, 1, 0, 0) else none) else (bif Nat.beq pc 12 then some (.iload_n 1, 1, 0, 0) else none)))) else (bif Nat.ble 6 pc then (bif Nat.ble 8 pc then (bif Nat.ble 11 pc then (bif Nat.beq pc 11 then some (.iconst 1, 1, 1, 0) else none) else (bif Nat.beq pc 8 then some (.getfield 7, 3, 0, 0) else none)) else (bif Nat.ble 7 pc then (bif Nat.beq pc 7 then some (.aload_n 0, 1, 0, 0) else none) else (bif Nat.beq pc 6 then some (.iastore, 1, 0, 0) else none))) else (bif Nat.ble 4 pc then (bif Nat.ble 5 pc then (bif Nat.beq pc 5 then some (.iload_n 1, 1, 0, 0) else none) else (bif Nat.beq pc 4 then some (.iconst 0, 1, 0, 0) else none)) else (bif Nat.ble 1 pc then (bif Nat.beq pc 1 then some (.getfield 7, 3, 0, 0) else none) else (bif Nat.beq pc 0 then some (.aload_n 0, 1, 0, 0) else none))))))
def I_X7_goBegin : Nat → Option mjI := fun pc => bif Nat.ble 99 pc then none else J_X7_goBegin pc
set_option maxRecDepth 100000 in
theorem I_X7_goBegin_ok : ∀ pc row, I_X7_goBegin pc = some row → mjrow Y0 cX7_goBegin pc row = true ∧ mjrp (some .int) row.1 = true := mjchk_ok (n := 99) (by decide +kernel) (mjhi rfl)
def J_X7_flows : Nat → Option mjI := fun pc => bif Nat.ble 107 pc then (bif Nat.ble 155 pc then (bif Nat.ble 178 pc then (bif Nat.ble 191 pc then (bif Nat.ble 197 pc then (bif Nat.ble 199 pc then (bif Nat.ble 202 pc then (bif Nat.ble 205 pc then (bif Nat.beq pc 205 then some (.return_, 1, 0, 0) else none) else (bif Nat.beq pc 202 then some (.goto (-27), 3, 0, 175) else none)) else (bif Nat.beq pc 199 then some (.iinc 1 1, 3, 1, 0) else none)) else (bif Nat.ble 198 pc then (bif Nat.beq pc 198 then some (.iastore, 1, 0, 0) else none) else (bif Nat.beq pc 197 then some (.iadd, 1, 0, 0) else none))) else (bif Nat.ble 195 pc then (bif Nat.ble 196 pc then (bif Nat.beq pc 196 then some (.iaload, 1, 0, 0) else none) else (bif Nat.beq pc 195 then some (.iload_n 1, 1, 0, 0) else none)) else (bif Nat.ble 192 pc then (bif Nat.beq pc 192 then some (.getfield 25, 3, 0, 0) else none) else (bif Nat.beq pc 191 then some (.aload_n 0, 1, 0, 0) else none)))) else (bif Nat.ble 187 pc then (bif Nat.ble 189 pc then (bif Nat.ble 190 pc then (bif Nat.beq pc 190 then some (.iaload, 1, 0, 0) else none) else (bif Nat.beq pc 189 then some (.dup2, 1, 0, 0) else none)) else (bif Nat.ble 188 pc then (bif Nat.beq pc 188 then some (.iadd, 1, 0, 0) else none) else (bif Nat.beq pc 187 then some (.iload_n 1, 1, 0, 0) else none))) else (bif Nat.ble 182 pc then (bif Nat.ble 185 pc then (bif Nat.beq pc 185 then some (.bipush 8, 2, 8, 0) else none) else (bif Nat.beq pc 182 then some (.getfield 7, 3, 0, 0) else none)) else (bif Nat.ble 181 pc then (bif Nat.beq pc 181 then some (.aload_n 0, 1, 0, 0) else none) else (bif Nat.beq pc 178 then some (.if_icmp .ge 27, 3, 0, 205) else none))))) else (bif Nat.ble 165 pc then (bif Nat.ble 173 pc then (bif Nat.ble 175 pc then (bif Nat.ble 176 pc then (bif Nat.beq pc 176 then some (.bipush 36, 2, 36, 0) else none) else (bif Nat.beq pc 175 then some (.iload_n 1, 1, 0, 0) else none)) else (bif Nat.ble 174 pc then (bif Nat.beq pc 174 then some (.istore_n 1, 1, 0, 0) else none) else (bif Nat.beq pc 173 then some (.iconst 0, 1, 0, 0) else none))) else (bif Nat.ble 167 pc then (bif Nat.ble 170 pc then (bif Nat.beq pc 170 then some (.goto (-62), 3, 0, 108) else none) else (bif Nat.beq pc 167 then some (.iinc 1 1, 3, 1, 0) else none)) else (bif Nat.ble 166 pc then (bif Nat.beq pc 166 then some (.iastore, 1, 0, 0) else none) else (bif Nat.beq pc 165 then some (.iadd, 1, 0, 0) else none)))) else (bif Nat.ble 161 pc then (bif Nat.ble 163 pc then (bif Nat.ble 164 pc then (bif Nat.beq pc 164 then some (.iload_n 2, 1, 0, 0) else none) else (bif Nat.beq pc 163 then some (.iaload, 1, 0, 0) else none)) else (bif Nat.ble 162 pc then (bif Nat.beq pc 162 then some (.dup2, 1, 0, 0) else none) else (bif Nat.beq pc 161 then some (.iconst 4, 1, 4, 0) else none))) else (bif Nat.ble 157 pc then (bif Nat.ble 158 pc then (bif Nat.beq pc 158 then some (.getfield 7, 3, 0, 0) else none) else (bif Nat.beq pc 157 then some (.aload_n 0, 1, 0, 0) else none)) else (bif Nat.ble 156 pc then (bif Nat.beq pc 156 then some (.iastore, 1, 0, 0) else none) else (bif Nat.beq pc 155 then some (.isub, 1, 0, 0) else none)))))) else (bif Nat.ble 131 pc then (bif Nat.ble 145 pc then (bif Nat.ble 151 pc then (bif Nat.ble 153 pc then (bif Nat.ble 154 pc then (bif Nat.beq pc 154 then some (.iload_n 2, 1, 0, 0) else none) else (bif Nat.beq pc 153 then some (.iaload, 1, 0, 0) else none)) else (bif Nat.ble 152 pc then (bif Nat.beq pc 152 then some (.dup2, 1, 0, 0) else none) else (bif Nat.beq pc 151 then some (.iload_n 1, 1, 0, 0) else none))) else (bif Nat.ble 147 pc then (bif Nat.ble 148 pc then (bif Nat.beq pc 148 then some (.getfield 25, 3, 0, 0) else none) else (bif Nat.beq pc 147 then some (.aload_n 0, 1, 0, 0) else none)) else (bif Nat.ble 146 pc then (bif Nat.beq pc 146 then some (.istore_n 2, 1, 0, 0) else none) else (bif Nat.beq pc 145 then some (.imul, 1, 0, 0) else none)))) else (bif Nat.ble 138 pc then (bif Nat.ble 141 pc then (bif Nat.ble 142 pc then (bif Nat.beq pc 142 then some (.invokestatic 67, 3, 0, 0) else none) else (bif Nat.beq pc 141 then some (.iload_n 1, 1, 0, 0) else none)) else (bif Nat.ble 140 pc then (bif Nat.beq pc 140 then some (.idiv, 1, 0, 0) else none) else (bif Nat.beq pc 138 then some (.bipush 100, 2, 100, 0) else none))) else (bif Nat.ble 136 pc then (bif Nat.ble 137 pc then (bif Nat.beq pc 137 then some (.imul, 1, 0, 0) else none) else (bif Nat.beq pc 136 then some (.iaload, 1, 0, 0) else none)) else (bif Nat.ble 134 pc then (bif Nat.beq pc 134 then some (.bipush 7, 2, 7, 0) else none) else (bif Nat.beq pc 131 then some (.getfield 7, 3, 0, 0) else none))))) else (bif Nat.ble 121 pc then (bif Nat.ble 127 pc then (bif Nat.ble 129 pc then (bif Nat.ble 130 pc then (bif Nat.beq pc 130 then some (.aload_n 0, 1, 0, 0) else none) else (bif Nat.beq pc 129 then some (.isub, 1, 0, 0) else none)) else (bif Nat.ble 128 pc then (bif Nat.beq pc 128 then some (.iaload, 1, 0, 0) else none) else (bif Nat.beq pc 127 then some (.iconst 0, 1, 0, 0) else none))) else (bif Nat.ble 123 pc then (bif Nat.ble 124 pc then (bif Nat.beq pc 124 then some (.getfield 7, 3, 0, 0) else none) else (bif Nat.beq pc 123 then some (.aload_n 0, 1, 0, 0) else none)) else (bif Nat.ble 122 pc then (bif Nat.beq pc 122 then some (.iaload, 1, 0, 0) else none) else (bif Nat.beq pc 121 then some (.iadd, 1, 0, 0) else none)))) else (bif Nat.ble 114 pc then (bif Nat.ble 118 pc then (bif Nat.ble 120 pc then (bif Nat.beq pc 120 then some (.iload_n 1, 1, 0, 0) else none) else (bif Nat.beq pc 118 then some (.bipush 8, 2, 8, 0) else none)) else (bif Nat.ble 115 pc then (bif Nat.beq pc 115 then some (.getfield 7, 3, 0, 0) else none) else (bif Nat.beq pc 114 then some (.aload_n 0, 1, 0, 0) else none))) else (bif Nat.ble 109 pc then (bif Nat.ble 111 pc then (bif Nat.beq pc 111 then some (.if_icmp .ge 62, 3, 0, 173) else none) else (bif Nat.beq pc 109 then some (.bipush 36, 2, 36, 0) else none)) else (bif Nat.ble 108 pc then (bif Nat.beq pc 108 then some (.iload_n 1, 1, 0, 0) else none) else (bif Nat.beq pc 107 then some (.istore_n 1, 1, 0, 0) else none))))))) else (bif Nat.ble 56 pc then (bif Nat.ble 82 pc then (bif Nat.ble 92 pc then (bif Nat.ble 98 pc then (bif Nat.ble 100 pc then (bif Nat.ble 103 pc then (bif Nat.ble 106 pc then (bif Nat.beq pc 106 then some (.iconst 0, 1, 0, 0) else none) else (bif Nat.beq pc 103 then some (.goto (-80), 3, 0, 23) else none)) else (bif Nat.beq pc 100 then some (.iinc 1 1, 3, 1, 0) else none)) else (bif Nat.ble 99 pc then (bif Nat.beq pc 99 then some (.iastore, 1, 0, 0) else none) else (bif Nat.beq pc 98 then some (.iadd, 1, 0, 0) else none))) else (bif Nat.ble 96 pc then (bif Nat.ble 97 pc then (bif Nat.beq pc 97 then some (.iload_n 2, 1, 0, 0) else none) else (bif Nat.beq pc 96 then some (.iaload, 1, 0, 0) else none)) else (bif Nat.ble 95 pc then (bif Nat.beq pc 95 then some (.dup2, 1, 0, 0) else none) else (bif Nat.beq pc 92 then some (.invokestatic 50, 3, 0, 0) else none)))) else (bif Nat.ble 86 pc then (bif Nat.ble 88 pc then (bif Nat.ble 91 pc then (bif Nat.beq pc 91 then some (.iload_n 1, 1, 0, 0) else none) else (bif Nat.beq pc 88 then some (.getfield 25, 3, 0, 0) else none)) else (bif Nat.ble 87 pc then (bif Nat.beq pc 87 then some (.aload_n 0, 1, 0, 0) else none) else (bif Nat.beq pc 86 then some (.iastore, 1, 0, 0) else none))) else (bif Nat.ble 84 pc then (bif Nat.ble 85 pc then (bif Nat.beq pc 85 then some (.isub, 1, 0, 0) else none) else (bif Nat.beq pc 84 then some (.iload_n 2, 1, 0, 0) else none)) else (bif Nat.ble 83 pc then (bif Nat.beq pc 83 then some (.iaload, 1, 0, 0) else none) else (bif Nat.beq pc 82 then some (.dup2, 1, 0, 0) else none))))) else (bif Nat.ble 69 pc then (bif Nat.ble 74 pc then (bif Nat.ble 78 pc then (bif Nat.ble 79 pc then (bif Nat.beq pc 79 then some (.invokestatic 47, 3, 0, 0) else none) else (bif Nat.beq pc 78 then some (.iload_n 1, 1, 0, 0) else none)) else (bif Nat.ble 75 pc then (bif Nat.beq pc 75 then some (.getfield 25, 3, 0, 0) else none) else (bif Nat.beq pc 74 then some (.aload_n 0, 1, 0, 0) else none))) else (bif Nat.ble 72 pc then (bif Nat.ble 73 pc then (bif Nat.beq pc 73 then some (.istore_n 2, 1, 0, 0) else none) else (bif Nat.beq pc 72 then some (.idiv, 1, 0, 0) else none)) else (bif Nat.ble 70 pc then (bif Nat.beq pc 70 then some (.bipush 100, 2, 100, 0) else none) else (bif Nat.beq pc 69 then some (.imul, 1, 0, 0) else none)))) else (bif Nat.ble 62 pc then (bif Nat.ble 66 pc then (bif Nat.ble 68 pc then (bif Nat.beq pc 68 then some (.iaload, 1, 0, 0) else none) else (bif Nat.beq pc 66 then some (.bipush 6, 2, 6, 0) else none)) else (bif Nat.ble 63 pc then (bif Nat.beq pc 63 then some (.getfield 7, 3, 0, 0) else none) else (bif Nat.beq pc 62 then some (.aload_n 0, 1, 0, 0) else none))) else (bif Nat.ble 60 pc then (bif Nat.ble 61 pc then (bif Nat.beq pc 61 then some (.isub, 1, 0, 0) else none) else (bif Nat.beq pc 60 then some (.iaload, 1, 0, 0) else none)) else (bif Nat.ble 59 pc then (bif Nat.beq pc 59 then some (.iadd, 1, 0, 0) else none) else (bif Nat.beq pc 56 then some (.invokestatic 50, 3, 0, 0) else none)))))) else (bif Nat.ble 26 pc then (bif Nat.ble 43 pc then (bif Nat.ble 49 pc then (bif Nat.ble 53 pc then (bif Nat.ble 55 pc then (bif Nat.beq pc 55 then some (.iload_n 1, 1, 0, 0) else none) else (bif Nat.beq pc 53 then some (.bipush 8, 2, 8, 0) else none)) else (bif Nat.ble 50 pc then (bif Nat.beq pc 50 then some (.getfield 7, 3, 0, 0) else none) else (bif Nat.beq pc 49 then some (.aload_n 0, 1, 0, 0) else none))) else (bif Nat.ble 47 pc then (bif Nat.ble 48 pc then (bif Nat.beq pc 48 then some (.iaload, 1, 0, 0) else none) else (bif Nat.beq pc 47 then some (.iadd, 1, 0, 0) else none)) else (bif Nat.ble 44 pc then (bif Nat.beq pc 44 then some (.invokestatic 47, 3, 0, 0) else none) else (bif Nat.beq pc 43 then some (.iload_n 1, 1, 0, 0) else none)))) else (bif Nat.ble 34 pc then (bif Nat.ble 38 pc then (bif Nat.ble 41 pc then (bif Nat.beq pc 41 then some (.bipush 8, 2, 8, 0) else none) else (bif Nat.beq pc 38 then some (.getfield 7, 3, 0, 0) else none)) else (bif Nat.ble 37 pc then (bif Nat.beq pc 37 then some (.aload_n 0, 1, 0, 0) else none) else (bif Nat.beq pc 34 then some (.ifCond .eq 66, 3, 0, 100) else none))) else (bif Nat.ble 30 pc then (bif Nat.ble 31 pc then (bif Nat.beq pc 31 then some (.invokevirtual 63, 3, 0, 0) else none) else (bif Nat.beq pc 30 then some (.iload_n 1, 1, 0, 0) else none)) else (bif Nat.ble 29 pc then (bif Nat.beq pc 29 then some (.aload_n 0, 1, 0, 0) else none) else (bif Nat.beq pc 26 then some (.if_icmp .ge 80, 3, 0, 106) else none))))) else (bif Nat.ble 13 pc then (bif Nat.ble 21 pc then (bif Nat.ble 23 pc then (bif Nat.ble 24 pc then (bif Nat.beq pc 24 then some (.bipush 60, 2, 60, 0) else none) else (bif Nat.beq pc 23 then some (.iload_n 1, 1, 0, 0) else none)) else (bif Nat.ble 22 pc then (bif Nat.beq pc 22 then some (.istore_n 1, 1, 0, 0) else none) else (bif Nat.beq pc 21 then some (.iconst 0, 1, 0, 0) else none))) else (bif Nat.ble 15 pc then (bif Nat.ble 18 pc then (bif Nat.beq pc 18 then some (.goto (-16), 3, 0, 2) else none) else (bif Nat.beq pc 15 then some (.iinc 1 1, 3, 1, 0) else none)) else (bif Nat.ble 14 pc then (bif Nat.beq pc 14 then some (.iastore, 1, 0, 0) else none) else (bif Nat.beq pc 13 then some (.iconst 0, 1, 0, 0) else none)))) else (bif Nat.ble 5 pc then (bif Nat.ble 9 pc then (bif Nat.ble 12 pc then (bif Nat.beq pc 12 then some (.iload_n 1, 1, 0, 0) else none) else (bif Nat.beq pc 9 then some (.getfield 25, 3, 0, 0) else none)) else (bif Nat.ble 8 pc then (bif Nat.beq pc 8 then some (.aload_n 0, 1, 0, 0) else none) else (bif Nat.beq pc 5 then some (.if_icmp .ge 16, 3, 0, 21) else none))) else (bif Nat.ble 2 pc then (bif Nat.ble 3 pc then (bif Nat.beq pc 3 then some (.bipush 36, 2, 36, 0) else none) else (bif Nat.beq pc 2 then some (.iload_n 1, 1, 0, 0) else none)) else (bif Nat.ble 1 pc then (bif Nat.beq pc 1 then some (.istore_n 1, 1, 0, 0) else none) else (bif Nat.beq pc 0 then some (.iconst 0, 1, 0, 0) else none)))))))
def I_X7_flows : Nat → Option mjI := fun pc => bif Nat.ble 206 pc then none else J_X7_flows pc
set_option maxRecDepth 100000 in
theorem I_X7_flows_ok : ∀ pc row, I_X7_flows pc = some row → mjrow Y0 cX7_flows pc row = true ∧ mjrp none row.1 = true := mjchk_ok (n := 206) (by decide +kernel) (mjhi rfl)
def J_X7_worst : Nat → Option mjI := fun pc => bif Nat.ble 34 pc then (bif Nat.ble 52 pc then (bif Nat.ble 61 pc then (bif Nat.ble 65 pc then (bif Nat.ble 68 pc then (bif Nat.ble 69 pc then (bif Nat.beq pc 69 then some (.ireturn, 1, 0, 0) else none) else (bif Nat.beq pc 68 then some (.iload_n 1, 1, 0, 0) else none)) else (bif Nat.beq pc 65 then some (.goto (-60), 3, 0, 5) else none)) else (bif Nat.ble 62 pc then (bif Nat.beq pc 62 then some (.iinc 2 1, 3, 1, 0) else none) else (bif Nat.beq pc 61 then some (.istore_n 1, 1, 0, 0) else none))) else (bif Nat.ble 56 pc then (bif Nat.ble 57 pc then (bif Nat.ble 60 pc then (bif Nat.beq pc 60 then some (.iload_n 1, 1, 0, 0) else none) else (bif Nat.beq pc 57 then some (.goto 4, 3, 0, 61) else none)) else (bif Nat.beq pc 56 then some (.iload_n 2, 1, 0, 0) else none)) else (bif Nat.ble 53 pc then (bif Nat.beq pc 53 then some (.ifCond .eq 7, 3, 0, 60) else none) else (bif Nat.beq pc 52 then some (.iload_n 3, 1, 0, 0) else none)))) else (bif Nat.ble 43 pc then (bif Nat.ble 47 pc then (bif Nat.ble 50 pc then (bif Nat.ble 51 pc then (bif Nat.beq pc 51 then some (.istore_n 3, 1, 0, 0) else none) else (bif Nat.beq pc 50 then some (.iconst 0, 1, 0, 0) else none)) else (bif Nat.beq pc 47 then some (.goto 4, 3, 0, 51) else none)) else (bif Nat.ble 46 pc then (bif Nat.beq pc 46 then some (.iconst 1, 1, 1, 0) else none) else (bif Nat.beq pc 43 then some (.if_icmp .ge 7, 3, 0, 50) else none))) else (bif Nat.ble 38 pc then (bif Nat.ble 39 pc then (bif Nat.ble 40 pc then (bif Nat.beq pc 40 then some (.invokevirtual 70, 3, 0, 0) else none) else (bif Nat.beq pc 39 then some (.iload_n 1, 1, 0, 0) else none)) else (bif Nat.beq pc 38 then some (.aload_n 0, 1, 0, 0) else none)) else (bif Nat.ble 35 pc then (bif Nat.beq pc 35 then some (.invokevirtual 70, 3, 0, 0) else none) else (bif Nat.beq pc 34 then some (.iload_n 2, 1, 0, 0) else none))))) else (bif Nat.ble 13 pc then (bif Nat.ble 24 pc then (bif Nat.ble 28 pc then (bif Nat.ble 30 pc then (bif Nat.ble 33 pc then (bif Nat.beq pc 33 then some (.aload_n 0, 1, 0, 0) else none) else (bif Nat.beq pc 30 then some (.if_icmp .eq 16, 3, 0, 46) else none)) else (bif Nat.beq pc 28 then some (.bipush (-4), 2, (-4), 0) else none)) else (bif Nat.ble 27 pc then (bif Nat.beq pc 27 then some (.iload_n 1, 1, 0, 0) else none) else (bif Nat.beq pc 24 then some (.ifCond .ge 26, 3, 0, 50) else none))) else (bif Nat.ble 19 pc then (bif Nat.ble 20 pc then (bif Nat.ble 21 pc then (bif Nat.beq pc 21 then some (.invokevirtual 70, 3, 0, 0) else none) else (bif Nat.beq pc 20 then some (.iload_n 2, 1, 0, 0) else none)) else (bif Nat.beq pc 19 then some (.aload_n 0, 1, 0, 0) else none)) else (bif Nat.ble 16 pc then (bif Nat.beq pc 16 then some (.ifCond .eq 34, 3, 0, 50) else none) else (bif Nat.beq pc 13 then some (.invokevirtual 63, 3, 0, 0) else none)))) else (bif Nat.ble 5 pc then (bif Nat.ble 8 pc then (bif Nat.ble 11 pc then (bif Nat.ble 12 pc then (bif Nat.beq pc 12 then some (.iload_n 2, 1, 0, 0) else none) else (bif Nat.beq pc 11 then some (.aload_n 0, 1, 0, 0) else none)) else (bif Nat.beq pc 8 then some (.if_icmp .ge 60, 3, 0, 68) else none)) else (bif Nat.ble 6 pc then (bif Nat.beq pc 6 then some (.bipush 60, 2, 60, 0) else none) else (bif Nat.beq pc 5 then some (.iload_n 2, 1, 0, 0) else none))) else (bif Nat.ble 3 pc then (bif Nat.ble 4 pc then (bif Nat.beq pc 4 then some (.istore_n 2, 1, 0, 0) else none) else (bif Nat.beq pc 3 then some (.iconst 0, 1, 0, 0) else none)) else (bif Nat.ble 2 pc then (bif Nat.beq pc 2 then some (.istore_n 1, 1, 0, 0) else none) else (bif Nat.beq pc 0 then some (.bipush (-4), 2, (-4), 0) else none)))))
def I_X7_worst : Nat → Option mjI := fun pc => bif Nat.ble 70 pc then none else J_X7_worst pc
set_option maxRecDepth 100000 in
theorem I_X7_worst_ok : ∀ pc row, I_X7_worst pc = some row → mjrow Y0 cX7_worst pc row = true ∧ mjrp (some .int) row.1 = true := mjchk_ok (n := 70) (by decide +kernel) (mjhi rfl)
def J_X7_greatestStress : Nat → Option mjI := fun pc => bif Nat.ble 21 pc then (bif Nat.ble 33 pc then (bif Nat.ble 38 pc then (bif Nat.ble 44 pc then (bif Nat.ble 45 pc then (bif Nat.beq pc 45 then some (.ireturn, 1, 0, 0) else none) else (bif Nat.beq pc 44 then some (.iload_n 1, 1, 0, 0) else none)) else (bif Nat.ble 41 pc then (bif Nat.beq pc 41 then some (.goto (-36), 3, 0, 5) else none) else (bif Nat.beq pc 38 then some (.iinc 2 1, 3, 1, 0) else none))) else (bif Nat.ble 36 pc then (bif Nat.ble 37 pc then (bif Nat.beq pc 37 then some (.istore_n 1, 1, 0, 0) else none) else (bif Nat.beq pc 36 then some (.iload_n 1, 1, 0, 0) else none)) else (bif Nat.beq pc 33 then some (.goto 4, 3, 0, 37) else none))) else (bif Nat.ble 28 pc then (bif Nat.ble 29 pc then (bif Nat.ble 30 pc then (bif Nat.beq pc 30 then some (.invokevirtual 56, 3, 0, 0) else none) else (bif Nat.beq pc 29 then some (.iload_n 2, 1, 0, 0) else none)) else (bif Nat.beq pc 28 then some (.aload_n 0, 1, 0, 0) else none)) else (bif Nat.ble 24 pc then (bif Nat.ble 25 pc then (bif Nat.beq pc 25 then some (.if_icmp .le 11, 3, 0, 36) else none) else (bif Nat.beq pc 24 then some (.iload_n 1, 1, 0, 0) else none)) else (bif Nat.beq pc 21 then some (.invokevirtual 56, 3, 0, 0) else none)))) else (bif Nat.ble 8 pc then (bif Nat.ble 13 pc then (bif Nat.ble 19 pc then (bif Nat.ble 20 pc then (bif Nat.beq pc 20 then some (.iload_n 2, 1, 0, 0) else none) else (bif Nat.beq pc 19 then some (.aload_n 0, 1, 0, 0) else none)) else (bif Nat.ble 16 pc then (bif Nat.beq pc 16 then some (.ifCond .eq 20, 3, 0, 36) else none) else (bif Nat.beq pc 13 then some (.invokevirtual 63, 3, 0, 0) else none))) else (bif Nat.ble 11 pc then (bif Nat.ble 12 pc then (bif Nat.beq pc 12 then some (.iload_n 2, 1, 0, 0) else none) else (bif Nat.beq pc 11 then some (.aload_n 0, 1, 0, 0) else none)) else (bif Nat.beq pc 8 then some (.if_icmp .ge 36, 3, 0, 44) else none))) else (bif Nat.ble 4 pc then (bif Nat.ble 5 pc then (bif Nat.ble 6 pc then (bif Nat.beq pc 6 then some (.bipush 60, 2, 60, 0) else none) else (bif Nat.beq pc 5 then some (.iload_n 2, 1, 0, 0) else none)) else (bif Nat.beq pc 4 then some (.istore_n 2, 1, 0, 0) else none)) else (bif Nat.ble 2 pc then (bif Nat.ble 3 pc then (bif Nat.beq pc 3 then some (.iconst 0, 1, 0, 0) else none) else (bif Nat.beq pc 2 then some (.istore_n 1, 1, 0, 0) else none)) else (bif Nat.beq pc 0 then some (.bipush (-4), 2, (-4), 0) else none))))
def I_X7_greatestStress : Nat → Option mjI := fun pc => bif Nat.ble 46 pc then none else J_X7_greatestStress pc
set_option maxRecDepth 100000 in
theorem I_X7_greatestStress_ok : ∀ pc row, I_X7_greatestStress pc = some row → mjrow Y0 cX7_greatestStress pc row = true ∧ mjrp (some .int) row.1 = true := mjchk_ok (n := 46) (by decide +kernel) (mjhi rfl)
def J_X7_minute : Nat → Option mjI := fun pc => bif Nat.ble 83 pc then (bif Nat.ble 134 pc then (bif Nat.ble 156 pc then (bif Nat.ble 168 pc then (bif Nat.ble 174 pc then (bif Nat.ble 180 pc then (bif Nat.ble 181 pc then (bif Nat.beq pc 181 then some (.ireturn, 1, 0, 0) else none) else (bif Nat.beq pc 180 then some (.iload_n 3, 1, 0, 0) else none)) else (bif Nat.ble 177 pc then (bif Nat.beq pc 177 then some (.goto (-68), 3, 0, 109) else none) else (bif Nat.beq pc 174 then some (.iinc 4 1, 3, 1, 0) else none))) else (bif Nat.ble 171 pc then (bif Nat.ble 173 pc then (bif Nat.beq pc 173 then some (.iastore, 1, 0, 0) else none) else (bif Nat.beq pc 171 then some (.iload 5, 2, 0, 0) else none)) else (bif Nat.beq pc 168 then some (.goto 5, 3, 0, 173) else none))) else (bif Nat.ble 161 pc then (bif Nat.ble 164 pc then (bif Nat.ble 167 pc then (bif Nat.beq pc 167 then some (.iconst 1, 1, 1, 0) else none) else (bif Nat.beq pc 164 then some (.if_icmp .ge 7, 3, 0, 171) else none)) else (bif Nat.ble 163 pc then (bif Nat.beq pc 163 then some (.iconst 1, 1, 1, 0) else none) else (bif Nat.beq pc 161 then some (.iload 5, 2, 0, 0) else none))) else (bif Nat.ble 158 pc then (bif Nat.ble 160 pc then (bif Nat.beq pc 160 then some (.iadd, 1, 0, 0) else none) else (bif Nat.beq pc 158 then some (.iload 4, 2, 0, 0) else none)) else (bif Nat.beq pc 156 then some (.bipush 104, 2, 104, 0) else none)))) else (bif Nat.ble 145 pc then (bif Nat.ble 149 pc then (bif Nat.ble 152 pc then (bif Nat.ble 153 pc then (bif Nat.beq pc 153 then some (.getfield 7, 3, 0, 0) else none) else (bif Nat.beq pc 152 then some (.aload_n 0, 1, 0, 0) else none)) else (bif Nat.ble 150 pc then (bif Nat.beq pc 150 then some (.istore 5, 2, 0, 0) else none) else (bif Nat.beq pc 149 then some (.idiv, 1, 0, 0) else none))) else (bif Nat.ble 146 pc then (bif Nat.ble 147 pc then (bif Nat.beq pc 147 then some (.bipush 10, 2, 10, 0) else none) else (bif Nat.beq pc 146 then some (.imul, 1, 0, 0) else none)) else (bif Nat.beq pc 145 then some (.iaload, 1, 0, 0) else none))) else (bif Nat.ble 140 pc then (bif Nat.ble 142 pc then (bif Nat.ble 144 pc then (bif Nat.beq pc 144 then some (.iadd, 1, 0, 0) else none) else (bif Nat.beq pc 142 then some (.iload 4, 2, 0, 0) else none)) else (bif Nat.beq pc 140 then some (.bipush 104, 2, 104, 0) else none)) else (bif Nat.ble 136 pc then (bif Nat.ble 137 pc then (bif Nat.beq pc 137 then some (.getfield 7, 3, 0, 0) else none) else (bif Nat.beq pc 136 then some (.aload_n 0, 1, 0, 0) else none)) else (bif Nat.beq pc 134 then some (.bipush 9, 2, 9, 0) else none))))) else (bif Nat.ble 105 pc then (bif Nat.ble 117 pc then (bif Nat.ble 125 pc then (bif Nat.ble 128 pc then (bif Nat.ble 131 pc then (bif Nat.beq pc 131 then some (.ifCond .eq 43, 3, 0, 174) else none) else (bif Nat.beq pc 128 then some (.invokestatic 86, 3, 0, 0) else none)) else (bif Nat.ble 126 pc then (bif Nat.beq pc 126 then some (.iload 4, 2, 0, 0) else none) else (bif Nat.beq pc 125 then some (.iload_n 3, 1, 0, 0) else none))) else (bif Nat.ble 119 pc then (bif Nat.ble 122 pc then (bif Nat.beq pc 122 then some (.ifCond .eq 52, 3, 0, 174) else none) else (bif Nat.beq pc 119 then some (.invokevirtual 63, 3, 0, 0) else none)) else (bif Nat.beq pc 117 then some (.iload 4, 2, 0, 0) else none))) else (bif Nat.ble 109 pc then (bif Nat.ble 113 pc then (bif Nat.ble 116 pc then (bif Nat.beq pc 116 then some (.aload_n 0, 1, 0, 0) else none) else (bif Nat.beq pc 113 then some (.if_icmp .ge 67, 3, 0, 180) else none)) else (bif Nat.ble 111 pc then (bif Nat.beq pc 111 then some (.bipush 60, 2, 60, 0) else none) else (bif Nat.beq pc 109 then some (.iload 4, 2, 0, 0) else none))) else (bif Nat.ble 106 pc then (bif Nat.ble 107 pc then (bif Nat.beq pc 107 then some (.istore 4, 2, 0, 0) else none) else (bif Nat.beq pc 106 then some (.iconst 0, 1, 0, 0) else none)) else (bif Nat.beq pc 105 then some (.iastore, 1, 0, 0) else none)))) else (bif Nat.ble 95 pc then (bif Nat.ble 99 pc then (bif Nat.ble 103 pc then (bif Nat.ble 104 pc then (bif Nat.beq pc 104 then some (.iaload, 1, 0, 0) else none) else (bif Nat.beq pc 103 then some (.iconst 3, 1, 3, 0) else none)) else (bif Nat.ble 100 pc then (bif Nat.beq pc 100 then some (.getfield 7, 3, 0, 0) else none) else (bif Nat.beq pc 99 then some (.aload_n 0, 1, 0, 0) else none))) else (bif Nat.ble 97 pc then (bif Nat.ble 98 pc then (bif Nat.beq pc 98 then some (.iadd, 1, 0, 0) else none) else (bif Nat.beq pc 97 then some (.iload_n 3, 1, 0, 0) else none)) else (bif Nat.beq pc 95 then some (.bipush 44, 2, 44, 0) else none))) else (bif Nat.ble 88 pc then (bif Nat.ble 91 pc then (bif Nat.ble 92 pc then (bif Nat.beq pc 92 then some (.getfield 7, 3, 0, 0) else none) else (bif Nat.beq pc 91 then some (.aload_n 0, 1, 0, 0) else none)) else (bif Nat.beq pc 88 then some (.ifCond .lt 92, 3, 0, 180) else none)) else (bif Nat.ble 86 pc then (bif Nat.ble 87 pc then (bif Nat.beq pc 87 then some (.iload_n 3, 1, 0, 0) else none) else (bif Nat.beq pc 86 then some (.istore_n 3, 1, 0, 0) else none)) else (bif Nat.beq pc 83 then some (.invokevirtual 83, 3, 0, 0) else none)))))) else (bif Nat.ble 42 pc then (bif Nat.ble 61 pc then (bif Nat.ble 72 pc then (bif Nat.ble 75 pc then (bif Nat.ble 79 pc then (bif Nat.ble 82 pc then (bif Nat.beq pc 82 then some (.aload_n 0, 1, 0, 0) else none) else (bif Nat.beq pc 79 then some (.putfield 80, 3, 0, 0) else none)) else (bif Nat.ble 76 pc then (bif Nat.beq pc 76 then some (.invokevirtual 76, 3, 0, 0) else none) else (bif Nat.beq pc 75 then some (.aload_n 0, 1, 0, 0) else none))) else (bif Nat.ble 73 pc then (bif Nat.ble 74 pc then (bif Nat.beq pc 74 then some (.aload_n 0, 1, 0, 0) else none) else (bif Nat.beq pc 73 then some (.iastore, 1, 0, 0) else none)) else (bif Nat.beq pc 72 then some (.iadd, 1, 0, 0) else none))) else (bif Nat.ble 68 pc then (bif Nat.ble 70 pc then (bif Nat.ble 71 pc then (bif Nat.beq pc 71 then some (.iconst 1, 1, 1, 0) else none) else (bif Nat.beq pc 70 then some (.iaload, 1, 0, 0) else none)) else (bif Nat.ble 69 pc then (bif Nat.beq pc 69 then some (.dup2, 1, 0, 0) else none) else (bif Nat.beq pc 68 then some (.iconst 3, 1, 3, 0) else none))) else (bif Nat.ble 64 pc then (bif Nat.ble 65 pc then (bif Nat.beq pc 65 then some (.getfield 7, 3, 0, 0) else none) else (bif Nat.beq pc 64 then some (.aload_n 0, 1, 0, 0) else none)) else (bif Nat.beq pc 61 then some (.invokevirtual 73, 3, 0, 0) else none)))) else (bif Nat.ble 52 pc then (bif Nat.ble 57 pc then (bif Nat.ble 59 pc then (bif Nat.ble 60 pc then (bif Nat.beq pc 60 then some (.aload_n 0, 1, 0, 0) else none) else (bif Nat.beq pc 59 then some (.iastore, 1, 0, 0) else none)) else (bif Nat.ble 58 pc then (bif Nat.beq pc 58 then some (.iadd, 1, 0, 0) else none) else (bif Nat.beq pc 57 then some (.iload_n 2, 1, 0, 0) else none))) else (bif Nat.ble 53 pc then (bif Nat.ble 54 pc then (bif Nat.beq pc 54 then some (.goto 4, 3, 0, 58) else none) else (bif Nat.beq pc 53 then some (.ineg, 1, 0, 0) else none)) else (bif Nat.beq pc 52 then some (.iload_n 2, 1, 0, 0) else none))) else (bif Nat.ble 47 pc then (bif Nat.ble 48 pc then (bif Nat.ble 49 pc then (bif Nat.beq pc 49 then some (.ifCond .ge 8, 3, 0, 57) else none) else (bif Nat.beq pc 48 then some (.iload_n 1, 1, 0, 0) else none)) else (bif Nat.beq pc 47 then some (.iaload, 1, 0, 0) else none)) else (bif Nat.ble 45 pc then (bif Nat.ble 46 pc then (bif Nat.beq pc 46 then some (.dup2, 1, 0, 0) else none) else (bif Nat.beq pc 45 then some (.iconst 0, 1, 0, 0) else none)) else (bif Nat.beq pc 42 then some (.getfield 7, 3, 0, 0) else none))))) else (bif Nat.ble 19 pc then (bif Nat.ble 31 pc then (bif Nat.ble 38 pc then (bif Nat.ble 40 pc then (bif Nat.ble 41 pc then (bif Nat.beq pc 41 then some (.aload_n 0, 1, 0, 0) else none) else (bif Nat.beq pc 40 then some (.istore_n 2, 1, 0, 0) else none)) else (bif Nat.ble 39 pc then (bif Nat.beq pc 39 then some (.iaload, 1, 0, 0) else none) else (bif Nat.beq pc 38 then some (.iconst 2, 1, 2, 0) else none))) else (bif Nat.ble 34 pc then (bif Nat.ble 35 pc then (bif Nat.beq pc 35 then some (.getfield 7, 3, 0, 0) else none) else (bif Nat.beq pc 34 then some (.aload_n 0, 1, 0, 0) else none)) else (bif Nat.beq pc 31 then some (.goto 9, 3, 0, 40) else none))) else (bif Nat.ble 24 pc then (bif Nat.ble 27 pc then (bif Nat.ble 28 pc then (bif Nat.beq pc 28 then some (.invokestatic 53, 3, 0, 0) else none) else (bif Nat.beq pc 27 then some (.iload_n 1, 1, 0, 0) else none)) else (bif Nat.beq pc 24 then some (.if_icmp .ge 10, 3, 0, 34) else none)) else (bif Nat.ble 22 pc then (bif Nat.ble 23 pc then (bif Nat.beq pc 23 then some (.iaload, 1, 0, 0) else none) else (bif Nat.beq pc 22 then some (.iconst 2, 1, 2, 0) else none)) else (bif Nat.beq pc 19 then some (.getfield 7, 3, 0, 0) else none)))) else (bif Nat.ble 10 pc then (bif Nat.ble 13 pc then (bif Nat.ble 15 pc then (bif Nat.ble 18 pc then (bif Nat.beq pc 18 then some (.aload_n 0, 1, 0, 0) else none) else (bif Nat.beq pc 15 then some (.invokestatic 53, 3, 0, 0) else none)) else (bif Nat.ble 14 pc then (bif Nat.beq pc 14 then some (.iload_n 1, 1, 0, 0) else none) else (bif Nat.beq pc 13 then some (.istore_n 1, 1, 0, 0) else none))) else (bif Nat.ble 11 pc then (bif Nat.ble 12 pc then (bif Nat.beq pc 12 then some (.isub, 1, 0, 0) else none) else (bif Nat.beq pc 11 then some (.iaload, 1, 0, 0) else none)) else (bif Nat.beq pc 10 then some (.iconst 0, 1, 0, 0) else none))) else (bif Nat.ble 5 pc then (bif Nat.ble 6 pc then (bif Nat.ble 7 pc then (bif Nat.beq pc 7 then some (.getfield 7, 3, 0, 0) else none) else (bif Nat.beq pc 6 then some (.aload_n 0, 1, 0, 0) else none)) else (bif Nat.beq pc 5 then some (.iaload, 1, 0, 0) else none)) else (bif Nat.ble 1 pc then (bif Nat.ble 4 pc then (bif Nat.beq pc 4 then some (.iconst 1, 1, 1, 0) else none) else (bif Nat.beq pc 1 then some (.getfield 7, 3, 0, 0) else none)) else (bif Nat.beq pc 0 then some (.aload_n 0, 1, 0, 0) else none))))))
def I_X7_minute : Nat → Option mjI := fun pc => bif Nat.ble 182 pc then none else J_X7_minute pc
set_option maxRecDepth 100000 in
theorem I_X7_minute_ok : ∀ pc row, I_X7_minute pc = some row → mjrow Y0 cX7_minute pc row = true ∧ mjrp (some .int) row.1 = true := mjchk_ok (n := 182) (by decide +kernel) (mjhi rfl)
def J_X7_goPass : Nat → Option mjI := fun pc => bif Nat.ble 14 pc then (bif Nat.ble 23 pc then (bif Nat.ble 27 pc then (bif Nat.ble 30 pc then (bif Nat.ble 31 pc then (bif Nat.beq pc 31 then some (.ireturn, 1, 0, 0) else none) else (bif Nat.beq pc 30 then some (.iload_n 2, 1, 0, 0) else none)) else (bif Nat.beq pc 27 then some (.goto (-23), 3, 0, 4) else none)) else (bif Nat.ble 24 pc then (bif Nat.beq pc 24 then some (.iinc 3 1, 3, 1, 0) else none) else (bif Nat.beq pc 23 then some (.istore_n 2, 1, 0, 0) else none))) else (bif Nat.ble 18 pc then (bif Nat.ble 21 pc then (bif Nat.ble 22 pc then (bif Nat.beq pc 22 then some (.iadd, 1, 0, 0) else none) else (bif Nat.beq pc 21 then some (.iconst 1, 1, 1, 0) else none)) else (bif Nat.beq pc 18 then some (.goto 4, 3, 0, 22) else none)) else (bif Nat.ble 17 pc then (bif Nat.beq pc 17 then some (.iconst 0, 1, 0, 0) else none) else (bif Nat.beq pc 14 then some (.ifCond .ge 7, 3, 0, 21) else none)))) else (bif Nat.ble 5 pc then (bif Nat.ble 9 pc then (bif Nat.ble 10 pc then (bif Nat.ble 11 pc then (bif Nat.beq pc 11 then some (.invokevirtual 89, 3, 0, 0) else none) else (bif Nat.beq pc 10 then some (.aload_n 0, 1, 0, 0) else none)) else (bif Nat.beq pc 9 then some (.iload_n 2, 1, 0, 0) else none)) else (bif Nat.ble 6 pc then (bif Nat.beq pc 6 then some (.if_icmp .ge 24, 3, 0, 30) else none) else (bif Nat.beq pc 5 then some (.iload_n 1, 1, 0, 0) else none))) else (bif Nat.ble 2 pc then (bif Nat.ble 3 pc then (bif Nat.ble 4 pc then (bif Nat.beq pc 4 then some (.iload_n 3, 1, 0, 0) else none) else (bif Nat.beq pc 3 then some (.istore_n 3, 1, 0, 0) else none)) else (bif Nat.beq pc 2 then some (.iconst 0, 1, 0, 0) else none)) else (bif Nat.ble 1 pc then (bif Nat.beq pc 1 then some (.istore_n 2, 1, 0, 0) else none) else (bif Nat.beq pc 0 then some (.iconst 0, 1, 0, 0) else none))))
def I_X7_goPass : Nat → Option mjI := fun pc => bif Nat.ble 32 pc then none else J_X7_goPass pc
set_option maxRecDepth 100000 in
theorem I_X7_goPass_ok : ∀ pc row, I_X7_goPass pc = some row → mjrow Y0 cX7_goPass pc row = true ∧ mjrp (some .int) row.1 = true := mjchk_ok (n := 32) (by decide +kernel) (mjhi rfl)
def J_X7_cracked : Nat → Option mjI := fun pc => bif Nat.ble 13 pc then (bif Nat.ble 24 pc then (bif Nat.ble 29 pc then (bif Nat.ble 32 pc then (bif Nat.ble 33 pc then (bif Nat.beq pc 33 then some (.ireturn, 1, 0, 0) else none) else (bif Nat.beq pc 32 then some (.iload_n 1, 1, 0, 0) else none)) else (bif Nat.beq pc 29 then some (.goto (-25), 3, 0, 4) else none)) else (bif Nat.ble 25 pc then (bif Nat.ble 26 pc then (bif Nat.beq pc 26 then some (.iinc 2 1, 3, 1, 0) else none) else (bif Nat.beq pc 25 then some (.istore_n 1, 1, 0, 0) else none)) else (bif Nat.beq pc 24 then some (.iadd, 1, 0, 0) else none))) else (bif Nat.ble 19 pc then (bif Nat.ble 20 pc then (bif Nat.ble 23 pc then (bif Nat.beq pc 23 then some (.iconst 1, 1, 1, 0) else none) else (bif Nat.beq pc 20 then some (.goto 4, 3, 0, 24) else none)) else (bif Nat.beq pc 19 then some (.iconst 0, 1, 0, 0) else none)) else (bif Nat.ble 16 pc then (bif Nat.beq pc 16 then some (.ifCond .eq 7, 3, 0, 23) else none) else (bif Nat.beq pc 13 then some (.invokevirtual 63, 3, 0, 0) else none)))) else (bif Nat.ble 5 pc then (bif Nat.ble 10 pc then (bif Nat.ble 11 pc then (bif Nat.ble 12 pc then (bif Nat.beq pc 12 then some (.iload_n 2, 1, 0, 0) else none) else (bif Nat.beq pc 11 then some (.aload_n 0, 1, 0, 0) else none)) else (bif Nat.beq pc 10 then some (.iload_n 1, 1, 0, 0) else none)) else (bif Nat.ble 7 pc then (bif Nat.beq pc 7 then some (.if_icmp .ge 25, 3, 0, 32) else none) else (bif Nat.beq pc 5 then some (.bipush 60, 2, 60, 0) else none))) else (bif Nat.ble 2 pc then (bif Nat.ble 3 pc then (bif Nat.ble 4 pc then (bif Nat.beq pc 4 then some (.iload_n 2, 1, 0, 0) else none) else (bif Nat.beq pc 3 then some (.istore_n 2, 1, 0, 0) else none)) else (bif Nat.beq pc 2 then some (.iconst 0, 1, 0, 0) else none)) else (bif Nat.ble 1 pc then (bif Nat.beq pc 1 then some (.istore_n 1, 1, 0, 0) else none) else (bif Nat.beq pc 0 then some (.iconst 0, 1, 0, 0) else none))))
def I_X7_cracked : Nat → Option mjI := fun pc => bif Nat.ble 34 pc then none else J_X7_cracked pc
set_option maxRecDepth 100000 in
theorem I_X7_cracked_ok : ∀ pc row, I_X7_cracked pc = some row → mjrow Y0 cX7_cracked pc row = true ∧ mjrp (some .int) row.1 = true := mjchk_ok (n := 34) (by decide +kernel) (mjhi rfl)
def J_X7_begin : Nat → Option mjI := fun pc => bif Nat.ble 12 pc then (bif Nat.ble 17 pc then (bif Nat.ble 19 pc then (bif Nat.ble 22 pc then (bif Nat.beq pc 22 then some (.ireturn, 1, 0, 0) else none) else (bif Nat.beq pc 19 then some (.invokevirtual 31, 3, 0, 0) else none)) else (bif Nat.ble 18 pc then (bif Nat.beq pc 18 then some (.iload_n 1, 1, 0, 0) else none) else (bif Nat.beq pc 17 then some (.aload_n 0, 1, 0, 0) else none))) else (bif Nat.ble 13 pc then (bif Nat.ble 14 pc then (bif Nat.beq pc 14 then some (.invokevirtual 92, 3, 0, 0) else none) else (bif Nat.beq pc 13 then some (.aload_n 0, 1, 0, 0) else none)) else (bif Nat.beq pc 12 then some (.ireturn, 1, 0, 0) else none))) else (bif Nat.ble 5 pc then (bif Nat.ble 8 pc then (bif Nat.ble 11 pc then (bif Nat.beq pc 11 then some (.iconst (-1), 1, (-1), 0) else none) else (bif Nat.beq pc 8 then some (.ifCond .ne 5, 3, 0, 13) else none)) else (bif Nat.beq pc 5 then some (.invokestatic 43, 3, 0, 0) else none)) else (bif Nat.ble 1 pc then (bif Nat.ble 2 pc then (bif Nat.beq pc 2 then some (.sipush 1000, 3, 1000, 0) else none) else (bif Nat.beq pc 1 then some (.iconst 0, 1, 0, 0) else none)) else (bif Nat.beq pc 0 then some (.iload_n 1, 1, 0, 0) else none)))
def I_X7_begin : Nat → Option mjI := fun pc => bif Nat.ble 23 pc then none else J_X7_begin pc
set_option maxRecDepth 100000 in
theorem I_X7_begin_ok : ∀ pc row, I_X7_begin pc = some row → mjrow Y0 cX7_begin pc row = true ∧ mjrp (some .int) row.1 = true := mjchk_ok (n := 23) (by decide +kernel) (mjhi rfl)
def J_X7_laysAim : Nat → Option mjI := fun pc => bif Nat.ble 7 pc then (bif Nat.ble 12 pc then (bif Nat.ble 13 pc then (bif Nat.ble 14 pc then (bif Nat.beq pc 14 then some (.return_, 1, 0, 0) else none) else (bif Nat.beq pc 13 then some (.iastore, 1, 0, 0) else none)) else (bif Nat.beq pc 12 then some (.iload_n 2, 1, 0, 0) else none)) else (bif Nat.ble 8 pc then (bif Nat.ble 11 pc then (bif Nat.beq pc 11 then some (.iconst 2, 1, 2, 0) else none) else (bif Nat.beq pc 8 then some (.getfield 7, 3, 0, 0) else none)) else (bif Nat.beq pc 7 then some (.aload_n 0, 1, 0, 0) else none))) else (bif Nat.ble 4 pc then (bif Nat.ble 5 pc then (bif Nat.ble 6 pc then (bif Nat.beq pc 6 then some (.iastore, 1, 0, 0) else none) else (bif Nat.beq pc 5 then some (.iload_n 1, 1, 0, 0) else none)) else (bif Nat.beq pc 4 then some (.iconst 1, 1, 1, 0) else none)) else (bif Nat.ble 1 pc then (bif Nat.beq pc 1 then some (.getfield 7, 3, 0, 0) else none) else (bif Nat.beq pc 0 then some (.aload_n 0, 1, 0, 0) else none)))
def I_X7_laysAim : Nat → Option mjI := fun pc => bif Nat.ble 15 pc then none else J_X7_laysAim pc
set_option maxRecDepth 100000 in
theorem I_X7_laysAim_ok : ∀ pc row, I_X7_laysAim pc = some row → mjrow Y0 cX7_laysAim pc row = true ∧ mjrp none row.1 = true := mjchk_ok (n := 15) (by decide +kernel) (mjhi rfl)
def J_X7_aim : Nat → Option mjI := fun pc => bif Nat.ble 23 pc then (bif Nat.ble 33 pc then (bif Nat.ble 36 pc then (bif Nat.ble 40 pc then (bif Nat.ble 41 pc then (bif Nat.beq pc 41 then some (.ireturn, 1, 0, 0) else none) else (bif Nat.beq pc 40 then some (.iload_n 3, 1, 0, 0) else none)) else (bif Nat.ble 37 pc then (bif Nat.beq pc 37 then some (.invokevirtual 95, 3, 0, 0) else none) else (bif Nat.beq pc 36 then some (.iload_n 2, 1, 0, 0) else none))) else (bif Nat.ble 34 pc then (bif Nat.ble 35 pc then (bif Nat.beq pc 35 then some (.iload_n 1, 1, 0, 0) else none) else (bif Nat.beq pc 34 then some (.aload_n 0, 1, 0, 0) else none)) else (bif Nat.beq pc 33 then some (.istore_n 3, 1, 0, 0) else none))) else (bif Nat.ble 28 pc then (bif Nat.ble 31 pc then (bif Nat.ble 32 pc then (bif Nat.beq pc 32 then some (.iaload, 1, 0, 0) else none) else (bif Nat.beq pc 31 then some (.iconst 1, 1, 1, 0) else none)) else (bif Nat.beq pc 28 then some (.getfield 7, 3, 0, 0) else none)) else (bif Nat.ble 24 pc then (bif Nat.ble 27 pc then (bif Nat.beq pc 27 then some (.aload_n 0, 1, 0, 0) else none) else (bif Nat.beq pc 24 then some (.invokevirtual 92, 3, 0, 0) else none)) else (bif Nat.beq pc 23 then some (.aload_n 0, 1, 0, 0) else none)))) else (bif Nat.ble 12 pc then (bif Nat.ble 18 pc then (bif Nat.ble 21 pc then (bif Nat.ble 22 pc then (bif Nat.beq pc 22 then some (.ireturn, 1, 0, 0) else none) else (bif Nat.beq pc 21 then some (.iconst (-1), 1, (-1), 0) else none)) else (bif Nat.beq pc 18 then some (.ifCond .ne 5, 3, 0, 23) else none)) else (bif Nat.ble 13 pc then (bif Nat.ble 15 pc then (bif Nat.beq pc 15 then some (.invokestatic 43, 3, 0, 0) else none) else (bif Nat.beq pc 13 then some (.bipush 100, 2, 100, 0) else none)) else (bif Nat.beq pc 12 then some (.iconst 1, 1, 1, 0) else none))) else (bif Nat.ble 5 pc then (bif Nat.ble 8 pc then (bif Nat.ble 11 pc then (bif Nat.beq pc 11 then some (.iload_n 2, 1, 0, 0) else none) else (bif Nat.beq pc 8 then some (.ifCond .eq 13, 3, 0, 21) else none)) else (bif Nat.beq pc 5 then some (.invokestatic 43, 3, 0, 0) else none)) else (bif Nat.ble 1 pc then (bif Nat.ble 2 pc then (bif Nat.beq pc 2 then some (.sipush 1000, 3, 1000, 0) else none) else (bif Nat.beq pc 1 then some (.iconst 0, 1, 0, 0) else none)) else (bif Nat.beq pc 0 then some (.iload_n 1, 1, 0, 0) else none))))
def I_X7_aim : Nat → Option mjI := fun pc => bif Nat.ble 42 pc then none else J_X7_aim pc
set_option maxRecDepth 100000 in
theorem I_X7_aim_ok : ∀ pc row, I_X7_aim pc = some row → mjrow Y0 cX7_aim pc row = true ∧ mjrp (some .int) row.1 = true := mjchk_ok (n := 42) (by decide +kernel) (mjhi rfl)
def J_X7_pass : Nat → Option mjI := fun pc => bif Nat.ble 11 pc then (bif Nat.ble 16 pc then (bif Nat.ble 18 pc then (bif Nat.ble 21 pc then (bif Nat.beq pc 21 then some (.ireturn, 1, 0, 0) else none) else (bif Nat.beq pc 18 then some (.invokevirtual 99, 3, 0, 0) else none)) else (bif Nat.ble 17 pc then (bif Nat.beq pc 17 then some (.iload_n 1, 1, 0, 0) else none) else (bif Nat.beq pc 16 then some (.aload_n 0, 1, 0, 0) else none))) else (bif Nat.ble 12 pc then (bif Nat.ble 13 pc then (bif Nat.beq pc 13 then some (.invokevirtual 92, 3, 0, 0) else none) else (bif Nat.beq pc 12 then some (.aload_n 0, 1, 0, 0) else none)) else (bif Nat.beq pc 11 then some (.ireturn, 1, 0, 0) else none))) else (bif Nat.ble 4 pc then (bif Nat.ble 7 pc then (bif Nat.ble 10 pc then (bif Nat.beq pc 10 then some (.iconst (-1), 1, (-1), 0) else none) else (bif Nat.beq pc 7 then some (.ifCond .ne 5, 3, 0, 12) else none)) else (bif Nat.beq pc 4 then some (.invokestatic 43, 3, 0, 0) else none)) else (bif Nat.ble 1 pc then (bif Nat.ble 2 pc then (bif Nat.beq pc 2 then some (.bipush 99, 2, 99, 0) else none) else (bif Nat.beq pc 1 then some (.iconst 1, 1, 1, 0) else none)) else (bif Nat.beq pc 0 then some (.iload_n 1, 1, 0, 0) else none)))
def I_X7_pass : Nat → Option mjI := fun pc => bif Nat.ble 22 pc then none else J_X7_pass pc
set_option maxRecDepth 100000 in
theorem I_X7_pass_ok : ∀ pc row, I_X7_pass pc = some row → mjrow Y0 cX7_pass pc row = true ∧ mjrp (some .int) row.1 = true := mjchk_ok (n := 22) (by decide +kernel) (mjhi rfl)
def J_X7_scratch : Nat → Option mjI := fun pc => bif Nat.ble 32 pc then (bif Nat.ble 45 pc then (bif Nat.ble 52 pc then (bif Nat.ble 54 pc then (bif Nat.ble 55 pc then (bif Nat.ble 56 pc then (bif Nat.beq pc 56 then some (.ireturn, 1, 0, 0) else none) else (bif Nat.beq pc 55 then some (.iload_n 3, 1, 0, 0) else none)) else (bif Nat.beq pc 54 then some (.iastore, 1, 0, 0) else none)) else (bif Nat.ble 53 pc then (bif Nat.beq pc 53 then some (.iload_n 2, 1, 0, 0) else none) else (bif Nat.beq pc 52 then some (.iadd, 1, 0, 0) else none))) else (bif Nat.ble 49 pc then (bif Nat.ble 51 pc then (bif Nat.beq pc 51 then some (.iload_n 1, 1, 0, 0) else none) else (bif Nat.beq pc 49 then some (.bipush 104, 2, 104, 0) else none)) else (bif Nat.ble 46 pc then (bif Nat.beq pc 46 then some (.getfield 7, 3, 0, 0) else none) else (bif Nat.beq pc 45 then some (.aload_n 0, 1, 0, 0) else none)))) else (bif Nat.ble 41 pc then (bif Nat.ble 43 pc then (bif Nat.ble 44 pc then (bif Nat.beq pc 44 then some (.istore_n 3, 1, 0, 0) else none) else (bif Nat.beq pc 43 then some (.iaload, 1, 0, 0) else none)) else (bif Nat.ble 42 pc then (bif Nat.beq pc 42 then some (.iadd, 1, 0, 0) else none) else (bif Nat.beq pc 41 then some (.iload_n 1, 1, 0, 0) else none))) else (bif Nat.ble 36 pc then (bif Nat.ble 39 pc then (bif Nat.beq pc 39 then some (.bipush 104, 2, 104, 0) else none) else (bif Nat.beq pc 36 then some (.getfield 7, 3, 0, 0) else none)) else (bif Nat.ble 35 pc then (bif Nat.beq pc 35 then some (.aload_n 0, 1, 0, 0) else none) else (bif Nat.beq pc 32 then some (.invokevirtual 92, 3, 0, 0) else none))))) else (bif Nat.ble 18 pc then (bif Nat.ble 22 pc then (bif Nat.ble 28 pc then (bif Nat.ble 30 pc then (bif Nat.ble 31 pc then (bif Nat.beq pc 31 then some (.aload_n 0, 1, 0, 0) else none) else (bif Nat.beq pc 30 then some (.ireturn, 1, 0, 0) else none)) else (bif Nat.beq pc 28 then some (.bipush (-2), 2, (-2), 0) else none)) else (bif Nat.ble 25 pc then (bif Nat.beq pc 25 then some (.ifCond .ne 6, 3, 0, 31) else none) else (bif Nat.beq pc 22 then some (.invokevirtual 63, 3, 0, 0) else none))) else (bif Nat.ble 20 pc then (bif Nat.ble 21 pc then (bif Nat.beq pc 21 then some (.iload_n 1, 1, 0, 0) else none) else (bif Nat.beq pc 20 then some (.aload_n 0, 1, 0, 0) else none)) else (bif Nat.ble 19 pc then (bif Nat.beq pc 19 then some (.ireturn, 1, 0, 0) else none) else (bif Nat.beq pc 18 then some (.iconst (-1), 1, (-1), 0) else none)))) else (bif Nat.ble 8 pc then (bif Nat.ble 12 pc then (bif Nat.ble 15 pc then (bif Nat.beq pc 15 then some (.ifCond .ne 5, 3, 0, 20) else none) else (bif Nat.beq pc 12 then some (.invokestatic 43, 3, 0, 0) else none)) else (bif Nat.ble 9 pc then (bif Nat.beq pc 9 then some (.sipush 500, 3, 500, 0) else none) else (bif Nat.beq pc 8 then some (.iconst 1, 1, 1, 0) else none))) else (bif Nat.ble 4 pc then (bif Nat.ble 7 pc then (bif Nat.beq pc 7 then some (.iload_n 2, 1, 0, 0) else none) else (bif Nat.beq pc 4 then some (.ifCond .eq 14, 3, 0, 18) else none)) else (bif Nat.ble 1 pc then (bif Nat.beq pc 1 then some (.invokestatic 102, 3, 0, 0) else none) else (bif Nat.beq pc 0 then some (.iload_n 1, 1, 0, 0) else none)))))
def I_X7_scratch : Nat → Option mjI := fun pc => bif Nat.ble 57 pc then none else J_X7_scratch pc
set_option maxRecDepth 100000 in
theorem I_X7_scratch_ok : ∀ pc row, I_X7_scratch pc = some row → mjrow Y0 cX7_scratch pc row = true ∧ mjrp (some .int) row.1 = true := mjchk_ok (n := 57) (by decide +kernel) (mjhi rfl)
def J_X7_mend : Nat → Option mjI := fun pc => bif Nat.ble 28 pc then (bif Nat.ble 38 pc then (bif Nat.ble 44 pc then (bif Nat.ble 46 pc then (bif Nat.ble 49 pc then (bif Nat.beq pc 49 then some (.ireturn, 1, 0, 0) else none) else (bif Nat.beq pc 46 then some (.invokevirtual 105, 3, 0, 0) else none)) else (bif Nat.ble 45 pc then (bif Nat.beq pc 45 then some (.aload_n 0, 1, 0, 0) else none) else (bif Nat.beq pc 44 then some (.iastore, 1, 0, 0) else none))) else (bif Nat.ble 41 pc then (bif Nat.ble 42 pc then (bif Nat.beq pc 42 then some (.bipush 50, 2, 50, 0) else none) else (bif Nat.beq pc 41 then some (.iadd, 1, 0, 0) else none)) else (bif Nat.ble 40 pc then (bif Nat.beq pc 40 then some (.iload_n 1, 1, 0, 0) else none) else (bif Nat.beq pc 38 then some (.bipush 104, 2, 104, 0) else none)))) else (bif Nat.ble 32 pc then (bif Nat.ble 34 pc then (bif Nat.ble 35 pc then (bif Nat.beq pc 35 then some (.getfield 7, 3, 0, 0) else none) else (bif Nat.beq pc 34 then some (.aload_n 0, 1, 0, 0) else none)) else (bif Nat.ble 33 pc then (bif Nat.beq pc 33 then some (.iastore, 1, 0, 0) else none) else (bif Nat.beq pc 32 then some (.iconst 0, 1, 0, 0) else none))) else (bif Nat.ble 30 pc then (bif Nat.ble 31 pc then (bif Nat.beq pc 31 then some (.iadd, 1, 0, 0) else none) else (bif Nat.beq pc 30 then some (.iload_n 1, 1, 0, 0) else none)) else (bif Nat.beq pc 28 then some (.bipush 44, 2, 44, 0) else none)))) else (bif Nat.ble 11 pc then (bif Nat.ble 20 pc then (bif Nat.ble 24 pc then (bif Nat.ble 25 pc then (bif Nat.beq pc 25 then some (.getfield 7, 3, 0, 0) else none) else (bif Nat.beq pc 24 then some (.aload_n 0, 1, 0, 0) else none)) else (bif Nat.ble 21 pc then (bif Nat.beq pc 21 then some (.invokevirtual 92, 3, 0, 0) else none) else (bif Nat.beq pc 20 then some (.aload_n 0, 1, 0, 0) else none))) else (bif Nat.ble 17 pc then (bif Nat.ble 19 pc then (bif Nat.beq pc 19 then some (.ireturn, 1, 0, 0) else none) else (bif Nat.beq pc 17 then some (.bipush (-2), 2, (-2), 0) else none)) else (bif Nat.ble 14 pc then (bif Nat.beq pc 14 then some (.ifCond .eq 6, 3, 0, 20) else none) else (bif Nat.beq pc 11 then some (.invokevirtual 63, 3, 0, 0) else none)))) else (bif Nat.ble 7 pc then (bif Nat.ble 9 pc then (bif Nat.ble 10 pc then (bif Nat.beq pc 10 then some (.iload_n 1, 1, 0, 0) else none) else (bif Nat.beq pc 9 then some (.aload_n 0, 1, 0, 0) else none)) else (bif Nat.ble 8 pc then (bif Nat.beq pc 8 then some (.ireturn, 1, 0, 0) else none) else (bif Nat.beq pc 7 then some (.iconst (-1), 1, (-1), 0) else none))) else (bif Nat.ble 1 pc then (bif Nat.ble 4 pc then (bif Nat.beq pc 4 then some (.ifCond .ne 5, 3, 0, 9) else none) else (bif Nat.beq pc 1 then some (.invokestatic 102, 3, 0, 0) else none)) else (bif Nat.beq pc 0 then some (.iload_n 1, 1, 0, 0) else none))))
def I_X7_mend : Nat → Option mjI := fun pc => bif Nat.ble 50 pc then none else J_X7_mend pc
set_option maxRecDepth 100000 in
theorem I_X7_mend_ok : ∀ pc row, I_X7_mend pc = some row → mjrow Y0 cX7_mend pc row = true ∧ mjrp (some .int) row.1 = true := mjchk_ok (n := 50) (by decide +kernel) (mjhi rfl)
def J_X7_heat : Nat → Option mjI := fun pc => bif Nat.ble 50 pc then (bif Nat.ble 71 pc then (bif Nat.ble 78 pc then (bif Nat.ble 84 pc then (bif Nat.ble 86 pc then (bif Nat.ble 87 pc then (bif Nat.beq pc 87 then some (.ireturn, 1, 0, 0) else none) else (bif Nat.beq pc 86 then some (.iaload, 1, 0, 0) else none)) else (bif Nat.ble 85 pc then (bif Nat.beq pc 85 then some (.iadd, 1, 0, 0) else none) else (bif Nat.beq pc 84 then some (.iload_n 1, 1, 0, 0) else none))) else (bif Nat.ble 79 pc then (bif Nat.ble 82 pc then (bif Nat.beq pc 82 then some (.bipush 8, 2, 8, 0) else none) else (bif Nat.beq pc 79 then some (.getfield 7, 3, 0, 0) else none)) else (bif Nat.beq pc 78 then some (.aload_n 0, 1, 0, 0) else none))) else (bif Nat.ble 74 pc then (bif Nat.ble 76 pc then (bif Nat.ble 77 pc then (bif Nat.beq pc 77 then some (.iastore, 1, 0, 0) else none) else (bif Nat.beq pc 76 then some (.iadd, 1, 0, 0) else none)) else (bif Nat.ble 75 pc then (bif Nat.beq pc 75 then some (.isub, 1, 0, 0) else none) else (bif Nat.beq pc 74 then some (.iload_n 3, 1, 0, 0) else none))) else (bif Nat.ble 72 pc then (bif Nat.ble 73 pc then (bif Nat.beq pc 73 then some (.iaload, 1, 0, 0) else none) else (bif Nat.beq pc 72 then some (.iadd, 1, 0, 0) else none)) else (bif Nat.beq pc 71 then some (.iload_n 1, 1, 0, 0) else none)))) else (bif Nat.ble 59 pc then (bif Nat.ble 64 pc then (bif Nat.ble 66 pc then (bif Nat.ble 69 pc then (bif Nat.beq pc 69 then some (.bipush 8, 2, 8, 0) else none) else (bif Nat.beq pc 66 then some (.getfield 7, 3, 0, 0) else none)) else (bif Nat.ble 65 pc then (bif Nat.beq pc 65 then some (.aload_n 0, 1, 0, 0) else none) else (bif Nat.beq pc 64 then some (.iaload, 1, 0, 0) else none))) else (bif Nat.ble 62 pc then (bif Nat.ble 63 pc then (bif Nat.beq pc 63 then some (.dup2, 1, 0, 0) else none) else (bif Nat.beq pc 62 then some (.iconst 5, 1, 5, 0) else none)) else (bif Nat.beq pc 59 then some (.getfield 7, 3, 0, 0) else none))) else (bif Nat.ble 55 pc then (bif Nat.ble 57 pc then (bif Nat.ble 58 pc then (bif Nat.beq pc 58 then some (.aload_n 0, 1, 0, 0) else none) else (bif Nat.beq pc 57 then some (.iastore, 1, 0, 0) else none)) else (bif Nat.ble 56 pc then (bif Nat.beq pc 56 then some (.iadd, 1, 0, 0) else none) else (bif Nat.beq pc 55 then some (.iload_n 2, 1, 0, 0) else none))) else (bif Nat.ble 51 pc then (bif Nat.ble 54 pc then (bif Nat.beq pc 54 then some (.iload_n 3, 1, 0, 0) else none) else (bif Nat.beq pc 51 then some (.goto 6, 3, 0, 57) else none)) else (bif Nat.beq pc 50 then some (.iconst 0, 1, 0, 0) else none))))) else (bif Nat.ble 30 pc then (bif Nat.ble 40 pc then (bif Nat.ble 44 pc then (bif Nat.ble 46 pc then (bif Nat.ble 47 pc then (bif Nat.beq pc 47 then some (.ifCond .ge 7, 3, 0, 54) else none) else (bif Nat.beq pc 46 then some (.iadd, 1, 0, 0) else none)) else (bif Nat.ble 45 pc then (bif Nat.beq pc 45 then some (.iload_n 2, 1, 0, 0) else none) else (bif Nat.beq pc 44 then some (.iload_n 3, 1, 0, 0) else none))) else (bif Nat.ble 42 pc then (bif Nat.ble 43 pc then (bif Nat.beq pc 43 then some (.iadd, 1, 0, 0) else none) else (bif Nat.beq pc 42 then some (.iload_n 1, 1, 0, 0) else none)) else (bif Nat.beq pc 40 then some (.bipush 8, 2, 8, 0) else none))) else (bif Nat.ble 34 pc then (bif Nat.ble 36 pc then (bif Nat.ble 37 pc then (bif Nat.beq pc 37 then some (.getfield 7, 3, 0, 0) else none) else (bif Nat.beq pc 36 then some (.aload_n 0, 1, 0, 0) else none)) else (bif Nat.ble 35 pc then (bif Nat.beq pc 35 then some (.istore_n 3, 1, 0, 0) else none) else (bif Nat.beq pc 34 then some (.iaload, 1, 0, 0) else none))) else (bif Nat.ble 32 pc then (bif Nat.ble 33 pc then (bif Nat.beq pc 33 then some (.iadd, 1, 0, 0) else none) else (bif Nat.beq pc 32 then some (.iload_n 1, 1, 0, 0) else none)) else (bif Nat.beq pc 30 then some (.bipush 8, 2, 8, 0) else none)))) else (bif Nat.ble 17 pc then (bif Nat.ble 22 pc then (bif Nat.ble 26 pc then (bif Nat.ble 27 pc then (bif Nat.beq pc 27 then some (.getfield 7, 3, 0, 0) else none) else (bif Nat.beq pc 26 then some (.aload_n 0, 1, 0, 0) else none)) else (bif Nat.ble 23 pc then (bif Nat.beq pc 23 then some (.invokevirtual 92, 3, 0, 0) else none) else (bif Nat.beq pc 22 then some (.aload_n 0, 1, 0, 0) else none))) else (bif Nat.ble 20 pc then (bif Nat.ble 21 pc then (bif Nat.beq pc 21 then some (.ireturn, 1, 0, 0) else none) else (bif Nat.beq pc 20 then some (.iconst (-1), 1, (-1), 0) else none)) else (bif Nat.beq pc 17 then some (.ifCond .ne 5, 3, 0, 22) else none))) else (bif Nat.ble 7 pc then (bif Nat.ble 11 pc then (bif Nat.ble 14 pc then (bif Nat.beq pc 14 then some (.invokestatic 43, 3, 0, 0) else none) else (bif Nat.beq pc 11 then some (.sipush 200, 3, 200, 0) else none)) else (bif Nat.ble 8 pc then (bif Nat.beq pc 8 then some (.sipush (-200), 3, (-200), 0) else none) else (bif Nat.beq pc 7 then some (.iload_n 2, 1, 0, 0) else none))) else (bif Nat.ble 1 pc then (bif Nat.ble 4 pc then (bif Nat.beq pc 4 then some (.ifCond .eq 16, 3, 0, 20) else none) else (bif Nat.beq pc 1 then some (.invokestatic 108, 3, 0, 0) else none)) else (bif Nat.beq pc 0 then some (.iload_n 1, 1, 0, 0) else none)))))
def I_X7_heat : Nat → Option mjI := fun pc => bif Nat.ble 88 pc then none else J_X7_heat pc
set_option maxRecDepth 100000 in
theorem I_X7_heat_ok : ∀ pc row, I_X7_heat pc = some row → mjrow Y0 cX7_heat pc row = true ∧ mjrp (some .int) row.1 = true := mjchk_ok (n := 88) (by decide +kernel) (mjhi rfl)
def J_X7_set : Nat → Option mjI := fun pc => bif Nat.ble 26 pc then (bif Nat.ble 36 pc then (bif Nat.ble 43 pc then (bif Nat.ble 45 pc then (bif Nat.ble 46 pc then (bif Nat.beq pc 46 then some (.ireturn, 1, 0, 0) else none) else (bif Nat.beq pc 45 then some (.iload_n 3, 1, 0, 0) else none)) else (bif Nat.ble 44 pc then (bif Nat.beq pc 44 then some (.iastore, 1, 0, 0) else none) else (bif Nat.beq pc 43 then some (.iload_n 2, 1, 0, 0) else none))) else (bif Nat.ble 41 pc then (bif Nat.ble 42 pc then (bif Nat.beq pc 42 then some (.iadd, 1, 0, 0) else none) else (bif Nat.beq pc 41 then some (.iload_n 1, 1, 0, 0) else none)) else (bif Nat.ble 39 pc then (bif Nat.beq pc 39 then some (.bipush 6, 2, 6, 0) else none) else (bif Nat.beq pc 36 then some (.getfield 7, 3, 0, 0) else none)))) else (bif Nat.ble 32 pc then (bif Nat.ble 34 pc then (bif Nat.ble 35 pc then (bif Nat.beq pc 35 then some (.aload_n 0, 1, 0, 0) else none) else (bif Nat.beq pc 34 then some (.istore_n 3, 1, 0, 0) else none)) else (bif Nat.ble 33 pc then (bif Nat.beq pc 33 then some (.iaload, 1, 0, 0) else none) else (bif Nat.beq pc 32 then some (.iadd, 1, 0, 0) else none))) else (bif Nat.ble 29 pc then (bif Nat.ble 31 pc then (bif Nat.beq pc 31 then some (.iload_n 1, 1, 0, 0) else none) else (bif Nat.beq pc 29 then some (.bipush 6, 2, 6, 0) else none)) else (bif Nat.beq pc 26 then some (.getfield 7, 3, 0, 0) else none)))) else (bif Nat.ble 11 pc then (bif Nat.ble 20 pc then (bif Nat.ble 22 pc then (bif Nat.ble 25 pc then (bif Nat.beq pc 25 then some (.aload_n 0, 1, 0, 0) else none) else (bif Nat.beq pc 22 then some (.invokevirtual 92, 3, 0, 0) else none)) else (bif Nat.ble 21 pc then (bif Nat.beq pc 21 then some (.aload_n 0, 1, 0, 0) else none) else (bif Nat.beq pc 20 then some (.ireturn, 1, 0, 0) else none))) else (bif Nat.ble 16 pc then (bif Nat.ble 19 pc then (bif Nat.beq pc 19 then some (.iconst (-1), 1, (-1), 0) else none) else (bif Nat.beq pc 16 then some (.ifCond .ne 5, 3, 0, 21) else none)) else (bif Nat.ble 13 pc then (bif Nat.beq pc 13 then some (.invokestatic 43, 3, 0, 0) else none) else (bif Nat.beq pc 11 then some (.bipush 20, 2, 20, 0) else none)))) else (bif Nat.ble 3 pc then (bif Nat.ble 9 pc then (bif Nat.ble 10 pc then (bif Nat.beq pc 10 then some (.iconst 0, 1, 0, 0) else none) else (bif Nat.beq pc 9 then some (.iload_n 2, 1, 0, 0) else none)) else (bif Nat.ble 6 pc then (bif Nat.beq pc 6 then some (.ifCond .eq 13, 3, 0, 19) else none) else (bif Nat.beq pc 3 then some (.invokestatic 43, 3, 0, 0) else none))) else (bif Nat.ble 1 pc then (bif Nat.ble 2 pc then (bif Nat.beq pc 2 then some (.iconst 1, 1, 1, 0) else none) else (bif Nat.beq pc 1 then some (.iconst 0, 1, 0, 0) else none)) else (bif Nat.beq pc 0 then some (.iload_n 1, 1, 0, 0) else none))))
def I_X7_set : Nat → Option mjI := fun pc => bif Nat.ble 47 pc then none else J_X7_set pc
set_option maxRecDepth 100000 in
theorem I_X7_set_ok : ∀ pc row, I_X7_set pc = some row → mjrow Y0 cX7_set pc row = true ∧ mjrp (some .int) row.1 = true := mjchk_ok (n := 47) (by decide +kernel) (mjhi rfl)
def J_X7_append : Nat → Option mjI := fun pc => bif Nat.ble 26 pc then (bif Nat.ble 37 pc then (bif Nat.ble 42 pc then (bif Nat.ble 46 pc then (bif Nat.ble 49 pc then (bif Nat.beq pc 49 then some (.ireturn, 1, 0, 0) else none) else (bif Nat.beq pc 46 then some (.getfield 111, 3, 0, 0) else none)) else (bif Nat.ble 45 pc then (bif Nat.beq pc 45 then some (.aload_n 0, 1, 0, 0) else none) else (bif Nat.beq pc 42 then some (.putfield 111, 3, 0, 0) else none))) else (bif Nat.ble 40 pc then (bif Nat.ble 41 pc then (bif Nat.beq pc 41 then some (.iadd, 1, 0, 0) else none) else (bif Nat.beq pc 40 then some (.iconst 1, 1, 1, 0) else none)) else (bif Nat.beq pc 37 then some (.getfield 111, 3, 0, 0) else none))) else (bif Nat.ble 33 pc then (bif Nat.ble 35 pc then (bif Nat.ble 36 pc then (bif Nat.beq pc 36 then some (.dup, 1, 0, 0) else none) else (bif Nat.beq pc 35 then some (.aload_n 0, 1, 0, 0) else none)) else (bif Nat.ble 34 pc then (bif Nat.beq pc 34 then some (.iastore, 1, 0, 0) else none) else (bif Nat.beq pc 33 then some (.iload_n 1, 1, 0, 0) else none))) else (bif Nat.ble 29 pc then (bif Nat.ble 30 pc then (bif Nat.beq pc 30 then some (.getfield 111, 3, 0, 0) else none) else (bif Nat.beq pc 29 then some (.aload_n 0, 1, 0, 0) else none)) else (bif Nat.beq pc 26 then some (.getfield 22, 3, 0, 0) else none)))) else (bif Nat.ble 13 pc then (bif Nat.ble 19 pc then (bif Nat.ble 24 pc then (bif Nat.ble 25 pc then (bif Nat.beq pc 25 then some (.aload_n 0, 1, 0, 0) else none) else (bif Nat.beq pc 24 then some (.ireturn, 1, 0, 0) else none)) else (bif Nat.ble 22 pc then (bif Nat.beq pc 22 then some (.bipush (-3), 2, (-3), 0) else none) else (bif Nat.beq pc 19 then some (.if_icmp .ne 6, 3, 0, 25) else none))) else (bif Nat.ble 14 pc then (bif Nat.ble 17 pc then (bif Nat.beq pc 17 then some (.bipush 60, 2, 60, 0) else none) else (bif Nat.beq pc 14 then some (.getfield 111, 3, 0, 0) else none)) else (bif Nat.beq pc 13 then some (.aload_n 0, 1, 0, 0) else none))) else (bif Nat.ble 5 pc then (bif Nat.ble 11 pc then (bif Nat.ble 12 pc then (bif Nat.beq pc 12 then some (.ireturn, 1, 0, 0) else none) else (bif Nat.beq pc 11 then some (.iconst (-1), 1, (-1), 0) else none)) else (bif Nat.ble 8 pc then (bif Nat.beq pc 8 then some (.ifCond .ne 5, 3, 0, 13) else none) else (bif Nat.beq pc 5 then some (.invokestatic 43, 3, 0, 0) else none))) else (bif Nat.ble 1 pc then (bif Nat.ble 3 pc then (bif Nat.beq pc 3 then some (.bipush 126, 2, 126, 0) else none) else (bif Nat.beq pc 1 then some (.bipush 33, 2, 33, 0) else none)) else (bif Nat.beq pc 0 then some (.iload_n 1, 1, 0, 0) else none))))
def I_X7_append : Nat → Option mjI := fun pc => bif Nat.ble 50 pc then none else J_X7_append pc
set_option maxRecDepth 100000 in
theorem I_X7_append_ok : ∀ pc row, I_X7_append pc = some row → mjrow Y0 cX7_append pc row = true ∧ mjrp (some .int) row.1 = true := mjchk_ok (n := 50) (by decide +kernel) (mjhi rfl)
def J_X7_clear : Nat → Option mjI := fun pc => bif Nat.ble 6 pc then (bif Nat.ble 10 pc then (bif Nat.ble 11 pc then (bif Nat.beq pc 11 then some (.ireturn, 1, 0, 0) else none) else (bif Nat.beq pc 10 then some (.iload_n 1, 1, 0, 0) else none)) else (bif Nat.ble 7 pc then (bif Nat.beq pc 7 then some (.putfield 111, 3, 0, 0) else none) else (bif Nat.beq pc 6 then some (.iconst 0, 1, 0, 0) else none))) else (bif Nat.ble 4 pc then (bif Nat.ble 5 pc then (bif Nat.beq pc 5 then some (.aload_n 0, 1, 0, 0) else none) else (bif Nat.beq pc 4 then some (.istore_n 1, 1, 0, 0) else none)) else (bif Nat.ble 1 pc then (bif Nat.beq pc 1 then some (.getfield 111, 3, 0, 0) else none) else (bif Nat.beq pc 0 then some (.aload_n 0, 1, 0, 0) else none)))
def I_X7_clear : Nat → Option mjI := fun pc => bif Nat.ble 12 pc then none else J_X7_clear pc
set_option maxRecDepth 100000 in
theorem I_X7_clear_ok : ∀ pc row, I_X7_clear pc = some row → mjrow Y0 cX7_clear pc row = true ∧ mjrp (some .int) row.1 = true := mjchk_ok (n := 12) (by decide +kernel) (mjhi rfl)
def J_X7_here : Nat → Option mjI := fun pc => bif Nat.ble 12 pc then (bif Nat.ble 19 pc then (bif Nat.ble 23 pc then (bif Nat.ble 24 pc then (bif Nat.beq pc 24 then some (.ireturn, 1, 0, 0) else none) else (bif Nat.beq pc 23 then some (.iconst 0, 1, 0, 0) else none)) else (bif Nat.ble 20 pc then (bif Nat.beq pc 20 then some (.goto 4, 3, 0, 24) else none) else (bif Nat.beq pc 19 then some (.iaload, 1, 0, 0) else none))) else (bif Nat.ble 15 pc then (bif Nat.ble 16 pc then (bif Nat.beq pc 16 then some (.getfield 114, 3, 0, 0) else none) else (bif Nat.beq pc 15 then some (.aload_n 0, 1, 0, 0) else none)) else (bif Nat.beq pc 12 then some (.getfield 22, 3, 0, 0) else none))) else (bif Nat.ble 5 pc then (bif Nat.ble 8 pc then (bif Nat.ble 11 pc then (bif Nat.beq pc 11 then some (.aload_n 0, 1, 0, 0) else none) else (bif Nat.beq pc 8 then some (.if_icmp .ge 15, 3, 0, 23) else none)) else (bif Nat.beq pc 5 then some (.getfield 111, 3, 0, 0) else none)) else (bif Nat.ble 1 pc then (bif Nat.ble 4 pc then (bif Nat.beq pc 4 then some (.aload_n 0, 1, 0, 0) else none) else (bif Nat.beq pc 1 then some (.getfield 114, 3, 0, 0) else none)) else (bif Nat.beq pc 0 then some (.aload_n 0, 1, 0, 0) else none)))
def I_X7_here : Nat → Option mjI := fun pc => bif Nat.ble 25 pc then none else J_X7_here pc
set_option maxRecDepth 100000 in
theorem I_X7_here_ok : ∀ pc row, I_X7_here pc = some row → mjrow Y0 cX7_here pc row = true ∧ mjrp (some .int) row.1 = true := mjchk_ok (n := 25) (by decide +kernel) (mjhi rfl)
def J_X7_takes : Nat → Option mjI := fun pc => bif Nat.ble 21 pc then (bif Nat.ble 32 pc then (bif Nat.ble 37 pc then (bif Nat.ble 38 pc then (bif Nat.ble 41 pc then (bif Nat.beq pc 41 then some (.return_, 1, 0, 0) else none) else (bif Nat.beq pc 38 then some (.putfield 114, 3, 0, 0) else none)) else (bif Nat.beq pc 37 then some (.iadd, 1, 0, 0) else none)) else (bif Nat.ble 33 pc then (bif Nat.ble 36 pc then (bif Nat.beq pc 36 then some (.iconst 0, 1, 0, 0) else none) else (bif Nat.beq pc 33 then some (.goto 4, 3, 0, 37) else none)) else (bif Nat.beq pc 32 then some (.iconst 1, 1, 1, 0) else none))) else (bif Nat.ble 25 pc then (bif Nat.ble 26 pc then (bif Nat.ble 29 pc then (bif Nat.beq pc 29 then some (.ifCond .eq 7, 3, 0, 36) else none) else (bif Nat.beq pc 26 then some (.getfield 117, 3, 0, 0) else none)) else (bif Nat.beq pc 25 then some (.aload_n 0, 1, 0, 0) else none)) else (bif Nat.ble 22 pc then (bif Nat.beq pc 22 then some (.getfield 114, 3, 0, 0) else none) else (bif Nat.beq pc 21 then some (.dup, 1, 0, 0) else none)))) else (bif Nat.ble 9 pc then (bif Nat.ble 16 pc then (bif Nat.ble 17 pc then (bif Nat.ble 20 pc then (bif Nat.beq pc 20 then some (.aload_n 0, 1, 0, 0) else none) else (bif Nat.beq pc 17 then some (.putfield 117, 3, 0, 0) else none)) else (bif Nat.beq pc 16 then some (.iconst 0, 1, 0, 0) else none)) else (bif Nat.ble 12 pc then (bif Nat.ble 13 pc then (bif Nat.beq pc 13 then some (.goto 4, 3, 0, 17) else none) else (bif Nat.beq pc 12 then some (.iconst 1, 1, 1, 0) else none)) else (bif Nat.beq pc 9 then some (.ifCond .eq 7, 3, 0, 16) else none))) else (bif Nat.ble 2 pc then (bif Nat.ble 5 pc then (bif Nat.ble 8 pc then (bif Nat.beq pc 8 then some (.iload_n 1, 1, 0, 0) else none) else (bif Nat.beq pc 5 then some (.ifCond .eq 11, 3, 0, 16) else none)) else (bif Nat.beq pc 2 then some (.getfield 117, 3, 0, 0) else none)) else (bif Nat.ble 1 pc then (bif Nat.beq pc 1 then some (.aload_n 0, 1, 0, 0) else none) else (bif Nat.beq pc 0 then some (.aload_n 0, 1, 0, 0) else none))))
def I_X7_takes : Nat → Option mjI := fun pc => bif Nat.ble 42 pc then none else J_X7_takes pc
set_option maxRecDepth 100000 in
theorem I_X7_takes_ok : ∀ pc row, I_X7_takes pc = some row → mjrow Y0 cX7_takes pc row = true ∧ mjrp none row.1 = true := mjchk_ok (n := 42) (by decide +kernel) (mjhi rfl)
def J_X7_takesNumber : Nat → Option mjI := fun pc => bif Nat.ble 58 pc then (bif Nat.ble 81 pc then (bif Nat.ble 91 pc then (bif Nat.ble 97 pc then (bif Nat.ble 103 pc then (bif Nat.ble 104 pc then (bif Nat.beq pc 104 then some (.ireturn, 1, 0, 0) else none) else (bif Nat.beq pc 103 then some (.iload_n 3, 1, 0, 0) else none)) else (bif Nat.ble 100 pc then (bif Nat.beq pc 100 then some (.goto (-64), 3, 0, 36) else none) else (bif Nat.beq pc 97 then some (.putfield 114, 3, 0, 0) else none))) else (bif Nat.ble 95 pc then (bif Nat.ble 96 pc then (bif Nat.beq pc 96 then some (.iadd, 1, 0, 0) else none) else (bif Nat.beq pc 95 then some (.iconst 1, 1, 1, 0) else none)) else (bif Nat.ble 92 pc then (bif Nat.beq pc 92 then some (.getfield 114, 3, 0, 0) else none) else (bif Nat.beq pc 91 then some (.dup, 1, 0, 0) else none)))) else (bif Nat.ble 86 pc then (bif Nat.ble 89 pc then (bif Nat.ble 90 pc then (bif Nat.beq pc 90 then some (.aload_n 0, 1, 0, 0) else none) else (bif Nat.beq pc 89 then some (.istore_n 3, 1, 0, 0) else none)) else (bif Nat.ble 88 pc then (bif Nat.beq pc 88 then some (.isub, 1, 0, 0) else none) else (bif Nat.beq pc 86 then some (.bipush 48, 2, 48, 0) else none))) else (bif Nat.ble 82 pc then (bif Nat.ble 85 pc then (bif Nat.beq pc 85 then some (.iadd, 1, 0, 0) else none) else (bif Nat.beq pc 82 then some (.invokevirtual 121, 3, 0, 0) else none)) else (bif Nat.beq pc 81 then some (.aload_n 0, 1, 0, 0) else none)))) else (bif Nat.ble 70 pc then (bif Nat.ble 74 pc then (bif Nat.ble 79 pc then (bif Nat.ble 80 pc then (bif Nat.beq pc 80 then some (.imul, 1, 0, 0) else none) else (bif Nat.beq pc 79 then some (.iload_n 3, 1, 0, 0) else none)) else (bif Nat.ble 77 pc then (bif Nat.beq pc 77 then some (.bipush 10, 2, 10, 0) else none) else (bif Nat.beq pc 74 then some (.if_icmp .gt 29, 3, 0, 103) else none))) else (bif Nat.ble 72 pc then (bif Nat.ble 73 pc then (bif Nat.beq pc 73 then some (.iload_n 2, 1, 0, 0) else none) else (bif Nat.beq pc 72 then some (.isub, 1, 0, 0) else none)) else (bif Nat.beq pc 70 then some (.bipush 48, 2, 48, 0) else none))) else (bif Nat.ble 64 pc then (bif Nat.ble 66 pc then (bif Nat.ble 69 pc then (bif Nat.beq pc 69 then some (.iadd, 1, 0, 0) else none) else (bif Nat.beq pc 66 then some (.invokevirtual 121, 3, 0, 0) else none)) else (bif Nat.ble 65 pc then (bif Nat.beq pc 65 then some (.aload_n 0, 1, 0, 0) else none) else (bif Nat.beq pc 64 then some (.imul, 1, 0, 0) else none))) else (bif Nat.ble 61 pc then (bif Nat.ble 63 pc then (bif Nat.beq pc 63 then some (.iload_n 3, 1, 0, 0) else none) else (bif Nat.beq pc 61 then some (.bipush 10, 2, 10, 0) else none)) else (bif Nat.beq pc 58 then some (.ifCond .eq 45, 3, 0, 103) else none))))) else (bif Nat.ble 25 pc then (bif Nat.ble 40 pc then (bif Nat.ble 48 pc then (bif Nat.ble 53 pc then (bif Nat.ble 55 pc then (bif Nat.beq pc 55 then some (.invokestatic 43, 3, 0, 0) else none) else (bif Nat.beq pc 53 then some (.bipush 57, 2, 57, 0) else none)) else (bif Nat.ble 51 pc then (bif Nat.beq pc 51 then some (.bipush 48, 2, 48, 0) else none) else (bif Nat.beq pc 48 then some (.invokevirtual 121, 3, 0, 0) else none))) else (bif Nat.ble 44 pc then (bif Nat.ble 47 pc then (bif Nat.beq pc 47 then some (.aload_n 0, 1, 0, 0) else none) else (bif Nat.beq pc 44 then some (.ifCond .le 59, 3, 0, 103) else none)) else (bif Nat.ble 43 pc then (bif Nat.beq pc 43 then some (.iload_n 3, 1, 0, 0) else none) else (bif Nat.beq pc 40 then some (.ifCond .eq 63, 3, 0, 103) else none)))) else (bif Nat.ble 32 pc then (bif Nat.ble 36 pc then (bif Nat.ble 37 pc then (bif Nat.beq pc 37 then some (.getfield 117, 3, 0, 0) else none) else (bif Nat.beq pc 36 then some (.aload_n 0, 1, 0, 0) else none)) else (bif Nat.ble 33 pc then (bif Nat.beq pc 33 then some (.invokevirtual 124, 3, 0, 0) else none) else (bif Nat.beq pc 32 then some (.iconst 0, 1, 0, 0) else none))) else (bif Nat.ble 28 pc then (bif Nat.ble 29 pc then (bif Nat.beq pc 29 then some (.goto 4, 3, 0, 33) else none) else (bif Nat.beq pc 28 then some (.iconst 1, 1, 1, 0) else none)) else (bif Nat.beq pc 25 then some (.if_icmp .lt 7, 3, 0, 32) else none)))) else (bif Nat.ble 10 pc then (bif Nat.ble 17 pc then (bif Nat.ble 23 pc then (bif Nat.ble 24 pc then (bif Nat.beq pc 24 then some (.iload_n 1, 1, 0, 0) else none) else (bif Nat.beq pc 23 then some (.iload_n 3, 1, 0, 0) else none)) else (bif Nat.ble 20 pc then (bif Nat.beq pc 20 then some (.ifCond .eq 12, 3, 0, 32) else none) else (bif Nat.beq pc 17 then some (.invokestatic 43, 3, 0, 0) else none))) else (bif Nat.ble 13 pc then (bif Nat.ble 15 pc then (bif Nat.beq pc 15 then some (.bipush 57, 2, 57, 0) else none) else (bif Nat.beq pc 13 then some (.bipush 48, 2, 48, 0) else none)) else (bif Nat.beq pc 10 then some (.invokevirtual 121, 3, 0, 0) else none))) else (bif Nat.ble 6 pc then (bif Nat.ble 8 pc then (bif Nat.ble 9 pc then (bif Nat.beq pc 9 then some (.aload_n 0, 1, 0, 0) else none) else (bif Nat.beq pc 8 then some (.aload_n 0, 1, 0, 0) else none)) else (bif Nat.ble 7 pc then (bif Nat.beq pc 7 then some (.istore_n 3, 1, 0, 0) else none) else (bif Nat.beq pc 6 then some (.isub, 1, 0, 0) else none))) else (bif Nat.ble 1 pc then (bif Nat.ble 4 pc then (bif Nat.beq pc 4 then some (.bipush 48, 2, 48, 0) else none) else (bif Nat.beq pc 1 then some (.invokevirtual 121, 3, 0, 0) else none)) else (bif Nat.beq pc 0 then some (.aload_n 0, 1, 0, 0) else none)))))
def I_X7_takesNumber : Nat → Option mjI := fun pc => bif Nat.ble 105 pc then none else J_X7_takesNumber pc
set_option maxRecDepth 100000 in
theorem I_X7_takesNumber_ok : ∀ pc row, I_X7_takesNumber pc = some row → mjrow Y0 cX7_takesNumber pc row = true ∧ mjrp (some .int) row.1 = true := mjchk_ok (n := 105) (by decide +kernel) (mjhi rfl)
def J_X7_takesSegment : Nat → Option mjI := fun pc => bif Nat.ble 52 pc then (bif Nat.ble 76 pc then (bif Nat.ble 92 pc then (bif Nat.ble 95 pc then (bif Nat.ble 100 pc then (bif Nat.ble 103 pc then (bif Nat.beq pc 103 then some (.return_, 1, 0, 0) else none) else (bif Nat.beq pc 100 then some (.putfield 141, 3, 0, 0) else none)) else (bif Nat.ble 97 pc then (bif Nat.beq pc 97 then some (.invokevirtual 131, 3, 0, 0) else none) else (bif Nat.beq pc 95 then some (.bipush 99, 2, 99, 0) else none))) else (bif Nat.ble 93 pc then (bif Nat.ble 94 pc then (bif Nat.beq pc 94 then some (.iconst 1, 1, 1, 0) else none) else (bif Nat.beq pc 93 then some (.aload_n 0, 1, 0, 0) else none)) else (bif Nat.beq pc 92 then some (.aload_n 0, 1, 0, 0) else none))) else (bif Nat.ble 84 pc then (bif Nat.ble 88 pc then (bif Nat.ble 89 pc then (bif Nat.beq pc 89 then some (.invokevirtual 124, 3, 0, 0) else none) else (bif Nat.beq pc 88 then some (.iconst 0, 1, 0, 0) else none)) else (bif Nat.ble 85 pc then (bif Nat.beq pc 85 then some (.goto 4, 3, 0, 89) else none) else (bif Nat.beq pc 84 then some (.iconst 1, 1, 1, 0) else none))) else (bif Nat.ble 79 pc then (bif Nat.ble 81 pc then (bif Nat.beq pc 81 then some (.if_icmp .ne 7, 3, 0, 88) else none) else (bif Nat.beq pc 79 then some (.bipush 120, 2, 120, 0) else none)) else (bif Nat.beq pc 76 then some (.invokevirtual 121, 3, 0, 0) else none)))) else (bif Nat.ble 64 pc then (bif Nat.ble 68 pc then (bif Nat.ble 74 pc then (bif Nat.ble 75 pc then (bif Nat.beq pc 75 then some (.aload_n 0, 1, 0, 0) else none) else (bif Nat.beq pc 74 then some (.aload_n 0, 1, 0, 0) else none)) else (bif Nat.ble 71 pc then (bif Nat.beq pc 71 then some (.putfield 138, 3, 0, 0) else none) else (bif Nat.beq pc 68 then some (.invokevirtual 131, 3, 0, 0) else none))) else (bif Nat.ble 65 pc then (bif Nat.ble 66 pc then (bif Nat.beq pc 66 then some (.bipush 100, 2, 100, 0) else none) else (bif Nat.beq pc 65 then some (.iconst 1, 1, 1, 0) else none)) else (bif Nat.beq pc 64 then some (.aload_n 0, 1, 0, 0) else none))) else (bif Nat.ble 59 pc then (bif Nat.ble 60 pc then (bif Nat.ble 63 pc then (bif Nat.beq pc 63 then some (.aload_n 0, 1, 0, 0) else none) else (bif Nat.beq pc 60 then some (.invokevirtual 124, 3, 0, 0) else none)) else (bif Nat.beq pc 59 then some (.iconst 0, 1, 0, 0) else none)) else (bif Nat.ble 55 pc then (bif Nat.ble 56 pc then (bif Nat.beq pc 56 then some (.goto 4, 3, 0, 60) else none) else (bif Nat.beq pc 55 then some (.iconst 1, 1, 1, 0) else none)) else (bif Nat.beq pc 52 then some (.if_icmp .ne 7, 3, 0, 59) else none))))) else (bif Nat.ble 26 pc then (bif Nat.ble 36 pc then (bif Nat.ble 45 pc then (bif Nat.ble 47 pc then (bif Nat.ble 50 pc then (bif Nat.beq pc 50 then some (.bipush 47, 2, 47, 0) else none) else (bif Nat.beq pc 47 then some (.invokevirtual 121, 3, 0, 0) else none)) else (bif Nat.ble 46 pc then (bif Nat.beq pc 46 then some (.aload_n 0, 1, 0, 0) else none) else (bif Nat.beq pc 45 then some (.aload_n 0, 1, 0, 0) else none))) else (bif Nat.ble 39 pc then (bif Nat.ble 42 pc then (bif Nat.beq pc 42 then some (.putfield 135, 3, 0, 0) else none) else (bif Nat.beq pc 39 then some (.invokevirtual 131, 3, 0, 0) else none)) else (bif Nat.beq pc 36 then some (.sipush 1000, 3, 1000, 0) else none))) else (bif Nat.ble 33 pc then (bif Nat.ble 34 pc then (bif Nat.ble 35 pc then (bif Nat.beq pc 35 then some (.iconst 0, 1, 0, 0) else none) else (bif Nat.beq pc 34 then some (.aload_n 0, 1, 0, 0) else none)) else (bif Nat.beq pc 33 then some (.aload_n 0, 1, 0, 0) else none)) else (bif Nat.ble 27 pc then (bif Nat.ble 30 pc then (bif Nat.beq pc 30 then some (.goto 62, 3, 0, 92) else none) else (bif Nat.beq pc 27 then some (.invokevirtual 124, 3, 0, 0) else none)) else (bif Nat.beq pc 26 then some (.iconst 1, 1, 1, 0) else none)))) else (bif Nat.ble 11 pc then (bif Nat.ble 18 pc then (bif Nat.ble 22 pc then (bif Nat.ble 25 pc then (bif Nat.beq pc 25 then some (.aload_n 0, 1, 0, 0) else none) else (bif Nat.beq pc 22 then some (.ifCond .eq 11, 3, 0, 33) else none)) else (bif Nat.ble 19 pc then (bif Nat.beq pc 19 then some (.getfield 128, 3, 0, 0) else none) else (bif Nat.beq pc 18 then some (.aload_n 0, 1, 0, 0) else none))) else (bif Nat.ble 14 pc then (bif Nat.ble 15 pc then (bif Nat.beq pc 15 then some (.putfield 128, 3, 0, 0) else none) else (bif Nat.beq pc 14 then some (.iconst 0, 1, 0, 0) else none)) else (bif Nat.beq pc 11 then some (.goto 4, 3, 0, 15) else none))) else (bif Nat.ble 5 pc then (bif Nat.ble 7 pc then (bif Nat.ble 10 pc then (bif Nat.beq pc 10 then some (.iconst 1, 1, 1, 0) else none) else (bif Nat.beq pc 7 then some (.if_icmp .ne 7, 3, 0, 14) else none)) else (bif Nat.beq pc 5 then some (.bipush 104, 2, 104, 0) else none)) else (bif Nat.ble 1 pc then (bif Nat.ble 2 pc then (bif Nat.beq pc 2 then some (.invokevirtual 121, 3, 0, 0) else none) else (bif Nat.beq pc 1 then some (.aload_n 0, 1, 0, 0) else none)) else (bif Nat.beq pc 0 then some (.aload_n 0, 1, 0, 0) else none)))))
def I_X7_takesSegment : Nat → Option mjI := fun pc => bif Nat.ble 104 pc then none else J_X7_takesSegment pc
set_option maxRecDepth 100000 in
theorem I_X7_takesSegment_ok : ∀ pc row, I_X7_takesSegment pc = some row → mjrow Y0 cX7_takesSegment pc row = true ∧ mjrp none row.1 = true := mjchk_ok (n := 104) (by decide +kernel) (mjhi rfl)
def J_X7_isProgram : Nat → Option mjI := fun pc => bif Nat.ble 33 pc then (bif Nat.ble 50 pc then (bif Nat.ble 58 pc then (bif Nat.ble 64 pc then (bif Nat.ble 65 pc then (bif Nat.ble 68 pc then (bif Nat.beq pc 68 then some (.ireturn, 1, 0, 0) else none) else (bif Nat.beq pc 65 then some (.getfield 117, 3, 0, 0) else none)) else (bif Nat.beq pc 64 then some (.aload_n 0, 1, 0, 0) else none)) else (bif Nat.ble 61 pc then (bif Nat.beq pc 61 then some (.goto (-47), 3, 0, 14) else none) else (bif Nat.beq pc 58 then some (.invokevirtual 144, 3, 0, 0) else none))) else (bif Nat.ble 54 pc then (bif Nat.ble 57 pc then (bif Nat.beq pc 57 then some (.aload_n 0, 1, 0, 0) else none) else (bif Nat.beq pc 54 then some (.ifCond .eq (-40), 3, 0, 14) else none)) else (bif Nat.ble 51 pc then (bif Nat.beq pc 51 then some (.getfield 117, 3, 0, 0) else none) else (bif Nat.beq pc 50 then some (.aload_n 0, 1, 0, 0) else none)))) else (bif Nat.ble 42 pc then (bif Nat.ble 46 pc then (bif Nat.ble 47 pc then (bif Nat.beq pc 47 then some (.invokevirtual 124, 3, 0, 0) else none) else (bif Nat.beq pc 46 then some (.iconst 0, 1, 0, 0) else none)) else (bif Nat.ble 43 pc then (bif Nat.beq pc 43 then some (.goto 4, 3, 0, 47) else none) else (bif Nat.beq pc 42 then some (.iconst 1, 1, 1, 0) else none))) else (bif Nat.ble 37 pc then (bif Nat.ble 39 pc then (bif Nat.beq pc 39 then some (.if_icmp .ne 7, 3, 0, 46) else none) else (bif Nat.beq pc 37 then some (.bipush 59, 2, 59, 0) else none)) else (bif Nat.ble 34 pc then (bif Nat.beq pc 34 then some (.invokevirtual 121, 3, 0, 0) else none) else (bif Nat.beq pc 33 then some (.aload_n 0, 1, 0, 0) else none))))) else (bif Nat.ble 14 pc then (bif Nat.ble 22 pc then (bif Nat.ble 26 pc then (bif Nat.ble 29 pc then (bif Nat.ble 32 pc then (bif Nat.beq pc 32 then some (.aload_n 0, 1, 0, 0) else none) else (bif Nat.beq pc 29 then some (.if_icmp .ge 35, 3, 0, 64) else none)) else (bif Nat.beq pc 26 then some (.getfield 111, 3, 0, 0) else none)) else (bif Nat.ble 25 pc then (bif Nat.beq pc 25 then some (.aload_n 0, 1, 0, 0) else none) else (bif Nat.beq pc 22 then some (.getfield 114, 3, 0, 0) else none))) else (bif Nat.ble 18 pc then (bif Nat.ble 21 pc then (bif Nat.beq pc 21 then some (.aload_n 0, 1, 0, 0) else none) else (bif Nat.beq pc 18 then some (.ifCond .eq 46, 3, 0, 64) else none)) else (bif Nat.ble 15 pc then (bif Nat.beq pc 15 then some (.getfield 117, 3, 0, 0) else none) else (bif Nat.beq pc 14 then some (.aload_n 0, 1, 0, 0) else none)))) else (bif Nat.ble 6 pc then (bif Nat.ble 10 pc then (bif Nat.ble 11 pc then (bif Nat.beq pc 11 then some (.invokevirtual 144, 3, 0, 0) else none) else (bif Nat.beq pc 10 then some (.aload_n 0, 1, 0, 0) else none)) else (bif Nat.ble 7 pc then (bif Nat.beq pc 7 then some (.putfield 117, 3, 0, 0) else none) else (bif Nat.beq pc 6 then some (.iconst 1, 1, 1, 0) else none))) else (bif Nat.ble 2 pc then (bif Nat.ble 5 pc then (bif Nat.beq pc 5 then some (.aload_n 0, 1, 0, 0) else none) else (bif Nat.beq pc 2 then some (.putfield 114, 3, 0, 0) else none)) else (bif Nat.ble 1 pc then (bif Nat.beq pc 1 then some (.iconst 0, 1, 0, 0) else none) else (bif Nat.beq pc 0 then some (.aload_n 0, 1, 0, 0) else none)))))
def I_X7_isProgram : Nat → Option mjI := fun pc => bif Nat.ble 69 pc then none else J_X7_isProgram pc
set_option maxRecDepth 100000 in
theorem I_X7_isProgram_ok : ∀ pc row, I_X7_isProgram pc = some row → mjrow Y0 cX7_isProgram pc row = true ∧ mjrp (some .boolean) row.1 = true := mjchk_ok (n := 69) (by decide +kernel) (mjhi rfl)
def J_X7_fault : Nat → Option mjI := fun pc => bif Nat.ble 9 pc then (bif Nat.ble 13 pc then (bif Nat.ble 16 pc then (bif Nat.beq pc 16 then some (.ireturn, 1, 0, 0) else none) else (bif Nat.beq pc 13 then some (.getfield 114, 3, 0, 0) else none)) else (bif Nat.ble 12 pc then (bif Nat.beq pc 12 then some (.aload_n 0, 1, 0, 0) else none) else (bif Nat.beq pc 9 then some (.goto 7, 3, 0, 16) else none))) else (bif Nat.ble 4 pc then (bif Nat.ble 7 pc then (bif Nat.beq pc 7 then some (.bipush (-4), 2, (-4), 0) else none) else (bif Nat.beq pc 4 then some (.ifCond .eq 8, 3, 0, 12) else none)) else (bif Nat.ble 1 pc then (bif Nat.beq pc 1 then some (.invokevirtual 147, 3, 0, 0) else none) else (bif Nat.beq pc 0 then some (.aload_n 0, 1, 0, 0) else none)))
def I_X7_fault : Nat → Option mjI := fun pc => bif Nat.ble 17 pc then none else J_X7_fault pc
set_option maxRecDepth 100000 in
theorem I_X7_fault_ok : ∀ pc row, I_X7_fault pc = some row → mjrow Y0 cX7_fault pc row = true ∧ mjrp (some .int) row.1 = true := mjchk_ok (n := 17) (by decide +kernel) (mjhi rfl)
def J_X7_run : Nat → Option mjI := fun pc => bif Nat.ble 44 pc then (bif Nat.ble 68 pc then (bif Nat.ble 80 pc then (bif Nat.ble 87 pc then (bif Nat.ble 91 pc then (bif Nat.ble 92 pc then (bif Nat.beq pc 92 then some (.ireturn, 1, 0, 0) else none) else (bif Nat.beq pc 91 then some (.iload_n 1, 1, 0, 0) else none)) else (bif Nat.ble 88 pc then (bif Nat.beq pc 88 then some (.putfield 111, 3, 0, 0) else none) else (bif Nat.beq pc 87 then some (.iconst 0, 1, 0, 0) else none))) else (bif Nat.ble 83 pc then (bif Nat.ble 86 pc then (bif Nat.beq pc 86 then some (.aload_n 0, 1, 0, 0) else none) else (bif Nat.beq pc 83 then some (.goto (-60), 3, 0, 23) else none)) else (bif Nat.beq pc 80 then some (.iinc 1 1, 3, 1, 0) else none))) else (bif Nat.ble 73 pc then (bif Nat.ble 76 pc then (bif Nat.ble 79 pc then (bif Nat.beq pc 79 then some (.istore_n 2, 1, 0, 0) else none) else (bif Nat.beq pc 76 then some (.invokevirtual 99, 3, 0, 0) else none)) else (bif Nat.beq pc 73 then some (.getfield 141, 3, 0, 0) else none)) else (bif Nat.ble 71 pc then (bif Nat.ble 72 pc then (bif Nat.beq pc 72 then some (.aload_n 0, 1, 0, 0) else none) else (bif Nat.beq pc 71 then some (.aload_n 0, 1, 0, 0) else none)) else (bif Nat.beq pc 68 then some (.invokevirtual 95, 3, 0, 0) else none)))) else (bif Nat.ble 56 pc then (bif Nat.ble 61 pc then (bif Nat.ble 64 pc then (bif Nat.ble 65 pc then (bif Nat.beq pc 65 then some (.getfield 138, 3, 0, 0) else none) else (bif Nat.beq pc 64 then some (.aload_n 0, 1, 0, 0) else none)) else (bif Nat.beq pc 61 then some (.getfield 135, 3, 0, 0) else none)) else (bif Nat.ble 59 pc then (bif Nat.ble 60 pc then (bif Nat.beq pc 60 then some (.aload_n 0, 1, 0, 0) else none) else (bif Nat.beq pc 59 then some (.aload_n 0, 1, 0, 0) else none)) else (bif Nat.beq pc 56 then some (.ifCond .ne 15, 3, 0, 71) else none))) else (bif Nat.ble 49 pc then (bif Nat.ble 52 pc then (bif Nat.ble 53 pc then (bif Nat.beq pc 53 then some (.getfield 128, 3, 0, 0) else none) else (bif Nat.beq pc 52 then some (.aload_n 0, 1, 0, 0) else none)) else (bif Nat.beq pc 49 then some (.putfield 114, 3, 0, 0) else none)) else (bif Nat.ble 47 pc then (bif Nat.ble 48 pc then (bif Nat.beq pc 48 then some (.iadd, 1, 0, 0) else none) else (bif Nat.beq pc 47 then some (.iconst 1, 1, 1, 0) else none)) else (bif Nat.beq pc 44 then some (.getfield 114, 3, 0, 0) else none))))) else (bif Nat.ble 21 pc then (bif Nat.ble 31 pc then (bif Nat.ble 38 pc then (bif Nat.ble 42 pc then (bif Nat.ble 43 pc then (bif Nat.beq pc 43 then some (.dup, 1, 0, 0) else none) else (bif Nat.beq pc 42 then some (.aload_n 0, 1, 0, 0) else none)) else (bif Nat.ble 39 pc then (bif Nat.beq pc 39 then some (.invokevirtual 144, 3, 0, 0) else none) else (bif Nat.beq pc 38 then some (.aload_n 0, 1, 0, 0) else none))) else (bif Nat.ble 32 pc then (bif Nat.ble 35 pc then (bif Nat.beq pc 35 then some (.if_icmp .ge 51, 3, 0, 86) else none) else (bif Nat.beq pc 32 then some (.getfield 111, 3, 0, 0) else none)) else (bif Nat.beq pc 31 then some (.aload_n 0, 1, 0, 0) else none))) else (bif Nat.ble 24 pc then (bif Nat.ble 27 pc then (bif Nat.ble 28 pc then (bif Nat.beq pc 28 then some (.getfield 114, 3, 0, 0) else none) else (bif Nat.beq pc 27 then some (.aload_n 0, 1, 0, 0) else none)) else (bif Nat.beq pc 24 then some (.ifCond .ne 62, 3, 0, 86) else none)) else (bif Nat.ble 22 pc then (bif Nat.ble 23 pc then (bif Nat.beq pc 23 then some (.iload_n 2, 1, 0, 0) else none) else (bif Nat.beq pc 22 then some (.istore_n 2, 1, 0, 0) else none)) else (bif Nat.beq pc 21 then some (.iconst 0, 1, 0, 0) else none)))) else (bif Nat.ble 11 pc then (bif Nat.ble 16 pc then (bif Nat.ble 19 pc then (bif Nat.ble 20 pc then (bif Nat.beq pc 20 then some (.istore_n 1, 1, 0, 0) else none) else (bif Nat.beq pc 19 then some (.iconst 0, 1, 0, 0) else none)) else (bif Nat.beq pc 16 then some (.putfield 114, 3, 0, 0) else none)) else (bif Nat.ble 14 pc then (bif Nat.ble 15 pc then (bif Nat.beq pc 15 then some (.iconst 0, 1, 0, 0) else none) else (bif Nat.beq pc 14 then some (.aload_n 0, 1, 0, 0) else none)) else (bif Nat.beq pc 11 then some (.invokevirtual 92, 3, 0, 0) else none))) else (bif Nat.ble 7 pc then (bif Nat.ble 9 pc then (bif Nat.ble 10 pc then (bif Nat.beq pc 10 then some (.aload_n 0, 1, 0, 0) else none) else (bif Nat.beq pc 9 then some (.ireturn, 1, 0, 0) else none)) else (bif Nat.beq pc 7 then some (.bipush (-2), 2, (-2), 0) else none)) else (bif Nat.ble 1 pc then (bif Nat.ble 4 pc then (bif Nat.beq pc 4 then some (.ifCond .ne 6, 3, 0, 10) else none) else (bif Nat.beq pc 1 then some (.invokevirtual 147, 3, 0, 0) else none)) else (bif Nat.beq pc 0 then some (.aload_n 0, 1, 0, 0) else none)))))
def I_X7_run : Nat → Option mjI := fun pc => bif Nat.ble 93 pc then none else J_X7_run pc
set_option maxRecDepth 100000 in
theorem I_X7_run_ok : ∀ pc row, I_X7_run pc = some row → mjrow Y0 cX7_run pc row = true ∧ mjrp (some .int) row.1 = true := mjchk_ok (n := 93) (by decide +kernel) (mjhi rfl)
def J_X7_names : Nat → Option mjI := fun pc => bif Nat.ble 58 pc then (bif Nat.ble 92 pc then (bif Nat.ble 108 pc then (bif Nat.ble 115 pc then (bif Nat.ble 119 pc then (bif Nat.ble 122 pc then (bif Nat.ble 125 pc then (bif Nat.beq pc 125 then some (.return_, 1, 0, 0) else none) else (bif Nat.beq pc 122 then some (.goto (-99), 3, 0, 23) else none)) else (bif Nat.beq pc 119 then some (.goto (-88), 3, 0, 31) else none)) else (bif Nat.ble 116 pc then (bif Nat.beq pc 116 then some (.iinc 2 1, 3, 1, 0) else none) else (bif Nat.beq pc 115 then some (.istore_n 1, 1, 0, 0) else none))) else (bif Nat.ble 113 pc then (bif Nat.ble 114 pc then (bif Nat.beq pc 114 then some (.iconst 1, 1, 1, 0) else none) else (bif Nat.beq pc 113 then some (.iastore, 1, 0, 0) else none)) else (bif Nat.ble 111 pc then (bif Nat.beq pc 111 then some (.iload 4, 2, 0, 0) else none) else (bif Nat.beq pc 108 then some (.goto 5, 3, 0, 113) else none)))) else (bif Nat.ble 98 pc then (bif Nat.ble 102 pc then (bif Nat.ble 104 pc then (bif Nat.ble 107 pc then (bif Nat.beq pc 107 then some (.iload_n 3, 1, 0, 0) else none) else (bif Nat.beq pc 104 then some (.if_icmp .ge 7, 3, 0, 111) else none)) else (bif Nat.beq pc 102 then some (.iload 4, 2, 0, 0) else none)) else (bif Nat.ble 101 pc then (bif Nat.beq pc 101 then some (.iload_n 3, 1, 0, 0) else none) else (bif Nat.beq pc 98 then some (.invokestatic 50, 3, 0, 0) else none))) else (bif Nat.ble 94 pc then (bif Nat.ble 97 pc then (bif Nat.beq pc 97 then some (.iload_n 2, 1, 0, 0) else none) else (bif Nat.beq pc 94 then some (.getfield 28, 3, 0, 0) else none)) else (bif Nat.ble 93 pc then (bif Nat.beq pc 93 then some (.aload_n 0, 1, 0, 0) else none) else (bif Nat.beq pc 92 then some (.iastore, 1, 0, 0) else none))))) else (bif Nat.ble 73 pc then (bif Nat.ble 81 pc then (bif Nat.ble 86 pc then (bif Nat.ble 87 pc then (bif Nat.ble 90 pc then (bif Nat.beq pc 90 then some (.iload 4, 2, 0, 0) else none) else (bif Nat.beq pc 87 then some (.goto 5, 3, 0, 92) else none)) else (bif Nat.beq pc 86 then some (.iload_n 3, 1, 0, 0) else none)) else (bif Nat.ble 83 pc then (bif Nat.beq pc 83 then some (.if_icmp .ge 7, 3, 0, 90) else none) else (bif Nat.beq pc 81 then some (.iload 4, 2, 0, 0) else none))) else (bif Nat.ble 77 pc then (bif Nat.ble 80 pc then (bif Nat.beq pc 80 then some (.iload_n 3, 1, 0, 0) else none) else (bif Nat.beq pc 77 then some (.invokestatic 47, 3, 0, 0) else none)) else (bif Nat.ble 76 pc then (bif Nat.beq pc 76 then some (.iload_n 2, 1, 0, 0) else none) else (bif Nat.beq pc 73 then some (.getfield 28, 3, 0, 0) else none)))) else (bif Nat.ble 66 pc then (bif Nat.ble 69 pc then (bif Nat.ble 72 pc then (bif Nat.beq pc 72 then some (.aload_n 0, 1, 0, 0) else none) else (bif Nat.beq pc 69 then some (.if_icmp .eq 47, 3, 0, 116) else none)) else (bif Nat.ble 67 pc then (bif Nat.beq pc 67 then some (.iload 4, 2, 0, 0) else none) else (bif Nat.beq pc 66 then some (.iload_n 3, 1, 0, 0) else none))) else (bif Nat.ble 60 pc then (bif Nat.ble 63 pc then (bif Nat.beq pc 63 then some (.ifCond .eq 53, 3, 0, 116) else none) else (bif Nat.beq pc 60 then some (.invokevirtual 63, 3, 0, 0) else none)) else (bif Nat.ble 59 pc then (bif Nat.beq pc 59 then some (.iload_n 2, 1, 0, 0) else none) else (bif Nat.beq pc 58 then some (.aload_n 0, 1, 0, 0) else none)))))) else (bif Nat.ble 28 pc then (bif Nat.ble 42 pc then (bif Nat.ble 48 pc then (bif Nat.ble 52 pc then (bif Nat.ble 55 pc then (bif Nat.ble 56 pc then (bif Nat.beq pc 56 then some (.istore 4, 2, 0, 0) else none) else (bif Nat.beq pc 55 then some (.iaload, 1, 0, 0) else none)) else (bif Nat.beq pc 52 then some (.invokestatic 50, 3, 0, 0) else none)) else (bif Nat.ble 51 pc then (bif Nat.beq pc 51 then some (.iload_n 2, 1, 0, 0) else none) else (bif Nat.beq pc 48 then some (.getfield 28, 3, 0, 0) else none))) else (bif Nat.ble 46 pc then (bif Nat.ble 47 pc then (bif Nat.beq pc 47 then some (.aload_n 0, 1, 0, 0) else none) else (bif Nat.beq pc 46 then some (.istore_n 3, 1, 0, 0) else none)) else (bif Nat.ble 45 pc then (bif Nat.beq pc 45 then some (.iaload, 1, 0, 0) else none) else (bif Nat.beq pc 42 then some (.invokestatic 47, 3, 0, 0) else none)))) else (bif Nat.ble 32 pc then (bif Nat.ble 37 pc then (bif Nat.ble 38 pc then (bif Nat.ble 41 pc then (bif Nat.beq pc 41 then some (.iload_n 2, 1, 0, 0) else none) else (bif Nat.beq pc 38 then some (.getfield 28, 3, 0, 0) else none)) else (bif Nat.beq pc 37 then some (.aload_n 0, 1, 0, 0) else none)) else (bif Nat.ble 34 pc then (bif Nat.beq pc 34 then some (.if_icmp .ge 88, 3, 0, 122) else none) else (bif Nat.beq pc 32 then some (.bipush 60, 2, 60, 0) else none))) else (bif Nat.ble 30 pc then (bif Nat.ble 31 pc then (bif Nat.beq pc 31 then some (.iload_n 2, 1, 0, 0) else none) else (bif Nat.beq pc 30 then some (.istore_n 2, 1, 0, 0) else none)) else (bif Nat.ble 29 pc then (bif Nat.beq pc 29 then some (.iconst 0, 1, 0, 0) else none) else (bif Nat.beq pc 28 then some (.istore_n 1, 1, 0, 0) else none))))) else (bif Nat.ble 13 pc then (bif Nat.ble 21 pc then (bif Nat.ble 23 pc then (bif Nat.ble 24 pc then (bif Nat.ble 27 pc then (bif Nat.beq pc 27 then some (.iconst 0, 1, 0, 0) else none) else (bif Nat.beq pc 24 then some (.ifCond .eq 101, 3, 0, 125) else none)) else (bif Nat.beq pc 23 then some (.iload_n 1, 1, 0, 0) else none)) else (bif Nat.ble 22 pc then (bif Nat.beq pc 22 then some (.istore_n 1, 1, 0, 0) else none) else (bif Nat.beq pc 21 then some (.iconst 1, 1, 1, 0) else none))) else (bif Nat.ble 15 pc then (bif Nat.ble 18 pc then (bif Nat.beq pc 18 then some (.goto (-16), 3, 0, 2) else none) else (bif Nat.beq pc 15 then some (.iinc 1 1, 3, 1, 0) else none)) else (bif Nat.ble 14 pc then (bif Nat.beq pc 14 then some (.iastore, 1, 0, 0) else none) else (bif Nat.beq pc 13 then some (.iload_n 1, 1, 0, 0) else none)))) else (bif Nat.ble 5 pc then (bif Nat.ble 9 pc then (bif Nat.ble 12 pc then (bif Nat.beq pc 12 then some (.iload_n 1, 1, 0, 0) else none) else (bif Nat.beq pc 9 then some (.getfield 28, 3, 0, 0) else none)) else (bif Nat.ble 8 pc then (bif Nat.beq pc 8 then some (.aload_n 0, 1, 0, 0) else none) else (bif Nat.beq pc 5 then some (.if_icmp .ge 16, 3, 0, 21) else none))) else (bif Nat.ble 2 pc then (bif Nat.ble 3 pc then (bif Nat.beq pc 3 then some (.bipush 36, 2, 36, 0) else none) else (bif Nat.beq pc 2 then some (.iload_n 1, 1, 0, 0) else none)) else (bif Nat.ble 1 pc then (bif Nat.beq pc 1 then some (.istore_n 1, 1, 0, 0) else none) else (bif Nat.beq pc 0 then some (.iconst 0, 1, 0, 0) else none))))))
def I_X7_names : Nat → Option mjI := fun pc => bif Nat.ble 126 pc then none else J_X7_names pc
set_option maxRecDepth 100000 in
theorem I_X7_names_ok : ∀ pc row, I_X7_names pc = some row → mjrow Y0 cX7_names pc row = true ∧ mjrp none row.1 = true := mjchk_ok (n := 126) (by decide +kernel) (mjhi rfl)
def J_X7_cellsOf : Nat → Option mjI := fun pc => bif Nat.ble 16 pc then (bif Nat.ble 26 pc then (bif Nat.ble 31 pc then (bif Nat.ble 34 pc then (bif Nat.ble 35 pc then (bif Nat.beq pc 35 then some (.ireturn, 1, 0, 0) else none) else (bif Nat.beq pc 34 then some (.iload_n 2, 1, 0, 0) else none)) else (bif Nat.beq pc 31 then some (.goto (-27), 3, 0, 4) else none)) else (bif Nat.ble 27 pc then (bif Nat.ble 28 pc then (bif Nat.beq pc 28 then some (.iinc 3 1, 3, 1, 0) else none) else (bif Nat.beq pc 27 then some (.istore_n 2, 1, 0, 0) else none)) else (bif Nat.beq pc 26 then some (.iadd, 1, 0, 0) else none))) else (bif Nat.ble 21 pc then (bif Nat.ble 22 pc then (bif Nat.ble 25 pc then (bif Nat.beq pc 25 then some (.iconst 0, 1, 0, 0) else none) else (bif Nat.beq pc 22 then some (.goto 4, 3, 0, 26) else none)) else (bif Nat.beq pc 21 then some (.iconst 1, 1, 1, 0) else none)) else (bif Nat.ble 17 pc then (bif Nat.ble 18 pc then (bif Nat.beq pc 18 then some (.if_icmp .ne 7, 3, 0, 25) else none) else (bif Nat.beq pc 17 then some (.iload_n 1, 1, 0, 0) else none)) else (bif Nat.beq pc 16 then some (.iaload, 1, 0, 0) else none)))) else (bif Nat.ble 5 pc then (bif Nat.ble 11 pc then (bif Nat.ble 12 pc then (bif Nat.ble 15 pc then (bif Nat.beq pc 15 then some (.iload_n 3, 1, 0, 0) else none) else (bif Nat.beq pc 12 then some (.getfield 28, 3, 0, 0) else none)) else (bif Nat.beq pc 11 then some (.aload_n 0, 1, 0, 0) else none)) else (bif Nat.ble 7 pc then (bif Nat.ble 10 pc then (bif Nat.beq pc 10 then some (.iload_n 2, 1, 0, 0) else none) else (bif Nat.beq pc 7 then some (.if_icmp .ge 27, 3, 0, 34) else none)) else (bif Nat.beq pc 5 then some (.bipush 36, 2, 36, 0) else none))) else (bif Nat.ble 2 pc then (bif Nat.ble 3 pc then (bif Nat.ble 4 pc then (bif Nat.beq pc 4 then some (.iload_n 3, 1, 0, 0) else none) else (bif Nat.beq pc 3 then some (.istore_n 3, 1, 0, 0) else none)) else (bif Nat.beq pc 2 then some (.iconst 0, 1, 0, 0) else none)) else (bif Nat.ble 1 pc then (bif Nat.beq pc 1 then some (.istore_n 2, 1, 0, 0) else none) else (bif Nat.beq pc 0 then some (.iconst 0, 1, 0, 0) else none))))
def I_X7_cellsOf : Nat → Option mjI := fun pc => bif Nat.ble 36 pc then none else J_X7_cellsOf pc
set_option maxRecDepth 100000 in
theorem I_X7_cellsOf_ok : ∀ pc row, I_X7_cellsOf pc = some row → mjrow Y0 cX7_cellsOf pc row = true ∧ mjrp (some .int) row.1 = true := mjchk_ok (n := 36) (by decide +kernel) (mjhi rfl)
def J_X7_greatestPiece : Nat → Option mjI := fun pc => bif Nat.ble 19 pc then (bif Nat.ble 31 pc then (bif Nat.ble 36 pc then (bif Nat.ble 39 pc then (bif Nat.ble 40 pc then (bif Nat.beq pc 40 then some (.ireturn, 1, 0, 0) else none) else (bif Nat.beq pc 39 then some (.iload_n 1, 1, 0, 0) else none)) else (bif Nat.beq pc 36 then some (.goto (-28), 3, 0, 8) else none)) else (bif Nat.ble 32 pc then (bif Nat.ble 33 pc then (bif Nat.beq pc 33 then some (.iinc 2 1, 3, 1, 0) else none) else (bif Nat.beq pc 32 then some (.istore_n 1, 1, 0, 0) else none)) else (bif Nat.beq pc 31 then some (.iload_n 1, 1, 0, 0) else none))) else (bif Nat.ble 24 pc then (bif Nat.ble 25 pc then (bif Nat.ble 28 pc then (bif Nat.beq pc 28 then some (.goto 4, 3, 0, 32) else none) else (bif Nat.beq pc 25 then some (.invokevirtual 154, 3, 0, 0) else none)) else (bif Nat.beq pc 24 then some (.iload_n 2, 1, 0, 0) else none)) else (bif Nat.ble 20 pc then (bif Nat.ble 23 pc then (bif Nat.beq pc 23 then some (.aload_n 0, 1, 0, 0) else none) else (bif Nat.beq pc 20 then some (.if_icmp .le 11, 3, 0, 31) else none)) else (bif Nat.beq pc 19 then some (.iload_n 1, 1, 0, 0) else none)))) else (bif Nat.ble 8 pc then (bif Nat.ble 14 pc then (bif Nat.ble 15 pc then (bif Nat.ble 16 pc then (bif Nat.beq pc 16 then some (.invokevirtual 154, 3, 0, 0) else none) else (bif Nat.beq pc 15 then some (.iload_n 2, 1, 0, 0) else none)) else (bif Nat.beq pc 14 then some (.aload_n 0, 1, 0, 0) else none)) else (bif Nat.ble 9 pc then (bif Nat.ble 11 pc then (bif Nat.beq pc 11 then some (.if_icmp .ge 28, 3, 0, 39) else none) else (bif Nat.beq pc 9 then some (.bipush 36, 2, 36, 0) else none)) else (bif Nat.beq pc 8 then some (.iload_n 2, 1, 0, 0) else none))) else (bif Nat.ble 5 pc then (bif Nat.ble 6 pc then (bif Nat.ble 7 pc then (bif Nat.beq pc 7 then some (.istore_n 2, 1, 0, 0) else none) else (bif Nat.beq pc 6 then some (.iconst 0, 1, 0, 0) else none)) else (bif Nat.beq pc 5 then some (.istore_n 1, 1, 0, 0) else none)) else (bif Nat.ble 1 pc then (bif Nat.ble 4 pc then (bif Nat.beq pc 4 then some (.iconst 0, 1, 0, 0) else none) else (bif Nat.beq pc 1 then some (.invokevirtual 151, 3, 0, 0) else none)) else (bif Nat.beq pc 0 then some (.aload_n 0, 1, 0, 0) else none))))
def I_X7_greatestPiece : Nat → Option mjI := fun pc => bif Nat.ble 41 pc then none else J_X7_greatestPiece pc
set_option maxRecDepth 100000 in
theorem I_X7_greatestPiece_ok : ∀ pc row, I_X7_greatestPiece pc = some row → mjrow Y0 cX7_greatestPiece pc row = true ∧ mjrp (some .int) row.1 = true := mjchk_ok (n := 41) (by decide +kernel) (mjhi rfl)
def J_X7_pieces : Nat → Option mjI := fun pc => bif Nat.ble 25 pc then (bif Nat.ble 37 pc then (bif Nat.ble 43 pc then (bif Nat.ble 49 pc then (bif Nat.ble 50 pc then (bif Nat.beq pc 50 then some (.ireturn, 1, 0, 0) else none) else (bif Nat.beq pc 49 then some (.iload_n 2, 1, 0, 0) else none)) else (bif Nat.ble 46 pc then (bif Nat.beq pc 46 then some (.goto (-27), 3, 0, 19) else none) else (bif Nat.beq pc 43 then some (.iinc 3 1, 3, 1, 0) else none))) else (bif Nat.ble 41 pc then (bif Nat.ble 42 pc then (bif Nat.beq pc 42 then some (.istore_n 2, 1, 0, 0) else none) else (bif Nat.beq pc 41 then some (.iadd, 1, 0, 0) else none)) else (bif Nat.ble 40 pc then (bif Nat.beq pc 40 then some (.iconst 0, 1, 0, 0) else none) else (bif Nat.beq pc 37 then some (.goto 4, 3, 0, 41) else none)))) else (bif Nat.ble 31 pc then (bif Nat.ble 33 pc then (bif Nat.ble 36 pc then (bif Nat.beq pc 36 then some (.iconst 1, 1, 1, 0) else none) else (bif Nat.beq pc 33 then some (.if_icmp .ne 7, 3, 0, 40) else none)) else (bif Nat.ble 32 pc then (bif Nat.beq pc 32 then some (.iload_n 3, 1, 0, 0) else none) else (bif Nat.beq pc 31 then some (.iaload, 1, 0, 0) else none))) else (bif Nat.ble 27 pc then (bif Nat.ble 30 pc then (bif Nat.beq pc 30 then some (.iload_n 3, 1, 0, 0) else none) else (bif Nat.beq pc 27 then some (.getfield 28, 3, 0, 0) else none)) else (bif Nat.ble 26 pc then (bif Nat.beq pc 26 then some (.aload_n 0, 1, 0, 0) else none) else (bif Nat.beq pc 25 then some (.iload_n 2, 1, 0, 0) else none))))) else (bif Nat.ble 12 pc then (bif Nat.ble 18 pc then (bif Nat.ble 20 pc then (bif Nat.ble 22 pc then (bif Nat.beq pc 22 then some (.if_icmp .ge 27, 3, 0, 49) else none) else (bif Nat.beq pc 20 then some (.bipush 36, 2, 36, 0) else none)) else (bif Nat.ble 19 pc then (bif Nat.beq pc 19 then some (.iload_n 3, 1, 0, 0) else none) else (bif Nat.beq pc 18 then some (.istore_n 3, 1, 0, 0) else none))) else (bif Nat.ble 16 pc then (bif Nat.ble 17 pc then (bif Nat.beq pc 17 then some (.iconst 0, 1, 0, 0) else none) else (bif Nat.beq pc 16 then some (.istore_n 2, 1, 0, 0) else none)) else (bif Nat.ble 15 pc then (bif Nat.beq pc 15 then some (.iconst 0, 1, 0, 0) else none) else (bif Nat.beq pc 12 then some (.invokevirtual 151, 3, 0, 0) else none)))) else (bif Nat.ble 6 pc then (bif Nat.ble 10 pc then (bif Nat.ble 11 pc then (bif Nat.beq pc 11 then some (.aload_n 0, 1, 0, 0) else none) else (bif Nat.beq pc 10 then some (.ireturn, 1, 0, 0) else none)) else (bif Nat.ble 9 pc then (bif Nat.beq pc 9 then some (.iconst (-1), 1, (-1), 0) else none) else (bif Nat.beq pc 6 then some (.ifCond .ne 5, 3, 0, 11) else none))) else (bif Nat.ble 2 pc then (bif Nat.ble 3 pc then (bif Nat.beq pc 3 then some (.invokestatic 43, 3, 0, 0) else none) else (bif Nat.beq pc 2 then some (.iconst 1, 1, 1, 0) else none)) else (bif Nat.ble 1 pc then (bif Nat.beq pc 1 then some (.iconst 0, 1, 0, 0) else none) else (bif Nat.beq pc 0 then some (.iload_n 1, 1, 0, 0) else none)))))
def I_X7_pieces : Nat → Option mjI := fun pc => bif Nat.ble 51 pc then none else J_X7_pieces pc
set_option maxRecDepth 100000 in
theorem I_X7_pieces_ok : ∀ pc row, I_X7_pieces pc = some row → mjrow Y0 cX7_pieces pc row = true ∧ mjrp (some .int) row.1 = true := mjchk_ok (n := 51) (by decide +kernel) (mjhi rfl)
def J_X7_mean : Nat → Option mjI := fun pc => bif Nat.ble 38 pc then (bif Nat.ble 59 pc then (bif Nat.ble 69 pc then (bif Nat.ble 74 pc then (bif Nat.ble 75 pc then (bif Nat.ble 76 pc then (bif Nat.beq pc 76 then some (.dreturn, 1, 0, 0) else none) else (bif Nat.beq pc 75 then some (.ddiv, 1, 0, 0) else none)) else (bif Nat.beq pc 74 then some (.i2d, 1, 0, 0) else none)) else (bif Nat.ble 70 pc then (bif Nat.ble 71 pc then (bif Nat.beq pc 71 then some (.invokevirtual 154, 3, 0, 0) else none) else (bif Nat.beq pc 70 then some (.iaload, 1, 0, 0) else none)) else (bif Nat.beq pc 69 then some (.iload_n 1, 1, 0, 0) else none))) else (bif Nat.ble 64 pc then (bif Nat.ble 65 pc then (bif Nat.ble 66 pc then (bif Nat.beq pc 66 then some (.getfield 28, 3, 0, 0) else none) else (bif Nat.beq pc 65 then some (.aload_n 0, 1, 0, 0) else none)) else (bif Nat.beq pc 64 then some (.aload_n 0, 1, 0, 0) else none)) else (bif Nat.ble 62 pc then (bif Nat.ble 63 pc then (bif Nat.beq pc 63 then some (.i2d, 1, 0, 0) else none) else (bif Nat.beq pc 62 then some (.iload_n 2, 1, 0, 0) else none)) else (bif Nat.beq pc 59 then some (.goto (-40), 3, 0, 19) else none)))) else (bif Nat.ble 49 pc then (bif Nat.ble 54 pc then (bif Nat.ble 55 pc then (bif Nat.ble 56 pc then (bif Nat.beq pc 56 then some (.iinc 3 1, 3, 1, 0) else none) else (bif Nat.beq pc 55 then some (.istore_n 2, 1, 0, 0) else none)) else (bif Nat.beq pc 54 then some (.iadd, 1, 0, 0) else none)) else (bif Nat.ble 50 pc then (bif Nat.ble 53 pc then (bif Nat.beq pc 53 then some (.iconst 0, 1, 0, 0) else none) else (bif Nat.beq pc 50 then some (.goto 4, 3, 0, 54) else none)) else (bif Nat.beq pc 49 then some (.iaload, 1, 0, 0) else none))) else (bif Nat.ble 45 pc then (bif Nat.ble 47 pc then (bif Nat.ble 48 pc then (bif Nat.beq pc 48 then some (.iadd, 1, 0, 0) else none) else (bif Nat.beq pc 47 then some (.iload_n 3, 1, 0, 0) else none)) else (bif Nat.beq pc 45 then some (.bipush 8, 2, 8, 0) else none)) else (bif Nat.ble 41 pc then (bif Nat.ble 42 pc then (bif Nat.beq pc 42 then some (.getfield 7, 3, 0, 0) else none) else (bif Nat.beq pc 41 then some (.aload_n 0, 1, 0, 0) else none)) else (bif Nat.beq pc 38 then some (.if_icmp .ne 15, 3, 0, 53) else none))))) else (bif Nat.ble 19 pc then (bif Nat.ble 30 pc then (bif Nat.ble 33 pc then (bif Nat.ble 36 pc then (bif Nat.ble 37 pc then (bif Nat.beq pc 37 then some (.iaload, 1, 0, 0) else none) else (bif Nat.beq pc 36 then some (.iload_n 1, 1, 0, 0) else none)) else (bif Nat.beq pc 33 then some (.getfield 28, 3, 0, 0) else none)) else (bif Nat.ble 31 pc then (bif Nat.ble 32 pc then (bif Nat.beq pc 32 then some (.aload_n 0, 1, 0, 0) else none) else (bif Nat.beq pc 31 then some (.iaload, 1, 0, 0) else none)) else (bif Nat.beq pc 30 then some (.iload_n 3, 1, 0, 0) else none))) else (bif Nat.ble 25 pc then (bif Nat.ble 26 pc then (bif Nat.ble 27 pc then (bif Nat.beq pc 27 then some (.getfield 28, 3, 0, 0) else none) else (bif Nat.beq pc 26 then some (.aload_n 0, 1, 0, 0) else none)) else (bif Nat.beq pc 25 then some (.iload_n 2, 1, 0, 0) else none)) else (bif Nat.ble 20 pc then (bif Nat.ble 22 pc then (bif Nat.beq pc 22 then some (.if_icmp .ge 40, 3, 0, 62) else none) else (bif Nat.beq pc 20 then some (.bipush 36, 2, 36, 0) else none)) else (bif Nat.beq pc 19 then some (.iload_n 3, 1, 0, 0) else none)))) else (bif Nat.ble 11 pc then (bif Nat.ble 16 pc then (bif Nat.ble 17 pc then (bif Nat.ble 18 pc then (bif Nat.beq pc 18 then some (.istore_n 3, 1, 0, 0) else none) else (bif Nat.beq pc 17 then some (.iconst 0, 1, 0, 0) else none)) else (bif Nat.beq pc 16 then some (.istore_n 2, 1, 0, 0) else none)) else (bif Nat.ble 12 pc then (bif Nat.ble 15 pc then (bif Nat.beq pc 15 then some (.iconst 0, 1, 0, 0) else none) else (bif Nat.beq pc 12 then some (.invokevirtual 151, 3, 0, 0) else none)) else (bif Nat.beq pc 11 then some (.aload_n 0, 1, 0, 0) else none))) else (bif Nat.ble 4 pc then (bif Nat.ble 7 pc then (bif Nat.ble 10 pc then (bif Nat.beq pc 10 then some (.dreturn, 1, 0, 0) else none) else (bif Nat.beq pc 7 then some (.ldc2_w 157, 3, 0, 0) else none)) else (bif Nat.beq pc 4 then some (.ifCond .ne 7, 3, 0, 11) else none)) else (bif Nat.ble 1 pc then (bif Nat.beq pc 1 then some (.invokestatic 108, 3, 0, 0) else none) else (bif Nat.beq pc 0 then some (.iload_n 1, 1, 0, 0) else none)))))
def I_X7_mean : Nat → Option mjI := fun pc => bif Nat.ble 77 pc then none else J_X7_mean pc
set_option maxRecDepth 100000 in
theorem I_X7_mean_ok : ∀ pc row, I_X7_mean pc = some row → mjrow Y0 cX7_mean pc row = true ∧ mjrp (some .double) row.1 = true := mjchk_ok (n := 77) (by decide +kernel) (mjhi rfl)
def J_X7_wholeOf : Nat → Option mjI := fun pc => bif Nat.ble 19 pc then (bif Nat.ble 31 pc then (bif Nat.ble 34 pc then (bif Nat.ble 40 pc then (bif Nat.ble 41 pc then (bif Nat.beq pc 41 then some (.ireturn, 1, 0, 0) else none) else (bif Nat.beq pc 40 then some (.iload_n 2, 1, 0, 0) else none)) else (bif Nat.ble 37 pc then (bif Nat.beq pc 37 then some (.goto (-33), 3, 0, 4) else none) else (bif Nat.beq pc 34 then some (.iinc 3 1, 3, 1, 0) else none))) else (bif Nat.ble 32 pc then (bif Nat.ble 33 pc then (bif Nat.beq pc 33 then some (.istore_n 2, 1, 0, 0) else none) else (bif Nat.beq pc 32 then some (.iadd, 1, 0, 0) else none)) else (bif Nat.beq pc 31 then some (.iconst 0, 1, 0, 0) else none))) else (bif Nat.ble 24 pc then (bif Nat.ble 27 pc then (bif Nat.ble 28 pc then (bif Nat.beq pc 28 then some (.goto 4, 3, 0, 32) else none) else (bif Nat.beq pc 27 then some (.iconst 1, 1, 1, 0) else none)) else (bif Nat.beq pc 24 then some (.ifCond .eq 7, 3, 0, 31) else none)) else (bif Nat.ble 20 pc then (bif Nat.ble 21 pc then (bif Nat.beq pc 21 then some (.invokestatic 59, 3, 0, 0) else none) else (bif Nat.beq pc 20 then some (.iload_n 1, 1, 0, 0) else none)) else (bif Nat.beq pc 19 then some (.iload_n 3, 1, 0, 0) else none)))) else (bif Nat.ble 7 pc then (bif Nat.ble 12 pc then (bif Nat.ble 13 pc then (bif Nat.ble 16 pc then (bif Nat.beq pc 16 then some (.ifCond .eq 15, 3, 0, 31) else none) else (bif Nat.beq pc 13 then some (.invokevirtual 63, 3, 0, 0) else none)) else (bif Nat.beq pc 12 then some (.iload_n 3, 1, 0, 0) else none)) else (bif Nat.ble 10 pc then (bif Nat.ble 11 pc then (bif Nat.beq pc 11 then some (.aload_n 0, 1, 0, 0) else none) else (bif Nat.beq pc 10 then some (.iload_n 2, 1, 0, 0) else none)) else (bif Nat.beq pc 7 then some (.if_icmp .ge 33, 3, 0, 40) else none))) else (bif Nat.ble 3 pc then (bif Nat.ble 4 pc then (bif Nat.ble 5 pc then (bif Nat.beq pc 5 then some (.bipush 60, 2, 60, 0) else none) else (bif Nat.beq pc 4 then some (.iload_n 3, 1, 0, 0) else none)) else (bif Nat.beq pc 3 then some (.istore_n 3, 1, 0, 0) else none)) else (bif Nat.ble 1 pc then (bif Nat.ble 2 pc then (bif Nat.beq pc 2 then some (.iconst 0, 1, 0, 0) else none) else (bif Nat.beq pc 1 then some (.istore_n 2, 1, 0, 0) else none)) else (bif Nat.beq pc 0 then some (.iconst 0, 1, 0, 0) else none))))
def I_X7_wholeOf : Nat → Option mjI := fun pc => bif Nat.ble 42 pc then none else J_X7_wholeOf pc
set_option maxRecDepth 100000 in
theorem I_X7_wholeOf_ok : ∀ pc row, I_X7_wholeOf pc = some row → mjrow Y0 cX7_wholeOf pc row = true ∧ mjrp (some .int) row.1 = true := mjchk_ok (n := 42) (by decide +kernel) (mjhi rfl)
def J_X7_stressAt : Nat → Option mjI := fun pc => bif Nat.ble 27 pc then (bif Nat.ble 38 pc then (bif Nat.ble 46 pc then (bif Nat.ble 52 pc then (bif Nat.ble 53 pc then (bif Nat.beq pc 53 then some (.ireturn, 1, 0, 0) else none) else (bif Nat.beq pc 52 then some (.iload_n 2, 1, 0, 0) else none)) else (bif Nat.ble 49 pc then (bif Nat.beq pc 49 then some (.goto (-44), 3, 0, 5) else none) else (bif Nat.beq pc 46 then some (.iinc 3 1, 3, 1, 0) else none))) else (bif Nat.ble 44 pc then (bif Nat.ble 45 pc then (bif Nat.beq pc 45 then some (.istore_n 2, 1, 0, 0) else none) else (bif Nat.beq pc 44 then some (.iload_n 2, 1, 0, 0) else none)) else (bif Nat.ble 41 pc then (bif Nat.beq pc 41 then some (.goto 4, 3, 0, 45) else none) else (bif Nat.beq pc 38 then some (.invokevirtual 56, 3, 0, 0) else none)))) else (bif Nat.ble 32 pc then (bif Nat.ble 36 pc then (bif Nat.ble 37 pc then (bif Nat.beq pc 37 then some (.iload_n 3, 1, 0, 0) else none) else (bif Nat.beq pc 36 then some (.aload_n 0, 1, 0, 0) else none)) else (bif Nat.ble 33 pc then (bif Nat.beq pc 33 then some (.if_icmp .le 11, 3, 0, 44) else none) else (bif Nat.beq pc 32 then some (.iload_n 2, 1, 0, 0) else none))) else (bif Nat.ble 28 pc then (bif Nat.ble 29 pc then (bif Nat.beq pc 29 then some (.invokevirtual 56, 3, 0, 0) else none) else (bif Nat.beq pc 28 then some (.iload_n 3, 1, 0, 0) else none)) else (bif Nat.beq pc 27 then some (.aload_n 0, 1, 0, 0) else none)))) else (bif Nat.ble 11 pc then (bif Nat.ble 19 pc then (bif Nat.ble 21 pc then (bif Nat.ble 24 pc then (bif Nat.beq pc 24 then some (.ifCond .eq 20, 3, 0, 44) else none) else (bif Nat.beq pc 21 then some (.invokestatic 59, 3, 0, 0) else none)) else (bif Nat.ble 20 pc then (bif Nat.beq pc 20 then some (.iload_n 1, 1, 0, 0) else none) else (bif Nat.beq pc 19 then some (.iload_n 3, 1, 0, 0) else none))) else (bif Nat.ble 13 pc then (bif Nat.ble 16 pc then (bif Nat.beq pc 16 then some (.ifCond .eq 28, 3, 0, 44) else none) else (bif Nat.beq pc 13 then some (.invokevirtual 63, 3, 0, 0) else none)) else (bif Nat.ble 12 pc then (bif Nat.beq pc 12 then some (.iload_n 3, 1, 0, 0) else none) else (bif Nat.beq pc 11 then some (.aload_n 0, 1, 0, 0) else none)))) else (bif Nat.ble 4 pc then (bif Nat.ble 6 pc then (bif Nat.ble 8 pc then (bif Nat.beq pc 8 then some (.if_icmp .ge 44, 3, 0, 52) else none) else (bif Nat.beq pc 6 then some (.bipush 60, 2, 60, 0) else none)) else (bif Nat.ble 5 pc then (bif Nat.beq pc 5 then some (.iload_n 3, 1, 0, 0) else none) else (bif Nat.beq pc 4 then some (.istore_n 3, 1, 0, 0) else none))) else (bif Nat.ble 2 pc then (bif Nat.ble 3 pc then (bif Nat.beq pc 3 then some (.iconst 0, 1, 0, 0) else none) else (bif Nat.beq pc 2 then some (.istore_n 2, 1, 0, 0) else none)) else (bif Nat.beq pc 0 then some (.bipush (-4), 2, (-4), 0) else none))))
def I_X7_stressAt : Nat → Option mjI := fun pc => bif Nat.ble 54 pc then none else J_X7_stressAt pc
set_option maxRecDepth 100000 in
theorem I_X7_stressAt_ok : ∀ pc row, I_X7_stressAt pc = some row → mjrow Y0 cX7_stressAt pc row = true ∧ mjrp (some .int) row.1 = true := mjchk_ok (n := 54) (by decide +kernel) (mjhi rfl)
def J_X7_pieceOf : Nat → Option mjI := fun pc => bif Nat.ble 5 pc then (bif Nat.ble 9 pc then (bif Nat.ble 10 pc then (bif Nat.beq pc 10 then some (.ireturn, 1, 0, 0) else none) else (bif Nat.beq pc 9 then some (.iaload, 1, 0, 0) else none)) else (bif Nat.ble 8 pc then (bif Nat.beq pc 8 then some (.iload_n 1, 1, 0, 0) else none) else (bif Nat.beq pc 5 then some (.getfield 28, 3, 0, 0) else none))) else (bif Nat.ble 1 pc then (bif Nat.ble 4 pc then (bif Nat.beq pc 4 then some (.aload_n 0, 1, 0, 0) else none) else (bif Nat.beq pc 1 then some (.invokevirtual 151, 3, 0, 0) else none)) else (bif Nat.beq pc 0 then some (.aload_n 0, 1, 0, 0) else none))
def I_X7_pieceOf : Nat → Option mjI := fun pc => bif Nat.ble 11 pc then none else J_X7_pieceOf pc
set_option maxRecDepth 100000 in
theorem I_X7_pieceOf_ok : ∀ pc row, I_X7_pieceOf pc = some row → mjrow Y0 cX7_pieceOf pc row = true ∧ mjrp (some .int) row.1 = true := mjchk_ok (n := 11) (by decide +kernel) (mjhi rfl)
def J_X7_cell : Nat → Option mjI := fun pc => bif Nat.ble 55 pc then (bif Nat.ble 67 pc then (bif Nat.ble 73 pc then (bif Nat.ble 77 pc then (bif Nat.ble 78 pc then (bif Nat.beq pc 78 then some (.ireturn, 1, 0, 0) else none) else (bif Nat.beq pc 77 then some (.iconst (-1), 1, (-1), 0) else none)) else (bif Nat.ble 76 pc then (bif Nat.beq pc 76 then some (.ireturn, 1, 0, 0) else none) else (bif Nat.beq pc 73 then some (.invokevirtual 165, 3, 0, 0) else none))) else (bif Nat.ble 71 pc then (bif Nat.ble 72 pc then (bif Nat.beq pc 72 then some (.iload_n 1, 1, 0, 0) else none) else (bif Nat.beq pc 71 then some (.aload_n 0, 1, 0, 0) else none)) else (bif Nat.ble 70 pc then (bif Nat.beq pc 70 then some (.ireturn, 1, 0, 0) else none) else (bif Nat.beq pc 67 then some (.invokestatic 67, 3, 0, 0) else none)))) else (bif Nat.ble 61 pc then (bif Nat.ble 65 pc then (bif Nat.ble 66 pc then (bif Nat.beq pc 66 then some (.iload_n 1, 1, 0, 0) else none) else (bif Nat.beq pc 65 then some (.ireturn, 1, 0, 0) else none)) else (bif Nat.ble 62 pc then (bif Nat.beq pc 62 then some (.invokevirtual 162, 3, 0, 0) else none) else (bif Nat.beq pc 61 then some (.iload_n 1, 1, 0, 0) else none))) else (bif Nat.ble 59 pc then (bif Nat.ble 60 pc then (bif Nat.beq pc 60 then some (.aload_n 0, 1, 0, 0) else none) else (bif Nat.beq pc 59 then some (.ireturn, 1, 0, 0) else none)) else (bif Nat.ble 56 pc then (bif Nat.beq pc 56 then some (.invokevirtual 159, 3, 0, 0) else none) else (bif Nat.beq pc 55 then some (.iload_n 1, 1, 0, 0) else none))))) else (bif Nat.ble 44 pc then (bif Nat.ble 51 pc then (bif Nat.ble 53 pc then (bif Nat.ble 54 pc then (bif Nat.beq pc 54 then some (.aload_n 0, 1, 0, 0) else none) else (bif Nat.beq pc 53 then some (.ireturn, 1, 0, 0) else none)) else (bif Nat.ble 52 pc then (bif Nat.beq pc 52 then some (.iaload, 1, 0, 0) else none) else (bif Nat.beq pc 51 then some (.iadd, 1, 0, 0) else none))) else (bif Nat.ble 48 pc then (bif Nat.ble 50 pc then (bif Nat.beq pc 50 then some (.iload_n 1, 1, 0, 0) else none) else (bif Nat.beq pc 48 then some (.bipush 8, 2, 8, 0) else none)) else (bif Nat.ble 45 pc then (bif Nat.beq pc 45 then some (.getfield 7, 3, 0, 0) else none) else (bif Nat.beq pc 44 then some (.aload_n 0, 1, 0, 0) else none)))) else (bif Nat.ble 7 pc then (bif Nat.ble 9 pc then (bif Nat.ble 10 pc then (bif Nat.beq pc 10 then some (.tableswitch 67 0 4 #[34, 44, 50, 56, 61], 34, 0, 77) else none) else (bif Nat.beq pc 9 then some (.iload_n 2, 1, 0, 0) else none)) else (bif Nat.ble 8 pc then (bif Nat.beq pc 8 then some (.ireturn, 1, 0, 0) else none) else (bif Nat.beq pc 7 then some (.iconst (-1), 1, (-1), 0) else none))) else (bif Nat.ble 1 pc then (bif Nat.ble 4 pc then (bif Nat.beq pc 4 then some (.ifCond .ne 5, 3, 0, 9) else none) else (bif Nat.beq pc 1 then some (.invokestatic 108, 3, 0, 0) else none)) else (bif Nat.beq pc 0 then some (.iload_n 1, 1, 0, 0) else none))))
def I_X7_cell : Nat → Option mjI := fun pc => bif Nat.ble 79 pc then none else J_X7_cell pc
def Y_X7_cell : Nat → List (Int32 × Nat) := fun pc => bif Nat.beq pc 10 then [(0, 44), (1, 54), (2, 60), (3, 66), (4, 71)] else []
set_option maxRecDepth 100000 in
theorem I_X7_cell_ok : ∀ pc row, I_X7_cell pc = some row → mjrow Y_X7_cell cX7_cell pc row = true ∧ mjrp (some .int) row.1 = true := mjchk_ok (n := 79) (by decide +kernel) (mjhi rfl)
def J_X7_touching : Nat → Option mjI := fun pc => bif Nat.ble 19 pc then (bif Nat.ble 31 pc then (bif Nat.ble 34 pc then (bif Nat.ble 40 pc then (bif Nat.ble 41 pc then (bif Nat.beq pc 41 then some (.ireturn, 1, 0, 0) else none) else (bif Nat.beq pc 40 then some (.iload_n 2, 1, 0, 0) else none)) else (bif Nat.ble 37 pc then (bif Nat.beq pc 37 then some (.goto (-33), 3, 0, 4) else none) else (bif Nat.beq pc 34 then some (.iinc 3 1, 3, 1, 0) else none))) else (bif Nat.ble 32 pc then (bif Nat.ble 33 pc then (bif Nat.beq pc 33 then some (.istore_n 2, 1, 0, 0) else none) else (bif Nat.beq pc 32 then some (.iadd, 1, 0, 0) else none)) else (bif Nat.beq pc 31 then some (.iconst 0, 1, 0, 0) else none))) else (bif Nat.ble 24 pc then (bif Nat.ble 27 pc then (bif Nat.ble 28 pc then (bif Nat.beq pc 28 then some (.goto 4, 3, 0, 32) else none) else (bif Nat.beq pc 27 then some (.iconst 1, 1, 1, 0) else none)) else (bif Nat.beq pc 24 then some (.ifCond .eq 7, 3, 0, 31) else none)) else (bif Nat.ble 20 pc then (bif Nat.ble 21 pc then (bif Nat.beq pc 21 then some (.invokestatic 86, 3, 0, 0) else none) else (bif Nat.beq pc 20 then some (.iload_n 3, 1, 0, 0) else none)) else (bif Nat.beq pc 19 then some (.iload_n 1, 1, 0, 0) else none)))) else (bif Nat.ble 7 pc then (bif Nat.ble 12 pc then (bif Nat.ble 13 pc then (bif Nat.ble 16 pc then (bif Nat.beq pc 16 then some (.ifCond .eq 15, 3, 0, 31) else none) else (bif Nat.beq pc 13 then some (.invokevirtual 63, 3, 0, 0) else none)) else (bif Nat.beq pc 12 then some (.iload_n 3, 1, 0, 0) else none)) else (bif Nat.ble 10 pc then (bif Nat.ble 11 pc then (bif Nat.beq pc 11 then some (.aload_n 0, 1, 0, 0) else none) else (bif Nat.beq pc 10 then some (.iload_n 2, 1, 0, 0) else none)) else (bif Nat.beq pc 7 then some (.if_icmp .ge 33, 3, 0, 40) else none))) else (bif Nat.ble 3 pc then (bif Nat.ble 4 pc then (bif Nat.ble 5 pc then (bif Nat.beq pc 5 then some (.bipush 60, 2, 60, 0) else none) else (bif Nat.beq pc 4 then some (.iload_n 3, 1, 0, 0) else none)) else (bif Nat.beq pc 3 then some (.istore_n 3, 1, 0, 0) else none)) else (bif Nat.ble 1 pc then (bif Nat.ble 2 pc then (bif Nat.beq pc 2 then some (.iconst 0, 1, 0, 0) else none) else (bif Nat.beq pc 1 then some (.istore_n 2, 1, 0, 0) else none)) else (bif Nat.beq pc 0 then some (.iconst 0, 1, 0, 0) else none))))
def I_X7_touching : Nat → Option mjI := fun pc => bif Nat.ble 42 pc then none else J_X7_touching pc
set_option maxRecDepth 100000 in
theorem I_X7_touching_ok : ∀ pc row, I_X7_touching pc = some row → mjrow Y0 cX7_touching pc row = true ∧ mjrp (some .int) row.1 = true := mjchk_ok (n := 42) (by decide +kernel) (mjhi rfl)
def J_X7_joint : Nat → Option mjI := fun pc => bif Nat.ble 83 pc then (bif Nat.ble 105 pc then (bif Nat.ble 114 pc then (bif Nat.ble 117 pc then (bif Nat.ble 121 pc then (bif Nat.ble 122 pc then (bif Nat.beq pc 122 then some (.ireturn, 1, 0, 0) else none) else (bif Nat.beq pc 121 then some (.iconst (-1), 1, (-1), 0) else none)) else (bif Nat.ble 120 pc then (bif Nat.beq pc 120 then some (.ireturn, 1, 0, 0) else none) else (bif Nat.beq pc 117 then some (.invokevirtual 168, 3, 0, 0) else none))) else (bif Nat.ble 115 pc then (bif Nat.ble 116 pc then (bif Nat.beq pc 116 then some (.iload_n 1, 1, 0, 0) else none) else (bif Nat.beq pc 115 then some (.aload_n 0, 1, 0, 0) else none)) else (bif Nat.beq pc 114 then some (.ireturn, 1, 0, 0) else none))) else (bif Nat.ble 111 pc then (bif Nat.ble 112 pc then (bif Nat.ble 113 pc then (bif Nat.beq pc 113 then some (.iaload, 1, 0, 0) else none) else (bif Nat.beq pc 112 then some (.iadd, 1, 0, 0) else none)) else (bif Nat.beq pc 111 then some (.iload_n 1, 1, 0, 0) else none)) else (bif Nat.ble 106 pc then (bif Nat.ble 109 pc then (bif Nat.beq pc 109 then some (.bipush 44, 2, 44, 0) else none) else (bif Nat.beq pc 106 then some (.getfield 7, 3, 0, 0) else none)) else (bif Nat.beq pc 105 then some (.aload_n 0, 1, 0, 0) else none)))) else (bif Nat.ble 91 pc then (bif Nat.ble 94 pc then (bif Nat.ble 100 pc then (bif Nat.ble 102 pc then (bif Nat.beq pc 102 then some (.goto 12, 3, 0, 114) else none) else (bif Nat.beq pc 100 then some (.bipush (-4), 2, (-4), 0) else none)) else (bif Nat.ble 97 pc then (bif Nat.beq pc 97 then some (.ifCond .eq 8, 3, 0, 105) else none) else (bif Nat.beq pc 94 then some (.invokevirtual 63, 3, 0, 0) else none))) else (bif Nat.ble 92 pc then (bif Nat.ble 93 pc then (bif Nat.beq pc 93 then some (.iload_n 1, 1, 0, 0) else none) else (bif Nat.beq pc 92 then some (.aload_n 0, 1, 0, 0) else none)) else (bif Nat.beq pc 91 then some (.ireturn, 1, 0, 0) else none))) else (bif Nat.ble 86 pc then (bif Nat.ble 87 pc then (bif Nat.ble 88 pc then (bif Nat.beq pc 88 then some (.invokevirtual 56, 3, 0, 0) else none) else (bif Nat.beq pc 87 then some (.iload_n 1, 1, 0, 0) else none)) else (bif Nat.beq pc 86 then some (.aload_n 0, 1, 0, 0) else none)) else (bif Nat.ble 84 pc then (bif Nat.ble 85 pc then (bif Nat.beq pc 85 then some (.ireturn, 1, 0, 0) else none) else (bif Nat.beq pc 84 then some (.iaload, 1, 0, 0) else none)) else (bif Nat.beq pc 83 then some (.iadd, 1, 0, 0) else none))))) else (bif Nat.ble 61 pc then (bif Nat.ble 71 pc then (bif Nat.ble 76 pc then (bif Nat.ble 80 pc then (bif Nat.ble 82 pc then (bif Nat.beq pc 82 then some (.iload_n 1, 1, 0, 0) else none) else (bif Nat.beq pc 80 then some (.bipush 104, 2, 104, 0) else none)) else (bif Nat.ble 77 pc then (bif Nat.beq pc 77 then some (.getfield 7, 3, 0, 0) else none) else (bif Nat.beq pc 76 then some (.aload_n 0, 1, 0, 0) else none))) else (bif Nat.ble 74 pc then (bif Nat.ble 75 pc then (bif Nat.beq pc 75 then some (.ireturn, 1, 0, 0) else none) else (bif Nat.beq pc 74 then some (.iconst 0, 1, 0, 0) else none)) else (bif Nat.beq pc 71 then some (.goto 4, 3, 0, 75) else none))) else (bif Nat.ble 64 pc then (bif Nat.ble 67 pc then (bif Nat.ble 70 pc then (bif Nat.beq pc 70 then some (.iconst 1, 1, 1, 0) else none) else (bif Nat.beq pc 67 then some (.ifCond .eq 7, 3, 0, 74) else none)) else (bif Nat.beq pc 64 then some (.invokevirtual 63, 3, 0, 0) else none)) else (bif Nat.ble 62 pc then (bif Nat.ble 63 pc then (bif Nat.beq pc 63 then some (.iload_n 1, 1, 0, 0) else none) else (bif Nat.beq pc 62 then some (.aload_n 0, 1, 0, 0) else none)) else (bif Nat.beq pc 61 then some (.ireturn, 1, 0, 0) else none)))) else (bif Nat.ble 10 pc then (bif Nat.ble 56 pc then (bif Nat.ble 57 pc then (bif Nat.ble 58 pc then (bif Nat.beq pc 58 then some (.invokestatic 50, 3, 0, 0) else none) else (bif Nat.beq pc 57 then some (.iload_n 1, 1, 0, 0) else none)) else (bif Nat.beq pc 56 then some (.ireturn, 1, 0, 0) else none)) else (bif Nat.ble 52 pc then (bif Nat.ble 53 pc then (bif Nat.beq pc 53 then some (.invokestatic 47, 3, 0, 0) else none) else (bif Nat.beq pc 52 then some (.iload_n 1, 1, 0, 0) else none)) else (bif Nat.beq pc 10 then some (.tableswitch 111 0 6 #[42, 47, 52, 66, 76, 82, 105], 42, 0, 121) else none))) else (bif Nat.ble 7 pc then (bif Nat.ble 8 pc then (bif Nat.ble 9 pc then (bif Nat.beq pc 9 then some (.iload_n 2, 1, 0, 0) else none) else (bif Nat.beq pc 8 then some (.ireturn, 1, 0, 0) else none)) else (bif Nat.beq pc 7 then some (.iconst (-1), 1, (-1), 0) else none)) else (bif Nat.ble 1 pc then (bif Nat.ble 4 pc then (bif Nat.beq pc 4 then some (.ifCond .ne 5, 3, 0, 9) else none) else (bif Nat.beq pc 1 then some (.invokestatic 102, 3, 0, 0) else none)) else (bif Nat.beq pc 0 then some (.iload_n 1, 1, 0, 0) else none)))))
def I_X7_joint : Nat → Option mjI := fun pc => bif Nat.ble 123 pc then none else J_X7_joint pc
def Y_X7_joint : Nat → List (Int32 × Nat) := fun pc => bif Nat.beq pc 10 then [(0, 52), (1, 57), (2, 62), (3, 76), (4, 86), (5, 92), (6, 115)] else []
set_option maxRecDepth 100000 in
theorem I_X7_joint_ok : ∀ pc row, I_X7_joint pc = some row → mjrow Y_X7_joint cX7_joint pc row = true ∧ mjrp (some .int) row.1 = true := mjchk_ok (n := 123) (by decide +kernel) (mjhi rfl)
def J_X7_isAhead : Nat → Option mjI := fun pc => bif Nat.ble 18 pc then (bif Nat.ble 27 pc then (bif Nat.ble 32 pc then (bif Nat.ble 35 pc then (bif Nat.ble 36 pc then (bif Nat.beq pc 36 then some (.ireturn, 1, 0, 0) else none) else (bif Nat.beq pc 35 then some (.iconst 0, 1, 0, 0) else none)) else (bif Nat.beq pc 32 then some (.goto 4, 3, 0, 36) else none)) else (bif Nat.ble 28 pc then (bif Nat.ble 31 pc then (bif Nat.beq pc 31 then some (.iconst 1, 1, 1, 0) else none) else (bif Nat.beq pc 28 then some (.if_icmp .ge 7, 3, 0, 35) else none)) else (bif Nat.beq pc 27 then some (.iload_n 2, 1, 0, 0) else none))) else (bif Nat.ble 20 pc then (bif Nat.ble 23 pc then (bif Nat.ble 26 pc then (bif Nat.beq pc 26 then some (.iload_n 1, 1, 0, 0) else none) else (bif Nat.beq pc 23 then some (.if_icmp .ne 12, 3, 0, 35) else none)) else (bif Nat.beq pc 20 then some (.invokevirtual 70, 3, 0, 0) else none)) else (bif Nat.ble 19 pc then (bif Nat.beq pc 19 then some (.iload_n 2, 1, 0, 0) else none) else (bif Nat.beq pc 18 then some (.aload_n 0, 1, 0, 0) else none)))) else (bif Nat.ble 7 pc then (bif Nat.ble 13 pc then (bif Nat.ble 14 pc then (bif Nat.ble 15 pc then (bif Nat.beq pc 15 then some (.invokevirtual 70, 3, 0, 0) else none) else (bif Nat.beq pc 14 then some (.iload_n 1, 1, 0, 0) else none)) else (bif Nat.beq pc 13 then some (.aload_n 0, 1, 0, 0) else none)) else (bif Nat.ble 10 pc then (bif Nat.beq pc 10 then some (.if_icmp .lt 21, 3, 0, 31) else none) else (bif Nat.beq pc 7 then some (.invokevirtual 70, 3, 0, 0) else none))) else (bif Nat.ble 2 pc then (bif Nat.ble 5 pc then (bif Nat.ble 6 pc then (bif Nat.beq pc 6 then some (.iload_n 2, 1, 0, 0) else none) else (bif Nat.beq pc 5 then some (.aload_n 0, 1, 0, 0) else none)) else (bif Nat.beq pc 2 then some (.invokevirtual 70, 3, 0, 0) else none)) else (bif Nat.ble 1 pc then (bif Nat.beq pc 1 then some (.iload_n 1, 1, 0, 0) else none) else (bif Nat.beq pc 0 then some (.aload_n 0, 1, 0, 0) else none))))
def I_X7_isAhead : Nat → Option mjI := fun pc => bif Nat.ble 37 pc then none else J_X7_isAhead pc
set_option maxRecDepth 100000 in
theorem I_X7_isAhead_ok : ∀ pc row, I_X7_isAhead pc = some row → mjrow Y0 cX7_isAhead pc row = true ∧ mjrp (some .boolean) row.1 = true := mjchk_ok (n := 37) (by decide +kernel) (mjhi rfl)
def J_X7_strained : Nat → Option mjI := fun pc => bif Nat.ble 44 pc then (bif Nat.ble 67 pc then (bif Nat.ble 80 pc then (bif Nat.ble 85 pc then (bif Nat.ble 91 pc then (bif Nat.ble 92 pc then (bif Nat.beq pc 92 then some (.ireturn, 1, 0, 0) else none) else (bif Nat.beq pc 91 then some (.iload_n 2, 1, 0, 0) else none)) else (bif Nat.ble 88 pc then (bif Nat.beq pc 88 then some (.goto (-77), 3, 0, 11) else none) else (bif Nat.beq pc 85 then some (.iinc 3 1, 3, 1, 0) else none))) else (bif Nat.ble 83 pc then (bif Nat.ble 84 pc then (bif Nat.beq pc 84 then some (.istore_n 2, 1, 0, 0) else none) else (bif Nat.beq pc 83 then some (.iload_n 2, 1, 0, 0) else none)) else (bif Nat.beq pc 80 then some (.goto 4, 3, 0, 84) else none))) else (bif Nat.ble 75 pc then (bif Nat.ble 76 pc then (bif Nat.ble 79 pc then (bif Nat.beq pc 79 then some (.iload_n 3, 1, 0, 0) else none) else (bif Nat.beq pc 76 then some (.if_icmp .ne 7, 3, 0, 83) else none)) else (bif Nat.beq pc 75 then some (.iload_n 1, 1, 0, 0) else none)) else (bif Nat.ble 70 pc then (bif Nat.ble 73 pc then (bif Nat.beq pc 73 then some (.iload 4, 2, 0, 0) else none) else (bif Nat.beq pc 70 then some (.ifCond .eq 13, 3, 0, 83) else none)) else (bif Nat.beq pc 67 then some (.invokevirtual 63, 3, 0, 0) else none)))) else (bif Nat.ble 56 pc then (bif Nat.ble 62 pc then (bif Nat.ble 65 pc then (bif Nat.ble 66 pc then (bif Nat.beq pc 66 then some (.iload_n 3, 1, 0, 0) else none) else (bif Nat.beq pc 65 then some (.aload_n 0, 1, 0, 0) else none)) else (bif Nat.beq pc 62 then some (.goto (-39), 3, 0, 23) else none)) else (bif Nat.ble 57 pc then (bif Nat.ble 59 pc then (bif Nat.beq pc 59 then some (.iinc 5 1, 3, 1, 0) else none) else (bif Nat.beq pc 57 then some (.istore 4, 2, 0, 0) else none)) else (bif Nat.beq pc 56 then some (.iadd, 1, 0, 0) else none))) else (bif Nat.ble 51 pc then (bif Nat.ble 52 pc then (bif Nat.ble 55 pc then (bif Nat.beq pc 55 then some (.iconst 0, 1, 0, 0) else none) else (bif Nat.beq pc 52 then some (.goto 4, 3, 0, 56) else none)) else (bif Nat.beq pc 51 then some (.iconst 1, 1, 1, 0) else none)) else (bif Nat.ble 45 pc then (bif Nat.ble 48 pc then (bif Nat.beq pc 48 then some (.ifCond .eq 7, 3, 0, 55) else none) else (bif Nat.beq pc 45 then some (.invokevirtual 171, 3, 0, 0) else none)) else (bif Nat.beq pc 44 then some (.iload_n 3, 1, 0, 0) else none))))) else (bif Nat.ble 18 pc then (bif Nat.ble 30 pc then (bif Nat.ble 35 pc then (bif Nat.ble 41 pc then (bif Nat.ble 42 pc then (bif Nat.beq pc 42 then some (.iload 5, 2, 0, 0) else none) else (bif Nat.beq pc 41 then some (.aload_n 0, 1, 0, 0) else none)) else (bif Nat.ble 38 pc then (bif Nat.beq pc 38 then some (.ifCond .eq 17, 3, 0, 55) else none) else (bif Nat.beq pc 35 then some (.invokevirtual 63, 3, 0, 0) else none))) else (bif Nat.ble 32 pc then (bif Nat.ble 33 pc then (bif Nat.beq pc 33 then some (.iload 5, 2, 0, 0) else none) else (bif Nat.beq pc 32 then some (.aload_n 0, 1, 0, 0) else none)) else (bif Nat.beq pc 30 then some (.iload 4, 2, 0, 0) else none))) else (bif Nat.ble 23 pc then (bif Nat.ble 25 pc then (bif Nat.ble 27 pc then (bif Nat.beq pc 27 then some (.if_icmp .ge 38, 3, 0, 65) else none) else (bif Nat.beq pc 25 then some (.bipush 60, 2, 60, 0) else none)) else (bif Nat.beq pc 23 then some (.iload 5, 2, 0, 0) else none)) else (bif Nat.ble 20 pc then (bif Nat.ble 21 pc then (bif Nat.beq pc 21 then some (.istore 5, 2, 0, 0) else none) else (bif Nat.beq pc 20 then some (.iconst 0, 1, 0, 0) else none)) else (bif Nat.beq pc 18 then some (.istore 4, 2, 0, 0) else none)))) else (bif Nat.ble 9 pc then (bif Nat.ble 12 pc then (bif Nat.ble 14 pc then (bif Nat.ble 17 pc then (bif Nat.beq pc 17 then some (.iconst 0, 1, 0, 0) else none) else (bif Nat.beq pc 14 then some (.if_icmp .ge 77, 3, 0, 91) else none)) else (bif Nat.beq pc 12 then some (.bipush 60, 2, 60, 0) else none)) else (bif Nat.ble 10 pc then (bif Nat.ble 11 pc then (bif Nat.beq pc 11 then some (.iload_n 3, 1, 0, 0) else none) else (bif Nat.beq pc 10 then some (.istore_n 3, 1, 0, 0) else none)) else (bif Nat.beq pc 9 then some (.iconst 0, 1, 0, 0) else none))) else (bif Nat.ble 5 pc then (bif Nat.ble 6 pc then (bif Nat.ble 8 pc then (bif Nat.beq pc 8 then some (.istore_n 2, 1, 0, 0) else none) else (bif Nat.beq pc 6 then some (.bipush (-4), 2, (-4), 0) else none)) else (bif Nat.beq pc 5 then some (.ireturn, 1, 0, 0) else none)) else (bif Nat.ble 1 pc then (bif Nat.ble 4 pc then (bif Nat.beq pc 4 then some (.iconst (-1), 1, (-1), 0) else none) else (bif Nat.beq pc 1 then some (.ifCond .ge 5, 3, 0, 6) else none)) else (bif Nat.beq pc 0 then some (.iload_n 1, 1, 0, 0) else none)))))
def I_X7_strained : Nat → Option mjI := fun pc => bif Nat.ble 93 pc then none else J_X7_strained pc
set_option maxRecDepth 100000 in
theorem I_X7_strained_ok : ∀ pc row, I_X7_strained pc = some row → mjrow Y0 cX7_strained pc row = true ∧ mjrp (some .int) row.1 = true := mjchk_ok (n := 93) (by decide +kernel) (mjhi rfl)
def J_X7_sumOfHeats : Nat → Option mjI := fun pc => bif Nat.ble 15 pc then (bif Nat.ble 21 pc then (bif Nat.ble 25 pc then (bif Nat.ble 28 pc then (bif Nat.ble 29 pc then (bif Nat.beq pc 29 then some (.ireturn, 1, 0, 0) else none) else (bif Nat.beq pc 28 then some (.iload_n 1, 1, 0, 0) else none)) else (bif Nat.beq pc 25 then some (.goto (-21), 3, 0, 4) else none)) else (bif Nat.ble 22 pc then (bif Nat.beq pc 22 then some (.iinc 2 1, 3, 1, 0) else none) else (bif Nat.beq pc 21 then some (.istore_n 1, 1, 0, 0) else none))) else (bif Nat.ble 18 pc then (bif Nat.ble 19 pc then (bif Nat.ble 20 pc then (bif Nat.beq pc 20 then some (.iadd, 1, 0, 0) else none) else (bif Nat.beq pc 19 then some (.iaload, 1, 0, 0) else none)) else (bif Nat.beq pc 18 then some (.iadd, 1, 0, 0) else none)) else (bif Nat.ble 17 pc then (bif Nat.beq pc 17 then some (.iload_n 2, 1, 0, 0) else none) else (bif Nat.beq pc 15 then some (.bipush 8, 2, 8, 0) else none)))) else (bif Nat.ble 5 pc then (bif Nat.ble 10 pc then (bif Nat.ble 11 pc then (bif Nat.ble 12 pc then (bif Nat.beq pc 12 then some (.getfield 7, 3, 0, 0) else none) else (bif Nat.beq pc 11 then some (.aload_n 0, 1, 0, 0) else none)) else (bif Nat.beq pc 10 then some (.iload_n 1, 1, 0, 0) else none)) else (bif Nat.ble 7 pc then (bif Nat.beq pc 7 then some (.if_icmp .ge 21, 3, 0, 28) else none) else (bif Nat.beq pc 5 then some (.bipush 36, 2, 36, 0) else none))) else (bif Nat.ble 2 pc then (bif Nat.ble 3 pc then (bif Nat.ble 4 pc then (bif Nat.beq pc 4 then some (.iload_n 2, 1, 0, 0) else none) else (bif Nat.beq pc 3 then some (.istore_n 2, 1, 0, 0) else none)) else (bif Nat.beq pc 2 then some (.iconst 0, 1, 0, 0) else none)) else (bif Nat.ble 1 pc then (bif Nat.beq pc 1 then some (.istore_n 1, 1, 0, 0) else none) else (bif Nat.beq pc 0 then some (.iconst 0, 1, 0, 0) else none))))
def I_X7_sumOfHeats : Nat → Option mjI := fun pc => bif Nat.ble 30 pc then none else J_X7_sumOfHeats pc
set_option maxRecDepth 100000 in
theorem I_X7_sumOfHeats_ok : ∀ pc row, I_X7_sumOfHeats pc = some row → mjrow Y0 cX7_sumOfHeats pc row = true ∧ mjrp (some .int) row.1 = true := mjchk_ok (n := 30) (by decide +kernel) (mjhi rfl)
def J_X7_heatMost : Nat → Option mjI := fun pc => bif Nat.ble 27 pc then (bif Nat.ble 43 pc then (bif Nat.ble 52 pc then (bif Nat.ble 56 pc then (bif Nat.ble 59 pc then (bif Nat.ble 60 pc then (bif Nat.beq pc 60 then some (.ireturn, 1, 0, 0) else none) else (bif Nat.beq pc 59 then some (.iload_n 2, 1, 0, 0) else none)) else (bif Nat.beq pc 56 then some (.goto (-46), 3, 0, 10) else none)) else (bif Nat.ble 53 pc then (bif Nat.beq pc 53 then some (.iinc 3 1, 3, 1, 0) else none) else (bif Nat.beq pc 52 then some (.istore_n 2, 1, 0, 0) else none))) else (bif Nat.ble 48 pc then (bif Nat.ble 51 pc then (bif Nat.beq pc 51 then some (.iload_n 2, 1, 0, 0) else none) else (bif Nat.beq pc 48 then some (.goto 4, 3, 0, 52) else none)) else (bif Nat.ble 46 pc then (bif Nat.beq pc 46 then some (.iload 4, 2, 0, 0) else none) else (bif Nat.beq pc 43 then some (.if_icmp .ge 8, 3, 0, 51) else none)))) else (bif Nat.ble 34 pc then (bif Nat.ble 40 pc then (bif Nat.ble 42 pc then (bif Nat.beq pc 42 then some (.iload_n 2, 1, 0, 0) else none) else (bif Nat.beq pc 40 then some (.iload 4, 2, 0, 0) else none)) else (bif Nat.ble 37 pc then (bif Nat.beq pc 37 then some (.goto 9, 3, 0, 46) else none) else (bif Nat.beq pc 34 then some (.if_icmp .le 17, 3, 0, 51) else none))) else (bif Nat.ble 31 pc then (bif Nat.ble 33 pc then (bif Nat.beq pc 33 then some (.iload_n 2, 1, 0, 0) else none) else (bif Nat.beq pc 31 then some (.iload 4, 2, 0, 0) else none)) else (bif Nat.ble 28 pc then (bif Nat.beq pc 28 then some (.ifCond .eq 12, 3, 0, 40) else none) else (bif Nat.beq pc 27 then some (.iload_n 1, 1, 0, 0) else none))))) else (bif Nat.ble 11 pc then (bif Nat.ble 20 pc then (bif Nat.ble 23 pc then (bif Nat.ble 24 pc then (bif Nat.ble 25 pc then (bif Nat.beq pc 25 then some (.istore 4, 2, 0, 0) else none) else (bif Nat.beq pc 24 then some (.iaload, 1, 0, 0) else none)) else (bif Nat.beq pc 23 then some (.iadd, 1, 0, 0) else none)) else (bif Nat.ble 22 pc then (bif Nat.beq pc 22 then some (.iload_n 3, 1, 0, 0) else none) else (bif Nat.beq pc 20 then some (.bipush 8, 2, 8, 0) else none))) else (bif Nat.ble 16 pc then (bif Nat.ble 17 pc then (bif Nat.beq pc 17 then some (.getfield 7, 3, 0, 0) else none) else (bif Nat.beq pc 16 then some (.aload_n 0, 1, 0, 0) else none)) else (bif Nat.ble 13 pc then (bif Nat.beq pc 13 then some (.if_icmp .ge 46, 3, 0, 59) else none) else (bif Nat.beq pc 11 then some (.bipush 36, 2, 36, 0) else none)))) else (bif Nat.ble 7 pc then (bif Nat.ble 9 pc then (bif Nat.ble 10 pc then (bif Nat.beq pc 10 then some (.iload_n 3, 1, 0, 0) else none) else (bif Nat.beq pc 9 then some (.istore_n 3, 1, 0, 0) else none)) else (bif Nat.ble 8 pc then (bif Nat.beq pc 8 then some (.iconst 1, 1, 1, 0) else none) else (bif Nat.beq pc 7 then some (.istore_n 2, 1, 0, 0) else none))) else (bif Nat.ble 4 pc then (bif Nat.ble 6 pc then (bif Nat.beq pc 6 then some (.iaload, 1, 0, 0) else none) else (bif Nat.beq pc 4 then some (.bipush 8, 2, 8, 0) else none)) else (bif Nat.ble 1 pc then (bif Nat.beq pc 1 then some (.getfield 7, 3, 0, 0) else none) else (bif Nat.beq pc 0 then some (.aload_n 0, 1, 0, 0) else none)))))
def I_X7_heatMost : Nat → Option mjI := fun pc => bif Nat.ble 61 pc then none else J_X7_heatMost pc
set_option maxRecDepth 100000 in
theorem I_X7_heatMost_ok : ∀ pc row, I_X7_heatMost pc = some row → mjrow Y0 cX7_heatMost pc row = true ∧ mjrp (some .int) row.1 = true := mjchk_ok (n := 61) (by decide +kernel) (mjhi rfl)
def J_X7_leastMargin : Nat → Option mjI := fun pc => bif Nat.ble 10 pc then (bif Nat.ble 16 pc then (bif Nat.ble 17 pc then (bif Nat.ble 20 pc then (bif Nat.beq pc 20 then some (.ireturn, 1, 0, 0) else none) else (bif Nat.beq pc 17 then some (.invokevirtual 70, 3, 0, 0) else none)) else (bif Nat.beq pc 16 then some (.iload_n 1, 1, 0, 0) else none)) else (bif Nat.ble 12 pc then (bif Nat.ble 15 pc then (bif Nat.beq pc 15 then some (.aload_n 0, 1, 0, 0) else none) else (bif Nat.beq pc 12 then some (.goto 8, 3, 0, 20) else none)) else (bif Nat.beq pc 10 then some (.bipush (-4), 2, (-4), 0) else none))) else (bif Nat.ble 5 pc then (bif Nat.ble 6 pc then (bif Nat.ble 7 pc then (bif Nat.beq pc 7 then some (.ifCond .ge 8, 3, 0, 15) else none) else (bif Nat.beq pc 6 then some (.iload_n 1, 1, 0, 0) else none)) else (bif Nat.beq pc 5 then some (.istore_n 1, 1, 0, 0) else none)) else (bif Nat.ble 1 pc then (bif Nat.ble 2 pc then (bif Nat.beq pc 2 then some (.invokevirtual 174, 3, 0, 0) else none) else (bif Nat.beq pc 1 then some (.iconst 0, 1, 0, 0) else none)) else (bif Nat.beq pc 0 then some (.aload_n 0, 1, 0, 0) else none)))
def I_X7_leastMargin : Nat → Option mjI := fun pc => bif Nat.ble 21 pc then none else J_X7_leastMargin pc
set_option maxRecDepth 100000 in
theorem I_X7_leastMargin_ok : ∀ pc row, I_X7_leastMargin pc = some row → mjrow Y0 cX7_leastMargin pc row = true ∧ mjrp (some .int) row.1 = true := mjchk_ok (n := 21) (by decide +kernel) (mjhi rfl)
def J_X7_count : Nat → Option mjI := fun pc => bif Nat.ble 128 pc then (bif Nat.ble 150 pc then (bif Nat.ble 159 pc then (bif Nat.ble 165 pc then (bif Nat.ble 169 pc then (bif Nat.ble 170 pc then (bif Nat.beq pc 170 then some (.ireturn, 1, 0, 0) else none) else (bif Nat.beq pc 169 then some (.iconst (-1), 1, (-1), 0) else none)) else (bif Nat.ble 168 pc then (bif Nat.beq pc 168 then some (.ireturn, 1, 0, 0) else none) else (bif Nat.beq pc 165 then some (.getfield 35, 3, 0, 0) else none))) else (bif Nat.ble 163 pc then (bif Nat.ble 164 pc then (bif Nat.beq pc 164 then some (.aload_n 0, 1, 0, 0) else none) else (bif Nat.beq pc 163 then some (.ireturn, 1, 0, 0) else none)) else (bif Nat.ble 160 pc then (bif Nat.beq pc 160 then some (.getfield 111, 3, 0, 0) else none) else (bif Nat.beq pc 159 then some (.aload_n 0, 1, 0, 0) else none)))) else (bif Nat.ble 153 pc then (bif Nat.ble 157 pc then (bif Nat.ble 158 pc then (bif Nat.beq pc 158 then some (.ireturn, 1, 0, 0) else none) else (bif Nat.beq pc 157 then some (.iaload, 1, 0, 0) else none)) else (bif Nat.ble 156 pc then (bif Nat.beq pc 156 then some (.iconst 5, 1, 5, 0) else none) else (bif Nat.beq pc 153 then some (.getfield 7, 3, 0, 0) else none))) else (bif Nat.ble 151 pc then (bif Nat.ble 152 pc then (bif Nat.beq pc 152 then some (.aload_n 0, 1, 0, 0) else none) else (bif Nat.beq pc 151 then some (.ireturn, 1, 0, 0) else none)) else (bif Nat.beq pc 150 then some (.iaload, 1, 0, 0) else none)))) else (bif Nat.ble 139 pc then (bif Nat.ble 145 pc then (bif Nat.ble 147 pc then (bif Nat.ble 149 pc then (bif Nat.beq pc 149 then some (.isub, 1, 0, 0) else none) else (bif Nat.beq pc 147 then some (.bipush 12, 2, 12, 0) else none)) else (bif Nat.ble 146 pc then (bif Nat.beq pc 146 then some (.iadd, 1, 0, 0) else none) else (bif Nat.beq pc 145 then some (.iload_n 1, 1, 0, 0) else none))) else (bif Nat.ble 140 pc then (bif Nat.ble 143 pc then (bif Nat.beq pc 143 then some (.bipush 6, 2, 6, 0) else none) else (bif Nat.beq pc 140 then some (.getfield 7, 3, 0, 0) else none)) else (bif Nat.beq pc 139 then some (.aload_n 0, 1, 0, 0) else none))) else (bif Nat.ble 133 pc then (bif Nat.ble 135 pc then (bif Nat.ble 138 pc then (bif Nat.beq pc 138 then some (.ireturn, 1, 0, 0) else none) else (bif Nat.beq pc 135 then some (.invokevirtual 187, 3, 0, 0) else none)) else (bif Nat.ble 134 pc then (bif Nat.beq pc 134 then some (.aload_n 0, 1, 0, 0) else none) else (bif Nat.beq pc 133 then some (.ireturn, 1, 0, 0) else none))) else (bif Nat.ble 129 pc then (bif Nat.ble 130 pc then (bif Nat.beq pc 130 then some (.invokevirtual 184, 3, 0, 0) else none) else (bif Nat.beq pc 129 then some (.aload_n 0, 1, 0, 0) else none)) else (bif Nat.beq pc 128 then some (.ireturn, 1, 0, 0) else none))))) else (bif Nat.ble 102 pc then (bif Nat.ble 112 pc then (bif Nat.ble 120 pc then (bif Nat.ble 124 pc then (bif Nat.ble 125 pc then (bif Nat.beq pc 125 then some (.invokevirtual 76, 3, 0, 0) else none) else (bif Nat.beq pc 124 then some (.aload_n 0, 1, 0, 0) else none)) else (bif Nat.ble 123 pc then (bif Nat.beq pc 123 then some (.ireturn, 1, 0, 0) else none) else (bif Nat.beq pc 120 then some (.invokevirtual 180, 3, 0, 0) else none))) else (bif Nat.ble 116 pc then (bif Nat.ble 119 pc then (bif Nat.beq pc 119 then some (.iconst 0, 1, 0, 0) else none) else (bif Nat.beq pc 116 then some (.goto 4, 3, 0, 120) else none)) else (bif Nat.ble 115 pc then (bif Nat.beq pc 115 then some (.iconst 1, 1, 1, 0) else none) else (bif Nat.beq pc 112 then some (.if_icmp .ne 7, 3, 0, 119) else none)))) else (bif Nat.ble 107 pc then (bif Nat.ble 109 pc then (bif Nat.ble 110 pc then (bif Nat.beq pc 110 then some (.bipush 7, 2, 7, 0) else none) else (bif Nat.beq pc 109 then some (.iload_n 1, 1, 0, 0) else none)) else (bif Nat.ble 108 pc then (bif Nat.beq pc 108 then some (.aload_n 0, 1, 0, 0) else none) else (bif Nat.beq pc 107 then some (.ireturn, 1, 0, 0) else none))) else (bif Nat.ble 103 pc then (bif Nat.ble 104 pc then (bif Nat.beq pc 104 then some (.invokevirtual 105, 3, 0, 0) else none) else (bif Nat.beq pc 103 then some (.aload_n 0, 1, 0, 0) else none)) else (bif Nat.beq pc 102 then some (.ireturn, 1, 0, 0) else none)))) else (bif Nat.ble 91 pc then (bif Nat.ble 96 pc then (bif Nat.ble 100 pc then (bif Nat.ble 101 pc then (bif Nat.beq pc 101 then some (.iaload, 1, 0, 0) else none) else (bif Nat.beq pc 100 then some (.iconst 4, 1, 4, 0) else none)) else (bif Nat.ble 97 pc then (bif Nat.beq pc 97 then some (.getfield 7, 3, 0, 0) else none) else (bif Nat.beq pc 96 then some (.aload_n 0, 1, 0, 0) else none))) else (bif Nat.ble 92 pc then (bif Nat.ble 95 pc then (bif Nat.beq pc 95 then some (.ireturn, 1, 0, 0) else none) else (bif Nat.beq pc 92 then some (.invokevirtual 177, 3, 0, 0) else none)) else (bif Nat.beq pc 91 then some (.aload_n 0, 1, 0, 0) else none))) else (bif Nat.ble 85 pc then (bif Nat.ble 89 pc then (bif Nat.ble 90 pc then (bif Nat.beq pc 90 then some (.ireturn, 1, 0, 0) else none) else (bif Nat.beq pc 89 then some (.iaload, 1, 0, 0) else none)) else (bif Nat.ble 88 pc then (bif Nat.beq pc 88 then some (.iload_n 1, 1, 0, 0) else none) else (bif Nat.beq pc 85 then some (.getfield 7, 3, 0, 0) else none))) else (bif Nat.ble 1 pc then (bif Nat.ble 84 pc then (bif Nat.beq pc 84 then some (.aload_n 0, 1, 0, 0) else none) else (bif Nat.beq pc 1 then some (.tableswitch 168 0 16 #[83, 83, 83, 83, 90, 95, 102, 107, 107, 123, 128, 133, 138, 138, 151, 158, 163], 83, 0, 169) else none)) else (bif Nat.beq pc 0 then some (.iload_n 1, 1, 0, 0) else none)))))
def I_X7_count : Nat → Option mjI := fun pc => bif Nat.ble 171 pc then none else J_X7_count pc
def Y_X7_count : Nat → List (Int32 × Nat) := fun pc => bif Nat.beq pc 1 then [(0, 84), (1, 84), (2, 84), (3, 84), (4, 91), (5, 96), (6, 103), (7, 108), (8, 108), (9, 124), (10, 129), (11, 134), (12, 139), (13, 139), (14, 152), (15, 159), (16, 164)] else []
set_option maxRecDepth 100000 in
theorem I_X7_count_ok : ∀ pc row, I_X7_count pc = some row → mjrow Y_X7_count cX7_count pc row = true ∧ mjrp (some .int) row.1 = true := mjchk_ok (n := 171) (by decide +kernel) (mjhi rfl)
def J_X7_ifPassed : Nat → Option mjI := fun pc => bif Nat.ble 78 pc then (bif Nat.ble 125 pc then (bif Nat.ble 146 pc then (bif Nat.ble 156 pc then (bif Nat.ble 162 pc then (bif Nat.ble 165 pc then (bif Nat.ble 167 pc then (bif Nat.beq pc 167 then some (.ireturn, 1, 0, 0) else none) else (bif Nat.beq pc 165 then some (.iload 6, 2, 0, 0) else none)) else (bif Nat.beq pc 162 then some (.goto 5, 3, 0, 167) else none)) else (bif Nat.ble 157 pc then (bif Nat.ble 160 pc then (bif Nat.beq pc 160 then some (.iload 5, 2, 0, 0) else none) else (bif Nat.beq pc 157 then some (.if_icmp .ne 8, 3, 0, 165) else none)) else (bif Nat.beq pc 156 then some (.iconst 2, 1, 2, 0) else none))) else (bif Nat.ble 150 pc then (bif Nat.ble 152 pc then (bif Nat.ble 155 pc then (bif Nat.beq pc 155 then some (.iload_n 2, 1, 0, 0) else none) else (bif Nat.beq pc 152 then some (.goto 15, 3, 0, 167) else none)) else (bif Nat.beq pc 150 then some (.iload 4, 2, 0, 0) else none)) else (bif Nat.ble 147 pc then (bif Nat.beq pc 147 then some (.if_icmp .ne 8, 3, 0, 155) else none) else (bif Nat.beq pc 146 then some (.iconst 1, 1, 1, 0) else none)))) else (bif Nat.ble 134 pc then (bif Nat.ble 141 pc then (bif Nat.ble 142 pc then (bif Nat.ble 145 pc then (bif Nat.beq pc 145 then some (.iload_n 2, 1, 0, 0) else none) else (bif Nat.beq pc 142 then some (.goto 25, 3, 0, 167) else none)) else (bif Nat.beq pc 141 then some (.iload_n 3, 1, 0, 0) else none)) else (bif Nat.ble 137 pc then (bif Nat.ble 138 pc then (bif Nat.beq pc 138 then some (.ifCond .ne 7, 3, 0, 145) else none) else (bif Nat.beq pc 137 then some (.iload_n 2, 1, 0, 0) else none)) else (bif Nat.beq pc 134 then some (.invokestatic 39, 3, 0, 0) else none))) else (bif Nat.ble 129 pc then (bif Nat.ble 130 pc then (bif Nat.ble 133 pc then (bif Nat.beq pc 133 then some (.iconst 0, 1, 0, 0) else none) else (bif Nat.beq pc 130 then some (.getfield 7, 3, 0, 0) else none)) else (bif Nat.beq pc 129 then some (.aload_n 0, 1, 0, 0) else none)) else (bif Nat.ble 128 pc then (bif Nat.beq pc 128 then some (.iconst 0, 1, 0, 0) else none) else (bif Nat.beq pc 125 then some (.getfield 13, 3, 0, 0) else none))))) else (bif Nat.ble 103 pc then (bif Nat.ble 116 pc then (bif Nat.ble 121 pc then (bif Nat.ble 122 pc then (bif Nat.ble 124 pc then (bif Nat.beq pc 124 then some (.aload_n 0, 1, 0, 0) else none) else (bif Nat.beq pc 122 then some (.istore 6, 2, 0, 0) else none)) else (bif Nat.beq pc 121 then some (.iaload, 1, 0, 0) else none)) else (bif Nat.ble 117 pc then (bif Nat.ble 120 pc then (bif Nat.beq pc 120 then some (.iconst 4, 1, 4, 0) else none) else (bif Nat.beq pc 117 then some (.getfield 7, 3, 0, 0) else none)) else (bif Nat.beq pc 116 then some (.aload_n 0, 1, 0, 0) else none))) else (bif Nat.ble 108 pc then (bif Nat.ble 110 pc then (bif Nat.ble 113 pc then (bif Nat.beq pc 113 then some (.goto (-67), 3, 0, 46) else none) else (bif Nat.beq pc 110 then some (.iinc 6 1, 3, 1, 0) else none)) else (bif Nat.beq pc 108 then some (.istore 5, 2, 0, 0) else none)) else (bif Nat.ble 106 pc then (bif Nat.beq pc 106 then some (.iload 5, 2, 0, 0) else none) else (bif Nat.beq pc 103 then some (.goto 5, 3, 0, 108) else none)))) else (bif Nat.ble 90 pc then (bif Nat.ble 96 pc then (bif Nat.ble 99 pc then (bif Nat.ble 100 pc then (bif Nat.beq pc 100 then some (.getfield 80, 3, 0, 0) else none) else (bif Nat.beq pc 99 then some (.aload_n 0, 1, 0, 0) else none)) else (bif Nat.beq pc 96 then some (.if_icmp .le 10, 3, 0, 106) else none)) else (bif Nat.ble 91 pc then (bif Nat.ble 94 pc then (bif Nat.beq pc 94 then some (.iload 5, 2, 0, 0) else none) else (bif Nat.beq pc 91 then some (.getfield 80, 3, 0, 0) else none)) else (bif Nat.beq pc 90 then some (.aload_n 0, 1, 0, 0) else none))) else (bif Nat.ble 83 pc then (bif Nat.ble 86 pc then (bif Nat.ble 88 pc then (bif Nat.beq pc 88 then some (.istore 4, 2, 0, 0) else none) else (bif Nat.beq pc 86 then some (.iload 4, 2, 0, 0) else none)) else (bif Nat.beq pc 83 then some (.goto 5, 3, 0, 88) else none)) else (bif Nat.ble 81 pc then (bif Nat.beq pc 81 then some (.iload 6, 2, 0, 0) else none) else (bif Nat.beq pc 78 then some (.ifCond .ge 8, 3, 0, 86) else none)))))) else (bif Nat.ble 38 pc then (bif Nat.ble 58 pc then (bif Nat.ble 68 pc then (bif Nat.ble 71 pc then (bif Nat.ble 73 pc then (bif Nat.ble 76 pc then (bif Nat.beq pc 76 then some (.iload 4, 2, 0, 0) else none) else (bif Nat.beq pc 73 then some (.ifCond .lt 13, 3, 0, 86) else none)) else (bif Nat.beq pc 71 then some (.iload 7, 2, 0, 0) else none)) else (bif Nat.ble 69 pc then (bif Nat.ble 70 pc then (bif Nat.beq pc 70 then some (.istore_n 3, 1, 0, 0) else none) else (bif Nat.beq pc 69 then some (.iadd, 1, 0, 0) else none)) else (bif Nat.beq pc 68 then some (.iconst 1, 1, 1, 0) else none))) else (bif Nat.ble 61 pc then (bif Nat.ble 64 pc then (bif Nat.ble 65 pc then (bif Nat.beq pc 65 then some (.goto 4, 3, 0, 69) else none) else (bif Nat.beq pc 64 then some (.iconst 0, 1, 0, 0) else none)) else (bif Nat.beq pc 61 then some (.ifCond .ge 7, 3, 0, 68) else none)) else (bif Nat.ble 59 pc then (bif Nat.beq pc 59 then some (.iload 7, 2, 0, 0) else none) else (bif Nat.beq pc 58 then some (.iload_n 3, 1, 0, 0) else none)))) else (bif Nat.ble 46 pc then (bif Nat.ble 52 pc then (bif Nat.ble 53 pc then (bif Nat.ble 56 pc then (bif Nat.beq pc 56 then some (.istore 7, 2, 0, 0) else none) else (bif Nat.beq pc 53 then some (.invokevirtual 89, 3, 0, 0) else none)) else (bif Nat.beq pc 52 then some (.aload_n 0, 1, 0, 0) else none)) else (bif Nat.ble 48 pc then (bif Nat.ble 49 pc then (bif Nat.beq pc 49 then some (.if_icmp .gt 67, 3, 0, 116) else none) else (bif Nat.beq pc 48 then some (.iload_n 1, 1, 0, 0) else none)) else (bif Nat.beq pc 46 then some (.iload 6, 2, 0, 0) else none))) else (bif Nat.ble 41 pc then (bif Nat.ble 43 pc then (bif Nat.ble 44 pc then (bif Nat.beq pc 44 then some (.istore 6, 2, 0, 0) else none) else (bif Nat.beq pc 43 then some (.iconst 1, 1, 1, 0) else none)) else (bif Nat.beq pc 41 then some (.istore 5, 2, 0, 0) else none)) else (bif Nat.ble 40 pc then (bif Nat.beq pc 40 then some (.iconst 0, 1, 0, 0) else none) else (bif Nat.beq pc 38 then some (.istore 4, 2, 0, 0) else none))))) else (bif Nat.ble 20 pc then (bif Nat.ble 27 pc then (bif Nat.ble 34 pc then (bif Nat.ble 35 pc then (bif Nat.ble 36 pc then (bif Nat.beq pc 36 then some (.bipush (-4), 2, (-4), 0) else none) else (bif Nat.beq pc 35 then some (.istore_n 3, 1, 0, 0) else none)) else (bif Nat.beq pc 34 then some (.iconst 0, 1, 0, 0) else none)) else (bif Nat.ble 30 pc then (bif Nat.ble 31 pc then (bif Nat.beq pc 31 then some (.invokestatic 39, 3, 0, 0) else none) else (bif Nat.beq pc 30 then some (.iconst 0, 1, 0, 0) else none)) else (bif Nat.beq pc 27 then some (.getfield 13, 3, 0, 0) else none))) else (bif Nat.ble 22 pc then (bif Nat.ble 25 pc then (bif Nat.ble 26 pc then (bif Nat.beq pc 26 then some (.aload_n 0, 1, 0, 0) else none) else (bif Nat.beq pc 25 then some (.iconst 0, 1, 0, 0) else none)) else (bif Nat.beq pc 22 then some (.getfield 7, 3, 0, 0) else none)) else (bif Nat.ble 21 pc then (bif Nat.beq pc 21 then some (.aload_n 0, 1, 0, 0) else none) else (bif Nat.beq pc 20 then some (.ireturn, 1, 0, 0) else none)))) else (bif Nat.ble 10 pc then (bif Nat.ble 13 pc then (bif Nat.ble 16 pc then (bif Nat.ble 19 pc then (bif Nat.beq pc 19 then some (.iconst (-1), 1, (-1), 0) else none) else (bif Nat.beq pc 16 then some (.ifCond .ne 5, 3, 0, 21) else none)) else (bif Nat.beq pc 13 then some (.invokestatic 43, 3, 0, 0) else none)) else (bif Nat.ble 11 pc then (bif Nat.ble 12 pc then (bif Nat.beq pc 12 then some (.iconst 3, 1, 3, 0) else none) else (bif Nat.beq pc 11 then some (.iconst 0, 1, 0, 0) else none)) else (bif Nat.beq pc 10 then some (.iload_n 2, 1, 0, 0) else none))) else (bif Nat.ble 2 pc then (bif Nat.ble 4 pc then (bif Nat.ble 7 pc then (bif Nat.beq pc 7 then some (.ifCond .eq 12, 3, 0, 19) else none) else (bif Nat.beq pc 4 then some (.invokestatic 43, 3, 0, 0) else none)) else (bif Nat.beq pc 2 then some (.bipush 99, 2, 99, 0) else none)) else (bif Nat.ble 1 pc then (bif Nat.beq pc 1 then some (.iconst 1, 1, 1, 0) else none) else (bif Nat.beq pc 0 then some (.iload_n 1, 1, 0, 0) else none))))))
def I_X7_ifPassed : Nat → Option mjI := fun pc => bif Nat.ble 168 pc then none else J_X7_ifPassed pc
set_option maxRecDepth 100000 in
theorem I_X7_ifPassed_ok : ∀ pc row, I_X7_ifPassed pc = some row → mjrow Y0 cX7_ifPassed pc row = true ∧ mjrp (some .int) row.1 = true := mjchk_ok (n := 168) (by decide +kernel) (mjhi rfl)
def J_X7_isHarmless : Nat → Option mjI := fun pc => bif Nat.ble 33 pc then (bif Nat.ble 53 pc then (bif Nat.ble 62 pc then (bif Nat.ble 66 pc then (bif Nat.ble 69 pc then (bif Nat.ble 71 pc then (bif Nat.beq pc 71 then some (.ireturn, 1, 0, 0) else none) else (bif Nat.beq pc 69 then some (.iload 4, 2, 0, 0) else none)) else (bif Nat.beq pc 66 then some (.invokestatic 39, 3, 0, 0) else none)) else (bif Nat.ble 65 pc then (bif Nat.beq pc 65 then some (.iconst 0, 1, 0, 0) else none) else (bif Nat.beq pc 62 then some (.getfield 7, 3, 0, 0) else none))) else (bif Nat.ble 57 pc then (bif Nat.ble 60 pc then (bif Nat.ble 61 pc then (bif Nat.beq pc 61 then some (.aload_n 0, 1, 0, 0) else none) else (bif Nat.beq pc 60 then some (.iconst 0, 1, 0, 0) else none)) else (bif Nat.beq pc 57 then some (.getfield 13, 3, 0, 0) else none)) else (bif Nat.ble 56 pc then (bif Nat.beq pc 56 then some (.aload_n 0, 1, 0, 0) else none) else (bif Nat.beq pc 53 then some (.goto (-28), 3, 0, 25) else none)))) else (bif Nat.ble 43 pc then (bif Nat.ble 47 pc then (bif Nat.ble 48 pc then (bif Nat.ble 50 pc then (bif Nat.beq pc 50 then some (.iinc 5 1, 3, 1, 0) else none) else (bif Nat.beq pc 48 then some (.istore 4, 2, 0, 0) else none)) else (bif Nat.beq pc 47 then some (.iconst 0, 1, 0, 0) else none)) else (bif Nat.ble 44 pc then (bif Nat.beq pc 44 then some (.goto 4, 3, 0, 48) else none) else (bif Nat.beq pc 43 then some (.iconst 1, 1, 1, 0) else none))) else (bif Nat.ble 37 pc then (bif Nat.ble 40 pc then (bif Nat.beq pc 40 then some (.ifCond .ge 7, 3, 0, 47) else none) else (bif Nat.beq pc 37 then some (.invokevirtual 89, 3, 0, 0) else none)) else (bif Nat.ble 36 pc then (bif Nat.beq pc 36 then some (.aload_n 0, 1, 0, 0) else none) else (bif Nat.beq pc 33 then some (.ifCond .eq 23, 3, 0, 56) else none))))) else (bif Nat.ble 15 pc then (bif Nat.ble 23 pc then (bif Nat.ble 27 pc then (bif Nat.ble 28 pc then (bif Nat.ble 31 pc then (bif Nat.beq pc 31 then some (.iload 4, 2, 0, 0) else none) else (bif Nat.beq pc 28 then some (.if_icmp .ge 28, 3, 0, 56) else none)) else (bif Nat.beq pc 27 then some (.iload_n 3, 1, 0, 0) else none)) else (bif Nat.ble 25 pc then (bif Nat.beq pc 25 then some (.iload 5, 2, 0, 0) else none) else (bif Nat.beq pc 23 then some (.istore 5, 2, 0, 0) else none))) else (bif Nat.ble 19 pc then (bif Nat.ble 20 pc then (bif Nat.ble 22 pc then (bif Nat.beq pc 22 then some (.iconst 0, 1, 0, 0) else none) else (bif Nat.beq pc 20 then some (.istore 4, 2, 0, 0) else none)) else (bif Nat.beq pc 19 then some (.iconst 1, 1, 1, 0) else none)) else (bif Nat.ble 16 pc then (bif Nat.beq pc 16 then some (.invokevirtual 95, 3, 0, 0) else none) else (bif Nat.beq pc 15 then some (.iload_n 2, 1, 0, 0) else none)))) else (bif Nat.ble 6 pc then (bif Nat.ble 10 pc then (bif Nat.ble 13 pc then (bif Nat.ble 14 pc then (bif Nat.beq pc 14 then some (.iload_n 1, 1, 0, 0) else none) else (bif Nat.beq pc 13 then some (.aload_n 0, 1, 0, 0) else none)) else (bif Nat.beq pc 10 then some (.invokestatic 39, 3, 0, 0) else none)) else (bif Nat.ble 9 pc then (bif Nat.beq pc 9 then some (.iconst 0, 1, 0, 0) else none) else (bif Nat.beq pc 6 then some (.getfield 13, 3, 0, 0) else none))) else (bif Nat.ble 4 pc then (bif Nat.ble 5 pc then (bif Nat.beq pc 5 then some (.aload_n 0, 1, 0, 0) else none) else (bif Nat.beq pc 4 then some (.iconst 0, 1, 0, 0) else none)) else (bif Nat.ble 1 pc then (bif Nat.beq pc 1 then some (.getfield 7, 3, 0, 0) else none) else (bif Nat.beq pc 0 then some (.aload_n 0, 1, 0, 0) else none)))))
def I_X7_isHarmless : Nat → Option mjI := fun pc => bif Nat.ble 72 pc then none else J_X7_isHarmless pc
set_option maxRecDepth 100000 in
theorem I_X7_isHarmless_ok : ∀ pc row, I_X7_isHarmless pc = some row → mjrow Y0 cX7_isHarmless pc row = true ∧ mjrp (some .boolean) row.1 = true := mjchk_ok (n := 72) (by decide +kernel) (mjhi rfl)
def J_X7_fastest : Nat → Option mjI := fun pc => bif Nat.ble 27 pc then (bif Nat.ble 40 pc then (bif Nat.ble 50 pc then (bif Nat.ble 55 pc then (bif Nat.ble 56 pc then (bif Nat.beq pc 56 then some (.ireturn, 1, 0, 0) else none) else (bif Nat.beq pc 55 then some (.iload_n 3, 1, 0, 0) else none)) else (bif Nat.ble 52 pc then (bif Nat.beq pc 52 then some (.goto 4, 3, 0, 56) else none) else (bif Nat.beq pc 50 then some (.bipush (-4), 2, (-4), 0) else none))) else (bif Nat.ble 46 pc then (bif Nat.ble 47 pc then (bif Nat.beq pc 47 then some (.ifCond .ne 8, 3, 0, 55) else none) else (bif Nat.beq pc 46 then some (.iload_n 3, 1, 0, 0) else none)) else (bif Nat.ble 43 pc then (bif Nat.beq pc 43 then some (.goto (-17), 3, 0, 26) else none) else (bif Nat.beq pc 40 then some (.iinc 3 (-1), 3, (-1), 0) else none)))) else (bif Nat.ble 32 pc then (bif Nat.ble 34 pc then (bif Nat.ble 37 pc then (bif Nat.beq pc 37 then some (.ifCond .ne 9, 3, 0, 46) else none) else (bif Nat.beq pc 34 then some (.invokevirtual 190, 3, 0, 0) else none)) else (bif Nat.ble 33 pc then (bif Nat.beq pc 33 then some (.iload_n 2, 1, 0, 0) else none) else (bif Nat.beq pc 32 then some (.iload_n 3, 1, 0, 0) else none))) else (bif Nat.ble 30 pc then (bif Nat.ble 31 pc then (bif Nat.beq pc 31 then some (.iload_n 1, 1, 0, 0) else none) else (bif Nat.beq pc 30 then some (.aload_n 0, 1, 0, 0) else none)) else (bif Nat.beq pc 27 then some (.ifCond .le 19, 3, 0, 46) else none)))) else (bif Nat.ble 13 pc then (bif Nat.ble 22 pc then (bif Nat.ble 25 pc then (bif Nat.ble 26 pc then (bif Nat.beq pc 26 then some (.iload_n 3, 1, 0, 0) else none) else (bif Nat.beq pc 25 then some (.istore_n 3, 1, 0, 0) else none)) else (bif Nat.ble 23 pc then (bif Nat.beq pc 23 then some (.bipush 100, 2, 100, 0) else none) else (bif Nat.beq pc 22 then some (.ireturn, 1, 0, 0) else none))) else (bif Nat.ble 18 pc then (bif Nat.ble 21 pc then (bif Nat.beq pc 21 then some (.iconst (-1), 1, (-1), 0) else none) else (bif Nat.beq pc 18 then some (.ifCond .ne 5, 3, 0, 23) else none)) else (bif Nat.ble 15 pc then (bif Nat.beq pc 15 then some (.invokestatic 43, 3, 0, 0) else none) else (bif Nat.beq pc 13 then some (.bipush 99, 2, 99, 0) else none)))) else (bif Nat.ble 5 pc then (bif Nat.ble 11 pc then (bif Nat.ble 12 pc then (bif Nat.beq pc 12 then some (.iconst 1, 1, 1, 0) else none) else (bif Nat.beq pc 11 then some (.iload_n 2, 1, 0, 0) else none)) else (bif Nat.ble 8 pc then (bif Nat.beq pc 8 then some (.ifCond .eq 13, 3, 0, 21) else none) else (bif Nat.beq pc 5 then some (.invokestatic 43, 3, 0, 0) else none))) else (bif Nat.ble 1 pc then (bif Nat.ble 2 pc then (bif Nat.beq pc 2 then some (.sipush 1000, 3, 1000, 0) else none) else (bif Nat.beq pc 1 then some (.iconst 0, 1, 0, 0) else none)) else (bif Nat.beq pc 0 then some (.iload_n 1, 1, 0, 0) else none))))
def I_X7_fastest : Nat → Option mjI := fun pc => bif Nat.ble 57 pc then none else J_X7_fastest pc
set_option maxRecDepth 100000 in
theorem I_X7_fastest_ok : ∀ pc row, I_X7_fastest pc = some row → mjrow Y0 cX7_fastest pc row = true ∧ mjrp (some .int) row.1 = true := mjchk_ok (n := 57) (by decide +kernel) (mjhi rfl)
def J_X7_evenIn : Nat → Option mjI := fun pc => bif Nat.ble 38 pc then (bif Nat.ble 58 pc then (bif Nat.ble 67 pc then (bif Nat.ble 74 pc then (bif Nat.ble 77 pc then (bif Nat.ble 78 pc then (bif Nat.beq pc 78 then some (.ireturn, 1, 0, 0) else none) else (bif Nat.beq pc 77 then some (.iload_n 2, 1, 0, 0) else none)) else (bif Nat.beq pc 74 then some (.goto 4, 3, 0, 78) else none)) else (bif Nat.ble 69 pc then (bif Nat.ble 72 pc then (bif Nat.beq pc 72 then some (.bipush (-4), 2, (-4), 0) else none) else (bif Nat.beq pc 69 then some (.if_icmp .le 8, 3, 0, 77) else none)) else (bif Nat.beq pc 67 then some (.bipush 99, 2, 99, 0) else none))) else (bif Nat.ble 62 pc then (bif Nat.ble 63 pc then (bif Nat.ble 66 pc then (bif Nat.beq pc 66 then some (.iload_n 2, 1, 0, 0) else none) else (bif Nat.beq pc 63 then some (.invokestatic 39, 3, 0, 0) else none)) else (bif Nat.beq pc 62 then some (.iconst 0, 1, 0, 0) else none)) else (bif Nat.ble 59 pc then (bif Nat.beq pc 59 then some (.getfield 7, 3, 0, 0) else none) else (bif Nat.beq pc 58 then some (.aload_n 0, 1, 0, 0) else none)))) else (bif Nat.ble 47 pc then (bif Nat.ble 53 pc then (bif Nat.ble 54 pc then (bif Nat.ble 57 pc then (bif Nat.beq pc 57 then some (.iconst 0, 1, 0, 0) else none) else (bif Nat.beq pc 54 then some (.getfield 13, 3, 0, 0) else none)) else (bif Nat.beq pc 53 then some (.aload_n 0, 1, 0, 0) else none)) else (bif Nat.ble 50 pc then (bif Nat.beq pc 50 then some (.goto (-22), 3, 0, 28) else none) else (bif Nat.beq pc 47 then some (.iinc 2 1, 3, 1, 0) else none))) else (bif Nat.ble 42 pc then (bif Nat.ble 43 pc then (bif Nat.ble 46 pc then (bif Nat.beq pc 46 then some (.istore_n 3, 1, 0, 0) else none) else (bif Nat.beq pc 43 then some (.invokevirtual 89, 3, 0, 0) else none)) else (bif Nat.beq pc 42 then some (.aload_n 0, 1, 0, 0) else none)) else (bif Nat.ble 39 pc then (bif Nat.beq pc 39 then some (.if_icmp .le 14, 3, 0, 53) else none) else (bif Nat.beq pc 38 then some (.iload_n 1, 1, 0, 0) else none))))) else (bif Nat.ble 18 pc then (bif Nat.ble 27 pc then (bif Nat.ble 31 pc then (bif Nat.ble 34 pc then (bif Nat.ble 35 pc then (bif Nat.beq pc 35 then some (.invokevirtual 76, 3, 0, 0) else none) else (bif Nat.beq pc 34 then some (.aload_n 0, 1, 0, 0) else none)) else (bif Nat.beq pc 31 then some (.if_icmp .gt 22, 3, 0, 53) else none)) else (bif Nat.ble 28 pc then (bif Nat.ble 29 pc then (bif Nat.beq pc 29 then some (.bipush 99, 2, 99, 0) else none) else (bif Nat.beq pc 28 then some (.iload_n 2, 1, 0, 0) else none)) else (bif Nat.beq pc 27 then some (.istore_n 2, 1, 0, 0) else none))) else (bif Nat.ble 22 pc then (bif Nat.ble 23 pc then (bif Nat.ble 26 pc then (bif Nat.beq pc 26 then some (.iconst 0, 1, 0, 0) else none) else (bif Nat.beq pc 23 then some (.invokestatic 39, 3, 0, 0) else none)) else (bif Nat.beq pc 22 then some (.iconst 0, 1, 0, 0) else none)) else (bif Nat.ble 19 pc then (bif Nat.beq pc 19 then some (.getfield 13, 3, 0, 0) else none) else (bif Nat.beq pc 18 then some (.aload_n 0, 1, 0, 0) else none)))) else (bif Nat.ble 11 pc then (bif Nat.ble 13 pc then (bif Nat.ble 14 pc then (bif Nat.ble 17 pc then (bif Nat.beq pc 17 then some (.iconst 0, 1, 0, 0) else none) else (bif Nat.beq pc 14 then some (.getfield 7, 3, 0, 0) else none)) else (bif Nat.beq pc 13 then some (.aload_n 0, 1, 0, 0) else none)) else (bif Nat.ble 12 pc then (bif Nat.beq pc 12 then some (.ireturn, 1, 0, 0) else none) else (bif Nat.beq pc 11 then some (.iconst (-1), 1, (-1), 0) else none))) else (bif Nat.ble 2 pc then (bif Nat.ble 5 pc then (bif Nat.ble 8 pc then (bif Nat.beq pc 8 then some (.ifCond .ne 5, 3, 0, 13) else none) else (bif Nat.beq pc 5 then some (.invokestatic 43, 3, 0, 0) else none)) else (bif Nat.beq pc 2 then some (.sipush 500, 3, 500, 0) else none)) else (bif Nat.ble 1 pc then (bif Nat.beq pc 1 then some (.iconst 0, 1, 0, 0) else none) else (bif Nat.beq pc 0 then some (.iload_n 1, 1, 0, 0) else none)))))
def I_X7_evenIn : Nat → Option mjI := fun pc => bif Nat.ble 79 pc then none else J_X7_evenIn pc
set_option maxRecDepth 100000 in
theorem I_X7_evenIn_ok : ∀ pc row, I_X7_evenIn pc = some row → mjrow Y0 cX7_evenIn pc row = true ∧ mjrp (some .int) row.1 = true := mjchk_ok (n := 79) (by decide +kernel) (mjhi rfl)
def J_X7_undo : Nat → Option mjI := fun pc => bif Nat.ble 21 pc then (bif Nat.ble 33 pc then (bif Nat.ble 40 pc then (bif Nat.ble 41 pc then (bif Nat.ble 44 pc then (bif Nat.beq pc 44 then some (.ireturn, 1, 0, 0) else none) else (bif Nat.beq pc 41 then some (.getfield 35, 3, 0, 0) else none)) else (bif Nat.beq pc 40 then some (.aload_n 0, 1, 0, 0) else none)) else (bif Nat.ble 36 pc then (bif Nat.ble 37 pc then (bif Nat.beq pc 37 then some (.invokestatic 39, 3, 0, 0) else none) else (bif Nat.beq pc 36 then some (.iconst 0, 1, 0, 0) else none)) else (bif Nat.beq pc 33 then some (.getfield 7, 3, 0, 0) else none))) else (bif Nat.ble 28 pc then (bif Nat.ble 31 pc then (bif Nat.ble 32 pc then (bif Nat.beq pc 32 then some (.aload_n 0, 1, 0, 0) else none) else (bif Nat.beq pc 31 then some (.imul, 1, 0, 0) else none)) else (bif Nat.beq pc 28 then some (.getfield 35, 3, 0, 0) else none)) else (bif Nat.ble 24 pc then (bif Nat.ble 27 pc then (bif Nat.beq pc 27 then some (.aload_n 0, 1, 0, 0) else none) else (bif Nat.beq pc 24 then some (.sipush 164, 3, 164, 0) else none)) else (bif Nat.beq pc 21 then some (.getfield 16, 3, 0, 0) else none)))) else (bif Nat.ble 11 pc then (bif Nat.ble 16 pc then (bif Nat.ble 17 pc then (bif Nat.ble 20 pc then (bif Nat.beq pc 20 then some (.aload_n 0, 1, 0, 0) else none) else (bif Nat.beq pc 17 then some (.putfield 35, 3, 0, 0) else none)) else (bif Nat.beq pc 16 then some (.isub, 1, 0, 0) else none)) else (bif Nat.ble 12 pc then (bif Nat.ble 15 pc then (bif Nat.beq pc 15 then some (.iconst 1, 1, 1, 0) else none) else (bif Nat.beq pc 12 then some (.getfield 35, 3, 0, 0) else none)) else (bif Nat.beq pc 11 then some (.dup, 1, 0, 0) else none))) else (bif Nat.ble 7 pc then (bif Nat.ble 9 pc then (bif Nat.ble 10 pc then (bif Nat.beq pc 10 then some (.aload_n 0, 1, 0, 0) else none) else (bif Nat.beq pc 9 then some (.ireturn, 1, 0, 0) else none)) else (bif Nat.beq pc 7 then some (.bipush (-2), 2, (-2), 0) else none)) else (bif Nat.ble 1 pc then (bif Nat.ble 4 pc then (bif Nat.beq pc 4 then some (.ifCond .ne 6, 3, 0, 10) else none) else (bif Nat.beq pc 1 then some (.getfield 35, 3, 0, 0) else none)) else (bif Nat.beq pc 0 then some (.aload_n 0, 1, 0, 0) else none))))
def I_X7_undo : Nat → Option mjI := fun pc => bif Nat.ble 45 pc then none else J_X7_undo pc
set_option maxRecDepth 100000 in
theorem I_X7_undo_ok : ∀ pc row, I_X7_undo pc = some row → mjrow Y0 cX7_undo pc row = true ∧ mjrp (some .int) row.1 = true := mjchk_ok (n := 45) (by decide +kernel) (mjhi rfl)
def J_X7_save : Nat → Option mjI := fun pc => bif Nat.ble 13 pc then (bif Nat.ble 19 pc then (bif Nat.ble 23 pc then (bif Nat.ble 24 pc then (bif Nat.beq pc 24 then some (.ireturn, 1, 0, 0) else none) else (bif Nat.beq pc 23 then some (.iaload, 1, 0, 0) else none)) else (bif Nat.ble 22 pc then (bif Nat.beq pc 22 then some (.iconst 3, 1, 3, 0) else none) else (bif Nat.beq pc 19 then some (.getfield 7, 3, 0, 0) else none))) else (bif Nat.ble 15 pc then (bif Nat.ble 18 pc then (bif Nat.beq pc 18 then some (.aload_n 0, 1, 0, 0) else none) else (bif Nat.beq pc 15 then some (.putfield 193, 3, 0, 0) else none)) else (bif Nat.ble 14 pc then (bif Nat.beq pc 14 then some (.iconst 1, 1, 1, 0) else none) else (bif Nat.beq pc 13 then some (.aload_n 0, 1, 0, 0) else none)))) else (bif Nat.ble 5 pc then (bif Nat.ble 9 pc then (bif Nat.ble 10 pc then (bif Nat.beq pc 10 then some (.invokestatic 39, 3, 0, 0) else none) else (bif Nat.beq pc 9 then some (.iconst 0, 1, 0, 0) else none)) else (bif Nat.ble 6 pc then (bif Nat.beq pc 6 then some (.getfield 19, 3, 0, 0) else none) else (bif Nat.beq pc 5 then some (.aload_n 0, 1, 0, 0) else none))) else (bif Nat.ble 1 pc then (bif Nat.ble 4 pc then (bif Nat.beq pc 4 then some (.iconst 0, 1, 0, 0) else none) else (bif Nat.beq pc 1 then some (.getfield 7, 3, 0, 0) else none)) else (bif Nat.beq pc 0 then some (.aload_n 0, 1, 0, 0) else none)))
def I_X7_save : Nat → Option mjI := fun pc => bif Nat.ble 25 pc then none else J_X7_save pc
set_option maxRecDepth 100000 in
theorem I_X7_save_ok : ∀ pc row, I_X7_save pc = some row → mjrow Y0 cX7_save pc row = true ∧ mjrp (some .int) row.1 = true := mjchk_ok (n := 25) (by decide +kernel) (mjhi rfl)
def J_X7_restore : Nat → Option mjI := fun pc => bif Nat.ble 18 pc then (bif Nat.ble 27 pc then (bif Nat.ble 31 pc then (bif Nat.ble 32 pc then (bif Nat.ble 33 pc then (bif Nat.beq pc 33 then some (.ireturn, 1, 0, 0) else none) else (bif Nat.beq pc 32 then some (.iaload, 1, 0, 0) else none)) else (bif Nat.beq pc 31 then some (.iconst 3, 1, 3, 0) else none)) else (bif Nat.ble 28 pc then (bif Nat.beq pc 28 then some (.getfield 7, 3, 0, 0) else none) else (bif Nat.beq pc 27 then some (.aload_n 0, 1, 0, 0) else none))) else (bif Nat.ble 20 pc then (bif Nat.ble 23 pc then (bif Nat.ble 24 pc then (bif Nat.beq pc 24 then some (.invokestatic 39, 3, 0, 0) else none) else (bif Nat.beq pc 23 then some (.iconst 0, 1, 0, 0) else none)) else (bif Nat.beq pc 20 then some (.getfield 7, 3, 0, 0) else none)) else (bif Nat.ble 19 pc then (bif Nat.beq pc 19 then some (.aload_n 0, 1, 0, 0) else none) else (bif Nat.beq pc 18 then some (.iconst 0, 1, 0, 0) else none)))) else (bif Nat.ble 9 pc then (bif Nat.ble 11 pc then (bif Nat.ble 14 pc then (bif Nat.ble 15 pc then (bif Nat.beq pc 15 then some (.getfield 19, 3, 0, 0) else none) else (bif Nat.beq pc 14 then some (.aload_n 0, 1, 0, 0) else none)) else (bif Nat.beq pc 11 then some (.invokevirtual 92, 3, 0, 0) else none)) else (bif Nat.ble 10 pc then (bif Nat.beq pc 10 then some (.aload_n 0, 1, 0, 0) else none) else (bif Nat.beq pc 9 then some (.ireturn, 1, 0, 0) else none))) else (bif Nat.ble 4 pc then (bif Nat.ble 7 pc then (bif Nat.beq pc 7 then some (.bipush (-2), 2, (-2), 0) else none) else (bif Nat.beq pc 4 then some (.ifCond .ne 6, 3, 0, 10) else none)) else (bif Nat.ble 1 pc then (bif Nat.beq pc 1 then some (.getfield 193, 3, 0, 0) else none) else (bif Nat.beq pc 0 then some (.aload_n 0, 1, 0, 0) else none))))
def I_X7_restore : Nat → Option mjI := fun pc => bif Nat.ble 34 pc then none else J_X7_restore pc
set_option maxRecDepth 100000 in
theorem I_X7_restore_ok : ∀ pc row, I_X7_restore pc = some row → mjrow Y0 cX7_restore pc row = true ∧ mjrp (some .int) row.1 = true := mjchk_ok (n := 34) (by decide +kernel) (mjhi rfl)
def J_J9_abs_0f7a4 : Nat → Option mjI := fun pc => bif Nat.ble 5 pc then (bif Nat.ble 9 pc then (bif Nat.ble 10 pc then (bif Nat.beq pc 10 then some (.ireturn, 1, 0, 0) else none) else (bif Nat.beq pc 9 then some (.iload_n 0, 1, 0, 0) else none)) else (bif Nat.ble 6 pc then (bif Nat.beq pc 6 then some (.goto 4, 3, 0, 10) else none) else (bif Nat.beq pc 5 then some (.ineg, 1, 0, 0) else none))) else (bif Nat.ble 1 pc then (bif Nat.ble 4 pc then (bif Nat.beq pc 4 then some (.iload_n 0, 1, 0, 0) else none) else (bif Nat.beq pc 1 then some (.ifCond .ge 8, 3, 0, 9) else none)) else (bif Nat.beq pc 0 then some (.iload_n 0, 1, 0, 0) else none))
def I_J9_abs_0f7a4 : Nat → Option mjI := fun pc => bif Nat.ble 11 pc then none else J_J9_abs_0f7a4 pc
set_option maxRecDepth 100000 in
theorem I_J9_abs_0f7a4_ok : ∀ pc row, I_J9_abs_0f7a4 pc = some row → mjrow Y0 cJ9_abs_0f7a4 pc row = true ∧ mjrp (some .int) row.1 = true := mjchk_ok (n := 11) (by decide +kernel) (mjhi rfl)
def J_J9_max_7cf53 : Nat → Option mjI := fun pc => bif Nat.ble 5 pc then (bif Nat.ble 9 pc then (bif Nat.ble 10 pc then (bif Nat.beq pc 10 then some (.ireturn, 1, 0, 0) else none) else (bif Nat.beq pc 9 then some (.iload_n 1, 1, 0, 0) else none)) else (bif Nat.ble 6 pc then (bif Nat.beq pc 6 then some (.goto 4, 3, 0, 10) else none) else (bif Nat.beq pc 5 then some (.iload_n 0, 1, 0, 0) else none))) else (bif Nat.ble 1 pc then (bif Nat.ble 2 pc then (bif Nat.beq pc 2 then some (.if_icmp .lt 7, 3, 0, 9) else none) else (bif Nat.beq pc 1 then some (.iload_n 1, 1, 0, 0) else none)) else (bif Nat.beq pc 0 then some (.iload_n 0, 1, 0, 0) else none))
def I_J9_max_7cf53 : Nat → Option mjI := fun pc => bif Nat.ble 11 pc then none else J_J9_max_7cf53 pc
set_option maxRecDepth 100000 in
theorem I_J9_max_7cf53_ok : ∀ pc row, I_J9_max_7cf53 pc = some row → mjrow Y0 cJ9_max_7cf53 pc row = true ∧ mjrp (some .int) row.1 = true := mjchk_ok (n := 11) (by decide +kernel) (mjhi rfl)
def J_J9_min_7cf53 : Nat → Option mjI := fun pc => bif Nat.ble 5 pc then (bif Nat.ble 9 pc then (bif Nat.ble 10 pc then (bif Nat.beq pc 10 then some (.ireturn, 1, 0, 0) else none) else (bif Nat.beq pc 9 then some (.iload_n 1, 1, 0, 0) else none)) else (bif Nat.ble 6 pc then (bif Nat.beq pc 6 then some (.goto 4, 3, 0, 10) else none) else (bif Nat.beq pc 5 then some (.iload_n 0, 1, 0, 0) else none))) else (bif Nat.ble 1 pc then (bif Nat.ble 2 pc then (bif Nat.beq pc 2 then some (.if_icmp .gt 7, 3, 0, 9) else none) else (bif Nat.beq pc 1 then some (.iload_n 1, 1, 0, 0) else none)) else (bif Nat.beq pc 0 then some (.iload_n 0, 1, 0, 0) else none))
def I_J9_min_7cf53 : Nat → Option mjI := fun pc => bif Nat.ble 11 pc then none else J_J9_min_7cf53 pc
set_option maxRecDepth 100000 in
theorem I_J9_min_7cf53_ok : ∀ pc row, I_J9_min_7cf53 pc = some row → mjrow Y0 cJ9_min_7cf53 pc row = true ∧ mjrp (some .int) row.1 = true := mjchk_ok (n := 11) (by decide +kernel) (mjhi rfl)
def J_J7_fill_53178 : Nat → Option mjI := fun pc => bif Nat.ble 7 pc then (bif Nat.ble 13 pc then (bif Nat.ble 17 pc then (bif Nat.ble 20 pc then (bif Nat.beq pc 20 then some (.return_, 1, 0, 0) else none) else (bif Nat.beq pc 17 then some (.goto (-12), 3, 0, 5) else none)) else (bif Nat.ble 14 pc then (bif Nat.beq pc 14 then some (.iinc 2 1, 3, 1, 0) else none) else (bif Nat.beq pc 13 then some (.iastore, 1, 0, 0) else none))) else (bif Nat.ble 11 pc then (bif Nat.ble 12 pc then (bif Nat.beq pc 12 then some (.iload_n 1, 1, 0, 0) else none) else (bif Nat.beq pc 11 then some (.iload_n 2, 1, 0, 0) else none)) else (bif Nat.ble 10 pc then (bif Nat.beq pc 10 then some (.aload_n 0, 1, 0, 0) else none) else (bif Nat.beq pc 7 then some (.if_icmp .ge 13, 3, 0, 20) else none)))) else (bif Nat.ble 3 pc then (bif Nat.ble 5 pc then (bif Nat.ble 6 pc then (bif Nat.beq pc 6 then some (.iload_n 3, 1, 0, 0) else none) else (bif Nat.beq pc 5 then some (.iload_n 2, 1, 0, 0) else none)) else (bif Nat.ble 4 pc then (bif Nat.beq pc 4 then some (.istore_n 3, 1, 0, 0) else none) else (bif Nat.beq pc 3 then some (.arraylength, 1, 0, 0) else none))) else (bif Nat.ble 1 pc then (bif Nat.ble 2 pc then (bif Nat.beq pc 2 then some (.aload_n 0, 1, 0, 0) else none) else (bif Nat.beq pc 1 then some (.istore_n 2, 1, 0, 0) else none)) else (bif Nat.beq pc 0 then some (.iconst 0, 1, 0, 0) else none)))
def I_J7_fill_53178 : Nat → Option mjI := fun pc => bif Nat.ble 21 pc then none else J_J7_fill_53178 pc
set_option maxRecDepth 100000 in
theorem I_J7_fill_53178_ok : ∀ pc row, I_J7_fill_53178 pc = some row → mjrow Y0 cJ7_fill_53178 pc row = true ∧ mjrp none row.1 = true := mjchk_ok (n := 21) (by decide +kernel) (mjhi rfl)
def J_L_law : Nat → Option mjI := fun pc => bif Nat.ble 409 pc then (bif Nat.ble 555 pc then (bif Nat.ble 636 pc then (bif Nat.ble 670 pc then (bif Nat.ble 696 pc then (bif Nat.ble 709 pc then (bif Nat.ble 717 pc then (bif Nat.ble 723 pc then (bif Nat.ble 724 pc then (bif Nat.beq pc 724 then some (.ireturn, 1, 0, 0) else none) else (bif Nat.beq pc 723 then some (.iconst 1, 1, 1, 0) else none)) else (bif Nat.ble 720 pc then (bif Nat.beq pc 720 then some (.goto (-702), 3, 0, 18) else none) else (bif Nat.beq pc 717 then some (.iinc 3 3, 3, 3, 0) else none))) else (bif Nat.ble 715 pc then (bif Nat.ble 716 pc then (bif Nat.beq pc 716 then some (.ireturn, 1, 0, 0) else none) else (bif Nat.beq pc 715 then some (.iconst 0, 1, 0, 0) else none)) else (bif Nat.ble 712 pc then (bif Nat.beq pc 712 then some (.if_icmp .eq 5, 3, 0, 717) else none) else (bif Nat.beq pc 709 then some (.invokevirtual 108, 3, 0, 0) else none)))) else (bif Nat.ble 703 pc then (bif Nat.ble 705 pc then (bif Nat.ble 708 pc then (bif Nat.beq pc 708 then some (.aload_n 2, 1, 0, 0) else none) else (bif Nat.beq pc 705 then some (.invokevirtual 105, 3, 0, 0) else none)) else (bif Nat.ble 704 pc then (bif Nat.beq pc 704 then some (.aload_n 1, 1, 0, 0) else none) else (bif Nat.beq pc 703 then some (.ireturn, 1, 0, 0) else none))) else (bif Nat.ble 699 pc then (bif Nat.ble 702 pc then (bif Nat.beq pc 702 then some (.iconst 0, 1, 0, 0) else none) else (bif Nat.beq pc 699 then some (.if_icmp .eq 18, 3, 0, 717) else none)) else (bif Nat.beq pc 696 then some (.invokevirtual 104, 3, 0, 0) else none)))) else (bif Nat.ble 683 pc then (bif Nat.ble 690 pc then (bif Nat.ble 692 pc then (bif Nat.ble 695 pc then (bif Nat.beq pc 695 then some (.aload_n 2, 1, 0, 0) else none) else (bif Nat.beq pc 692 then some (.invokevirtual 101, 3, 0, 0) else none)) else (bif Nat.ble 691 pc then (bif Nat.beq pc 691 then some (.aload_n 1, 1, 0, 0) else none) else (bif Nat.beq pc 690 then some (.ireturn, 1, 0, 0) else none))) else (bif Nat.ble 686 pc then (bif Nat.ble 689 pc then (bif Nat.beq pc 689 then some (.iconst 0, 1, 0, 0) else none) else (bif Nat.beq pc 686 then some (.if_icmp .eq 31, 3, 0, 717) else none)) else (bif Nat.beq pc 683 then some (.invokevirtual 100, 3, 0, 0) else none))) else (bif Nat.ble 677 pc then (bif Nat.ble 679 pc then (bif Nat.ble 682 pc then (bif Nat.beq pc 682 then some (.aload_n 2, 1, 0, 0) else none) else (bif Nat.beq pc 679 then some (.invokevirtual 97, 3, 0, 0) else none)) else (bif Nat.ble 678 pc then (bif Nat.beq pc 678 then some (.aload_n 1, 1, 0, 0) else none) else (bif Nat.beq pc 677 then some (.ireturn, 1, 0, 0) else none))) else (bif Nat.ble 673 pc then (bif Nat.ble 676 pc then (bif Nat.beq pc 676 then some (.iconst 0, 1, 0, 0) else none) else (bif Nat.beq pc 673 then some (.if_icmp .eq 44, 3, 0, 717) else none)) else (bif Nat.beq pc 670 then some (.invokevirtual 96, 3, 0, 0) else none))))) else (bif Nat.ble 654 pc then (bif Nat.ble 661 pc then (bif Nat.ble 666 pc then (bif Nat.ble 668 pc then (bif Nat.ble 669 pc then (bif Nat.beq pc 669 then some (.iaload, 1, 0, 0) else none) else (bif Nat.beq pc 668 then some (.iadd, 1, 0, 0) else none)) else (bif Nat.ble 667 pc then (bif Nat.beq pc 667 then some (.iconst 1, 1, 1, 0) else none) else (bif Nat.beq pc 666 then some (.iload_n 3, 1, 0, 0) else none))) else (bif Nat.ble 664 pc then (bif Nat.ble 665 pc then (bif Nat.beq pc 665 then some (.aload_n 0, 1, 0, 0) else none) else (bif Nat.beq pc 664 then some (.aload_n 2, 1, 0, 0) else none)) else (bif Nat.beq pc 661 then some (.invokevirtual 93, 3, 0, 0) else none))) else (bif Nat.ble 657 pc then (bif Nat.ble 659 pc then (bif Nat.ble 660 pc then (bif Nat.beq pc 660 then some (.iaload, 1, 0, 0) else none) else (bif Nat.beq pc 659 then some (.iadd, 1, 0, 0) else none)) else (bif Nat.ble 658 pc then (bif Nat.beq pc 658 then some (.iconst 1, 1, 1, 0) else none) else (bif Nat.beq pc 657 then some (.iload_n 3, 1, 0, 0) else none))) else (bif Nat.ble 655 pc then (bif Nat.ble 656 pc then (bif Nat.beq pc 656 then some (.aload_n 0, 1, 0, 0) else none) else (bif Nat.beq pc 655 then some (.aload_n 1, 1, 0, 0) else none)) else (bif Nat.beq pc 654 then some (.ireturn, 1, 0, 0) else none)))) else (bif Nat.ble 643 pc then (bif Nat.ble 646 pc then (bif Nat.ble 650 pc then (bif Nat.ble 653 pc then (bif Nat.beq pc 653 then some (.iconst 0, 1, 0, 0) else none) else (bif Nat.beq pc 650 then some (.if_icmp .eq 67, 3, 0, 717) else none)) else (bif Nat.ble 647 pc then (bif Nat.beq pc 647 then some (.invokevirtual 92, 3, 0, 0) else none) else (bif Nat.beq pc 646 then some (.iaload, 1, 0, 0) else none))) else (bif Nat.ble 644 pc then (bif Nat.ble 645 pc then (bif Nat.beq pc 645 then some (.iadd, 1, 0, 0) else none) else (bif Nat.beq pc 644 then some (.iconst 2, 1, 2, 0) else none)) else (bif Nat.beq pc 643 then some (.iload_n 3, 1, 0, 0) else none))) else (bif Nat.ble 639 pc then (bif Nat.ble 641 pc then (bif Nat.ble 642 pc then (bif Nat.beq pc 642 then some (.aload_n 0, 1, 0, 0) else none) else (bif Nat.beq pc 641 then some (.iaload, 1, 0, 0) else none)) else (bif Nat.ble 640 pc then (bif Nat.beq pc 640 then some (.iadd, 1, 0, 0) else none) else (bif Nat.beq pc 639 then some (.iconst 1, 1, 1, 0) else none))) else (bif Nat.ble 637 pc then (bif Nat.ble 638 pc then (bif Nat.beq pc 638 then some (.iload_n 3, 1, 0, 0) else none) else (bif Nat.beq pc 637 then some (.aload_n 0, 1, 0, 0) else none)) else (bif Nat.beq pc 636 then some (.aload_n 2, 1, 0, 0) else none)))))) else (bif Nat.ble 600 pc then (bif Nat.ble 620 pc then (bif Nat.ble 627 pc then (bif Nat.ble 630 pc then (bif Nat.ble 632 pc then (bif Nat.ble 633 pc then (bif Nat.beq pc 633 then some (.invokevirtual 89, 3, 0, 0) else none) else (bif Nat.beq pc 632 then some (.iaload, 1, 0, 0) else none)) else (bif Nat.ble 631 pc then (bif Nat.beq pc 631 then some (.iadd, 1, 0, 0) else none) else (bif Nat.beq pc 630 then some (.iconst 2, 1, 2, 0) else none))) else (bif Nat.ble 628 pc then (bif Nat.ble 629 pc then (bif Nat.beq pc 629 then some (.iload_n 3, 1, 0, 0) else none) else (bif Nat.beq pc 628 then some (.aload_n 0, 1, 0, 0) else none)) else (bif Nat.beq pc 627 then some (.iaload, 1, 0, 0) else none))) else (bif Nat.ble 623 pc then (bif Nat.ble 625 pc then (bif Nat.ble 626 pc then (bif Nat.beq pc 626 then some (.iadd, 1, 0, 0) else none) else (bif Nat.beq pc 625 then some (.iconst 1, 1, 1, 0) else none)) else (bif Nat.ble 624 pc then (bif Nat.beq pc 624 then some (.iload_n 3, 1, 0, 0) else none) else (bif Nat.beq pc 623 then some (.aload_n 0, 1, 0, 0) else none))) else (bif Nat.ble 621 pc then (bif Nat.ble 622 pc then (bif Nat.beq pc 622 then some (.aload_n 1, 1, 0, 0) else none) else (bif Nat.beq pc 621 then some (.ireturn, 1, 0, 0) else none)) else (bif Nat.beq pc 620 then some (.iconst 0, 1, 0, 0) else none)))) else (bif Nat.ble 609 pc then (bif Nat.ble 612 pc then (bif Nat.ble 614 pc then (bif Nat.ble 617 pc then (bif Nat.beq pc 617 then some (.if_icmp .eq 100, 3, 0, 717) else none) else (bif Nat.beq pc 614 then some (.invokevirtual 88, 3, 0, 0) else none)) else (bif Nat.ble 613 pc then (bif Nat.beq pc 613 then some (.iaload, 1, 0, 0) else none) else (bif Nat.beq pc 612 then some (.iadd, 1, 0, 0) else none))) else (bif Nat.ble 610 pc then (bif Nat.ble 611 pc then (bif Nat.beq pc 611 then some (.iconst 2, 1, 2, 0) else none) else (bif Nat.beq pc 610 then some (.iload_n 3, 1, 0, 0) else none)) else (bif Nat.beq pc 609 then some (.aload_n 0, 1, 0, 0) else none))) else (bif Nat.ble 605 pc then (bif Nat.ble 607 pc then (bif Nat.ble 608 pc then (bif Nat.beq pc 608 then some (.iaload, 1, 0, 0) else none) else (bif Nat.beq pc 607 then some (.iadd, 1, 0, 0) else none)) else (bif Nat.ble 606 pc then (bif Nat.beq pc 606 then some (.iconst 1, 1, 1, 0) else none) else (bif Nat.beq pc 605 then some (.iload_n 3, 1, 0, 0) else none))) else (bif Nat.ble 603 pc then (bif Nat.ble 604 pc then (bif Nat.beq pc 604 then some (.aload_n 0, 1, 0, 0) else none) else (bif Nat.beq pc 603 then some (.aload_n 2, 1, 0, 0) else none)) else (bif Nat.beq pc 600 then some (.invokevirtual 85, 3, 0, 0) else none))))) else (bif Nat.ble 584 pc then (bif Nat.ble 593 pc then (bif Nat.ble 596 pc then (bif Nat.ble 598 pc then (bif Nat.ble 599 pc then (bif Nat.beq pc 599 then some (.iaload, 1, 0, 0) else none) else (bif Nat.beq pc 598 then some (.iadd, 1, 0, 0) else none)) else (bif Nat.ble 597 pc then (bif Nat.beq pc 597 then some (.iconst 2, 1, 2, 0) else none) else (bif Nat.beq pc 596 then some (.iload_n 3, 1, 0, 0) else none))) else (bif Nat.ble 594 pc then (bif Nat.ble 595 pc then (bif Nat.beq pc 595 then some (.aload_n 0, 1, 0, 0) else none) else (bif Nat.beq pc 594 then some (.iaload, 1, 0, 0) else none)) else (bif Nat.beq pc 593 then some (.iadd, 1, 0, 0) else none))) else (bif Nat.ble 589 pc then (bif Nat.ble 591 pc then (bif Nat.ble 592 pc then (bif Nat.beq pc 592 then some (.iconst 1, 1, 1, 0) else none) else (bif Nat.beq pc 591 then some (.iload_n 3, 1, 0, 0) else none)) else (bif Nat.ble 590 pc then (bif Nat.beq pc 590 then some (.aload_n 0, 1, 0, 0) else none) else (bif Nat.beq pc 589 then some (.aload_n 1, 1, 0, 0) else none))) else (bif Nat.ble 585 pc then (bif Nat.ble 586 pc then (bif Nat.beq pc 586 then some (.goto 131, 3, 0, 717) else none) else (bif Nat.beq pc 585 then some (.ireturn, 1, 0, 0) else none)) else (bif Nat.beq pc 584 then some (.iconst 0, 1, 0, 0) else none)))) else (bif Nat.ble 570 pc then (bif Nat.ble 576 pc then (bif Nat.ble 580 pc then (bif Nat.ble 581 pc then (bif Nat.beq pc 581 then some (.ifCond .ne 5, 3, 0, 586) else none) else (bif Nat.beq pc 580 then some (.dcmp .l, 1, 0, 0) else none)) else (bif Nat.ble 578 pc then (bif Nat.beq pc 578 then some (.dload 6, 2, 0, 0) else none) else (bif Nat.beq pc 576 then some (.dload 6, 2, 0, 0) else none))) else (bif Nat.ble 572 pc then (bif Nat.ble 573 pc then (bif Nat.beq pc 573 then some (.ifCond .eq 11, 3, 0, 584) else none) else (bif Nat.beq pc 572 then some (.dcmp .l, 1, 0, 0) else none)) else (bif Nat.beq pc 570 then some (.dload 4, 2, 0, 0) else none))) else (bif Nat.ble 562 pc then (bif Nat.ble 565 pc then (bif Nat.ble 568 pc then (bif Nat.beq pc 568 then some (.dload 4, 2, 0, 0) else none) else (bif Nat.beq pc 565 then some (.ifCond .eq 21, 3, 0, 586) else none)) else (bif Nat.ble 564 pc then (bif Nat.beq pc 564 then some (.dcmp .l, 1, 0, 0) else none) else (bif Nat.beq pc 562 then some (.dload 6, 2, 0, 0) else none))) else (bif Nat.ble 558 pc then (bif Nat.ble 560 pc then (bif Nat.beq pc 560 then some (.dload 4, 2, 0, 0) else none) else (bif Nat.beq pc 558 then some (.dstore 6, 2, 0, 0) else none)) else (bif Nat.beq pc 555 then some (.invokevirtual 84, 3, 0, 0) else none))))))) else (bif Nat.ble 479 pc then (bif Nat.ble 517 pc then (bif Nat.ble 537 pc then (bif Nat.ble 544 pc then (bif Nat.ble 551 pc then (bif Nat.ble 553 pc then (bif Nat.ble 554 pc then (bif Nat.beq pc 554 then some (.iaload, 1, 0, 0) else none) else (bif Nat.beq pc 553 then some (.iadd, 1, 0, 0) else none)) else (bif Nat.ble 552 pc then (bif Nat.beq pc 552 then some (.iconst 1, 1, 1, 0) else none) else (bif Nat.beq pc 551 then some (.iload_n 3, 1, 0, 0) else none))) else (bif Nat.ble 549 pc then (bif Nat.ble 550 pc then (bif Nat.beq pc 550 then some (.aload_n 0, 1, 0, 0) else none) else (bif Nat.beq pc 549 then some (.aload_n 2, 1, 0, 0) else none)) else (bif Nat.ble 547 pc then (bif Nat.beq pc 547 then some (.dstore 4, 2, 0, 0) else none) else (bif Nat.beq pc 544 then some (.invokevirtual 80, 3, 0, 0) else none)))) else (bif Nat.ble 540 pc then (bif Nat.ble 542 pc then (bif Nat.ble 543 pc then (bif Nat.beq pc 543 then some (.iaload, 1, 0, 0) else none) else (bif Nat.beq pc 542 then some (.iadd, 1, 0, 0) else none)) else (bif Nat.ble 541 pc then (bif Nat.beq pc 541 then some (.iconst 1, 1, 1, 0) else none) else (bif Nat.beq pc 540 then some (.iload_n 3, 1, 0, 0) else none))) else (bif Nat.ble 538 pc then (bif Nat.ble 539 pc then (bif Nat.beq pc 539 then some (.aload_n 0, 1, 0, 0) else none) else (bif Nat.beq pc 538 then some (.aload_n 1, 1, 0, 0) else none)) else (bif Nat.beq pc 537 then some (.ireturn, 1, 0, 0) else none)))) else (bif Nat.ble 526 pc then (bif Nat.ble 529 pc then (bif Nat.ble 533 pc then (bif Nat.ble 536 pc then (bif Nat.beq pc 536 then some (.iconst 0, 1, 0, 0) else none) else (bif Nat.beq pc 533 then some (.if_icmp .eq 184, 3, 0, 717) else none)) else (bif Nat.ble 530 pc then (bif Nat.beq pc 530 then some (.invokevirtual 79, 3, 0, 0) else none) else (bif Nat.beq pc 529 then some (.iaload, 1, 0, 0) else none))) else (bif Nat.ble 527 pc then (bif Nat.ble 528 pc then (bif Nat.beq pc 528 then some (.iadd, 1, 0, 0) else none) else (bif Nat.beq pc 527 then some (.iconst 1, 1, 1, 0) else none)) else (bif Nat.beq pc 526 then some (.iload_n 3, 1, 0, 0) else none))) else (bif Nat.ble 520 pc then (bif Nat.ble 524 pc then (bif Nat.ble 525 pc then (bif Nat.beq pc 525 then some (.aload_n 0, 1, 0, 0) else none) else (bif Nat.beq pc 524 then some (.aload_n 2, 1, 0, 0) else none)) else (bif Nat.ble 521 pc then (bif Nat.beq pc 521 then some (.invokevirtual 76, 3, 0, 0) else none) else (bif Nat.beq pc 520 then some (.iaload, 1, 0, 0) else none))) else (bif Nat.ble 518 pc then (bif Nat.ble 519 pc then (bif Nat.beq pc 519 then some (.iadd, 1, 0, 0) else none) else (bif Nat.beq pc 518 then some (.iconst 1, 1, 1, 0) else none)) else (bif Nat.beq pc 517 then some (.iload_n 3, 1, 0, 0) else none))))) else (bif Nat.ble 497 pc then (bif Nat.ble 506 pc then (bif Nat.ble 513 pc then (bif Nat.ble 515 pc then (bif Nat.ble 516 pc then (bif Nat.beq pc 516 then some (.aload_n 0, 1, 0, 0) else none) else (bif Nat.beq pc 515 then some (.aload_n 1, 1, 0, 0) else none)) else (bif Nat.ble 514 pc then (bif Nat.beq pc 514 then some (.ireturn, 1, 0, 0) else none) else (bif Nat.beq pc 513 then some (.iconst 0, 1, 0, 0) else none))) else (bif Nat.ble 507 pc then (bif Nat.ble 510 pc then (bif Nat.beq pc 510 then some (.if_icmp .eq 207, 3, 0, 717) else none) else (bif Nat.beq pc 507 then some (.invokevirtual 75, 3, 0, 0) else none)) else (bif Nat.beq pc 506 then some (.iaload, 1, 0, 0) else none))) else (bif Nat.ble 502 pc then (bif Nat.ble 504 pc then (bif Nat.ble 505 pc then (bif Nat.beq pc 505 then some (.iadd, 1, 0, 0) else none) else (bif Nat.beq pc 504 then some (.iconst 1, 1, 1, 0) else none)) else (bif Nat.ble 503 pc then (bif Nat.beq pc 503 then some (.iload_n 3, 1, 0, 0) else none) else (bif Nat.beq pc 502 then some (.aload_n 0, 1, 0, 0) else none))) else (bif Nat.ble 498 pc then (bif Nat.ble 501 pc then (bif Nat.beq pc 501 then some (.aload_n 2, 1, 0, 0) else none) else (bif Nat.beq pc 498 then some (.invokevirtual 72, 3, 0, 0) else none)) else (bif Nat.beq pc 497 then some (.iaload, 1, 0, 0) else none)))) else (bif Nat.ble 490 pc then (bif Nat.ble 493 pc then (bif Nat.ble 495 pc then (bif Nat.ble 496 pc then (bif Nat.beq pc 496 then some (.iadd, 1, 0, 0) else none) else (bif Nat.beq pc 495 then some (.iconst 1, 1, 1, 0) else none)) else (bif Nat.ble 494 pc then (bif Nat.beq pc 494 then some (.iload_n 3, 1, 0, 0) else none) else (bif Nat.beq pc 493 then some (.aload_n 0, 1, 0, 0) else none))) else (bif Nat.ble 491 pc then (bif Nat.ble 492 pc then (bif Nat.beq pc 492 then some (.aload_n 1, 1, 0, 0) else none) else (bif Nat.beq pc 491 then some (.ireturn, 1, 0, 0) else none)) else (bif Nat.beq pc 490 then some (.iconst 0, 1, 0, 0) else none))) else (bif Nat.ble 482 pc then (bif Nat.ble 484 pc then (bif Nat.ble 487 pc then (bif Nat.beq pc 487 then some (.if_icmp .eq 230, 3, 0, 717) else none) else (bif Nat.beq pc 484 then some (.invokevirtual 71, 3, 0, 0) else none)) else (bif Nat.ble 483 pc then (bif Nat.beq pc 483 then some (.iaload, 1, 0, 0) else none) else (bif Nat.beq pc 482 then some (.iadd, 1, 0, 0) else none))) else (bif Nat.ble 480 pc then (bif Nat.ble 481 pc then (bif Nat.beq pc 481 then some (.iconst 1, 1, 1, 0) else none) else (bif Nat.beq pc 480 then some (.iload_n 3, 1, 0, 0) else none)) else (bif Nat.beq pc 479 then some (.aload_n 0, 1, 0, 0) else none)))))) else (bif Nat.ble 443 pc then (bif Nat.ble 459 pc then (bif Nat.ble 470 pc then (bif Nat.ble 473 pc then (bif Nat.ble 475 pc then (bif Nat.ble 478 pc then (bif Nat.beq pc 478 then some (.aload_n 2, 1, 0, 0) else none) else (bif Nat.beq pc 475 then some (.invokevirtual 68, 3, 0, 0) else none)) else (bif Nat.ble 474 pc then (bif Nat.beq pc 474 then some (.iaload, 1, 0, 0) else none) else (bif Nat.beq pc 473 then some (.iadd, 1, 0, 0) else none))) else (bif Nat.ble 471 pc then (bif Nat.ble 472 pc then (bif Nat.beq pc 472 then some (.iconst 1, 1, 1, 0) else none) else (bif Nat.beq pc 471 then some (.iload_n 3, 1, 0, 0) else none)) else (bif Nat.beq pc 470 then some (.aload_n 0, 1, 0, 0) else none))) else (bif Nat.ble 464 pc then (bif Nat.ble 468 pc then (bif Nat.ble 469 pc then (bif Nat.beq pc 469 then some (.aload_n 1, 1, 0, 0) else none) else (bif Nat.beq pc 468 then some (.ireturn, 1, 0, 0) else none)) else (bif Nat.ble 467 pc then (bif Nat.beq pc 467 then some (.iconst 0, 1, 0, 0) else none) else (bif Nat.beq pc 464 then some (.if_icmp .eq 253, 3, 0, 717) else none))) else (bif Nat.ble 460 pc then (bif Nat.ble 461 pc then (bif Nat.beq pc 461 then some (.invokevirtual 67, 3, 0, 0) else none) else (bif Nat.beq pc 460 then some (.iaload, 1, 0, 0) else none)) else (bif Nat.beq pc 459 then some (.iadd, 1, 0, 0) else none)))) else (bif Nat.ble 452 pc then (bif Nat.ble 455 pc then (bif Nat.ble 457 pc then (bif Nat.ble 458 pc then (bif Nat.beq pc 458 then some (.iconst 2, 1, 2, 0) else none) else (bif Nat.beq pc 457 then some (.iload_n 3, 1, 0, 0) else none)) else (bif Nat.ble 456 pc then (bif Nat.beq pc 456 then some (.aload_n 0, 1, 0, 0) else none) else (bif Nat.beq pc 455 then some (.iaload, 1, 0, 0) else none))) else (bif Nat.ble 453 pc then (bif Nat.ble 454 pc then (bif Nat.beq pc 454 then some (.iadd, 1, 0, 0) else none) else (bif Nat.beq pc 453 then some (.iconst 1, 1, 1, 0) else none)) else (bif Nat.beq pc 452 then some (.iload_n 3, 1, 0, 0) else none))) else (bif Nat.ble 446 pc then (bif Nat.ble 450 pc then (bif Nat.ble 451 pc then (bif Nat.beq pc 451 then some (.aload_n 0, 1, 0, 0) else none) else (bif Nat.beq pc 450 then some (.aload_n 2, 1, 0, 0) else none)) else (bif Nat.ble 447 pc then (bif Nat.beq pc 447 then some (.invokevirtual 64, 3, 0, 0) else none) else (bif Nat.beq pc 446 then some (.iaload, 1, 0, 0) else none))) else (bif Nat.ble 444 pc then (bif Nat.ble 445 pc then (bif Nat.beq pc 445 then some (.iadd, 1, 0, 0) else none) else (bif Nat.beq pc 444 then some (.iconst 2, 1, 2, 0) else none)) else (bif Nat.beq pc 443 then some (.iload_n 3, 1, 0, 0) else none))))) else (bif Nat.ble 425 pc then (bif Nat.ble 436 pc then (bif Nat.ble 439 pc then (bif Nat.ble 441 pc then (bif Nat.ble 442 pc then (bif Nat.beq pc 442 then some (.aload_n 0, 1, 0, 0) else none) else (bif Nat.beq pc 441 then some (.iaload, 1, 0, 0) else none)) else (bif Nat.ble 440 pc then (bif Nat.beq pc 440 then some (.iadd, 1, 0, 0) else none) else (bif Nat.beq pc 439 then some (.iconst 1, 1, 1, 0) else none))) else (bif Nat.ble 437 pc then (bif Nat.ble 438 pc then (bif Nat.beq pc 438 then some (.iload_n 3, 1, 0, 0) else none) else (bif Nat.beq pc 437 then some (.aload_n 0, 1, 0, 0) else none)) else (bif Nat.beq pc 436 then some (.aload_n 1, 1, 0, 0) else none))) else (bif Nat.ble 428 pc then (bif Nat.ble 434 pc then (bif Nat.ble 435 pc then (bif Nat.beq pc 435 then some (.ireturn, 1, 0, 0) else none) else (bif Nat.beq pc 434 then some (.iconst 0, 1, 0, 0) else none)) else (bif Nat.ble 431 pc then (bif Nat.beq pc 431 then some (.if_icmp .eq 286, 3, 0, 717) else none) else (bif Nat.beq pc 428 then some (.invokevirtual 63, 3, 0, 0) else none))) else (bif Nat.ble 426 pc then (bif Nat.ble 427 pc then (bif Nat.beq pc 427 then some (.iaload, 1, 0, 0) else none) else (bif Nat.beq pc 426 then some (.iadd, 1, 0, 0) else none)) else (bif Nat.beq pc 425 then some (.iconst 2, 1, 2, 0) else none)))) else (bif Nat.ble 418 pc then (bif Nat.ble 421 pc then (bif Nat.ble 423 pc then (bif Nat.ble 424 pc then (bif Nat.beq pc 424 then some (.iload_n 3, 1, 0, 0) else none) else (bif Nat.beq pc 423 then some (.aload_n 0, 1, 0, 0) else none)) else (bif Nat.ble 422 pc then (bif Nat.beq pc 422 then some (.iaload, 1, 0, 0) else none) else (bif Nat.beq pc 421 then some (.iadd, 1, 0, 0) else none))) else (bif Nat.ble 419 pc then (bif Nat.ble 420 pc then (bif Nat.beq pc 420 then some (.iconst 1, 1, 1, 0) else none) else (bif Nat.beq pc 419 then some (.iload_n 3, 1, 0, 0) else none)) else (bif Nat.beq pc 418 then some (.aload_n 0, 1, 0, 0) else none))) else (bif Nat.ble 412 pc then (bif Nat.ble 414 pc then (bif Nat.ble 417 pc then (bif Nat.beq pc 417 then some (.aload_n 2, 1, 0, 0) else none) else (bif Nat.beq pc 414 then some (.invokevirtual 60, 3, 0, 0) else none)) else (bif Nat.ble 413 pc then (bif Nat.beq pc 413 then some (.iaload, 1, 0, 0) else none) else (bif Nat.beq pc 412 then some (.iadd, 1, 0, 0) else none))) else (bif Nat.ble 410 pc then (bif Nat.ble 411 pc then (bif Nat.beq pc 411 then some (.iconst 2, 1, 2, 0) else none) else (bif Nat.beq pc 410 then some (.iload_n 3, 1, 0, 0) else none)) else (bif Nat.beq pc 409 then some (.aload_n 0, 1, 0, 0) else none)))))))) else (bif Nat.ble 254 pc then (bif Nat.ble 324 pc then (bif Nat.ble 362 pc then (bif Nat.ble 388 pc then (bif Nat.ble 401 pc then (bif Nat.ble 405 pc then (bif Nat.ble 407 pc then (bif Nat.ble 408 pc then (bif Nat.beq pc 408 then some (.iaload, 1, 0, 0) else none) else (bif Nat.beq pc 407 then some (.iadd, 1, 0, 0) else none)) else (bif Nat.ble 406 pc then (bif Nat.beq pc 406 then some (.iconst 1, 1, 1, 0) else none) else (bif Nat.beq pc 405 then some (.iload_n 3, 1, 0, 0) else none))) else (bif Nat.ble 403 pc then (bif Nat.ble 404 pc then (bif Nat.beq pc 404 then some (.aload_n 0, 1, 0, 0) else none) else (bif Nat.beq pc 403 then some (.aload_n 1, 1, 0, 0) else none)) else (bif Nat.ble 402 pc then (bif Nat.beq pc 402 then some (.ireturn, 1, 0, 0) else none) else (bif Nat.beq pc 401 then some (.iconst 0, 1, 0, 0) else none)))) else (bif Nat.ble 391 pc then (bif Nat.ble 395 pc then (bif Nat.ble 398 pc then (bif Nat.beq pc 398 then some (.if_icmp .eq 319, 3, 0, 717) else none) else (bif Nat.beq pc 395 then some (.invokevirtual 59, 3, 0, 0) else none)) else (bif Nat.ble 394 pc then (bif Nat.beq pc 394 then some (.aload_n 2, 1, 0, 0) else none) else (bif Nat.beq pc 391 then some (.invokevirtual 56, 3, 0, 0) else none))) else (bif Nat.ble 389 pc then (bif Nat.ble 390 pc then (bif Nat.beq pc 390 then some (.aload_n 1, 1, 0, 0) else none) else (bif Nat.beq pc 389 then some (.ireturn, 1, 0, 0) else none)) else (bif Nat.beq pc 388 then some (.iconst 0, 1, 0, 0) else none)))) else (bif Nat.ble 375 pc then (bif Nat.ble 378 pc then (bif Nat.ble 382 pc then (bif Nat.ble 385 pc then (bif Nat.beq pc 385 then some (.if_icmp .eq 332, 3, 0, 717) else none) else (bif Nat.beq pc 382 then some (.invokevirtual 55, 3, 0, 0) else none)) else (bif Nat.ble 381 pc then (bif Nat.beq pc 381 then some (.aload_n 2, 1, 0, 0) else none) else (bif Nat.beq pc 378 then some (.invokevirtual 52, 3, 0, 0) else none))) else (bif Nat.ble 376 pc then (bif Nat.ble 377 pc then (bif Nat.beq pc 377 then some (.aload_n 1, 1, 0, 0) else none) else (bif Nat.beq pc 376 then some (.ireturn, 1, 0, 0) else none)) else (bif Nat.beq pc 375 then some (.iconst 0, 1, 0, 0) else none))) else (bif Nat.ble 365 pc then (bif Nat.ble 369 pc then (bif Nat.ble 372 pc then (bif Nat.beq pc 372 then some (.if_icmp .eq 345, 3, 0, 717) else none) else (bif Nat.beq pc 369 then some (.invokevirtual 51, 3, 0, 0) else none)) else (bif Nat.ble 368 pc then (bif Nat.beq pc 368 then some (.aload_n 2, 1, 0, 0) else none) else (bif Nat.beq pc 365 then some (.invokevirtual 47, 3, 0, 0) else none))) else (bif Nat.ble 363 pc then (bif Nat.ble 364 pc then (bif Nat.beq pc 364 then some (.aload_n 1, 1, 0, 0) else none) else (bif Nat.beq pc 363 then some (.ireturn, 1, 0, 0) else none)) else (bif Nat.beq pc 362 then some (.iconst 0, 1, 0, 0) else none))))) else (bif Nat.ble 342 pc then (bif Nat.ble 351 pc then (bif Nat.ble 354 pc then (bif Nat.ble 356 pc then (bif Nat.ble 359 pc then (bif Nat.beq pc 359 then some (.if_icmp .eq 358, 3, 0, 717) else none) else (bif Nat.beq pc 356 then some (.invokevirtual 46, 3, 0, 0) else none)) else (bif Nat.ble 355 pc then (bif Nat.beq pc 355 then some (.iaload, 1, 0, 0) else none) else (bif Nat.beq pc 354 then some (.iadd, 1, 0, 0) else none))) else (bif Nat.ble 352 pc then (bif Nat.ble 353 pc then (bif Nat.beq pc 353 then some (.iconst 1, 1, 1, 0) else none) else (bif Nat.beq pc 352 then some (.iload_n 3, 1, 0, 0) else none)) else (bif Nat.beq pc 351 then some (.aload_n 0, 1, 0, 0) else none))) else (bif Nat.ble 345 pc then (bif Nat.ble 347 pc then (bif Nat.ble 350 pc then (bif Nat.beq pc 350 then some (.aload_n 2, 1, 0, 0) else none) else (bif Nat.beq pc 347 then some (.invokevirtual 43, 3, 0, 0) else none)) else (bif Nat.ble 346 pc then (bif Nat.beq pc 346 then some (.iaload, 1, 0, 0) else none) else (bif Nat.beq pc 345 then some (.iadd, 1, 0, 0) else none))) else (bif Nat.ble 343 pc then (bif Nat.ble 344 pc then (bif Nat.beq pc 344 then some (.iconst 1, 1, 1, 0) else none) else (bif Nat.beq pc 343 then some (.iload_n 3, 1, 0, 0) else none)) else (bif Nat.beq pc 342 then some (.aload_n 0, 1, 0, 0) else none)))) else (bif Nat.ble 331 pc then (bif Nat.ble 336 pc then (bif Nat.ble 340 pc then (bif Nat.ble 341 pc then (bif Nat.beq pc 341 then some (.aload_n 1, 1, 0, 0) else none) else (bif Nat.beq pc 340 then some (.ireturn, 1, 0, 0) else none)) else (bif Nat.ble 339 pc then (bif Nat.beq pc 339 then some (.iconst 0, 1, 0, 0) else none) else (bif Nat.beq pc 336 then some (.if_icmp .eq 381, 3, 0, 717) else none))) else (bif Nat.ble 332 pc then (bif Nat.ble 333 pc then (bif Nat.beq pc 333 then some (.invokevirtual 42, 3, 0, 0) else none) else (bif Nat.beq pc 332 then some (.iaload, 1, 0, 0) else none)) else (bif Nat.beq pc 331 then some (.iadd, 1, 0, 0) else none))) else (bif Nat.ble 327 pc then (bif Nat.ble 329 pc then (bif Nat.ble 330 pc then (bif Nat.beq pc 330 then some (.iconst 2, 1, 2, 0) else none) else (bif Nat.beq pc 329 then some (.iload_n 3, 1, 0, 0) else none)) else (bif Nat.ble 328 pc then (bif Nat.beq pc 328 then some (.aload_n 0, 1, 0, 0) else none) else (bif Nat.beq pc 327 then some (.iaload, 1, 0, 0) else none))) else (bif Nat.ble 325 pc then (bif Nat.ble 326 pc then (bif Nat.beq pc 326 then some (.iadd, 1, 0, 0) else none) else (bif Nat.beq pc 325 then some (.iconst 1, 1, 1, 0) else none)) else (bif Nat.beq pc 324 then some (.iload_n 3, 1, 0, 0) else none)))))) else (bif Nat.ble 290 pc then (bif Nat.ble 308 pc then (bif Nat.ble 315 pc then (bif Nat.ble 318 pc then (bif Nat.ble 322 pc then (bif Nat.ble 323 pc then (bif Nat.beq pc 323 then some (.aload_n 0, 1, 0, 0) else none) else (bif Nat.beq pc 322 then some (.aload_n 2, 1, 0, 0) else none)) else (bif Nat.ble 319 pc then (bif Nat.beq pc 319 then some (.invokevirtual 39, 3, 0, 0) else none) else (bif Nat.beq pc 318 then some (.iaload, 1, 0, 0) else none))) else (bif Nat.ble 316 pc then (bif Nat.ble 317 pc then (bif Nat.beq pc 317 then some (.iadd, 1, 0, 0) else none) else (bif Nat.beq pc 316 then some (.iconst 2, 1, 2, 0) else none)) else (bif Nat.beq pc 315 then some (.iload_n 3, 1, 0, 0) else none))) else (bif Nat.ble 311 pc then (bif Nat.ble 313 pc then (bif Nat.ble 314 pc then (bif Nat.beq pc 314 then some (.aload_n 0, 1, 0, 0) else none) else (bif Nat.beq pc 313 then some (.iaload, 1, 0, 0) else none)) else (bif Nat.ble 312 pc then (bif Nat.beq pc 312 then some (.iadd, 1, 0, 0) else none) else (bif Nat.beq pc 311 then some (.iconst 1, 1, 1, 0) else none))) else (bif Nat.ble 309 pc then (bif Nat.ble 310 pc then (bif Nat.beq pc 310 then some (.iload_n 3, 1, 0, 0) else none) else (bif Nat.beq pc 309 then some (.aload_n 0, 1, 0, 0) else none)) else (bif Nat.beq pc 308 then some (.aload_n 1, 1, 0, 0) else none)))) else (bif Nat.ble 297 pc then (bif Nat.ble 300 pc then (bif Nat.ble 306 pc then (bif Nat.ble 307 pc then (bif Nat.beq pc 307 then some (.ireturn, 1, 0, 0) else none) else (bif Nat.beq pc 306 then some (.iconst 0, 1, 0, 0) else none)) else (bif Nat.ble 303 pc then (bif Nat.beq pc 303 then some (.if_icmp .eq 414, 3, 0, 717) else none) else (bif Nat.beq pc 300 then some (.invokevirtual 38, 3, 0, 0) else none))) else (bif Nat.ble 298 pc then (bif Nat.ble 299 pc then (bif Nat.beq pc 299 then some (.iaload, 1, 0, 0) else none) else (bif Nat.beq pc 298 then some (.iadd, 1, 0, 0) else none)) else (bif Nat.beq pc 297 then some (.iconst 2, 1, 2, 0) else none))) else (bif Nat.ble 293 pc then (bif Nat.ble 295 pc then (bif Nat.ble 296 pc then (bif Nat.beq pc 296 then some (.iload_n 3, 1, 0, 0) else none) else (bif Nat.beq pc 295 then some (.aload_n 0, 1, 0, 0) else none)) else (bif Nat.ble 294 pc then (bif Nat.beq pc 294 then some (.iaload, 1, 0, 0) else none) else (bif Nat.beq pc 293 then some (.iadd, 1, 0, 0) else none))) else (bif Nat.ble 291 pc then (bif Nat.ble 292 pc then (bif Nat.beq pc 292 then some (.iconst 1, 1, 1, 0) else none) else (bif Nat.beq pc 291 then some (.iload_n 3, 1, 0, 0) else none)) else (bif Nat.beq pc 290 then some (.aload_n 0, 1, 0, 0) else none))))) else (bif Nat.ble 274 pc then (bif Nat.ble 281 pc then (bif Nat.ble 284 pc then (bif Nat.ble 286 pc then (bif Nat.ble 289 pc then (bif Nat.beq pc 289 then some (.aload_n 2, 1, 0, 0) else none) else (bif Nat.beq pc 286 then some (.invokevirtual 35, 3, 0, 0) else none)) else (bif Nat.ble 285 pc then (bif Nat.beq pc 285 then some (.iaload, 1, 0, 0) else none) else (bif Nat.beq pc 284 then some (.iadd, 1, 0, 0) else none))) else (bif Nat.ble 282 pc then (bif Nat.ble 283 pc then (bif Nat.beq pc 283 then some (.iconst 2, 1, 2, 0) else none) else (bif Nat.beq pc 282 then some (.iload_n 3, 1, 0, 0) else none)) else (bif Nat.beq pc 281 then some (.aload_n 0, 1, 0, 0) else none))) else (bif Nat.ble 277 pc then (bif Nat.ble 279 pc then (bif Nat.ble 280 pc then (bif Nat.beq pc 280 then some (.iaload, 1, 0, 0) else none) else (bif Nat.beq pc 279 then some (.iadd, 1, 0, 0) else none)) else (bif Nat.ble 278 pc then (bif Nat.beq pc 278 then some (.iconst 1, 1, 1, 0) else none) else (bif Nat.beq pc 277 then some (.iload_n 3, 1, 0, 0) else none))) else (bif Nat.ble 275 pc then (bif Nat.ble 276 pc then (bif Nat.beq pc 276 then some (.aload_n 0, 1, 0, 0) else none) else (bif Nat.beq pc 275 then some (.aload_n 1, 1, 0, 0) else none)) else (bif Nat.beq pc 274 then some (.ireturn, 1, 0, 0) else none)))) else (bif Nat.ble 263 pc then (bif Nat.ble 266 pc then (bif Nat.ble 270 pc then (bif Nat.ble 273 pc then (bif Nat.beq pc 273 then some (.iconst 0, 1, 0, 0) else none) else (bif Nat.beq pc 270 then some (.if_icmp .eq 447, 3, 0, 717) else none)) else (bif Nat.ble 267 pc then (bif Nat.beq pc 267 then some (.invokevirtual 34, 3, 0, 0) else none) else (bif Nat.beq pc 266 then some (.iaload, 1, 0, 0) else none))) else (bif Nat.ble 264 pc then (bif Nat.ble 265 pc then (bif Nat.beq pc 265 then some (.iadd, 1, 0, 0) else none) else (bif Nat.beq pc 264 then some (.iconst 1, 1, 1, 0) else none)) else (bif Nat.beq pc 263 then some (.iload_n 3, 1, 0, 0) else none))) else (bif Nat.ble 257 pc then (bif Nat.ble 261 pc then (bif Nat.ble 262 pc then (bif Nat.beq pc 262 then some (.aload_n 0, 1, 0, 0) else none) else (bif Nat.beq pc 261 then some (.aload_n 2, 1, 0, 0) else none)) else (bif Nat.ble 258 pc then (bif Nat.beq pc 258 then some (.invokevirtual 31, 3, 0, 0) else none) else (bif Nat.beq pc 257 then some (.iaload, 1, 0, 0) else none))) else (bif Nat.ble 255 pc then (bif Nat.ble 256 pc then (bif Nat.beq pc 256 then some (.iadd, 1, 0, 0) else none) else (bif Nat.beq pc 255 then some (.iconst 1, 1, 1, 0) else none)) else (bif Nat.beq pc 254 then some (.iload_n 3, 1, 0, 0) else none))))))) else (bif Nat.ble 182 pc then (bif Nat.ble 220 pc then (bif Nat.ble 236 pc then (bif Nat.ble 243 pc then (bif Nat.ble 250 pc then (bif Nat.ble 252 pc then (bif Nat.ble 253 pc then (bif Nat.beq pc 253 then some (.aload_n 0, 1, 0, 0) else none) else (bif Nat.beq pc 252 then some (.aload_n 1, 1, 0, 0) else none)) else (bif Nat.ble 251 pc then (bif Nat.beq pc 251 then some (.ireturn, 1, 0, 0) else none) else (bif Nat.beq pc 250 then some (.iconst 0, 1, 0, 0) else none))) else (bif Nat.ble 244 pc then (bif Nat.ble 247 pc then (bif Nat.beq pc 247 then some (.if_icmp .eq 470, 3, 0, 717) else none) else (bif Nat.beq pc 244 then some (.invokevirtual 30, 3, 0, 0) else none)) else (bif Nat.beq pc 243 then some (.iaload, 1, 0, 0) else none))) else (bif Nat.ble 239 pc then (bif Nat.ble 241 pc then (bif Nat.ble 242 pc then (bif Nat.beq pc 242 then some (.iadd, 1, 0, 0) else none) else (bif Nat.beq pc 241 then some (.iconst 2, 1, 2, 0) else none)) else (bif Nat.ble 240 pc then (bif Nat.beq pc 240 then some (.iload_n 3, 1, 0, 0) else none) else (bif Nat.beq pc 239 then some (.aload_n 0, 1, 0, 0) else none))) else (bif Nat.ble 237 pc then (bif Nat.ble 238 pc then (bif Nat.beq pc 238 then some (.iaload, 1, 0, 0) else none) else (bif Nat.beq pc 237 then some (.iadd, 1, 0, 0) else none)) else (bif Nat.beq pc 236 then some (.iconst 1, 1, 1, 0) else none)))) else (bif Nat.ble 227 pc then (bif Nat.ble 230 pc then (bif Nat.ble 234 pc then (bif Nat.ble 235 pc then (bif Nat.beq pc 235 then some (.iload_n 3, 1, 0, 0) else none) else (bif Nat.beq pc 234 then some (.aload_n 0, 1, 0, 0) else none)) else (bif Nat.ble 233 pc then (bif Nat.beq pc 233 then some (.aload_n 2, 1, 0, 0) else none) else (bif Nat.beq pc 230 then some (.invokevirtual 27, 3, 0, 0) else none))) else (bif Nat.ble 228 pc then (bif Nat.ble 229 pc then (bif Nat.beq pc 229 then some (.iaload, 1, 0, 0) else none) else (bif Nat.beq pc 228 then some (.iadd, 1, 0, 0) else none)) else (bif Nat.beq pc 227 then some (.iconst 2, 1, 2, 0) else none))) else (bif Nat.ble 223 pc then (bif Nat.ble 225 pc then (bif Nat.ble 226 pc then (bif Nat.beq pc 226 then some (.iload_n 3, 1, 0, 0) else none) else (bif Nat.beq pc 225 then some (.aload_n 0, 1, 0, 0) else none)) else (bif Nat.ble 224 pc then (bif Nat.beq pc 224 then some (.iaload, 1, 0, 0) else none) else (bif Nat.beq pc 223 then some (.iadd, 1, 0, 0) else none))) else (bif Nat.ble 221 pc then (bif Nat.ble 222 pc then (bif Nat.beq pc 222 then some (.iconst 1, 1, 1, 0) else none) else (bif Nat.beq pc 221 then some (.iload_n 3, 1, 0, 0) else none)) else (bif Nat.beq pc 220 then some (.aload_n 0, 1, 0, 0) else none))))) else (bif Nat.ble 200 pc then (bif Nat.ble 209 pc then (bif Nat.ble 214 pc then (bif Nat.ble 218 pc then (bif Nat.ble 219 pc then (bif Nat.beq pc 219 then some (.aload_n 1, 1, 0, 0) else none) else (bif Nat.beq pc 218 then some (.ireturn, 1, 0, 0) else none)) else (bif Nat.ble 217 pc then (bif Nat.beq pc 217 then some (.iconst 0, 1, 0, 0) else none) else (bif Nat.beq pc 214 then some (.if_icmp .eq 503, 3, 0, 717) else none))) else (bif Nat.ble 210 pc then (bif Nat.ble 211 pc then (bif Nat.beq pc 211 then some (.invokevirtual 26, 3, 0, 0) else none) else (bif Nat.beq pc 210 then some (.iaload, 1, 0, 0) else none)) else (bif Nat.beq pc 209 then some (.iadd, 1, 0, 0) else none))) else (bif Nat.ble 205 pc then (bif Nat.ble 207 pc then (bif Nat.ble 208 pc then (bif Nat.beq pc 208 then some (.iconst 1, 1, 1, 0) else none) else (bif Nat.beq pc 207 then some (.iload_n 3, 1, 0, 0) else none)) else (bif Nat.ble 206 pc then (bif Nat.beq pc 206 then some (.aload_n 0, 1, 0, 0) else none) else (bif Nat.beq pc 205 then some (.aload_n 2, 1, 0, 0) else none))) else (bif Nat.ble 201 pc then (bif Nat.ble 202 pc then (bif Nat.beq pc 202 then some (.invokevirtual 23, 3, 0, 0) else none) else (bif Nat.beq pc 201 then some (.iaload, 1, 0, 0) else none)) else (bif Nat.beq pc 200 then some (.iadd, 1, 0, 0) else none)))) else (bif Nat.ble 191 pc then (bif Nat.ble 196 pc then (bif Nat.ble 198 pc then (bif Nat.ble 199 pc then (bif Nat.beq pc 199 then some (.iconst 1, 1, 1, 0) else none) else (bif Nat.beq pc 198 then some (.iload_n 3, 1, 0, 0) else none)) else (bif Nat.ble 197 pc then (bif Nat.beq pc 197 then some (.aload_n 0, 1, 0, 0) else none) else (bif Nat.beq pc 196 then some (.aload_n 1, 1, 0, 0) else none))) else (bif Nat.ble 194 pc then (bif Nat.ble 195 pc then (bif Nat.beq pc 195 then some (.ireturn, 1, 0, 0) else none) else (bif Nat.beq pc 194 then some (.iconst 0, 1, 0, 0) else none)) else (bif Nat.beq pc 191 then some (.if_icmp .eq 526, 3, 0, 717) else none))) else (bif Nat.ble 185 pc then (bif Nat.ble 187 pc then (bif Nat.ble 188 pc then (bif Nat.beq pc 188 then some (.invokevirtual 22, 3, 0, 0) else none) else (bif Nat.beq pc 187 then some (.iaload, 1, 0, 0) else none)) else (bif Nat.ble 186 pc then (bif Nat.beq pc 186 then some (.iadd, 1, 0, 0) else none) else (bif Nat.beq pc 185 then some (.iconst 2, 1, 2, 0) else none))) else (bif Nat.ble 183 pc then (bif Nat.ble 184 pc then (bif Nat.beq pc 184 then some (.iload_n 3, 1, 0, 0) else none) else (bif Nat.beq pc 183 then some (.aload_n 0, 1, 0, 0) else none)) else (bif Nat.beq pc 182 then some (.iaload, 1, 0, 0) else none)))))) else (bif Nat.ble 146 pc then (bif Nat.ble 166 pc then (bif Nat.ble 173 pc then (bif Nat.ble 178 pc then (bif Nat.ble 180 pc then (bif Nat.ble 181 pc then (bif Nat.beq pc 181 then some (.iadd, 1, 0, 0) else none) else (bif Nat.beq pc 180 then some (.iconst 1, 1, 1, 0) else none)) else (bif Nat.ble 179 pc then (bif Nat.beq pc 179 then some (.iload_n 3, 1, 0, 0) else none) else (bif Nat.beq pc 178 then some (.aload_n 0, 1, 0, 0) else none))) else (bif Nat.ble 174 pc then (bif Nat.ble 177 pc then (bif Nat.beq pc 177 then some (.aload_n 2, 1, 0, 0) else none) else (bif Nat.beq pc 174 then some (.invokevirtual 18, 3, 0, 0) else none)) else (bif Nat.beq pc 173 then some (.iaload, 1, 0, 0) else none))) else (bif Nat.ble 169 pc then (bif Nat.ble 171 pc then (bif Nat.ble 172 pc then (bif Nat.beq pc 172 then some (.iadd, 1, 0, 0) else none) else (bif Nat.beq pc 171 then some (.iconst 2, 1, 2, 0) else none)) else (bif Nat.ble 170 pc then (bif Nat.beq pc 170 then some (.iload_n 3, 1, 0, 0) else none) else (bif Nat.beq pc 169 then some (.aload_n 0, 1, 0, 0) else none))) else (bif Nat.ble 167 pc then (bif Nat.ble 168 pc then (bif Nat.beq pc 168 then some (.iaload, 1, 0, 0) else none) else (bif Nat.beq pc 167 then some (.iadd, 1, 0, 0) else none)) else (bif Nat.beq pc 166 then some (.iconst 1, 1, 1, 0) else none)))) else (bif Nat.ble 155 pc then (bif Nat.ble 162 pc then (bif Nat.ble 164 pc then (bif Nat.ble 165 pc then (bif Nat.beq pc 165 then some (.iload_n 3, 1, 0, 0) else none) else (bif Nat.beq pc 164 then some (.aload_n 0, 1, 0, 0) else none)) else (bif Nat.ble 163 pc then (bif Nat.beq pc 163 then some (.aload_n 1, 1, 0, 0) else none) else (bif Nat.beq pc 162 then some (.ireturn, 1, 0, 0) else none))) else (bif Nat.ble 158 pc then (bif Nat.ble 161 pc then (bif Nat.beq pc 161 then some (.iconst 0, 1, 0, 0) else none) else (bif Nat.beq pc 158 then some (.if_icmp .eq 559, 3, 0, 717) else none)) else (bif Nat.beq pc 155 then some (.invokevirtual 17, 3, 0, 0) else none))) else (bif Nat.ble 151 pc then (bif Nat.ble 153 pc then (bif Nat.ble 154 pc then (bif Nat.beq pc 154 then some (.iaload, 1, 0, 0) else none) else (bif Nat.beq pc 153 then some (.iadd, 1, 0, 0) else none)) else (bif Nat.ble 152 pc then (bif Nat.beq pc 152 then some (.iconst 1, 1, 1, 0) else none) else (bif Nat.beq pc 151 then some (.iload_n 3, 1, 0, 0) else none))) else (bif Nat.ble 149 pc then (bif Nat.ble 150 pc then (bif Nat.beq pc 150 then some (.aload_n 0, 1, 0, 0) else none) else (bif Nat.beq pc 149 then some (.aload_n 2, 1, 0, 0) else none)) else (bif Nat.beq pc 146 then some (.invokevirtual 13, 3, 0, 0) else none))))) else (bif Nat.ble 22 pc then (bif Nat.ble 32 pc then (bif Nat.ble 142 pc then (bif Nat.ble 144 pc then (bif Nat.ble 145 pc then (bif Nat.beq pc 145 then some (.iaload, 1, 0, 0) else none) else (bif Nat.beq pc 144 then some (.iadd, 1, 0, 0) else none)) else (bif Nat.ble 143 pc then (bif Nat.beq pc 143 then some (.iconst 1, 1, 1, 0) else none) else (bif Nat.beq pc 142 then some (.iload_n 3, 1, 0, 0) else none))) else (bif Nat.ble 140 pc then (bif Nat.ble 141 pc then (bif Nat.beq pc 141 then some (.aload_n 0, 1, 0, 0) else none) else (bif Nat.beq pc 140 then some (.aload_n 1, 1, 0, 0) else none)) else (bif Nat.beq pc 32 then some (.tableswitch 685 0 22 #[108, 131, 164, 187, 220, 243, 276, 309, 332, 345, 358, 371, 404, 437, 460, 483, 506, 557, 590, 623, 646, 659, 672], 108, 0, 717) else none))) else (bif Nat.ble 27 pc then (bif Nat.ble 29 pc then (bif Nat.ble 31 pc then (bif Nat.beq pc 31 then some (.iand, 1, 0, 0) else none) else (bif Nat.beq pc 29 then some (.bipush 31, 2, 31, 0) else none)) else (bif Nat.ble 28 pc then (bif Nat.beq pc 28 then some (.iaload, 1, 0, 0) else none) else (bif Nat.beq pc 27 then some (.iload_n 3, 1, 0, 0) else none))) else (bif Nat.ble 23 pc then (bif Nat.ble 26 pc then (bif Nat.beq pc 26 then some (.aload_n 0, 1, 0, 0) else none) else (bif Nat.beq pc 23 then some (.if_icmp .gt 700, 3, 0, 723) else none)) else (bif Nat.beq pc 22 then some (.isub, 1, 0, 0) else none)))) else (bif Nat.ble 15 pc then (bif Nat.ble 18 pc then (bif Nat.ble 20 pc then (bif Nat.ble 21 pc then (bif Nat.beq pc 21 then some (.iconst 3, 1, 3, 0) else none) else (bif Nat.beq pc 20 then some (.arraylength, 1, 0, 0) else none)) else (bif Nat.ble 19 pc then (bif Nat.beq pc 19 then some (.aload_n 0, 1, 0, 0) else none) else (bif Nat.beq pc 18 then some (.iload_n 3, 1, 0, 0) else none))) else (bif Nat.ble 16 pc then (bif Nat.ble 17 pc then (bif Nat.beq pc 17 then some (.istore_n 3, 1, 0, 0) else none) else (bif Nat.beq pc 16 then some (.iconst 0, 1, 0, 0) else none)) else (bif Nat.beq pc 15 then some (.astore_n 2, 1, 0, 0) else none))) else (bif Nat.ble 7 pc then (bif Nat.ble 11 pc then (bif Nat.ble 12 pc then (bif Nat.beq pc 12 then some (.invokespecial 12, 3, 0, 0) else none) else (bif Nat.beq pc 11 then some (.dup, 1, 0, 0) else none)) else (bif Nat.ble 8 pc then (bif Nat.beq pc 8 then some (.new 10, 3, 0, 0) else none) else (bif Nat.beq pc 7 then some (.astore_n 1, 1, 0, 0) else none))) else (bif Nat.ble 3 pc then (bif Nat.ble 4 pc then (bif Nat.beq pc 4 then some (.invokespecial 9, 3, 0, 0) else none) else (bif Nat.beq pc 3 then some (.dup, 1, 0, 0) else none)) else (bif Nat.beq pc 0 then some (.new 7, 3, 0, 0) else none))))))))
def I_L_law : Nat → Option mjI := fun pc => bif Nat.ble 725 pc then none else J_L_law pc
def Y_L_law : Nat → List (Int32 × Nat) := fun pc => bif Nat.beq pc 32 then [(0, 140), (1, 163), (2, 196), (3, 219), (4, 252), (5, 275), (6, 308), (7, 341), (8, 364), (9, 377), (10, 390), (11, 403), (12, 436), (13, 469), (14, 492), (15, 515), (16, 538), (17, 589), (18, 622), (19, 655), (20, 678), (21, 691), (22, 704)] else []
set_option maxRecDepth 100000 in
theorem I_L_law_ok : ∀ pc row, I_L_law pc = some row → mjrow Y_L_law cL_law pc row = true ∧ mjrp (some .boolean) row.1 = true := mjchk_ok (n := 725) (by decide +kernel) (mjhi rfl)
end
section
/-! of each field, method and call the tables' words, by their places (wip/whole/gen_words.py) -/
theorem mjW_list (ws : List Cond) (ps : List Nat) (h : ws.map some = ps.map (fun i => lw_tbl[i]?)) (hg : ws.all goodWord = true) : ∀ w ∈ ws, w ∈ mjW := by
  intro w hw
  have h1 : some w ∈ ps.map (fun i => lw_tbl[i]?) := by rw [← h]; exact List.mem_map.mpr ⟨w, hw, rfl⟩
  obtain ⟨i, -, hi⟩ := List.mem_map.mp h1
  exact mjW_of i hi (List.all_eq_true.mp hg w hw)
def mjff : List (Nat × Nat × Nat × Nat) → Nat → Option (Nat × Nat × Nat)
  | [], _ => none
  | q :: l, i => bif Nat.beq q.1 i then some q.2 else mjff l i
theorem mjff_ok {own : String} : ∀ {l : List (Nat × Nat × Nat × Nat)}, (∀ q ∈ l, mjfldOK own q.1 q.2.1 q.2.2.1 q.2.2.2) → ∀ i ci k tk, mjff l i = some (ci, k, tk) → mjfldOK own i ci k tk
  | [], _, i, ci, k, tk, h => by cases h
  | q :: l, hl, i, ci, k, tk, h => by
    unfold mjff at h
    by_cases z : Nat.beq q.1 i = true
    · rw [z] at h
      have h0 := hl q List.mem_cons_self
      have h1 : q.2 = (ci, k, tk) := Option.some.inj h
      rw [Nat.eq_of_beq_eq_true z] at h0
      rw [h1] at h0
      exact h0
    · rw [Bool.not_eq_true] at z
      rw [z] at h
      exact mjff_ok (fun q' hq' => hl q' (List.mem_cons_of_mem _ hq')) i ci k tk h
set_option maxRecDepth 10000 in
theorem inWX0 : ∀ w ∈ u_ws RX0 TX0 3, w ∈ mjW := mjW_list _ [208, 210, 212] rfl rfl
set_option maxRecDepth 10000 in
theorem inWX2 : ∀ w ∈ u_ws RX2 TX2 2, w ∈ mjW := mjW_list _ [141, 143] rfl rfl
set_option maxRecDepth 10000 in
theorem inWX3 : ∀ w ∈ u_ws RX3 TX3 8, w ∈ mjW := mjW_list _ [162, 164, 166, 168, 170, 172, 174, 176] rfl rfl
set_option maxRecDepth 10000 in
theorem inWX4 : ∀ w ∈ u_ws RX4 TX4 12, w ∈ mjW := mjW_list _ [103, 105, 107, 109, 111, 113, 115, 117, 119, 121, 123, 125] rfl rfl
set_option maxRecDepth 10000 in
theorem inWX5 : ∀ w ∈ u_ws RX5 TX5 3, w ∈ mjW := mjW_list _ [189, 191, 193] rfl rfl
set_option maxRecDepth 10000 in
theorem inWX6 : ∀ w ∈ u_ws RX6 TX6 8, w ∈ mjW := mjW_list _ [223, 225, 227, 229, 231, 233, 235, 237] rfl rfl
set_option maxRecDepth 10000 in
theorem inWX7 : ∀ w ∈ u_ws RX7 TX7 17, w ∈ mjW := mjW_list _ [665, 667, 669, 671, 673, 675, 677, 679, 681, 683, 685, 687, 689, 691, 693, 695, 697] rfl rfl
set_option maxRecDepth 10000 in
theorem fo_X4_9 : mjfldOK RX4 9 3 0 3 := ⟨RX4, TX4, 12, tyX4, rfl, by decide, inWX4, tyX4_ok, nmX4, Or.inl (mjW_of 83 rfl rfl), ⟨Or.inr ⟨_, rfl⟩, rfl, rfl, mjW_of 83 rfl rfl⟩⟩
set_option maxRecDepth 10000 in
theorem fo_X4_15 : mjfldOK RX4 15 3 1 3 := ⟨RX4, TX4, 12, tyX4, rfl, by decide, inWX4, tyX4_ok, nmX4, Or.inl (mjW_of 84 rfl rfl), ⟨Or.inr ⟨_, rfl⟩, rfl, rfl, mjW_of 84 rfl rfl⟩⟩
set_option maxRecDepth 10000 in
theorem fo_X4_18 : mjfldOK RX4 18 3 2 3 := ⟨RX4, TX4, 12, tyX4, rfl, by decide, inWX4, tyX4_ok, nmX4, Or.inl (mjW_of 85 rfl rfl), ⟨Or.inr ⟨_, rfl⟩, rfl, rfl, mjW_of 85 rfl rfl⟩⟩
set_option maxRecDepth 10000 in
theorem fo_X4_21 : mjfldOK RX4 21 3 3 3 := ⟨RX4, TX4, 12, tyX4, rfl, by decide, inWX4, tyX4_ok, nmX4, Or.inl (mjW_of 86 rfl rfl), ⟨Or.inr ⟨_, rfl⟩, rfl, rfl, mjW_of 86 rfl rfl⟩⟩
set_option maxRecDepth 10000 in
theorem fo_X4_44 : mjfldOK RX4 44 3 4 0 := ⟨RX4, TX4, 12, tyX4, rfl, by decide, inWX4, tyX4_ok, nmX4, Or.inl (mjW_of 87 rfl rfl), ⟨rfl, rfl⟩⟩
set_option maxRecDepth 10000 in
theorem fo_X4_47 : mjfldOK RX4 47 3 5 0 := ⟨RX4, TX4, 12, tyX4, rfl, by decide, inWX4, tyX4_ok, nmX4, Or.inl (mjW_of 89 rfl rfl), ⟨rfl, rfl⟩⟩
set_option maxRecDepth 10000 in
theorem fo_X4_24 : mjfldOK RX4 24 3 6 0 := ⟨RX4, TX4, 12, tyX4, rfl, by decide, inWX4, tyX4_ok, nmX4, Or.inl (mjW_of 91 rfl rfl), ⟨rfl, rfl⟩⟩
set_option maxRecDepth 10000 in
theorem fo_X4_28 : mjfldOK RX4 28 3 7 0 := ⟨RX4, TX4, 12, tyX4, rfl, by decide, inWX4, tyX4_ok, nmX4, Or.inl (mjW_of 93 rfl rfl), ⟨rfl, rfl⟩⟩
set_option maxRecDepth 10000 in
theorem fo_X4_31 : mjfldOK RX4 31 3 8 0 := ⟨RX4, TX4, 12, tyX4, rfl, by decide, inWX4, tyX4_ok, nmX4, Or.inl (mjW_of 95 rfl rfl), ⟨rfl, rfl⟩⟩
set_option maxRecDepth 10000 in
theorem fo_X4_50 : mjfldOK RX4 50 3 9 0 := ⟨RX4, TX4, 12, tyX4, rfl, by decide, inWX4, tyX4_ok, nmX4, Or.inl (mjW_of 97 rfl rfl), ⟨rfl, rfl⟩⟩
set_option maxRecDepth 10000 in
theorem fo_X4_53 : mjfldOK RX4 53 3 10 0 := ⟨RX4, TX4, 12, tyX4, rfl, by decide, inWX4, tyX4_ok, nmX4, Or.inl (mjW_of 99 rfl rfl), ⟨rfl, rfl⟩⟩
set_option maxRecDepth 10000 in
theorem fo_X4_56 : mjfldOK RX4 56 3 11 0 := ⟨RX4, TX4, 12, tyX4, rfl, by decide, inWX4, tyX4_ok, nmX4, Or.inl (mjW_of 101 rfl rfl), ⟨rfl, rfl⟩⟩
def FL_X4 : List (Nat × Nat × Nat × Nat) := [(9, 3, 0, 3), (15, 3, 1, 3), (18, 3, 2, 3), (21, 3, 3, 3), (44, 3, 4, 0), (47, 3, 5, 0), (24, 3, 6, 0), (28, 3, 7, 0), (31, 3, 8, 0), (50, 3, 9, 0), (53, 3, 10, 0), (56, 3, 11, 0)]
def F_X4 : Nat → Option (Nat × Nat × Nat) := mjff FL_X4
theorem F_X4_ok : ∀ i ci k tk, F_X4 i = some (ci, k, tk) → mjfldOK RX4 i ci k tk := mjff_ok (l := FL_X4) (List.forall_mem_cons.mpr ⟨fo_X4_9, List.forall_mem_cons.mpr ⟨fo_X4_15, List.forall_mem_cons.mpr ⟨fo_X4_18, List.forall_mem_cons.mpr ⟨fo_X4_21, List.forall_mem_cons.mpr ⟨fo_X4_44, List.forall_mem_cons.mpr ⟨fo_X4_47, List.forall_mem_cons.mpr ⟨fo_X4_24, List.forall_mem_cons.mpr ⟨fo_X4_28, List.forall_mem_cons.mpr ⟨fo_X4_31, List.forall_mem_cons.mpr ⟨fo_X4_50, List.forall_mem_cons.mpr ⟨fo_X4_53, List.forall_mem_cons.mpr ⟨fo_X4_56, fun _ h => absurd h List.not_mem_nil⟩⟩⟩⟩⟩⟩⟩⟩⟩⟩⟩⟩)
theorem fo_X6_178 : mjfldOK RX6 178 3 4 0 := ⟨RX4, TX4, 12, tyX4, rfl, by decide, inWX4, tyX4_ok, nmX4, Or.inr ⟨RX6, List.mem_of_getElem? (i := 0) rfl⟩, ⟨rfl, rfl⟩⟩
theorem fo_X6_70 : mjfldOK RX6 70 3 5 0 := ⟨RX4, TX4, 12, tyX4, rfl, by decide, inWX4, tyX4_ok, nmX4, Or.inr ⟨RX6, List.mem_of_getElem? (i := 1) rfl⟩, ⟨rfl, rfl⟩⟩
theorem fo_X6_74 : mjfldOK RX6 74 3 6 0 := ⟨RX4, TX4, 12, tyX4, rfl, by decide, inWX4, tyX4_ok, nmX4, Or.inr ⟨RX6, List.mem_of_getElem? (i := 2) rfl⟩, ⟨rfl, rfl⟩⟩
theorem fo_X6_110 : mjfldOK RX6 110 3 7 0 := ⟨RX4, TX4, 12, tyX4, rfl, by decide, inWX4, tyX4_ok, nmX4, Or.inr ⟨RX6, List.mem_of_getElem? (i := 3) rfl⟩, ⟨rfl, rfl⟩⟩
theorem fo_X6_113 : mjfldOK RX6 113 3 8 0 := ⟨RX4, TX4, 12, tyX4, rfl, by decide, inWX4, tyX4_ok, nmX4, Or.inr ⟨RX6, List.mem_of_getElem? (i := 4) rfl⟩, ⟨rfl, rfl⟩⟩
theorem fo_X6_181 : mjfldOK RX6 181 3 9 0 := ⟨RX4, TX4, 12, tyX4, rfl, by decide, inWX4, tyX4_ok, nmX4, Or.inr ⟨RX6, List.mem_of_getElem? (i := 5) rfl⟩, ⟨rfl, rfl⟩⟩
theorem fo_X6_184 : mjfldOK RX6 184 3 10 0 := ⟨RX4, TX4, 12, tyX4, rfl, by decide, inWX4, tyX4_ok, nmX4, Or.inr ⟨RX6, List.mem_of_getElem? (i := 6) rfl⟩, ⟨rfl, rfl⟩⟩
theorem fo_X6_202 : mjfldOK RX6 202 3 11 0 := ⟨RX4, TX4, 12, tyX4, rfl, by decide, inWX4, tyX4_ok, nmX4, Or.inr ⟨RX6, List.mem_of_getElem? (i := 7) rfl⟩, ⟨rfl, rfl⟩⟩
theorem fo_X6_205 : mjfldOK RX6 205 1 1 0 := ⟨RX2, TX2, 2, tyX2, rfl, by decide, inWX2, tyX2_ok, nmX2, Or.inr ⟨RX6, List.mem_of_getElem? (i := 8) rfl⟩, ⟨rfl, rfl⟩⟩
theorem fo_X6_120 : mjfldOK RX6 120 2 1 0 := ⟨RX3, TX3, 8, tyX3, rfl, by decide, inWX3, tyX3_ok, nmX3, Or.inr ⟨RX6, List.mem_of_getElem? (i := 9) rfl⟩, ⟨rfl, rfl⟩⟩
theorem fo_X6_126 : mjfldOK RX6 126 2 5 0 := ⟨RX3, TX3, 8, tyX3, rfl, by decide, inWX3, tyX3_ok, nmX3, Or.inr ⟨RX6, List.mem_of_getElem? (i := 10) rfl⟩, ⟨rfl, rfl⟩⟩
theorem fo_X6_221 : mjfldOK RX6 221 0 0 0 := ⟨RX0, TX0, 3, tyX0, rfl, by decide, inWX0, tyX0_ok, nmX0, Or.inr ⟨RX6, List.mem_of_getElem? (i := 11) rfl⟩, ⟨rfl, rfl⟩⟩
theorem fo_X6_224 : mjfldOK RX6 224 0 1 0 := ⟨RX0, TX0, 3, tyX0, rfl, by decide, inWX0, tyX0_ok, nmX0, Or.inr ⟨RX6, List.mem_of_getElem? (i := 12) rfl⟩, ⟨rfl, rfl⟩⟩
theorem fo_X6_227 : mjfldOK RX6 227 0 2 0 := ⟨RX0, TX0, 3, tyX0, rfl, by decide, inWX0, tyX0_ok, nmX0, Or.inr ⟨RX6, List.mem_of_getElem? (i := 13) rfl⟩, ⟨rfl, rfl⟩⟩
set_option maxRecDepth 10000 in
theorem fo_X6_12 : mjfldOK RX6 12 5 0 3 := ⟨RX6, TX6, 8, tyX6, rfl, by decide, inWX6, tyX6_ok, nmX6, Or.inl (mjW_of 215 rfl rfl), ⟨Or.inl ⟨_, rfl⟩, rfl, rfl, mjW_of 215 rfl rfl⟩⟩
set_option maxRecDepth 10000 in
theorem fo_X6_16 : mjfldOK RX6 16 5 1 3 := ⟨RX6, TX6, 8, tyX6, rfl, by decide, inWX6, tyX6_ok, nmX6, Or.inl (mjW_of 216 rfl rfl), ⟨Or.inl ⟨_, rfl⟩, rfl, rfl, mjW_of 216 rfl rfl⟩⟩
set_option maxRecDepth 10000 in
theorem fo_X6_19 : mjfldOK RX6 19 5 2 3 := ⟨RX6, TX6, 8, tyX6, rfl, by decide, inWX6, tyX6_ok, nmX6, Or.inl (mjW_of 217 rfl rfl), ⟨Or.inl ⟨_, rfl⟩, rfl, rfl, mjW_of 217 rfl rfl⟩⟩
set_option maxRecDepth 10000 in
theorem fo_X6_22 : mjfldOK RX6 22 5 3 1 := ⟨RX6, TX6, 8, tyX6, rfl, by decide, inWX6, tyX6_ok, nmX6, Or.inl (mjW_of 218 rfl rfl), ⟨rfl, rfl⟩⟩
set_option maxRecDepth 10000 in
theorem fo_X6_29 : mjfldOK RX6 29 5 4 3 := ⟨RX6, TX6, 8, tyX6, rfl, by decide, inWX6, tyX6_ok, nmX6, Or.inl (mjW_of 219 rfl rfl), ⟨Or.inl ⟨_, rfl⟩, rfl, rfl, mjW_of 219 rfl rfl⟩⟩
set_option maxRecDepth 10000 in
theorem fo_X6_36 : mjfldOK RX6 36 5 5 3 := ⟨RX6, TX6, 8, tyX6, rfl, by decide, inWX6, tyX6_ok, nmX6, Or.inl (mjW_of 220 rfl rfl), ⟨Or.inl ⟨_, rfl⟩, rfl, rfl, mjW_of 220 rfl rfl⟩⟩
set_option maxRecDepth 10000 in
theorem fo_X6_43 : mjfldOK RX6 43 5 6 3 := ⟨RX6, TX6, 8, tyX6, rfl, by decide, inWX6, tyX6_ok, nmX6, Or.inl (mjW_of 221 rfl rfl), ⟨Or.inl ⟨_, rfl⟩, rfl, rfl, mjW_of 221 rfl rfl⟩⟩
set_option maxRecDepth 10000 in
theorem fo_X6_50 : mjfldOK RX6 50 5 7 3 := ⟨RX6, TX6, 8, tyX6, rfl, by decide, inWX6, tyX6_ok, nmX6, Or.inl (mjW_of 222 rfl rfl), ⟨Or.inl ⟨_, rfl⟩, rfl, rfl, mjW_of 222 rfl rfl⟩⟩
def FL_X6 : List (Nat × Nat × Nat × Nat) := [(178, 3, 4, 0), (70, 3, 5, 0), (74, 3, 6, 0), (110, 3, 7, 0), (113, 3, 8, 0), (181, 3, 9, 0), (184, 3, 10, 0), (202, 3, 11, 0), (205, 1, 1, 0), (120, 2, 1, 0), (126, 2, 5, 0), (221, 0, 0, 0), (224, 0, 1, 0), (227, 0, 2, 0), (12, 5, 0, 3), (16, 5, 1, 3), (19, 5, 2, 3), (22, 5, 3, 1), (29, 5, 4, 3), (36, 5, 5, 3), (43, 5, 6, 3), (50, 5, 7, 3)]
def F_X6 : Nat → Option (Nat × Nat × Nat) := mjff FL_X6
theorem F_X6_ok : ∀ i ci k tk, F_X6 i = some (ci, k, tk) → mjfldOK RX6 i ci k tk := mjff_ok (l := FL_X6) (List.forall_mem_cons.mpr ⟨fo_X6_178, List.forall_mem_cons.mpr ⟨fo_X6_70, List.forall_mem_cons.mpr ⟨fo_X6_74, List.forall_mem_cons.mpr ⟨fo_X6_110, List.forall_mem_cons.mpr ⟨fo_X6_113, List.forall_mem_cons.mpr ⟨fo_X6_181, List.forall_mem_cons.mpr ⟨fo_X6_184, List.forall_mem_cons.mpr ⟨fo_X6_202, List.forall_mem_cons.mpr ⟨fo_X6_205, List.forall_mem_cons.mpr ⟨fo_X6_120, List.forall_mem_cons.mpr ⟨fo_X6_126, List.forall_mem_cons.mpr ⟨fo_X6_221, List.forall_mem_cons.mpr ⟨fo_X6_224, List.forall_mem_cons.mpr ⟨fo_X6_227, List.forall_mem_cons.mpr ⟨fo_X6_12, List.forall_mem_cons.mpr ⟨fo_X6_16, List.forall_mem_cons.mpr ⟨fo_X6_19, List.forall_mem_cons.mpr ⟨fo_X6_22, List.forall_mem_cons.mpr ⟨fo_X6_29, List.forall_mem_cons.mpr ⟨fo_X6_36, List.forall_mem_cons.mpr ⟨fo_X6_43, List.forall_mem_cons.mpr ⟨fo_X6_50, fun _ h => absurd h List.not_mem_nil⟩⟩⟩⟩⟩⟩⟩⟩⟩⟩⟩⟩⟩⟩⟩⟩⟩⟩⟩⟩⟩⟩)
set_option maxRecDepth 10000 in
theorem fo_X2_11 : mjfldOK RX2 11 1 0 3 := ⟨RX2, TX2, 2, tyX2, rfl, by decide, inWX2, tyX2_ok, nmX2, Or.inl (mjW_of 138 rfl rfl), ⟨Or.inr ⟨_, rfl⟩, rfl, rfl, mjW_of 138 rfl rfl⟩⟩
set_option maxRecDepth 10000 in
theorem fo_X2_17 : mjfldOK RX2 17 1 1 0 := ⟨RX2, TX2, 2, tyX2, rfl, by decide, inWX2, tyX2_ok, nmX2, Or.inl (mjW_of 139 rfl rfl), ⟨rfl, rfl⟩⟩
def FL_X2 : List (Nat × Nat × Nat × Nat) := [(11, 1, 0, 3), (17, 1, 1, 0)]
def F_X2 : Nat → Option (Nat × Nat × Nat) := mjff FL_X2
theorem F_X2_ok : ∀ i ci k tk, F_X2 i = some (ci, k, tk) → mjfldOK RX2 i ci k tk := mjff_ok (l := FL_X2) (List.forall_mem_cons.mpr ⟨fo_X2_11, List.forall_mem_cons.mpr ⟨fo_X2_17, fun _ h => absurd h List.not_mem_nil⟩⟩)
set_option maxRecDepth 10000 in
theorem fo_X3_9 : mjfldOK RX3 9 2 0 3 := ⟨RX3, TX3, 8, tyX3, rfl, by decide, inWX3, tyX3_ok, nmX3, Or.inl (mjW_of 152 rfl rfl), ⟨Or.inr ⟨_, rfl⟩, rfl, rfl, mjW_of 152 rfl rfl⟩⟩
set_option maxRecDepth 10000 in
theorem fo_X3_15 : mjfldOK RX3 15 2 1 0 := ⟨RX3, TX3, 8, tyX3, rfl, by decide, inWX3, tyX3_ok, nmX3, Or.inl (mjW_of 153 rfl rfl), ⟨rfl, rfl⟩⟩
set_option maxRecDepth 10000 in
theorem fo_X3_19 : mjfldOK RX3 19 2 2 3 := ⟨RX3, TX3, 8, tyX3, rfl, by decide, inWX3, tyX3_ok, nmX3, Or.inl (mjW_of 155 rfl rfl), ⟨Or.inr ⟨_, rfl⟩, rfl, rfl, mjW_of 155 rfl rfl⟩⟩
set_option maxRecDepth 10000 in
theorem fo_X3_23 : mjfldOK RX3 23 2 3 3 := ⟨RX3, TX3, 8, tyX3, rfl, by decide, inWX3, tyX3_ok, nmX3, Or.inl (mjW_of 156 rfl rfl), ⟨Or.inr ⟨_, rfl⟩, rfl, rfl, mjW_of 156 rfl rfl⟩⟩
set_option maxRecDepth 10000 in
theorem fo_X3_26 : mjfldOK RX3 26 2 4 3 := ⟨RX3, TX3, 8, tyX3, rfl, by decide, inWX3, tyX3_ok, nmX3, Or.inl (mjW_of 157 rfl rfl), ⟨Or.inr ⟨_, rfl⟩, rfl, rfl, mjW_of 157 rfl rfl⟩⟩
set_option maxRecDepth 10000 in
theorem fo_X3_29 : mjfldOK RX3 29 2 5 0 := ⟨RX3, TX3, 8, tyX3, rfl, by decide, inWX3, tyX3_ok, nmX3, Or.inl (mjW_of 158 rfl rfl), ⟨rfl, rfl⟩⟩
set_option maxRecDepth 10000 in
theorem fo_X3_32 : mjfldOK RX3 32 2 6 0 := ⟨RX3, TX3, 8, tyX3, rfl, by decide, inWX3, tyX3_ok, nmX3, Or.inl (mjW_of 160 rfl rfl), ⟨rfl, rfl⟩⟩
set_option maxRecDepth 10000 in
theorem fo_X3_35 : mjfldOK RX3 35 2 7 0 := ⟨RX3, TX3, 8, tyX3, rfl, by decide, inWX3, tyX3_ok, nmX3, Or.inl (mjW_of 161 rfl rfl), ⟨rfl, rfl⟩⟩
def FL_X3 : List (Nat × Nat × Nat × Nat) := [(9, 2, 0, 3), (15, 2, 1, 0), (19, 2, 2, 3), (23, 2, 3, 3), (26, 2, 4, 3), (29, 2, 5, 0), (32, 2, 6, 0), (35, 2, 7, 0)]
def F_X3 : Nat → Option (Nat × Nat × Nat) := mjff FL_X3
theorem F_X3_ok : ∀ i ci k tk, F_X3 i = some (ci, k, tk) → mjfldOK RX3 i ci k tk := mjff_ok (l := FL_X3) (List.forall_mem_cons.mpr ⟨fo_X3_9, List.forall_mem_cons.mpr ⟨fo_X3_15, List.forall_mem_cons.mpr ⟨fo_X3_19, List.forall_mem_cons.mpr ⟨fo_X3_23, List.forall_mem_cons.mpr ⟨fo_X3_26, List.forall_mem_cons.mpr ⟨fo_X3_29, List.forall_mem_cons.mpr ⟨fo_X3_32, List.forall_mem_cons.mpr ⟨fo_X3_35, fun _ h => absurd h List.not_mem_nil⟩⟩⟩⟩⟩⟩⟩⟩)
set_option maxRecDepth 10000 in
theorem fo_X5_9 : mjfldOK RX5 9 4 0 3 := ⟨RX5, TX5, 3, tyX5, rfl, by decide, inWX5, tyX5_ok, nmX5, Or.inl (mjW_of 186 rfl rfl), ⟨Or.inr ⟨_, rfl⟩, rfl, rfl, mjW_of 186 rfl rfl⟩⟩
set_option maxRecDepth 10000 in
theorem fo_X5_15 : mjfldOK RX5 15 4 1 3 := ⟨RX5, TX5, 3, tyX5, rfl, by decide, inWX5, tyX5_ok, nmX5, Or.inl (mjW_of 187 rfl rfl), ⟨Or.inr ⟨_, rfl⟩, rfl, rfl, mjW_of 187 rfl rfl⟩⟩
set_option maxRecDepth 10000 in
theorem fo_X5_18 : mjfldOK RX5 18 4 2 0 := ⟨RX5, TX5, 3, tyX5, rfl, by decide, inWX5, tyX5_ok, nmX5, Or.inl (mjW_of 188 rfl rfl), ⟨rfl, rfl⟩⟩
def FL_X5 : List (Nat × Nat × Nat × Nat) := [(9, 4, 0, 3), (15, 4, 1, 3), (18, 4, 2, 0)]
def F_X5 : Nat → Option (Nat × Nat × Nat) := mjff FL_X5
theorem F_X5_ok : ∀ i ci k tk, F_X5 i = some (ci, k, tk) → mjfldOK RX5 i ci k tk := mjff_ok (l := FL_X5) (List.forall_mem_cons.mpr ⟨fo_X5_9, List.forall_mem_cons.mpr ⟨fo_X5_15, List.forall_mem_cons.mpr ⟨fo_X5_18, fun _ h => absurd h List.not_mem_nil⟩⟩⟩)
set_option maxRecDepth 10000 in
theorem fo_X0_9 : mjfldOK RX0 9 0 0 0 := ⟨RX0, TX0, 3, tyX0, rfl, by decide, inWX0, tyX0_ok, nmX0, Or.inl (mjW_of 202 rfl rfl), ⟨rfl, rfl⟩⟩
set_option maxRecDepth 10000 in
theorem fo_X0_15 : mjfldOK RX0 15 0 1 0 := ⟨RX0, TX0, 3, tyX0, rfl, by decide, inWX0, tyX0_ok, nmX0, Or.inl (mjW_of 204 rfl rfl), ⟨rfl, rfl⟩⟩
set_option maxRecDepth 10000 in
theorem fo_X0_18 : mjfldOK RX0 18 0 2 0 := ⟨RX0, TX0, 3, tyX0, rfl, by decide, inWX0, tyX0_ok, nmX0, Or.inl (mjW_of 206 rfl rfl), ⟨rfl, rfl⟩⟩
def FL_X0 : List (Nat × Nat × Nat × Nat) := [(9, 0, 0, 0), (15, 0, 1, 0), (18, 0, 2, 0)]
def F_X0 : Nat → Option (Nat × Nat × Nat) := mjff FL_X0
theorem F_X0_ok : ∀ i ci k tk, F_X0 i = some (ci, k, tk) → mjfldOK RX0 i ci k tk := mjff_ok (l := FL_X0) (List.forall_mem_cons.mpr ⟨fo_X0_9, List.forall_mem_cons.mpr ⟨fo_X0_15, List.forall_mem_cons.mpr ⟨fo_X0_18, fun _ h => absurd h List.not_mem_nil⟩⟩⟩)
set_option maxRecDepth 10000 in
theorem fo_X7_7 : mjfldOK RX7 7 6 0 3 := ⟨RX7, TX7, 17, tyX7, rfl, by decide, inWX7, tyX7_ok, nmX7, Or.inl (mjW_of 648 rfl rfl), ⟨Or.inr ⟨_, rfl⟩, rfl, rfl, mjW_of 648 rfl rfl⟩⟩
set_option maxRecDepth 10000 in
theorem fo_X7_13 : mjfldOK RX7 13 6 1 3 := ⟨RX7, TX7, 17, tyX7, rfl, by decide, inWX7, tyX7_ok, nmX7, Or.inl (mjW_of 649 rfl rfl), ⟨Or.inr ⟨_, rfl⟩, rfl, rfl, mjW_of 649 rfl rfl⟩⟩
set_option maxRecDepth 10000 in
theorem fo_X7_16 : mjfldOK RX7 16 6 2 3 := ⟨RX7, TX7, 17, tyX7, rfl, by decide, inWX7, tyX7_ok, nmX7, Or.inl (mjW_of 650 rfl rfl), ⟨Or.inr ⟨_, rfl⟩, rfl, rfl, mjW_of 650 rfl rfl⟩⟩
set_option maxRecDepth 10000 in
theorem fo_X7_35 : mjfldOK RX7 35 6 3 0 := ⟨RX7, TX7, 17, tyX7, rfl, by decide, inWX7, tyX7_ok, nmX7, Or.inl (mjW_of 651 rfl rfl), ⟨rfl, rfl⟩⟩
set_option maxRecDepth 10000 in
theorem fo_X7_19 : mjfldOK RX7 19 6 4 3 := ⟨RX7, TX7, 17, tyX7, rfl, by decide, inWX7, tyX7_ok, nmX7, Or.inl (mjW_of 652 rfl rfl), ⟨Or.inr ⟨_, rfl⟩, rfl, rfl, mjW_of 652 rfl rfl⟩⟩
set_option maxRecDepth 10000 in
theorem fo_X7_193 : mjfldOK RX7 193 6 5 1 := ⟨RX7, TX7, 17, tyX7, rfl, by decide, inWX7, tyX7_ok, nmX7, Or.inl (mjW_of 653 rfl rfl), ⟨rfl, rfl⟩⟩
set_option maxRecDepth 10000 in
theorem fo_X7_22 : mjfldOK RX7 22 6 6 3 := ⟨RX7, TX7, 17, tyX7, rfl, by decide, inWX7, tyX7_ok, nmX7, Or.inl (mjW_of 654 rfl rfl), ⟨Or.inr ⟨_, rfl⟩, rfl, rfl, mjW_of 654 rfl rfl⟩⟩
set_option maxRecDepth 10000 in
theorem fo_X7_111 : mjfldOK RX7 111 6 7 0 := ⟨RX7, TX7, 17, tyX7, rfl, by decide, inWX7, tyX7_ok, nmX7, Or.inl (mjW_of 655 rfl rfl), ⟨rfl, rfl⟩⟩
set_option maxRecDepth 10000 in
theorem fo_X7_25 : mjfldOK RX7 25 6 8 3 := ⟨RX7, TX7, 17, tyX7, rfl, by decide, inWX7, tyX7_ok, nmX7, Or.inl (mjW_of 656 rfl rfl), ⟨Or.inr ⟨_, rfl⟩, rfl, rfl, mjW_of 656 rfl rfl⟩⟩
set_option maxRecDepth 10000 in
theorem fo_X7_80 : mjfldOK RX7 80 6 9 0 := ⟨RX7, TX7, 17, tyX7, rfl, by decide, inWX7, tyX7_ok, nmX7, Or.inl (mjW_of 657 rfl rfl), ⟨rfl, rfl⟩⟩
set_option maxRecDepth 10000 in
theorem fo_X7_114 : mjfldOK RX7 114 6 10 0 := ⟨RX7, TX7, 17, tyX7, rfl, by decide, inWX7, tyX7_ok, nmX7, Or.inl (mjW_of 658 rfl rfl), ⟨rfl, rfl⟩⟩
set_option maxRecDepth 10000 in
theorem fo_X7_117 : mjfldOK RX7 117 6 11 1 := ⟨RX7, TX7, 17, tyX7, rfl, by decide, inWX7, tyX7_ok, nmX7, Or.inl (mjW_of 659 rfl rfl), ⟨rfl, rfl⟩⟩
set_option maxRecDepth 10000 in
theorem fo_X7_128 : mjfldOK RX7 128 6 12 1 := ⟨RX7, TX7, 17, tyX7, rfl, by decide, inWX7, tyX7_ok, nmX7, Or.inl (mjW_of 660 rfl rfl), ⟨rfl, rfl⟩⟩
set_option maxRecDepth 10000 in
theorem fo_X7_135 : mjfldOK RX7 135 6 13 0 := ⟨RX7, TX7, 17, tyX7, rfl, by decide, inWX7, tyX7_ok, nmX7, Or.inl (mjW_of 661 rfl rfl), ⟨rfl, rfl⟩⟩
set_option maxRecDepth 10000 in
theorem fo_X7_138 : mjfldOK RX7 138 6 14 0 := ⟨RX7, TX7, 17, tyX7, rfl, by decide, inWX7, tyX7_ok, nmX7, Or.inl (mjW_of 662 rfl rfl), ⟨rfl, rfl⟩⟩
set_option maxRecDepth 10000 in
theorem fo_X7_141 : mjfldOK RX7 141 6 15 0 := ⟨RX7, TX7, 17, tyX7, rfl, by decide, inWX7, tyX7_ok, nmX7, Or.inl (mjW_of 663 rfl rfl), ⟨rfl, rfl⟩⟩
set_option maxRecDepth 10000 in
theorem fo_X7_28 : mjfldOK RX7 28 6 16 3 := ⟨RX7, TX7, 17, tyX7, rfl, by decide, inWX7, tyX7_ok, nmX7, Or.inl (mjW_of 664 rfl rfl), ⟨Or.inr ⟨_, rfl⟩, rfl, rfl, mjW_of 664 rfl rfl⟩⟩
def FL_X7 : List (Nat × Nat × Nat × Nat) := [(7, 6, 0, 3), (13, 6, 1, 3), (16, 6, 2, 3), (35, 6, 3, 0), (19, 6, 4, 3), (193, 6, 5, 1), (22, 6, 6, 3), (111, 6, 7, 0), (25, 6, 8, 3), (80, 6, 9, 0), (114, 6, 10, 0), (117, 6, 11, 1), (128, 6, 12, 1), (135, 6, 13, 0), (138, 6, 14, 0), (141, 6, 15, 0), (28, 6, 16, 3)]
def F_X7 : Nat → Option (Nat × Nat × Nat) := mjff FL_X7
theorem F_X7_ok : ∀ i ci k tk, F_X7 i = some (ci, k, tk) → mjfldOK RX7 i ci k tk := mjff_ok (l := FL_X7) (List.forall_mem_cons.mpr ⟨fo_X7_7, List.forall_mem_cons.mpr ⟨fo_X7_13, List.forall_mem_cons.mpr ⟨fo_X7_16, List.forall_mem_cons.mpr ⟨fo_X7_35, List.forall_mem_cons.mpr ⟨fo_X7_19, List.forall_mem_cons.mpr ⟨fo_X7_193, List.forall_mem_cons.mpr ⟨fo_X7_22, List.forall_mem_cons.mpr ⟨fo_X7_111, List.forall_mem_cons.mpr ⟨fo_X7_25, List.forall_mem_cons.mpr ⟨fo_X7_80, List.forall_mem_cons.mpr ⟨fo_X7_114, List.forall_mem_cons.mpr ⟨fo_X7_117, List.forall_mem_cons.mpr ⟨fo_X7_128, List.forall_mem_cons.mpr ⟨fo_X7_135, List.forall_mem_cons.mpr ⟨fo_X7_138, List.forall_mem_cons.mpr ⟨fo_X7_141, List.forall_mem_cons.mpr ⟨fo_X7_28, fun _ h => absurd h List.not_mem_nil⟩⟩⟩⟩⟩⟩⟩⟩⟩⟩⟩⟩⟩⟩⟩⟩⟩)
set_option maxRecDepth 10000 in
theorem nk_X0_init : mjnameOK yX0_init cX0_init 1 none 0 := ⟨⟨by decide, by decide, by decide +kernel⟩, mjW_of 200 rfl rfl, mjW_of 57 rfl rfl⟩
set_option maxRecDepth 10000 in
theorem im_X0_init : Cond.instanceMethod yX0_init ∈ mjW := mjW_of 199 rfl rfl
set_option maxRecDepth 10000 in
theorem nk_X0_look : mjnameOK yX0_look cX0_look 4 none 2 := ⟨⟨by decide, by decide, by decide +kernel⟩, mjW_of 605 rfl rfl, mjW_of 57 rfl rfl⟩
set_option maxRecDepth 10000 in
theorem im_X0_look : Cond.instanceMethod yX0_look ∈ mjW := mjW_of 603 rfl rfl
set_option maxRecDepth 10000 in
theorem se_X0_look : Cond.selects yX0_look.cls yX0_look yX0_look ∈ mjW := mjW_of 604 rfl rfl
set_option maxRecDepth 10000 in
theorem nk_X1_isCell : mjnameOK yX1_isCell cX1_isCell 1 (some .boolean) 1 := ⟨⟨by decide, by decide, by decide +kernel⟩, mjW_of 321 rfl rfl, mjW_of 61 rfl rfl⟩
set_option maxRecDepth 10000 in
theorem st_X1_isCell : Cond.static yX1_isCell ∈ mjW := mjW_of 320 rfl rfl
set_option maxRecDepth 10000 in
theorem nk_X1_isJoint : mjnameOK yX1_isJoint cX1_isJoint 1 (some .boolean) 1 := ⟨⟨by decide, by decide, by decide +kernel⟩, mjW_of 347 rfl rfl, mjW_of 61 rfl rfl⟩
set_option maxRecDepth 10000 in
theorem st_X1_isJoint : Cond.static yX1_isJoint ∈ mjW := mjW_of 346 rfl rfl
set_option maxRecDepth 10000 in
theorem nk_X1_firstCell : mjnameOK yX1_firstCell cX1_firstCell 1 (some .int) 1 := ⟨⟨by decide, by decide, by decide +kernel⟩, mjW_of 307 rfl rfl, mjW_of 61 rfl rfl⟩
set_option maxRecDepth 10000 in
theorem st_X1_firstCell : Cond.static yX1_firstCell ∈ mjW := mjW_of 306 rfl rfl
set_option maxRecDepth 10000 in
theorem nk_X1_secondCell : mjnameOK yX1_secondCell cX1_secondCell 1 (some .int) 1 := ⟨⟨by decide, by decide, by decide +kernel⟩, mjW_of 310 rfl rfl, mjW_of 61 rfl rfl⟩
set_option maxRecDepth 10000 in
theorem st_X1_secondCell : Cond.static yX1_secondCell ∈ mjW := mjW_of 309 rfl rfl
set_option maxRecDepth 10000 in
theorem nk_X1_otherCell : mjnameOK yX1_otherCell cX1_otherCell 2 (some .int) 2 := ⟨⟨by decide, by decide, by decide +kernel⟩, mjW_of 503 rfl rfl, mjW_of 61 rfl rfl⟩
set_option maxRecDepth 10000 in
theorem st_X1_otherCell : Cond.static yX1_otherCell ∈ mjW := mjW_of 502 rfl rfl
set_option maxRecDepth 10000 in
theorem nk_X1_jointAt : mjnameOK yX1_jointAt cX1_jointAt 4 (some .int) 2 := ⟨⟨by decide, by decide, by decide +kernel⟩, mjW_of 499 rfl rfl, mjW_of 61 rfl rfl⟩
set_option maxRecDepth 10000 in
theorem st_X1_jointAt : Cond.static yX1_jointAt ∈ mjW := mjW_of 498 rfl rfl
set_option maxRecDepth 10000 in
theorem nk_X1_rimSides : mjnameOK yX1_rimSides cX1_rimSides 5 (some .int) 1 := ⟨⟨by decide, by decide, by decide +kernel⟩, mjW_of 328 rfl rfl, mjW_of 61 rfl rfl⟩
set_option maxRecDepth 10000 in
theorem st_X1_rimSides : Cond.static yX1_rimSides ∈ mjW := mjW_of 327 rfl rfl
set_option maxRecDepth 10000 in
theorem nk_X1_touch : mjnameOK yX1_touch cX1_touch 2 (some .boolean) 2 := ⟨⟨by decide, by decide, by decide +kernel⟩, mjW_of 361 rfl rfl, mjW_of 61 rfl rfl⟩
set_option maxRecDepth 10000 in
theorem st_X1_touch : Cond.static yX1_touch ∈ mjW := mjW_of 360 rfl rfl
set_option maxRecDepth 10000 in
theorem nk_X1_isEnd : mjnameOK yX1_isEnd cX1_isEnd 2 (some .boolean) 2 := ⟨⟨by decide, by decide, by decide +kernel⟩, mjW_of 365 rfl rfl, mjW_of 61 rfl rfl⟩
set_option maxRecDepth 10000 in
theorem st_X1_isEnd : Cond.static yX1_isEnd ∈ mjW := mjW_of 364 rfl rfl
set_option maxRecDepth 10000 in
theorem nk_X2_init : mjnameOK yX2_init cX2_init 2 none 0 := ⟨⟨by decide, by decide, by decide +kernel⟩, mjW_of 133 rfl rfl, mjW_of 54 rfl rfl⟩
set_option maxRecDepth 10000 in
theorem im_X2_init : Cond.instanceMethod yX2_init ∈ mjW := mjW_of 132 rfl rfl
set_option maxRecDepth 10000 in
theorem nk_X2_record : mjnameOK yX2_record cX2_record 3 none 1 := ⟨⟨by decide, by decide, by decide +kernel⟩, mjW_of 250 rfl rfl, mjW_of 54 rfl rfl⟩
set_option maxRecDepth 10000 in
theorem im_X2_record : Cond.instanceMethod yX2_record ∈ mjW := mjW_of 248 rfl rfl
set_option maxRecDepth 10000 in
theorem se_X2_record : Cond.selects yX2_record.cls yX2_record yX2_record ∈ mjW := mjW_of 249 rfl rfl
set_option maxRecDepth 10000 in
theorem nk_X2_takeBack : mjnameOK yX2_takeBack cX2_takeBack 3 (some .boolean) 1 := ⟨⟨by decide, by decide, by decide +kernel⟩, mjW_of 629 rfl rfl, mjW_of 54 rfl rfl⟩
set_option maxRecDepth 10000 in
theorem im_X2_takeBack : Cond.instanceMethod yX2_takeBack ∈ mjW := mjW_of 627 rfl rfl
set_option maxRecDepth 10000 in
theorem se_X2_takeBack : Cond.selects yX2_takeBack.cls yX2_takeBack yX2_takeBack ∈ mjW := mjW_of 628 rfl rfl
set_option maxRecDepth 10000 in
theorem nk_X2_stateAt : mjnameOK yX2_stateAt cX2_stateAt 2 (some (.object "ColdPanes$Pane")) 1 := ⟨⟨by decide, by decide, by decide +kernel⟩, mjW_of 258 rfl rfl, mjW_of 54 rfl rfl⟩
set_option maxRecDepth 10000 in
theorem im_X2_stateAt : Cond.instanceMethod yX2_stateAt ∈ mjW := mjW_of 257 rfl rfl
set_option maxRecDepth 10000 in
theorem se_X2_stateAt : Cond.selects yX2_stateAt.cls yX2_stateAt yX2_stateAt ∈ mjW := mjW_of 1 rfl rfl
set_option maxRecDepth 10000 in
theorem nk_X2_dropOldest : mjnameOK yX2_dropOldest cX2_dropOldest 3 none 0 := ⟨⟨by decide, by decide, by decide +kernel⟩, mjW_of 254 rfl rfl, mjW_of 54 rfl rfl⟩
set_option maxRecDepth 10000 in
theorem im_X2_dropOldest : Cond.instanceMethod yX2_dropOldest ∈ mjW := mjW_of 253 rfl rfl
set_option maxRecDepth 10000 in
theorem se_X2_dropOldest : Cond.selects yX2_dropOldest.cls yX2_dropOldest yX2_dropOldest ∈ mjW := mjW_of 0 rfl rfl
set_option maxRecDepth 10000 in
theorem nk_X3_init : mjnameOK yX3_init cX3_init 1 none 0 := ⟨⟨by decide, by decide, by decide +kernel⟩, mjW_of 150 rfl rfl, mjW_of 55 rfl rfl⟩
set_option maxRecDepth 10000 in
theorem im_X3_init : Cond.instanceMethod yX3_init ∈ mjW := mjW_of 149 rfl rfl
set_option maxRecDepth 10000 in
theorem nk_X3_take : mjnameOK yX3_take cX3_take 2 (some .boolean) 1 := ⟨⟨by decide, by decide, by decide +kernel⟩, mjW_of 410 rfl rfl, mjW_of 55 rfl rfl⟩
set_option maxRecDepth 10000 in
theorem im_X3_take : Cond.instanceMethod yX3_take ∈ mjW := mjW_of 408 rfl rfl
set_option maxRecDepth 10000 in
theorem se_X3_take : Cond.selects yX3_take.cls yX3_take yX3_take ∈ mjW := mjW_of 409 rfl rfl
set_option maxRecDepth 10000 in
theorem nk_X3_findFault : mjnameOK yX3_findFault cX3_findFault 2 (some .int) 0 := ⟨⟨by decide, by decide, by decide +kernel⟩, mjW_of 422 rfl rfl, mjW_of 55 rfl rfl⟩
set_option maxRecDepth 10000 in
theorem im_X3_findFault : Cond.instanceMethod yX3_findFault ∈ mjW := mjW_of 420 rfl rfl
set_option maxRecDepth 10000 in
theorem se_X3_findFault : Cond.selects yX3_findFault.cls yX3_findFault yX3_findFault ∈ mjW := mjW_of 421 rfl rfl
set_option maxRecDepth 10000 in
theorem nk_X3_reads : mjnameOK yX3_reads cX3_reads 2 (some .boolean) 1 := ⟨⟨by decide, by decide, by decide +kernel⟩, mjW_of 426 rfl rfl, mjW_of 55 rfl rfl⟩
set_option maxRecDepth 10000 in
theorem im_X3_reads : Cond.instanceMethod yX3_reads ∈ mjW := mjW_of 425 rfl rfl
set_option maxRecDepth 10000 in
theorem se_X3_reads : Cond.selects yX3_reads.cls yX3_reads yX3_reads ∈ mjW := mjW_of 8 rfl rfl
set_option maxRecDepth 10000 in
theorem nk_X3_readsHold : mjnameOK yX3_readsHold cX3_readsHold 2 (some .boolean) 1 := ⟨⟨by decide, by decide, by decide +kernel⟩, mjW_of 442 rfl rfl, mjW_of 55 rfl rfl⟩
set_option maxRecDepth 10000 in
theorem im_X3_readsHold : Cond.instanceMethod yX3_readsHold ∈ mjW := mjW_of 441 rfl rfl
set_option maxRecDepth 10000 in
theorem se_X3_readsHold : Cond.selects yX3_readsHold.cls yX3_readsHold yX3_readsHold ∈ mjW := mjW_of 12 rfl rfl
set_option maxRecDepth 10000 in
theorem nk_X3_readsDigit : mjnameOK yX3_readsDigit cX3_readsDigit 2 (some .boolean) 1 := ⟨⟨by decide, by decide, by decide +kernel⟩, mjW_of 430 rfl rfl, mjW_of 55 rfl rfl⟩
set_option maxRecDepth 10000 in
theorem im_X3_readsDigit : Cond.instanceMethod yX3_readsDigit ∈ mjW := mjW_of 429 rfl rfl
set_option maxRecDepth 10000 in
theorem se_X3_readsDigit : Cond.selects yX3_readsDigit.cls yX3_readsDigit yX3_readsDigit ∈ mjW := mjW_of 9 rfl rfl
set_option maxRecDepth 10000 in
theorem nk_X3_endNumber : mjnameOK yX3_endNumber cX3_endNumber 1 none 0 := ⟨⟨by decide, by decide, by decide +kernel⟩, mjW_of 454 rfl rfl, mjW_of 55 rfl rfl⟩
set_option maxRecDepth 10000 in
theorem im_X3_endNumber : Cond.instanceMethod yX3_endNumber ∈ mjW := mjW_of 453 rfl rfl
set_option maxRecDepth 10000 in
theorem se_X3_endNumber : Cond.selects yX3_endNumber.cls yX3_endNumber yX3_endNumber ∈ mjW := mjW_of 15 rfl rfl
set_option maxRecDepth 10000 in
theorem nk_X3_keepIn : mjnameOK yX3_keepIn cX3_keepIn 3 none 2 := ⟨⟨by decide, by decide, by decide +kernel⟩, mjW_of 446 rfl rfl, mjW_of 55 rfl rfl⟩
set_option maxRecDepth 10000 in
theorem im_X3_keepIn : Cond.instanceMethod yX3_keepIn ∈ mjW := mjW_of 445 rfl rfl
set_option maxRecDepth 10000 in
theorem se_X3_keepIn : Cond.selects yX3_keepIn.cls yX3_keepIn yX3_keepIn ∈ mjW := mjW_of 13 rfl rfl
set_option maxRecDepth 10000 in
theorem nk_X3_endOfPart : mjnameOK yX3_endOfPart cX3_endOfPart 1 (some .char) 0 := ⟨⟨by decide, by decide, by decide +kernel⟩, mjW_of 450 rfl rfl, mjW_of 55 rfl rfl⟩
set_option maxRecDepth 10000 in
theorem im_X3_endOfPart : Cond.instanceMethod yX3_endOfPart ∈ mjW := mjW_of 449 rfl rfl
set_option maxRecDepth 10000 in
theorem se_X3_endOfPart : Cond.selects yX3_endOfPart.cls yX3_endOfPart yX3_endOfPart ∈ mjW := mjW_of 14 rfl rfl
set_option maxRecDepth 10000 in
theorem nk_X3_leastOfPart : mjnameOK yX3_leastOfPart cX3_leastOfPart 1 (some .int) 0 := ⟨⟨by decide, by decide, by decide +kernel⟩, mjW_of 434 rfl rfl, mjW_of 55 rfl rfl⟩
set_option maxRecDepth 10000 in
theorem im_X3_leastOfPart : Cond.instanceMethod yX3_leastOfPart ∈ mjW := mjW_of 433 rfl rfl
set_option maxRecDepth 10000 in
theorem se_X3_leastOfPart : Cond.selects yX3_leastOfPart.cls yX3_leastOfPart yX3_leastOfPart ∈ mjW := mjW_of 10 rfl rfl
set_option maxRecDepth 10000 in
theorem nk_X3_mostOfPart : mjnameOK yX3_mostOfPart cX3_mostOfPart 1 (some .int) 0 := ⟨⟨by decide, by decide, by decide +kernel⟩, mjW_of 438 rfl rfl, mjW_of 55 rfl rfl⟩
set_option maxRecDepth 10000 in
theorem im_X3_mostOfPart : Cond.instanceMethod yX3_mostOfPart ∈ mjW := mjW_of 437 rfl rfl
set_option maxRecDepth 10000 in
theorem se_X3_mostOfPart : Cond.selects yX3_mostOfPart.cls yX3_mostOfPart yX3_mostOfPart ∈ mjW := mjW_of 11 rfl rfl
set_option maxRecDepth 10000 in
theorem nk_X3_aimOf : mjnameOK yX3_aimOf cX3_aimOf 2 (some .int) 1 := ⟨⟨by decide, by decide, by decide +kernel⟩, mjW_of 462 rfl rfl, mjW_of 55 rfl rfl⟩
set_option maxRecDepth 10000 in
theorem im_X3_aimOf : Cond.instanceMethod yX3_aimOf ∈ mjW := mjW_of 460 rfl rfl
set_option maxRecDepth 10000 in
theorem se_X3_aimOf : Cond.selects yX3_aimOf.cls yX3_aimOf yX3_aimOf ∈ mjW := mjW_of 461 rfl rfl
set_option maxRecDepth 10000 in
theorem nk_X3_rateOf : mjnameOK yX3_rateOf cX3_rateOf 2 (some .int) 1 := ⟨⟨by decide, by decide, by decide +kernel⟩, mjW_of 469 rfl rfl, mjW_of 55 rfl rfl⟩
set_option maxRecDepth 10000 in
theorem im_X3_rateOf : Cond.instanceMethod yX3_rateOf ∈ mjW := mjW_of 467 rfl rfl
set_option maxRecDepth 10000 in
theorem se_X3_rateOf : Cond.selects yX3_rateOf.cls yX3_rateOf yX3_rateOf ∈ mjW := mjW_of 468 rfl rfl
set_option maxRecDepth 10000 in
theorem nk_X3_minutesOf : mjnameOK yX3_minutesOf cX3_minutesOf 2 (some .int) 1 := ⟨⟨by decide, by decide, by decide +kernel⟩, mjW_of 473 rfl rfl, mjW_of 55 rfl rfl⟩
set_option maxRecDepth 10000 in
theorem im_X3_minutesOf : Cond.instanceMethod yX3_minutesOf ∈ mjW := mjW_of 471 rfl rfl
set_option maxRecDepth 10000 in
theorem se_X3_minutesOf : Cond.selects yX3_minutesOf.cls yX3_minutesOf yX3_minutesOf ∈ mjW := mjW_of 472 rfl rfl
set_option maxRecDepth 10000 in
theorem nk_X3_isSegment : mjnameOK yX3_isSegment cX3_isSegment 1 (some .boolean) 1 := ⟨⟨by decide, by decide, by decide +kernel⟩, mjW_of 465 rfl rfl, mjW_of 55 rfl rfl⟩
set_option maxRecDepth 10000 in
theorem st_X3_isSegment : Cond.static yX3_isSegment ∈ mjW := mjW_of 464 rfl rfl
set_option maxRecDepth 10000 in
theorem nk_X4_init : mjnameOK yX4_init cX4_init 1 none 0 := ⟨⟨by decide, by decide, by decide +kernel⟩, mjW_of 74 rfl rfl, mjW_of 52 rfl rfl⟩
set_option maxRecDepth 10000 in
theorem im_X4_init : Cond.instanceMethod yX4_init ∈ mjW := mjW_of 73 rfl rfl
set_option maxRecDepth 10000 in
theorem nk_X4_renew : mjnameOK yX4_renew cX4_renew 2 none 1 := ⟨⟨by decide, by decide, by decide +kernel⟩, mjW_of 79 rfl rfl, mjW_of 52 rfl rfl⟩
set_option maxRecDepth 10000 in
theorem im_X4_renew : Cond.instanceMethod yX4_renew ∈ mjW := mjW_of 77 rfl rfl
set_option maxRecDepth 10000 in
theorem se_X4_renew : Cond.selects yX4_renew.cls yX4_renew yX4_renew ∈ mjW := mjW_of 78 rfl rfl
set_option maxRecDepth 10000 in
theorem nk_X4_copyFrom : mjnameOK yX4_copyFrom cX4_copyFrom 2 none 1 := ⟨⟨by decide, by decide, by decide +kernel⟩, mjW_of 262 rfl rfl, mjW_of 52 rfl rfl⟩
set_option maxRecDepth 10000 in
theorem im_X4_copyFrom : Cond.instanceMethod yX4_copyFrom ∈ mjW := mjW_of 260 rfl rfl
set_option maxRecDepth 10000 in
theorem se_X4_copyFrom : Cond.selects yX4_copyFrom.cls yX4_copyFrom yX4_copyFrom ∈ mjW := mjW_of 261 rfl rfl
set_option maxRecDepth 10000 in
theorem nk_X4_passMinutes : mjnameOK yX4_passMinutes cX4_passMinutes 4 (some .int) 1 := ⟨⟨by decide, by decide, by decide +kernel⟩, mjW_of 282 rfl rfl, mjW_of 52 rfl rfl⟩
set_option maxRecDepth 10000 in
theorem im_X4_passMinutes : Cond.instanceMethod yX4_passMinutes ∈ mjW := mjW_of 280 rfl rfl
set_option maxRecDepth 10000 in
theorem se_X4_passMinutes : Cond.selects yX4_passMinutes.cls yX4_passMinutes yX4_passMinutes ∈ mjW := mjW_of 281 rfl rfl
set_option maxRecDepth 10000 in
theorem nk_X4_staysWhole : mjnameOK yX4_staysWhole cX4_staysWhole 3 (some .boolean) 1 := ⟨⟨by decide, by decide, by decide +kernel⟩, mjW_of 617 rfl rfl, mjW_of 52 rfl rfl⟩
set_option maxRecDepth 10000 in
theorem im_X4_staysWhole : Cond.instanceMethod yX4_staysWhole ∈ mjW := mjW_of 615 rfl rfl
set_option maxRecDepth 10000 in
theorem se_X4_staysWhole : Cond.selects yX4_staysWhole.cls yX4_staysWhole yX4_staysWhole ∈ mjW := mjW_of 616 rfl rfl
set_option maxRecDepth 10000 in
theorem nk_X4_letHeatFlow : mjnameOK yX4_letHeatFlow cX4_letHeatFlow 2 none 0 := ⟨⟨by decide, by decide, by decide +kernel⟩, mjW_of 286 rfl rfl, mjW_of 52 rfl rfl⟩
set_option maxRecDepth 10000 in
theorem im_X4_letHeatFlow : Cond.instanceMethod yX4_letHeatFlow ∈ mjW := mjW_of 284 rfl rfl
set_option maxRecDepth 10000 in
theorem se_X4_letHeatFlow : Cond.selects yX4_letHeatFlow.cls yX4_letHeatFlow yX4_letHeatFlow ∈ mjW := mjW_of 285 rfl rfl
set_option maxRecDepth 10000 in
theorem nk_X4_moveFurnace : mjnameOK yX4_moveFurnace cX4_moveFurnace 1 none 0 := ⟨⟨by decide, by decide, by decide +kernel⟩, mjW_of 290 rfl rfl, mjW_of 52 rfl rfl⟩
set_option maxRecDepth 10000 in
theorem im_X4_moveFurnace : Cond.instanceMethod yX4_moveFurnace ∈ mjW := mjW_of 289 rfl rfl
set_option maxRecDepth 10000 in
theorem se_X4_moveFurnace : Cond.selects yX4_moveFurnace.cls yX4_moveFurnace yX4_moveFurnace ∈ mjW := mjW_of 2 rfl rfl
set_option maxRecDepth 10000 in
theorem nk_X4_flowOverJoints : mjnameOK yX4_flowOverJoints cX4_flowOverJoints 5 none 0 := ⟨⟨by decide, by decide, by decide +kernel⟩, mjW_of 300 rfl rfl, mjW_of 52 rfl rfl⟩
set_option maxRecDepth 10000 in
theorem im_X4_flowOverJoints : Cond.instanceMethod yX4_flowOverJoints ∈ mjW := mjW_of 299 rfl rfl
set_option maxRecDepth 10000 in
theorem se_X4_flowOverJoints : Cond.selects yX4_flowOverJoints.cls yX4_flowOverJoints yX4_flowOverJoints ∈ mjW := mjW_of 3 rfl rfl
set_option maxRecDepth 10000 in
theorem nk_X4_flowAtRim : mjnameOK yX4_flowAtRim cX4_flowAtRim 3 none 0 := ⟨⟨by decide, by decide, by decide +kernel⟩, mjW_of 325 rfl rfl, mjW_of 52 rfl rfl⟩
set_option maxRecDepth 10000 in
theorem im_X4_flowAtRim : Cond.instanceMethod yX4_flowAtRim ∈ mjW := mjW_of 324 rfl rfl
set_option maxRecDepth 10000 in
theorem se_X4_flowAtRim : Cond.selects yX4_flowAtRim.cls yX4_flowAtRim yX4_flowAtRim ∈ mjW := mjW_of 5 rfl rfl
set_option maxRecDepth 10000 in
theorem nk_X4_gain : mjnameOK yX4_gain cX4_gain 3 none 2 := ⟨⟨by decide, by decide, by decide +kernel⟩, mjW_of 318 rfl rfl, mjW_of 52 rfl rfl⟩
set_option maxRecDepth 10000 in
theorem im_X4_gain : Cond.instanceMethod yX4_gain ∈ mjW := mjW_of 317 rfl rfl
set_option maxRecDepth 10000 in
theorem se_X4_gain : Cond.selects yX4_gain.cls yX4_gain yX4_gain ∈ mjW := mjW_of 4 rfl rfl
set_option maxRecDepth 10000 in
theorem nk_X4_crackWorst : mjnameOK yX4_crackWorst cX4_crackWorst 2 (some .boolean) 0 := ⟨⟨by decide, by decide, by decide +kernel⟩, mjW_of 332 rfl rfl, mjW_of 52 rfl rfl⟩
set_option maxRecDepth 10000 in
theorem im_X4_crackWorst : Cond.instanceMethod yX4_crackWorst ∈ mjW := mjW_of 330 rfl rfl
set_option maxRecDepth 10000 in
theorem se_X4_crackWorst : Cond.selects yX4_crackWorst.cls yX4_crackWorst yX4_crackWorst ∈ mjW := mjW_of 331 rfl rfl
set_option maxRecDepth 10000 in
theorem nk_X4_weakenBeside : mjnameOK yX4_weakenBeside cX4_weakenBeside 3 none 1 := ⟨⟨by decide, by decide, by decide +kernel⟩, mjW_of 358 rfl rfl, mjW_of 52 rfl rfl⟩
set_option maxRecDepth 10000 in
theorem im_X4_weakenBeside : Cond.instanceMethod yX4_weakenBeside ∈ mjW := mjW_of 357 rfl rfl
set_option maxRecDepth 10000 in
theorem se_X4_weakenBeside : Cond.selects yX4_weakenBeside.cls yX4_weakenBeside yX4_weakenBeside ∈ mjW := mjW_of 7 rfl rfl
set_option maxRecDepth 10000 in
theorem nk_X4_holdFlame : mjnameOK yX4_holdFlame cX4_holdFlame 5 (some .int) 2 := ⟨⟨by decide, by decide, by decide +kernel⟩, mjW_of 398 rfl rfl, mjW_of 52 rfl rfl⟩
set_option maxRecDepth 10000 in
theorem im_X4_holdFlame : Cond.instanceMethod yX4_holdFlame ∈ mjW := mjW_of 396 rfl rfl
set_option maxRecDepth 10000 in
theorem se_X4_holdFlame : Cond.selects yX4_holdFlame.cls yX4_holdFlame yX4_holdFlame ∈ mjW := mjW_of 397 rfl rfl
set_option maxRecDepth 10000 in
theorem nk_X4_makeWhole : mjnameOK yX4_makeWhole cX4_makeWhole 2 none 1 := ⟨⟨by decide, by decide, by decide +kernel⟩, mjW_of 385 rfl rfl, mjW_of 52 rfl rfl⟩
set_option maxRecDepth 10000 in
theorem im_X4_makeWhole : Cond.instanceMethod yX4_makeWhole ∈ mjW := mjW_of 383 rfl rfl
set_option maxRecDepth 10000 in
theorem se_X4_makeWhole : Cond.selects yX4_makeWhole.cls yX4_makeWhole yX4_makeWhole ∈ mjW := mjW_of 384 rfl rfl
set_option maxRecDepth 10000 in
theorem nk_X4_strengthen : mjnameOK yX4_strengthen cX4_strengthen 3 none 2 := ⟨⟨by decide, by decide, by decide +kernel⟩, mjW_of 377 rfl rfl, mjW_of 52 rfl rfl⟩
set_option maxRecDepth 10000 in
theorem im_X4_strengthen : Cond.instanceMethod yX4_strengthen ∈ mjW := mjW_of 375 rfl rfl
set_option maxRecDepth 10000 in
theorem se_X4_strengthen : Cond.selects yX4_strengthen.cls yX4_strengthen yX4_strengthen ∈ mjW := mjW_of 376 rfl rfl
set_option maxRecDepth 10000 in
theorem nk_X4_heatAt : mjnameOK yX4_heatAt cX4_heatAt 2 (some .int) 1 := ⟨⟨by decide, by decide, by decide +kernel⟩, mjW_of 314 rfl rfl, mjW_of 52 rfl rfl⟩
set_option maxRecDepth 10000 in
theorem im_X4_heatAt : Cond.instanceMethod yX4_heatAt ∈ mjW := mjW_of 312 rfl rfl
set_option maxRecDepth 10000 in
theorem se_X4_heatAt : Cond.selects yX4_heatAt.cls yX4_heatAt yX4_heatAt ∈ mjW := mjW_of 313 rfl rfl
set_option maxRecDepth 10000 in
theorem nk_X4_isWhole : mjnameOK yX4_isWhole cX4_isWhole 2 (some .boolean) 1 := ⟨⟨by decide, by decide, by decide +kernel⟩, mjW_of 304 rfl rfl, mjW_of 52 rfl rfl⟩
set_option maxRecDepth 10000 in
theorem im_X4_isWhole : Cond.instanceMethod yX4_isWhole ∈ mjW := mjW_of 302 rfl rfl
set_option maxRecDepth 10000 in
theorem se_X4_isWhole : Cond.selects yX4_isWhole.cls yX4_isWhole yX4_isWhole ∈ mjW := mjW_of 303 rfl rfl
set_option maxRecDepth 10000 in
theorem nk_X4_crackedMinuteOf : mjnameOK yX4_crackedMinuteOf cX4_crackedMinuteOf 2 (some .int) 1 := ⟨⟨by decide, by decide, by decide +kernel⟩, mjW_of 525 rfl rfl, mjW_of 52 rfl rfl⟩
set_option maxRecDepth 10000 in
theorem im_X4_crackedMinuteOf : Cond.instanceMethod yX4_crackedMinuteOf ∈ mjW := mjW_of 523 rfl rfl
set_option maxRecDepth 10000 in
theorem se_X4_crackedMinuteOf : Cond.selects yX4_crackedMinuteOf.cls yX4_crackedMinuteOf yX4_crackedMinuteOf ∈ mjW := mjW_of 524 rfl rfl
set_option maxRecDepth 10000 in
theorem nk_X4_strengthOf : mjnameOK yX4_strengthOf cX4_strengthOf 2 (some .int) 1 := ⟨⟨by decide, by decide, by decide +kernel⟩, mjW_of 344 rfl rfl, mjW_of 52 rfl rfl⟩
set_option maxRecDepth 10000 in
theorem im_X4_strengthOf : Cond.instanceMethod yX4_strengthOf ∈ mjW := mjW_of 342 rfl rfl
set_option maxRecDepth 10000 in
theorem se_X4_strengthOf : Cond.selects yX4_strengthOf.cls yX4_strengthOf yX4_strengthOf ∈ mjW := mjW_of 343 rfl rfl
set_option maxRecDepth 10000 in
theorem nk_X4_stressOf : mjnameOK yX4_stressOf cX4_stressOf 2 (some .int) 1 := ⟨⟨by decide, by decide, by decide +kernel⟩, mjW_of 351 rfl rfl, mjW_of 52 rfl rfl⟩
set_option maxRecDepth 10000 in
theorem im_X4_stressOf : Cond.instanceMethod yX4_stressOf ∈ mjW := mjW_of 349 rfl rfl
set_option maxRecDepth 10000 in
theorem se_X4_stressOf : Cond.selects yX4_stressOf.cls yX4_stressOf yX4_stressOf ∈ mjW := mjW_of 350 rfl rfl
set_option maxRecDepth 10000 in
theorem nk_X4_marginOf : mjnameOK yX4_marginOf cX4_marginOf 2 (some .int) 1 := ⟨⟨by decide, by decide, by decide +kernel⟩, mjW_of 340 rfl rfl, mjW_of 52 rfl rfl⟩
set_option maxRecDepth 10000 in
theorem im_X4_marginOf : Cond.instanceMethod yX4_marginOf ∈ mjW := mjW_of 338 rfl rfl
set_option maxRecDepth 10000 in
theorem se_X4_marginOf : Cond.selects yX4_marginOf.cls yX4_marginOf yX4_marginOf ∈ mjW := mjW_of 339 rfl rfl
set_option maxRecDepth 10000 in
theorem nk_X4_wholeJointsOf : mjnameOK yX4_wholeJointsOf cX4_wholeJointsOf 4 (some .int) 1 := ⟨⟨by decide, by decide, by decide +kernel⟩, mjW_of 508 rfl rfl, mjW_of 52 rfl rfl⟩
set_option maxRecDepth 10000 in
theorem im_X4_wholeJointsOf : Cond.instanceMethod yX4_wholeJointsOf ∈ mjW := mjW_of 506 rfl rfl
set_option maxRecDepth 10000 in
theorem se_X4_wholeJointsOf : Cond.selects yX4_wholeJointsOf.cls yX4_wholeJointsOf yX4_wholeJointsOf ∈ mjW := mjW_of 507 rfl rfl
set_option maxRecDepth 10000 in
theorem nk_X4_wholeJointsBeside : mjnameOK yX4_wholeJointsBeside cX4_wholeJointsBeside 4 (some .int) 1 := ⟨⟨by decide, by decide, by decide +kernel⟩, mjW_of 529 rfl rfl, mjW_of 52 rfl rfl⟩
set_option maxRecDepth 10000 in
theorem im_X4_wholeJointsBeside : Cond.instanceMethod yX4_wholeJointsBeside ∈ mjW := mjW_of 527 rfl rfl
set_option maxRecDepth 10000 in
theorem se_X4_wholeJointsBeside : Cond.selects yX4_wholeJointsBeside.cls yX4_wholeJointsBeside yX4_wholeJointsBeside ∈ mjW := mjW_of 528 rfl rfl
set_option maxRecDepth 10000 in
theorem nk_X4_greatestStressOf : mjnameOK yX4_greatestStressOf cX4_greatestStressOf 5 (some .int) 1 := ⟨⟨by decide, by decide, by decide +kernel⟩, mjW_of 514 rfl rfl, mjW_of 52 rfl rfl⟩
set_option maxRecDepth 10000 in
theorem im_X4_greatestStressOf : Cond.instanceMethod yX4_greatestStressOf ∈ mjW := mjW_of 512 rfl rfl
set_option maxRecDepth 10000 in
theorem se_X4_greatestStressOf : Cond.selects yX4_greatestStressOf.cls yX4_greatestStressOf yX4_greatestStressOf ∈ mjW := mjW_of 513 rfl rfl
set_option maxRecDepth 10000 in
theorem nk_X4_greatestStress : mjnameOK yX4_greatestStress cX4_greatestStress 3 (some .int) 0 := ⟨⟨by decide, by decide, by decide +kernel⟩, mjW_of 573 rfl rfl, mjW_of 52 rfl rfl⟩
set_option maxRecDepth 10000 in
theorem im_X4_greatestStress : Cond.instanceMethod yX4_greatestStress ∈ mjW := mjW_of 571 rfl rfl
set_option maxRecDepth 10000 in
theorem se_X4_greatestStress : Cond.selects yX4_greatestStress.cls yX4_greatestStress yX4_greatestStress ∈ mjW := mjW_of 572 rfl rfl
set_option maxRecDepth 10000 in
theorem nk_X4_leastMargin : mjnameOK yX4_leastMargin cX4_leastMargin 2 (some .int) 0 := ⟨⟨by decide, by decide, by decide +kernel⟩, mjW_of 577 rfl rfl, mjW_of 52 rfl rfl⟩
set_option maxRecDepth 10000 in
theorem im_X4_leastMargin : Cond.instanceMethod yX4_leastMargin ∈ mjW := mjW_of 575 rfl rfl
set_option maxRecDepth 10000 in
theorem se_X4_leastMargin : Cond.selects yX4_leastMargin.cls yX4_leastMargin yX4_leastMargin ∈ mjW := mjW_of 576 rfl rfl
set_option maxRecDepth 10000 in
theorem nk_X4_mostStrained : mjnameOK yX4_mostStrained cX4_mostStrained 5 (some .int) 0 := ⟨⟨by decide, by decide, by decide +kernel⟩, mjW_of 336 rfl rfl, mjW_of 52 rfl rfl⟩
set_option maxRecDepth 10000 in
theorem im_X4_mostStrained : Cond.instanceMethod yX4_mostStrained ∈ mjW := mjW_of 335 rfl rfl
set_option maxRecDepth 10000 in
theorem se_X4_mostStrained : Cond.selects yX4_mostStrained.cls yX4_mostStrained yX4_mostStrained ∈ mjW := mjW_of 6 rfl rfl
set_option maxRecDepth 10000 in
theorem nk_X4_strainedAt : mjnameOK yX4_strainedAt cX4_strainedAt 3 (some .int) 1 := ⟨⟨by decide, by decide, by decide +kernel⟩, mjW_of 537 rfl rfl, mjW_of 52 rfl rfl⟩
set_option maxRecDepth 10000 in
theorem im_X4_strainedAt : Cond.instanceMethod yX4_strainedAt ∈ mjW := mjW_of 535 rfl rfl
set_option maxRecDepth 10000 in
theorem se_X4_strainedAt : Cond.selects yX4_strainedAt.cls yX4_strainedAt yX4_strainedAt ∈ mjW := mjW_of 536 rfl rfl
set_option maxRecDepth 10000 in
theorem nk_X4_placeOf : mjnameOK yX4_placeOf cX4_placeOf 6 (some .int) 1 := ⟨⟨by decide, by decide, by decide +kernel⟩, mjW_of 541 rfl rfl, mjW_of 52 rfl rfl⟩
set_option maxRecDepth 10000 in
theorem im_X4_placeOf : Cond.instanceMethod yX4_placeOf ∈ mjW := mjW_of 540 rfl rfl
set_option maxRecDepth 10000 in
theorem se_X4_placeOf : Cond.selects yX4_placeOf.cls yX4_placeOf yX4_placeOf ∈ mjW := mjW_of 18 rfl rfl
set_option maxRecDepth 10000 in
theorem nk_X4_crackedJoints : mjnameOK yX4_crackedJoints cX4_crackedJoints 3 (some .int) 0 := ⟨⟨by decide, by decide, by decide +kernel⟩, mjW_of 389 rfl rfl, mjW_of 52 rfl rfl⟩
set_option maxRecDepth 10000 in
theorem im_X4_crackedJoints : Cond.instanceMethod yX4_crackedJoints ∈ mjW := mjW_of 387 rfl rfl
set_option maxRecDepth 10000 in
theorem se_X4_crackedJoints : Cond.selects yX4_crackedJoints.cls yX4_crackedJoints yX4_crackedJoints ∈ mjW := mjW_of 388 rfl rfl
set_option maxRecDepth 10000 in
theorem nk_X4_sumOfHeats : mjnameOK yX4_sumOfHeats cX4_sumOfHeats 3 (some .int) 0 := ⟨⟨by decide, by decide, by decide +kernel⟩, mjW_of 270 rfl rfl, mjW_of 52 rfl rfl⟩
set_option maxRecDepth 10000 in
theorem im_X4_sumOfHeats : Cond.instanceMethod yX4_sumOfHeats ∈ mjW := mjW_of 268 rfl rfl
set_option maxRecDepth 10000 in
theorem se_X4_sumOfHeats : Cond.selects yX4_sumOfHeats.cls yX4_sumOfHeats yX4_sumOfHeats ∈ mjW := mjW_of 269 rfl rfl
set_option maxRecDepth 10000 in
theorem nk_X4_greatestHeat : mjnameOK yX4_greatestHeat cX4_greatestHeat 3 (some .int) 0 := ⟨⟨by decide, by decide, by decide +kernel⟩, mjW_of 565 rfl rfl, mjW_of 52 rfl rfl⟩
set_option maxRecDepth 10000 in
theorem im_X4_greatestHeat : Cond.instanceMethod yX4_greatestHeat ∈ mjW := mjW_of 563 rfl rfl
set_option maxRecDepth 10000 in
theorem se_X4_greatestHeat : Cond.selects yX4_greatestHeat.cls yX4_greatestHeat yX4_greatestHeat ∈ mjW := mjW_of 564 rfl rfl
set_option maxRecDepth 10000 in
theorem nk_X4_leastHeat : mjnameOK yX4_leastHeat cX4_leastHeat 3 (some .int) 0 := ⟨⟨by decide, by decide, by decide +kernel⟩, mjW_of 569 rfl rfl, mjW_of 52 rfl rfl⟩
set_option maxRecDepth 10000 in
theorem im_X4_leastHeat : Cond.instanceMethod yX4_leastHeat ∈ mjW := mjW_of 567 rfl rfl
set_option maxRecDepth 10000 in
theorem se_X4_leastHeat : Cond.selects yX4_leastHeat.cls yX4_leastHeat yX4_leastHeat ∈ mjW := mjW_of 568 rfl rfl
set_option maxRecDepth 10000 in
theorem nk_X5_init : mjnameOK yX5_init cX5_init 1 none 0 := ⟨⟨by decide, by decide, by decide +kernel⟩, mjW_of 184 rfl rfl, mjW_of 56 rfl rfl⟩
set_option maxRecDepth 10000 in
theorem im_X5_init : Cond.instanceMethod yX5_init ∈ mjW := mjW_of 183 rfl rfl
set_option maxRecDepth 10000 in
theorem nk_X5_tellByGoing : mjnameOK yX5_tellByGoing cX5_tellByGoing 4 (some .int) 1 := ⟨⟨by decide, by decide, by decide +kernel⟩, mjW_of 482 rfl rfl, mjW_of 56 rfl rfl⟩
set_option maxRecDepth 10000 in
theorem im_X5_tellByGoing : Cond.instanceMethod yX5_tellByGoing ∈ mjW := mjW_of 480 rfl rfl
set_option maxRecDepth 10000 in
theorem se_X5_tellByGoing : Cond.selects yX5_tellByGoing.cls yX5_tellByGoing yX5_tellByGoing ∈ mjW := mjW_of 481 rfl rfl
set_option maxRecDepth 10000 in
theorem nk_X5_spreadFrom : mjnameOK yX5_spreadFrom cX5_spreadFrom 7 none 2 := ⟨⟨by decide, by decide, by decide +kernel⟩, mjW_of 487 rfl rfl, mjW_of 56 rfl rfl⟩
set_option maxRecDepth 10000 in
theorem im_X5_spreadFrom : Cond.instanceMethod yX5_spreadFrom ∈ mjW := mjW_of 486 rfl rfl
set_option maxRecDepth 10000 in
theorem se_X5_spreadFrom : Cond.selects yX5_spreadFrom.cls yX5_spreadFrom yX5_spreadFrom ∈ mjW := mjW_of 16 rfl rfl
set_option maxRecDepth 10000 in
theorem nk_X5_reach : mjnameOK yX5_reach cX5_reach 3 none 2 := ⟨⟨by decide, by decide, by decide +kernel⟩, mjW_of 491 rfl rfl, mjW_of 56 rfl rfl⟩
set_option maxRecDepth 10000 in
theorem im_X5_reach : Cond.instanceMethod yX5_reach ∈ mjW := mjW_of 490 rfl rfl
set_option maxRecDepth 10000 in
theorem se_X5_reach : Cond.selects yX5_reach.cls yX5_reach yX5_reach ∈ mjW := mjW_of 17 rfl rfl
set_option maxRecDepth 10000 in
theorem nk_X5_tellByJoining : mjnameOK yX5_tellByJoining cX5_tellByJoining 4 (some .int) 1 := ⟨⟨by decide, by decide, by decide +kernel⟩, mjW_of 549 rfl rfl, mjW_of 56 rfl rfl⟩
set_option maxRecDepth 10000 in
theorem im_X5_tellByJoining : Cond.instanceMethod yX5_tellByJoining ∈ mjW := mjW_of 547 rfl rfl
set_option maxRecDepth 10000 in
theorem se_X5_tellByJoining : Cond.selects yX5_tellByJoining.cls yX5_tellByJoining yX5_tellByJoining ∈ mjW := mjW_of 548 rfl rfl
set_option maxRecDepth 10000 in
theorem nk_X5_join : mjnameOK yX5_join cX5_join 6 (some .boolean) 2 := ⟨⟨by decide, by decide, by decide +kernel⟩, mjW_of 555 rfl rfl, mjW_of 56 rfl rfl⟩
set_option maxRecDepth 10000 in
theorem im_X5_join : Cond.instanceMethod yX5_join ∈ mjW := mjW_of 554 rfl rfl
set_option maxRecDepth 10000 in
theorem se_X5_join : Cond.selects yX5_join.cls yX5_join yX5_join ∈ mjW := mjW_of 19 rfl rfl
set_option maxRecDepth 10000 in
theorem nk_X5_nameOf : mjnameOK yX5_nameOf cX5_nameOf 2 (some .int) 1 := ⟨⟨by decide, by decide, by decide +kernel⟩, mjW_of 495 rfl rfl, mjW_of 56 rfl rfl⟩
set_option maxRecDepth 10000 in
theorem im_X5_nameOf : Cond.instanceMethod yX5_nameOf ∈ mjW := mjW_of 493 rfl rfl
set_option maxRecDepth 10000 in
theorem se_X5_nameOf : Cond.selects yX5_nameOf.cls yX5_nameOf yX5_nameOf ∈ mjW := mjW_of 494 rfl rfl
set_option maxRecDepth 10000 in
theorem nk_X5_greatestSize : mjnameOK yX5_greatestSize cX5_greatestSize 3 (some .int) 0 := ⟨⟨by decide, by decide, by decide +kernel⟩, mjW_of 581 rfl rfl, mjW_of 56 rfl rfl⟩
set_option maxRecDepth 10000 in
theorem im_X5_greatestSize : Cond.instanceMethod yX5_greatestSize ∈ mjW := mjW_of 579 rfl rfl
set_option maxRecDepth 10000 in
theorem se_X5_greatestSize : Cond.selects yX5_greatestSize.cls yX5_greatestSize yX5_greatestSize ∈ mjW := mjW_of 580 rfl rfl
set_option maxRecDepth 10000 in
theorem nk_X5_sizeOf : mjnameOK yX5_sizeOf cX5_sizeOf 4 (some .int) 1 := ⟨⟨by decide, by decide, by decide +kernel⟩, mjW_of 585 rfl rfl, mjW_of 56 rfl rfl⟩
set_option maxRecDepth 10000 in
theorem im_X5_sizeOf : Cond.instanceMethod yX5_sizeOf ∈ mjW := mjW_of 584 rfl rfl
set_option maxRecDepth 10000 in
theorem se_X5_sizeOf : Cond.selects yX5_sizeOf.cls yX5_sizeOf yX5_sizeOf ∈ mjW := mjW_of 20 rfl rfl
set_option maxRecDepth 10000 in
theorem nk_X5_meanHeat : mjnameOK yX5_meanHeat cX5_meanHeat 7 (some .double) 2 := ⟨⟨by decide, by decide, by decide +kernel⟩, mjW_of 594 rfl rfl, mjW_of 56 rfl rfl⟩
set_option maxRecDepth 10000 in
theorem im_X5_meanHeat : Cond.instanceMethod yX5_meanHeat ∈ mjW := mjW_of 592 rfl rfl
set_option maxRecDepth 10000 in
theorem se_X5_meanHeat : Cond.selects yX5_meanHeat.cls yX5_meanHeat yX5_meanHeat ∈ mjW := mjW_of 593 rfl rfl
set_option maxRecDepth 10000 in
theorem nk_X6_init : mjnameOK yX6_init cX6_init 1 none 0 := ⟨⟨by decide, by decide, by decide +kernel⟩, mjW_of 66 rfl rfl, mjW_of 51 rfl rfl⟩
set_option maxRecDepth 10000 in
theorem im_X6_init : Cond.instanceMethod yX6_init ∈ mjW := mjW_of 65 rfl rfl
set_option maxRecDepth 10000 in
theorem nk_X6_begin : mjnameOK yX6_begin cX6_begin 2 (some .int) 1 := ⟨⟨by decide, by decide, by decide +kernel⟩, mjW_of 243 rfl rfl, mjW_of 51 rfl rfl⟩
set_option maxRecDepth 10000 in
theorem im_X6_begin : Cond.instanceMethod yX6_begin ∈ mjW := mjW_of 241 rfl rfl
set_option maxRecDepth 10000 in
theorem se_X6_begin : Cond.selects yX6_begin.cls yX6_begin yX6_begin ∈ mjW := mjW_of 242 rfl rfl
set_option maxRecDepth 10000 in
theorem nk_X6_aim : mjnameOK yX6_aim cX6_aim 4 (some .int) 2 := ⟨⟨by decide, by decide, by decide +kernel⟩, mjW_of 274 rfl rfl, mjW_of 51 rfl rfl⟩
set_option maxRecDepth 10000 in
theorem im_X6_aim : Cond.instanceMethod yX6_aim ∈ mjW := mjW_of 272 rfl rfl
set_option maxRecDepth 10000 in
theorem se_X6_aim : Cond.selects yX6_aim.cls yX6_aim yX6_aim ∈ mjW := mjW_of 273 rfl rfl
set_option maxRecDepth 10000 in
theorem nk_X6_pass : mjnameOK yX6_pass cX6_pass 2 (some .int) 1 := ⟨⟨by decide, by decide, by decide +kernel⟩, mjW_of 278 rfl rfl, mjW_of 51 rfl rfl⟩
set_option maxRecDepth 10000 in
theorem im_X6_pass : Cond.instanceMethod yX6_pass ∈ mjW := mjW_of 276 rfl rfl
set_option maxRecDepth 10000 in
theorem se_X6_pass : Cond.selects yX6_pass.cls yX6_pass yX6_pass ∈ mjW := mjW_of 277 rfl rfl
set_option maxRecDepth 10000 in
theorem nk_X6_scratch : mjnameOK yX6_scratch cX6_scratch 4 (some .int) 2 := ⟨⟨by decide, by decide, by decide +kernel⟩, mjW_of 370 rfl rfl, mjW_of 51 rfl rfl⟩
set_option maxRecDepth 10000 in
theorem im_X6_scratch : Cond.instanceMethod yX6_scratch ∈ mjW := mjW_of 368 rfl rfl
set_option maxRecDepth 10000 in
theorem se_X6_scratch : Cond.selects yX6_scratch.cls yX6_scratch yX6_scratch ∈ mjW := mjW_of 369 rfl rfl
set_option maxRecDepth 10000 in
theorem nk_X6_mend : mjnameOK yX6_mend cX6_mend 2 (some .int) 1 := ⟨⟨by decide, by decide, by decide +kernel⟩, mjW_of 381 rfl rfl, mjW_of 51 rfl rfl⟩
set_option maxRecDepth 10000 in
theorem im_X6_mend : Cond.instanceMethod yX6_mend ∈ mjW := mjW_of 379 rfl rfl
set_option maxRecDepth 10000 in
theorem se_X6_mend : Cond.selects yX6_mend.cls yX6_mend yX6_mend ∈ mjW := mjW_of 380 rfl rfl
set_option maxRecDepth 10000 in
theorem nk_X6_heat : mjnameOK yX6_heat cX6_heat 3 (some .int) 2 := ⟨⟨by decide, by decide, by decide +kernel⟩, mjW_of 393 rfl rfl, mjW_of 51 rfl rfl⟩
set_option maxRecDepth 10000 in
theorem im_X6_heat : Cond.instanceMethod yX6_heat ∈ mjW := mjW_of 391 rfl rfl
set_option maxRecDepth 10000 in
theorem se_X6_heat : Cond.selects yX6_heat.cls yX6_heat yX6_heat ∈ mjW := mjW_of 392 rfl rfl
set_option maxRecDepth 10000 in
theorem nk_X6_set : mjnameOK yX6_set cX6_set 4 (some .int) 2 := ⟨⟨by decide, by decide, by decide +kernel⟩, mjW_of 402 rfl rfl, mjW_of 51 rfl rfl⟩
set_option maxRecDepth 10000 in
theorem im_X6_set : Cond.instanceMethod yX6_set ∈ mjW := mjW_of 400 rfl rfl
set_option maxRecDepth 10000 in
theorem se_X6_set : Cond.selects yX6_set.cls yX6_set yX6_set ∈ mjW := mjW_of 401 rfl rfl
set_option maxRecDepth 10000 in
theorem nk_X6_append : mjnameOK yX6_append cX6_append 2 (some .int) 1 := ⟨⟨by decide, by decide, by decide +kernel⟩, mjW_of 406 rfl rfl, mjW_of 51 rfl rfl⟩
set_option maxRecDepth 10000 in
theorem im_X6_append : Cond.instanceMethod yX6_append ∈ mjW := mjW_of 404 rfl rfl
set_option maxRecDepth 10000 in
theorem se_X6_append : Cond.selects yX6_append.cls yX6_append yX6_append ∈ mjW := mjW_of 405 rfl rfl
set_option maxRecDepth 10000 in
theorem nk_X6_clear : mjnameOK yX6_clear cX6_clear 2 (some .int) 0 := ⟨⟨by decide, by decide, by decide +kernel⟩, mjW_of 414 rfl rfl, mjW_of 51 rfl rfl⟩
set_option maxRecDepth 10000 in
theorem im_X6_clear : Cond.instanceMethod yX6_clear ∈ mjW := mjW_of 412 rfl rfl
set_option maxRecDepth 10000 in
theorem se_X6_clear : Cond.selects yX6_clear.cls yX6_clear yX6_clear ∈ mjW := mjW_of 413 rfl rfl
set_option maxRecDepth 10000 in
theorem nk_X6_fault : mjnameOK yX6_fault cX6_fault 1 (some .int) 0 := ⟨⟨by decide, by decide, by decide +kernel⟩, mjW_of 418 rfl rfl, mjW_of 51 rfl rfl⟩
set_option maxRecDepth 10000 in
theorem im_X6_fault : Cond.instanceMethod yX6_fault ∈ mjW := mjW_of 416 rfl rfl
set_option maxRecDepth 10000 in
theorem se_X6_fault : Cond.selects yX6_fault.cls yX6_fault yX6_fault ∈ mjW := mjW_of 417 rfl rfl
set_option maxRecDepth 10000 in
theorem nk_X6_run : mjnameOK yX6_run cX6_run 3 (some .int) 0 := ⟨⟨by decide, by decide, by decide +kernel⟩, mjW_of 458 rfl rfl, mjW_of 51 rfl rfl⟩
set_option maxRecDepth 10000 in
theorem im_X6_run : Cond.instanceMethod yX6_run ∈ mjW := mjW_of 456 rfl rfl
set_option maxRecDepth 10000 in
theorem se_X6_run : Cond.selects yX6_run.cls yX6_run yX6_run ∈ mjW := mjW_of 457 rfl rfl
set_option maxRecDepth 10000 in
theorem nk_X6_cell : mjnameOK yX6_cell cX6_cell 3 (some .int) 2 := ⟨⟨by decide, by decide, by decide +kernel⟩, mjW_of 477 rfl rfl, mjW_of 51 rfl rfl⟩
set_option maxRecDepth 10000 in
theorem im_X6_cell : Cond.instanceMethod yX6_cell ∈ mjW := mjW_of 475 rfl rfl
set_option maxRecDepth 10000 in
theorem se_X6_cell : Cond.selects yX6_cell.cls yX6_cell yX6_cell ∈ mjW := mjW_of 476 rfl rfl
set_option maxRecDepth 10000 in
theorem nk_X6_joint : mjnameOK yX6_joint cX6_joint 4 (some .int) 2 := ⟨⟨by decide, by decide, by decide +kernel⟩, mjW_of 518 rfl rfl, mjW_of 51 rfl rfl⟩
set_option maxRecDepth 10000 in
theorem im_X6_joint : Cond.instanceMethod yX6_joint ∈ mjW := mjW_of 516 rfl rfl
set_option maxRecDepth 10000 in
theorem se_X6_joint : Cond.selects yX6_joint.cls yX6_joint yX6_joint ∈ mjW := mjW_of 517 rfl rfl
set_option maxRecDepth 10000 in
theorem nk_X6_strained : mjnameOK yX6_strained cX6_strained 2 (some .int) 1 := ⟨⟨by decide, by decide, by decide +kernel⟩, mjW_of 533 rfl rfl, mjW_of 51 rfl rfl⟩
set_option maxRecDepth 10000 in
theorem im_X6_strained : Cond.instanceMethod yX6_strained ∈ mjW := mjW_of 531 rfl rfl
set_option maxRecDepth 10000 in
theorem se_X6_strained : Cond.selects yX6_strained.cls yX6_strained yX6_strained ∈ mjW := mjW_of 532 rfl rfl
set_option maxRecDepth 10000 in
theorem nk_X6_pieces : mjnameOK yX6_pieces cX6_pieces 2 (some .int) 1 := ⟨⟨by decide, by decide, by decide +kernel⟩, mjW_of 545 rfl rfl, mjW_of 51 rfl rfl⟩
set_option maxRecDepth 10000 in
theorem im_X6_pieces : Cond.instanceMethod yX6_pieces ∈ mjW := mjW_of 543 rfl rfl
set_option maxRecDepth 10000 in
theorem se_X6_pieces : Cond.selects yX6_pieces.cls yX6_pieces yX6_pieces ∈ mjW := mjW_of 544 rfl rfl
set_option maxRecDepth 10000 in
theorem nk_X6_count : mjnameOK yX6_count cX6_count 2 (some .int) 1 := ⟨⟨by decide, by decide, by decide +kernel⟩, mjW_of 561 rfl rfl, mjW_of 51 rfl rfl⟩
set_option maxRecDepth 10000 in
theorem im_X6_count : Cond.instanceMethod yX6_count ∈ mjW := mjW_of 559 rfl rfl
set_option maxRecDepth 10000 in
theorem se_X6_count : Cond.selects yX6_count.cls yX6_count yX6_count ∈ mjW := mjW_of 560 rfl rfl
set_option maxRecDepth 10000 in
theorem nk_X6_mean : mjnameOK yX6_mean cX6_mean 2 (some .double) 1 := ⟨⟨by decide, by decide, by decide +kernel⟩, mjW_of 589 rfl rfl, mjW_of 51 rfl rfl⟩
set_option maxRecDepth 10000 in
theorem im_X6_mean : Cond.instanceMethod yX6_mean ∈ mjW := mjW_of 587 rfl rfl
set_option maxRecDepth 10000 in
theorem se_X6_mean : Cond.selects yX6_mean.cls yX6_mean yX6_mean ∈ mjW := mjW_of 588 rfl rfl
set_option maxRecDepth 10000 in
theorem nk_X6_ifPassed : mjnameOK yX6_ifPassed cX6_ifPassed 3 (some .int) 2 := ⟨⟨by decide, by decide, by decide +kernel⟩, mjW_of 600 rfl rfl, mjW_of 51 rfl rfl⟩
set_option maxRecDepth 10000 in
theorem im_X6_ifPassed : Cond.instanceMethod yX6_ifPassed ∈ mjW := mjW_of 598 rfl rfl
set_option maxRecDepth 10000 in
theorem se_X6_ifPassed : Cond.selects yX6_ifPassed.cls yX6_ifPassed yX6_ifPassed ∈ mjW := mjW_of 599 rfl rfl
set_option maxRecDepth 10000 in
theorem nk_X6_fastest : mjnameOK yX6_fastest cX6_fastest 4 (some .int) 2 := ⟨⟨by decide, by decide, by decide +kernel⟩, mjW_of 613 rfl rfl, mjW_of 51 rfl rfl⟩
set_option maxRecDepth 10000 in
theorem im_X6_fastest : Cond.instanceMethod yX6_fastest ∈ mjW := mjW_of 611 rfl rfl
set_option maxRecDepth 10000 in
theorem se_X6_fastest : Cond.selects yX6_fastest.cls yX6_fastest yX6_fastest ∈ mjW := mjW_of 612 rfl rfl
set_option maxRecDepth 10000 in
theorem nk_X6_evenIn : mjnameOK yX6_evenIn cX6_evenIn 3 (some .int) 1 := ⟨⟨by decide, by decide, by decide +kernel⟩, mjW_of 621 rfl rfl, mjW_of 51 rfl rfl⟩
set_option maxRecDepth 10000 in
theorem im_X6_evenIn : Cond.instanceMethod yX6_evenIn ∈ mjW := mjW_of 619 rfl rfl
set_option maxRecDepth 10000 in
theorem se_X6_evenIn : Cond.selects yX6_evenIn.cls yX6_evenIn yX6_evenIn ∈ mjW := mjW_of 620 rfl rfl
set_option maxRecDepth 10000 in
theorem nk_X6_undo : mjnameOK yX6_undo cX6_undo 1 (some .int) 0 := ⟨⟨by decide, by decide, by decide +kernel⟩, mjW_of 625 rfl rfl, mjW_of 51 rfl rfl⟩
set_option maxRecDepth 10000 in
theorem im_X6_undo : Cond.instanceMethod yX6_undo ∈ mjW := mjW_of 623 rfl rfl
set_option maxRecDepth 10000 in
theorem se_X6_undo : Cond.selects yX6_undo.cls yX6_undo yX6_undo ∈ mjW := mjW_of 624 rfl rfl
set_option maxRecDepth 10000 in
theorem nk_X6_save : mjnameOK yX6_save cX6_save 1 (some .int) 0 := ⟨⟨by decide, by decide, by decide +kernel⟩, mjW_of 633 rfl rfl, mjW_of 51 rfl rfl⟩
set_option maxRecDepth 10000 in
theorem im_X6_save : Cond.instanceMethod yX6_save ∈ mjW := mjW_of 631 rfl rfl
set_option maxRecDepth 10000 in
theorem se_X6_save : Cond.selects yX6_save.cls yX6_save yX6_save ∈ mjW := mjW_of 632 rfl rfl
set_option maxRecDepth 10000 in
theorem nk_X6_restore : mjnameOK yX6_restore cX6_restore 1 (some .int) 0 := ⟨⟨by decide, by decide, by decide +kernel⟩, mjW_of 637 rfl rfl, mjW_of 51 rfl rfl⟩
set_option maxRecDepth 10000 in
theorem im_X6_restore : Cond.instanceMethod yX6_restore ∈ mjW := mjW_of 635 rfl rfl
set_option maxRecDepth 10000 in
theorem se_X6_restore : Cond.selects yX6_restore.cls yX6_restore yX6_restore ∈ mjW := mjW_of 636 rfl rfl
set_option maxRecDepth 10000 in
theorem nk_X6_isOutside : mjnameOK yX6_isOutside cX6_isOutside 3 (some .boolean) 3 := ⟨⟨by decide, by decide, by decide +kernel⟩, mjW_of 246 rfl rfl, mjW_of 51 rfl rfl⟩
set_option maxRecDepth 10000 in
theorem st_X6_isOutside : Cond.static yX6_isOutside ∈ mjW := mjW_of 245 rfl rfl
set_option maxRecDepth 10000 in
theorem nk_X7_init : mjnameOK yX7_init cX7_init 1 none 0 := ⟨⟨by decide, by decide, by decide +kernel⟩, mjW_of 642 rfl rfl, mjW_of 58 rfl rfl⟩
set_option maxRecDepth 10000 in
theorem im_X7_init : Cond.instanceMethod yX7_init ∈ mjW := mjW_of 641 rfl rfl
set_option maxRecDepth 10000 in
theorem nk_X7_in : mjnameOK yX7_in cX7_in 3 (some .boolean) 3 := ⟨⟨by decide, by decide, by decide +kernel⟩, mjW_of 706 rfl rfl, mjW_of 58 rfl rfl⟩
set_option maxRecDepth 10000 in
theorem st_X7_in : Cond.static yX7_in ∈ mjW := mjW_of 705 rfl rfl
set_option maxRecDepth 10000 in
theorem nk_X7_copies : mjnameOK yX7_copies cX7_copies 5 none 4 := ⟨⟨by decide, by decide, by decide +kernel⟩, mjW_of 713 rfl rfl, mjW_of 58 rfl rfl⟩
set_option maxRecDepth 10000 in
theorem st_X7_copies : Cond.static yX7_copies ∈ mjW := mjW_of 712 rfl rfl
set_option maxRecDepth 10000 in
theorem nk_X7_records : mjnameOK yX7_records cX7_records 2 none 0 := ⟨⟨by decide, by decide, by decide +kernel⟩, mjW_of 710 rfl rfl, mjW_of 58 rfl rfl⟩
set_option maxRecDepth 10000 in
theorem im_X7_records : Cond.instanceMethod yX7_records ∈ mjW := mjW_of 709 rfl rfl
set_option maxRecDepth 10000 in
theorem se_X7_records : Cond.selects yX7_records.cls yX7_records yX7_records ∈ mjW := mjW_of 22 rfl rfl
set_option maxRecDepth 10000 in
theorem nk_X7_isCell : mjnameOK yX7_isCell cX7_isCell 1 (some .boolean) 1 := ⟨⟨by decide, by decide, by decide +kernel⟩, mjW_of 797 rfl rfl, mjW_of 58 rfl rfl⟩
set_option maxRecDepth 10000 in
theorem st_X7_isCell : Cond.static yX7_isCell ∈ mjW := mjW_of 796 rfl rfl
set_option maxRecDepth 10000 in
theorem nk_X7_isJoint : mjnameOK yX7_isJoint cX7_isJoint 1 (some .boolean) 1 := ⟨⟨by decide, by decide, by decide +kernel⟩, mjW_of 782 rfl rfl, mjW_of 58 rfl rfl⟩
set_option maxRecDepth 10000 in
theorem st_X7_isJoint : Cond.static yX7_isJoint ∈ mjW := mjW_of 781 rfl rfl
set_option maxRecDepth 10000 in
theorem nk_X7_firstOf : mjnameOK yX7_firstOf cX7_firstOf 1 (some .int) 1 := ⟨⟨by decide, by decide, by decide +kernel⟩, mjW_of 747 rfl rfl, mjW_of 58 rfl rfl⟩
set_option maxRecDepth 10000 in
theorem st_X7_firstOf : Cond.static yX7_firstOf ∈ mjW := mjW_of 746 rfl rfl
set_option maxRecDepth 10000 in
theorem nk_X7_secondOf : mjnameOK yX7_secondOf cX7_secondOf 1 (some .int) 1 := ⟨⟨by decide, by decide, by decide +kernel⟩, mjW_of 750 rfl rfl, mjW_of 58 rfl rfl⟩
set_option maxRecDepth 10000 in
theorem st_X7_secondOf : Cond.static yX7_secondOf ∈ mjW := mjW_of 749 rfl rfl
set_option maxRecDepth 10000 in
theorem nk_X7_size : mjnameOK yX7_size cX7_size 1 (some .int) 1 := ⟨⟨by decide, by decide, by decide +kernel⟩, mjW_of 736 rfl rfl, mjW_of 58 rfl rfl⟩
set_option maxRecDepth 10000 in
theorem st_X7_size : Cond.static yX7_size ∈ mjW := mjW_of 735 rfl rfl
set_option maxRecDepth 10000 in
theorem nk_X7_isWhole : mjnameOK yX7_isWhole cX7_isWhole 2 (some .boolean) 1 := ⟨⟨by decide, by decide, by decide +kernel⟩, mjW_of 744 rfl rfl, mjW_of 58 rfl rfl⟩
set_option maxRecDepth 10000 in
theorem im_X7_isWhole : Cond.instanceMethod yX7_isWhole ∈ mjW := mjW_of 743 rfl rfl
set_option maxRecDepth 10000 in
theorem se_X7_isWhole : Cond.selects yX7_isWhole.cls yX7_isWhole yX7_isWhole ∈ mjW := mjW_of 27 rfl rfl
set_option maxRecDepth 10000 in
theorem nk_X7_stressOf : mjnameOK yX7_stressOf cX7_stressOf 2 (some .int) 1 := ⟨⟨by decide, by decide, by decide +kernel⟩, mjW_of 761 rfl rfl, mjW_of 58 rfl rfl⟩
set_option maxRecDepth 10000 in
theorem im_X7_stressOf : Cond.instanceMethod yX7_stressOf ∈ mjW := mjW_of 760 rfl rfl
set_option maxRecDepth 10000 in
theorem se_X7_stressOf : Cond.selects yX7_stressOf.cls yX7_stressOf yX7_stressOf ∈ mjW := mjW_of 29 rfl rfl
set_option maxRecDepth 10000 in
theorem nk_X7_marginOf : mjnameOK yX7_marginOf cX7_marginOf 2 (some .int) 1 := ⟨⟨by decide, by decide, by decide +kernel⟩, mjW_of 769 rfl rfl, mjW_of 58 rfl rfl⟩
set_option maxRecDepth 10000 in
theorem im_X7_marginOf : Cond.instanceMethod yX7_marginOf ∈ mjW := mjW_of 768 rfl rfl
set_option maxRecDepth 10000 in
theorem se_X7_marginOf : Cond.selects yX7_marginOf.cls yX7_marginOf yX7_marginOf ∈ mjW := mjW_of 31 rfl rfl
set_option maxRecDepth 10000 in
theorem nk_X7_has : mjnameOK yX7_has cX7_has 2 (some .boolean) 2 := ⟨⟨by decide, by decide, by decide +kernel⟩, mjW_of 775 rfl rfl, mjW_of 58 rfl rfl⟩
set_option maxRecDepth 10000 in
theorem st_X7_has : Cond.static yX7_has ∈ mjW := mjW_of 774 rfl rfl
set_option maxRecDepth 10000 in
theorem nk_X7_touch : mjnameOK yX7_touch cX7_touch 2 (some .boolean) 2 := ⟨⟨by decide, by decide, by decide +kernel⟩, mjW_of 772 rfl rfl, mjW_of 58 rfl rfl⟩
set_option maxRecDepth 10000 in
theorem st_X7_touch : Cond.static yX7_touch ∈ mjW := mjW_of 771 rfl rfl
set_option maxRecDepth 10000 in
theorem nk_X7_sidesOf : mjnameOK yX7_sidesOf cX7_sidesOf 3 (some .int) 1 := ⟨⟨by decide, by decide, by decide +kernel⟩, mjW_of 753 rfl rfl, mjW_of 58 rfl rfl⟩
set_option maxRecDepth 10000 in
theorem st_X7_sidesOf : Cond.static yX7_sidesOf ∈ mjW := mjW_of 752 rfl rfl
set_option maxRecDepth 10000 in
theorem nk_X7_goBegin : mjnameOK yX7_goBegin cX7_goBegin 3 (some .int) 1 := ⟨⟨by decide, by decide, by decide +kernel⟩, mjW_of 647 rfl rfl, mjW_of 58 rfl rfl⟩
set_option maxRecDepth 10000 in
theorem im_X7_goBegin : Cond.instanceMethod yX7_goBegin ∈ mjW := mjW_of 646 rfl rfl
set_option maxRecDepth 10000 in
theorem se_X7_goBegin : Cond.selects yX7_goBegin.cls yX7_goBegin yX7_goBegin ∈ mjW := mjW_of 21 rfl rfl
set_option maxRecDepth 10000 in
theorem nk_X7_flows : mjnameOK yX7_flows cX7_flows 3 none 0 := ⟨⟨by decide, by decide, by decide +kernel⟩, mjW_of 740 rfl rfl, mjW_of 58 rfl rfl⟩
set_option maxRecDepth 10000 in
theorem im_X7_flows : Cond.instanceMethod yX7_flows ∈ mjW := mjW_of 739 rfl rfl
set_option maxRecDepth 10000 in
theorem se_X7_flows : Cond.selects yX7_flows.cls yX7_flows yX7_flows ∈ mjW := mjW_of 26 rfl rfl
set_option maxRecDepth 10000 in
theorem nk_X7_worst : mjnameOK yX7_worst cX7_worst 4 (some .int) 0 := ⟨⟨by decide, by decide, by decide +kernel⟩, mjW_of 765 rfl rfl, mjW_of 58 rfl rfl⟩
set_option maxRecDepth 10000 in
theorem im_X7_worst : Cond.instanceMethod yX7_worst ∈ mjW := mjW_of 764 rfl rfl
set_option maxRecDepth 10000 in
theorem se_X7_worst : Cond.selects yX7_worst.cls yX7_worst yX7_worst ∈ mjW := mjW_of 30 rfl rfl
set_option maxRecDepth 10000 in
theorem nk_X7_greatestStress : mjnameOK yX7_greatestStress cX7_greatestStress 3 (some .int) 0 := ⟨⟨by decide, by decide, by decide +kernel⟩, mjW_of 757 rfl rfl, mjW_of 58 rfl rfl⟩
set_option maxRecDepth 10000 in
theorem im_X7_greatestStress : Cond.instanceMethod yX7_greatestStress ∈ mjW := mjW_of 756 rfl rfl
set_option maxRecDepth 10000 in
theorem se_X7_greatestStress : Cond.selects yX7_greatestStress.cls yX7_greatestStress yX7_greatestStress ∈ mjW := mjW_of 28 rfl rfl
set_option maxRecDepth 10000 in
theorem nk_X7_minute : mjnameOK yX7_minute cX7_minute 6 (some .int) 0 := ⟨⟨by decide, by decide, by decide +kernel⟩, mjW_of 733 rfl rfl, mjW_of 58 rfl rfl⟩
set_option maxRecDepth 10000 in
theorem im_X7_minute : Cond.instanceMethod yX7_minute ∈ mjW := mjW_of 732 rfl rfl
set_option maxRecDepth 10000 in
theorem se_X7_minute : Cond.selects yX7_minute.cls yX7_minute yX7_minute ∈ mjW := mjW_of 25 rfl rfl
set_option maxRecDepth 10000 in
theorem nk_X7_goPass : mjnameOK yX7_goPass cX7_goPass 4 (some .int) 1 := ⟨⟨by decide, by decide, by decide +kernel⟩, mjW_of 729 rfl rfl, mjW_of 58 rfl rfl⟩
set_option maxRecDepth 10000 in
theorem im_X7_goPass : Cond.instanceMethod yX7_goPass ∈ mjW := mjW_of 728 rfl rfl
set_option maxRecDepth 10000 in
theorem se_X7_goPass : Cond.selects yX7_goPass.cls yX7_goPass yX7_goPass ∈ mjW := mjW_of 24 rfl rfl
set_option maxRecDepth 10000 in
theorem nk_X7_cracked : mjnameOK yX7_cracked cX7_cracked 3 (some .int) 0 := ⟨⟨by decide, by decide, by decide +kernel⟩, mjW_of 790 rfl rfl, mjW_of 58 rfl rfl⟩
set_option maxRecDepth 10000 in
theorem im_X7_cracked : Cond.instanceMethod yX7_cracked ∈ mjW := mjW_of 789 rfl rfl
set_option maxRecDepth 10000 in
theorem se_X7_cracked : Cond.selects yX7_cracked.cls yX7_cracked yX7_cracked ∈ mjW := mjW_of 32 rfl rfl
set_option maxRecDepth 10000 in
theorem nk_X7_begin : mjnameOK yX7_begin cX7_begin 2 (some .int) 1 := ⟨⟨by decide, by decide, by decide +kernel⟩, mjW_of 703 rfl rfl, mjW_of 58 rfl rfl⟩
set_option maxRecDepth 10000 in
theorem im_X7_begin : Cond.instanceMethod yX7_begin ∈ mjW := mjW_of 701 rfl rfl
set_option maxRecDepth 10000 in
theorem se_X7_begin : Cond.selects yX7_begin.cls yX7_begin yX7_begin ∈ mjW := mjW_of 702 rfl rfl
set_option maxRecDepth 10000 in
theorem nk_X7_laysAim : mjnameOK yX7_laysAim cX7_laysAim 3 none 2 := ⟨⟨by decide, by decide, by decide +kernel⟩, mjW_of 721 rfl rfl, mjW_of 58 rfl rfl⟩
set_option maxRecDepth 10000 in
theorem im_X7_laysAim : Cond.instanceMethod yX7_laysAim ∈ mjW := mjW_of 720 rfl rfl
set_option maxRecDepth 10000 in
theorem se_X7_laysAim : Cond.selects yX7_laysAim.cls yX7_laysAim yX7_laysAim ∈ mjW := mjW_of 23 rfl rfl
set_option maxRecDepth 10000 in
theorem nk_X7_aim : mjnameOK yX7_aim cX7_aim 4 (some .int) 2 := ⟨⟨by decide, by decide, by decide +kernel⟩, mjW_of 717 rfl rfl, mjW_of 58 rfl rfl⟩
set_option maxRecDepth 10000 in
theorem im_X7_aim : Cond.instanceMethod yX7_aim ∈ mjW := mjW_of 715 rfl rfl
set_option maxRecDepth 10000 in
theorem se_X7_aim : Cond.selects yX7_aim.cls yX7_aim yX7_aim ∈ mjW := mjW_of 716 rfl rfl
set_option maxRecDepth 10000 in
theorem nk_X7_pass : mjnameOK yX7_pass cX7_pass 2 (some .int) 1 := ⟨⟨by decide, by decide, by decide +kernel⟩, mjW_of 725 rfl rfl, mjW_of 58 rfl rfl⟩
set_option maxRecDepth 10000 in
theorem im_X7_pass : Cond.instanceMethod yX7_pass ∈ mjW := mjW_of 723 rfl rfl
set_option maxRecDepth 10000 in
theorem se_X7_pass : Cond.selects yX7_pass.cls yX7_pass yX7_pass ∈ mjW := mjW_of 724 rfl rfl
set_option maxRecDepth 10000 in
theorem nk_X7_scratch : mjnameOK yX7_scratch cX7_scratch 4 (some .int) 2 := ⟨⟨by decide, by decide, by decide +kernel⟩, mjW_of 779 rfl rfl, mjW_of 58 rfl rfl⟩
set_option maxRecDepth 10000 in
theorem im_X7_scratch : Cond.instanceMethod yX7_scratch ∈ mjW := mjW_of 777 rfl rfl
set_option maxRecDepth 10000 in
theorem se_X7_scratch : Cond.selects yX7_scratch.cls yX7_scratch yX7_scratch ∈ mjW := mjW_of 778 rfl rfl
set_option maxRecDepth 10000 in
theorem nk_X7_mend : mjnameOK yX7_mend cX7_mend 2 (some .int) 1 := ⟨⟨by decide, by decide, by decide +kernel⟩, mjW_of 786 rfl rfl, mjW_of 58 rfl rfl⟩
set_option maxRecDepth 10000 in
theorem im_X7_mend : Cond.instanceMethod yX7_mend ∈ mjW := mjW_of 784 rfl rfl
set_option maxRecDepth 10000 in
theorem se_X7_mend : Cond.selects yX7_mend.cls yX7_mend yX7_mend ∈ mjW := mjW_of 785 rfl rfl
set_option maxRecDepth 10000 in
theorem nk_X7_heat : mjnameOK yX7_heat cX7_heat 4 (some .int) 2 := ⟨⟨by decide, by decide, by decide +kernel⟩, mjW_of 794 rfl rfl, mjW_of 58 rfl rfl⟩
set_option maxRecDepth 10000 in
theorem im_X7_heat : Cond.instanceMethod yX7_heat ∈ mjW := mjW_of 792 rfl rfl
set_option maxRecDepth 10000 in
theorem se_X7_heat : Cond.selects yX7_heat.cls yX7_heat yX7_heat ∈ mjW := mjW_of 793 rfl rfl
set_option maxRecDepth 10000 in
theorem nk_X7_set : mjnameOK yX7_set cX7_set 4 (some .int) 2 := ⟨⟨by decide, by decide, by decide +kernel⟩, mjW_of 801 rfl rfl, mjW_of 58 rfl rfl⟩
set_option maxRecDepth 10000 in
theorem im_X7_set : Cond.instanceMethod yX7_set ∈ mjW := mjW_of 799 rfl rfl
set_option maxRecDepth 10000 in
theorem se_X7_set : Cond.selects yX7_set.cls yX7_set yX7_set ∈ mjW := mjW_of 800 rfl rfl
set_option maxRecDepth 10000 in
theorem nk_X7_append : mjnameOK yX7_append cX7_append 2 (some .int) 1 := ⟨⟨by decide, by decide, by decide +kernel⟩, mjW_of 805 rfl rfl, mjW_of 58 rfl rfl⟩
set_option maxRecDepth 10000 in
theorem im_X7_append : Cond.instanceMethod yX7_append ∈ mjW := mjW_of 803 rfl rfl
set_option maxRecDepth 10000 in
theorem se_X7_append : Cond.selects yX7_append.cls yX7_append yX7_append ∈ mjW := mjW_of 804 rfl rfl
set_option maxRecDepth 10000 in
theorem nk_X7_clear : mjnameOK yX7_clear cX7_clear 2 (some .int) 0 := ⟨⟨by decide, by decide, by decide +kernel⟩, mjW_of 809 rfl rfl, mjW_of 58 rfl rfl⟩
set_option maxRecDepth 10000 in
theorem im_X7_clear : Cond.instanceMethod yX7_clear ∈ mjW := mjW_of 807 rfl rfl
set_option maxRecDepth 10000 in
theorem se_X7_clear : Cond.selects yX7_clear.cls yX7_clear yX7_clear ∈ mjW := mjW_of 808 rfl rfl
set_option maxRecDepth 10000 in
theorem nk_X7_here : mjnameOK yX7_here cX7_here 1 (some .int) 0 := ⟨⟨by decide, by decide, by decide +kernel⟩, mjW_of 825 rfl rfl, mjW_of 58 rfl rfl⟩
set_option maxRecDepth 10000 in
theorem im_X7_here : Cond.instanceMethod yX7_here ∈ mjW := mjW_of 824 rfl rfl
set_option maxRecDepth 10000 in
theorem se_X7_here : Cond.selects yX7_here.cls yX7_here yX7_here ∈ mjW := mjW_of 35 rfl rfl
set_option maxRecDepth 10000 in
theorem nk_X7_takes : mjnameOK yX7_takes cX7_takes 2 none 1 := ⟨⟨by decide, by decide, by decide +kernel⟩, mjW_of 829 rfl rfl, mjW_of 58 rfl rfl⟩
set_option maxRecDepth 10000 in
theorem im_X7_takes : Cond.instanceMethod yX7_takes ∈ mjW := mjW_of 828 rfl rfl
set_option maxRecDepth 10000 in
theorem se_X7_takes : Cond.selects yX7_takes.cls yX7_takes yX7_takes ∈ mjW := mjW_of 36 rfl rfl
set_option maxRecDepth 10000 in
theorem nk_X7_takesNumber : mjnameOK yX7_takesNumber cX7_takesNumber 4 (some .int) 2 := ⟨⟨by decide, by decide, by decide +kernel⟩, mjW_of 833 rfl rfl, mjW_of 58 rfl rfl⟩
set_option maxRecDepth 10000 in
theorem im_X7_takesNumber : Cond.instanceMethod yX7_takesNumber ∈ mjW := mjW_of 832 rfl rfl
set_option maxRecDepth 10000 in
theorem se_X7_takesNumber : Cond.selects yX7_takesNumber.cls yX7_takesNumber yX7_takesNumber ∈ mjW := mjW_of 37 rfl rfl
set_option maxRecDepth 10000 in
theorem nk_X7_takesSegment : mjnameOK yX7_takesSegment cX7_takesSegment 1 none 0 := ⟨⟨by decide, by decide, by decide +kernel⟩, mjW_of 821 rfl rfl, mjW_of 58 rfl rfl⟩
set_option maxRecDepth 10000 in
theorem im_X7_takesSegment : Cond.instanceMethod yX7_takesSegment ∈ mjW := mjW_of 820 rfl rfl
set_option maxRecDepth 10000 in
theorem se_X7_takesSegment : Cond.selects yX7_takesSegment.cls yX7_takesSegment yX7_takesSegment ∈ mjW := mjW_of 34 rfl rfl
set_option maxRecDepth 10000 in
theorem nk_X7_isProgram : mjnameOK yX7_isProgram cX7_isProgram 1 (some .boolean) 0 := ⟨⟨by decide, by decide, by decide +kernel⟩, mjW_of 817 rfl rfl, mjW_of 58 rfl rfl⟩
set_option maxRecDepth 10000 in
theorem im_X7_isProgram : Cond.instanceMethod yX7_isProgram ∈ mjW := mjW_of 816 rfl rfl
set_option maxRecDepth 10000 in
theorem se_X7_isProgram : Cond.selects yX7_isProgram.cls yX7_isProgram yX7_isProgram ∈ mjW := mjW_of 33 rfl rfl
set_option maxRecDepth 10000 in
theorem nk_X7_fault : mjnameOK yX7_fault cX7_fault 1 (some .int) 0 := ⟨⟨by decide, by decide, by decide +kernel⟩, mjW_of 813 rfl rfl, mjW_of 58 rfl rfl⟩
set_option maxRecDepth 10000 in
theorem im_X7_fault : Cond.instanceMethod yX7_fault ∈ mjW := mjW_of 811 rfl rfl
set_option maxRecDepth 10000 in
theorem se_X7_fault : Cond.selects yX7_fault.cls yX7_fault yX7_fault ∈ mjW := mjW_of 812 rfl rfl
set_option maxRecDepth 10000 in
theorem nk_X7_run : mjnameOK yX7_run cX7_run 3 (some .int) 0 := ⟨⟨by decide, by decide, by decide +kernel⟩, mjW_of 837 rfl rfl, mjW_of 58 rfl rfl⟩
set_option maxRecDepth 10000 in
theorem im_X7_run : Cond.instanceMethod yX7_run ∈ mjW := mjW_of 835 rfl rfl
set_option maxRecDepth 10000 in
theorem se_X7_run : Cond.selects yX7_run.cls yX7_run yX7_run ∈ mjW := mjW_of 836 rfl rfl
set_option maxRecDepth 10000 in
theorem nk_X7_names : mjnameOK yX7_names cX7_names 5 none 0 := ⟨⟨by decide, by decide, by decide +kernel⟩, mjW_of 845 rfl rfl, mjW_of 58 rfl rfl⟩
set_option maxRecDepth 10000 in
theorem im_X7_names : Cond.instanceMethod yX7_names ∈ mjW := mjW_of 844 rfl rfl
set_option maxRecDepth 10000 in
theorem se_X7_names : Cond.selects yX7_names.cls yX7_names yX7_names ∈ mjW := mjW_of 38 rfl rfl
set_option maxRecDepth 10000 in
theorem nk_X7_cellsOf : mjnameOK yX7_cellsOf cX7_cellsOf 4 (some .int) 1 := ⟨⟨by decide, by decide, by decide +kernel⟩, mjW_of 854 rfl rfl, mjW_of 58 rfl rfl⟩
set_option maxRecDepth 10000 in
theorem im_X7_cellsOf : Cond.instanceMethod yX7_cellsOf ∈ mjW := mjW_of 853 rfl rfl
set_option maxRecDepth 10000 in
theorem se_X7_cellsOf : Cond.selects yX7_cellsOf.cls yX7_cellsOf yX7_cellsOf ∈ mjW := mjW_of 39 rfl rfl
set_option maxRecDepth 10000 in
theorem nk_X7_greatestPiece : mjnameOK yX7_greatestPiece cX7_greatestPiece 3 (some .int) 0 := ⟨⟨by decide, by decide, by decide +kernel⟩, mjW_of 907 rfl rfl, mjW_of 58 rfl rfl⟩
set_option maxRecDepth 10000 in
theorem im_X7_greatestPiece : Cond.instanceMethod yX7_greatestPiece ∈ mjW := mjW_of 906 rfl rfl
set_option maxRecDepth 10000 in
theorem se_X7_greatestPiece : Cond.selects yX7_greatestPiece.cls yX7_greatestPiece yX7_greatestPiece ∈ mjW := mjW_of 48 rfl rfl
set_option maxRecDepth 10000 in
theorem nk_X7_pieces : mjnameOK yX7_pieces cX7_pieces 4 (some .int) 1 := ⟨⟨by decide, by decide, by decide +kernel⟩, mjW_of 841 rfl rfl, mjW_of 58 rfl rfl⟩
set_option maxRecDepth 10000 in
theorem im_X7_pieces : Cond.instanceMethod yX7_pieces ∈ mjW := mjW_of 839 rfl rfl
set_option maxRecDepth 10000 in
theorem se_X7_pieces : Cond.selects yX7_pieces.cls yX7_pieces yX7_pieces ∈ mjW := mjW_of 840 rfl rfl
set_option maxRecDepth 10000 in
theorem nk_X7_mean : mjnameOK yX7_mean cX7_mean 4 (some .double) 1 := ⟨⟨by decide, by decide, by decide +kernel⟩, mjW_of 849 rfl rfl, mjW_of 58 rfl rfl⟩
set_option maxRecDepth 10000 in
theorem im_X7_mean : Cond.instanceMethod yX7_mean ∈ mjW := mjW_of 847 rfl rfl
set_option maxRecDepth 10000 in
theorem se_X7_mean : Cond.selects yX7_mean.cls yX7_mean yX7_mean ∈ mjW := mjW_of 848 rfl rfl
set_option maxRecDepth 10000 in
theorem nk_X7_wholeOf : mjnameOK yX7_wholeOf cX7_wholeOf 4 (some .int) 1 := ⟨⟨by decide, by decide, by decide +kernel⟩, mjW_of 866 rfl rfl, mjW_of 58 rfl rfl⟩
set_option maxRecDepth 10000 in
theorem im_X7_wholeOf : Cond.instanceMethod yX7_wholeOf ∈ mjW := mjW_of 865 rfl rfl
set_option maxRecDepth 10000 in
theorem se_X7_wholeOf : Cond.selects yX7_wholeOf.cls yX7_wholeOf yX7_wholeOf ∈ mjW := mjW_of 41 rfl rfl
set_option maxRecDepth 10000 in
theorem nk_X7_stressAt : mjnameOK yX7_stressAt cX7_stressAt 4 (some .int) 1 := ⟨⟨by decide, by decide, by decide +kernel⟩, mjW_of 870 rfl rfl, mjW_of 58 rfl rfl⟩
set_option maxRecDepth 10000 in
theorem im_X7_stressAt : Cond.instanceMethod yX7_stressAt ∈ mjW := mjW_of 869 rfl rfl
set_option maxRecDepth 10000 in
theorem se_X7_stressAt : Cond.selects yX7_stressAt.cls yX7_stressAt yX7_stressAt ∈ mjW := mjW_of 42 rfl rfl
set_option maxRecDepth 10000 in
theorem nk_X7_pieceOf : mjnameOK yX7_pieceOf cX7_pieceOf 2 (some .int) 1 := ⟨⟨by decide, by decide, by decide +kernel⟩, mjW_of 862 rfl rfl, mjW_of 58 rfl rfl⟩
set_option maxRecDepth 10000 in
theorem im_X7_pieceOf : Cond.instanceMethod yX7_pieceOf ∈ mjW := mjW_of 861 rfl rfl
set_option maxRecDepth 10000 in
theorem se_X7_pieceOf : Cond.selects yX7_pieceOf.cls yX7_pieceOf yX7_pieceOf ∈ mjW := mjW_of 40 rfl rfl
set_option maxRecDepth 10000 in
theorem nk_X7_cell : mjnameOK yX7_cell cX7_cell 3 (some .int) 2 := ⟨⟨by decide, by decide, by decide +kernel⟩, mjW_of 858 rfl rfl, mjW_of 58 rfl rfl⟩
set_option maxRecDepth 10000 in
theorem im_X7_cell : Cond.instanceMethod yX7_cell ∈ mjW := mjW_of 856 rfl rfl
set_option maxRecDepth 10000 in
theorem se_X7_cell : Cond.selects yX7_cell.cls yX7_cell yX7_cell ∈ mjW := mjW_of 857 rfl rfl
set_option maxRecDepth 10000 in
theorem nk_X7_touching : mjnameOK yX7_touching cX7_touching 4 (some .int) 1 := ⟨⟨by decide, by decide, by decide +kernel⟩, mjW_of 878 rfl rfl, mjW_of 58 rfl rfl⟩
set_option maxRecDepth 10000 in
theorem im_X7_touching : Cond.instanceMethod yX7_touching ∈ mjW := mjW_of 877 rfl rfl
set_option maxRecDepth 10000 in
theorem se_X7_touching : Cond.selects yX7_touching.cls yX7_touching yX7_touching ∈ mjW := mjW_of 43 rfl rfl
set_option maxRecDepth 10000 in
theorem nk_X7_joint : mjnameOK yX7_joint cX7_joint 3 (some .int) 2 := ⟨⟨by decide, by decide, by decide +kernel⟩, mjW_of 874 rfl rfl, mjW_of 58 rfl rfl⟩
set_option maxRecDepth 10000 in
theorem im_X7_joint : Cond.instanceMethod yX7_joint ∈ mjW := mjW_of 872 rfl rfl
set_option maxRecDepth 10000 in
theorem se_X7_joint : Cond.selects yX7_joint.cls yX7_joint yX7_joint ∈ mjW := mjW_of 873 rfl rfl
set_option maxRecDepth 10000 in
theorem nk_X7_isAhead : mjnameOK yX7_isAhead cX7_isAhead 3 (some .boolean) 2 := ⟨⟨by decide, by decide, by decide +kernel⟩, mjW_of 886 rfl rfl, mjW_of 58 rfl rfl⟩
set_option maxRecDepth 10000 in
theorem im_X7_isAhead : Cond.instanceMethod yX7_isAhead ∈ mjW := mjW_of 885 rfl rfl
set_option maxRecDepth 10000 in
theorem se_X7_isAhead : Cond.selects yX7_isAhead.cls yX7_isAhead yX7_isAhead ∈ mjW := mjW_of 44 rfl rfl
set_option maxRecDepth 10000 in
theorem nk_X7_strained : mjnameOK yX7_strained cX7_strained 6 (some .int) 1 := ⟨⟨by decide, by decide, by decide +kernel⟩, mjW_of 882 rfl rfl, mjW_of 58 rfl rfl⟩
set_option maxRecDepth 10000 in
theorem im_X7_strained : Cond.instanceMethod yX7_strained ∈ mjW := mjW_of 880 rfl rfl
set_option maxRecDepth 10000 in
theorem se_X7_strained : Cond.selects yX7_strained.cls yX7_strained yX7_strained ∈ mjW := mjW_of 881 rfl rfl
set_option maxRecDepth 10000 in
theorem nk_X7_sumOfHeats : mjnameOK yX7_sumOfHeats cX7_sumOfHeats 3 (some .int) 0 := ⟨⟨by decide, by decide, by decide +kernel⟩, mjW_of 894 rfl rfl, mjW_of 58 rfl rfl⟩
set_option maxRecDepth 10000 in
theorem im_X7_sumOfHeats : Cond.instanceMethod yX7_sumOfHeats ∈ mjW := mjW_of 893 rfl rfl
set_option maxRecDepth 10000 in
theorem se_X7_sumOfHeats : Cond.selects yX7_sumOfHeats.cls yX7_sumOfHeats yX7_sumOfHeats ∈ mjW := mjW_of 45 rfl rfl
set_option maxRecDepth 10000 in
theorem nk_X7_heatMost : mjnameOK yX7_heatMost cX7_heatMost 5 (some .int) 1 := ⟨⟨by decide, by decide, by decide +kernel⟩, mjW_of 898 rfl rfl, mjW_of 58 rfl rfl⟩
set_option maxRecDepth 10000 in
theorem im_X7_heatMost : Cond.instanceMethod yX7_heatMost ∈ mjW := mjW_of 897 rfl rfl
set_option maxRecDepth 10000 in
theorem se_X7_heatMost : Cond.selects yX7_heatMost.cls yX7_heatMost yX7_heatMost ∈ mjW := mjW_of 46 rfl rfl
set_option maxRecDepth 10000 in
theorem nk_X7_leastMargin : mjnameOK yX7_leastMargin cX7_leastMargin 2 (some .int) 0 := ⟨⟨by decide, by decide, by decide +kernel⟩, mjW_of 902 rfl rfl, mjW_of 58 rfl rfl⟩
set_option maxRecDepth 10000 in
theorem im_X7_leastMargin : Cond.instanceMethod yX7_leastMargin ∈ mjW := mjW_of 901 rfl rfl
set_option maxRecDepth 10000 in
theorem se_X7_leastMargin : Cond.selects yX7_leastMargin.cls yX7_leastMargin yX7_leastMargin ∈ mjW := mjW_of 47 rfl rfl
set_option maxRecDepth 10000 in
theorem nk_X7_count : mjnameOK yX7_count cX7_count 2 (some .int) 1 := ⟨⟨by decide, by decide, by decide +kernel⟩, mjW_of 890 rfl rfl, mjW_of 58 rfl rfl⟩
set_option maxRecDepth 10000 in
theorem im_X7_count : Cond.instanceMethod yX7_count ∈ mjW := mjW_of 888 rfl rfl
set_option maxRecDepth 10000 in
theorem se_X7_count : Cond.selects yX7_count.cls yX7_count yX7_count ∈ mjW := mjW_of 889 rfl rfl
set_option maxRecDepth 10000 in
theorem nk_X7_ifPassed : mjnameOK yX7_ifPassed cX7_ifPassed 8 (some .int) 2 := ⟨⟨by decide, by decide, by decide +kernel⟩, mjW_of 911 rfl rfl, mjW_of 58 rfl rfl⟩
set_option maxRecDepth 10000 in
theorem im_X7_ifPassed : Cond.instanceMethod yX7_ifPassed ∈ mjW := mjW_of 909 rfl rfl
set_option maxRecDepth 10000 in
theorem se_X7_ifPassed : Cond.selects yX7_ifPassed.cls yX7_ifPassed yX7_ifPassed ∈ mjW := mjW_of 910 rfl rfl
set_option maxRecDepth 10000 in
theorem nk_X7_isHarmless : mjnameOK yX7_isHarmless cX7_isHarmless 6 (some .boolean) 3 := ⟨⟨by decide, by decide, by decide +kernel⟩, mjW_of 919 rfl rfl, mjW_of 58 rfl rfl⟩
set_option maxRecDepth 10000 in
theorem im_X7_isHarmless : Cond.instanceMethod yX7_isHarmless ∈ mjW := mjW_of 918 rfl rfl
set_option maxRecDepth 10000 in
theorem se_X7_isHarmless : Cond.selects yX7_isHarmless.cls yX7_isHarmless yX7_isHarmless ∈ mjW := mjW_of 49 rfl rfl
set_option maxRecDepth 10000 in
theorem nk_X7_fastest : mjnameOK yX7_fastest cX7_fastest 4 (some .int) 2 := ⟨⟨by decide, by decide, by decide +kernel⟩, mjW_of 915 rfl rfl, mjW_of 58 rfl rfl⟩
set_option maxRecDepth 10000 in
theorem im_X7_fastest : Cond.instanceMethod yX7_fastest ∈ mjW := mjW_of 913 rfl rfl
set_option maxRecDepth 10000 in
theorem se_X7_fastest : Cond.selects yX7_fastest.cls yX7_fastest yX7_fastest ∈ mjW := mjW_of 914 rfl rfl
set_option maxRecDepth 10000 in
theorem nk_X7_evenIn : mjnameOK yX7_evenIn cX7_evenIn 4 (some .int) 1 := ⟨⟨by decide, by decide, by decide +kernel⟩, mjW_of 923 rfl rfl, mjW_of 58 rfl rfl⟩
set_option maxRecDepth 10000 in
theorem im_X7_evenIn : Cond.instanceMethod yX7_evenIn ∈ mjW := mjW_of 921 rfl rfl
set_option maxRecDepth 10000 in
theorem se_X7_evenIn : Cond.selects yX7_evenIn.cls yX7_evenIn yX7_evenIn ∈ mjW := mjW_of 922 rfl rfl
set_option maxRecDepth 10000 in
theorem nk_X7_undo : mjnameOK yX7_undo cX7_undo 1 (some .int) 0 := ⟨⟨by decide, by decide, by decide +kernel⟩, mjW_of 927 rfl rfl, mjW_of 58 rfl rfl⟩
set_option maxRecDepth 10000 in
theorem im_X7_undo : Cond.instanceMethod yX7_undo ∈ mjW := mjW_of 925 rfl rfl
set_option maxRecDepth 10000 in
theorem se_X7_undo : Cond.selects yX7_undo.cls yX7_undo yX7_undo ∈ mjW := mjW_of 926 rfl rfl
set_option maxRecDepth 10000 in
theorem nk_X7_save : mjnameOK yX7_save cX7_save 1 (some .int) 0 := ⟨⟨by decide, by decide, by decide +kernel⟩, mjW_of 931 rfl rfl, mjW_of 58 rfl rfl⟩
set_option maxRecDepth 10000 in
theorem im_X7_save : Cond.instanceMethod yX7_save ∈ mjW := mjW_of 929 rfl rfl
set_option maxRecDepth 10000 in
theorem se_X7_save : Cond.selects yX7_save.cls yX7_save yX7_save ∈ mjW := mjW_of 930 rfl rfl
set_option maxRecDepth 10000 in
theorem nk_X7_restore : mjnameOK yX7_restore cX7_restore 1 (some .int) 0 := ⟨⟨by decide, by decide, by decide +kernel⟩, mjW_of 935 rfl rfl, mjW_of 58 rfl rfl⟩
set_option maxRecDepth 10000 in
theorem im_X7_restore : Cond.instanceMethod yX7_restore ∈ mjW := mjW_of 933 rfl rfl
set_option maxRecDepth 10000 in
theorem se_X7_restore : Cond.selects yX7_restore.cls yX7_restore yX7_restore ∈ mjW := mjW_of 934 rfl rfl
set_option maxRecDepth 10000 in
theorem nk_J9_abs_0f7a4 : mjnameOK yJ9_abs_0f7a4 cJ9_abs_0f7a4 1 (some .int) 1 := ⟨⟨by decide, by decide, by decide +kernel⟩, mjW_of 354 rfl rfl, mjW_of 60 rfl rfl⟩
set_option maxRecDepth 10000 in
theorem st_J9_abs_0f7a4 : Cond.static yJ9_abs_0f7a4 ∈ mjW := mjW_of 353 rfl rfl
set_option maxRecDepth 10000 in
theorem nk_J9_max_7cf53 : mjnameOK yJ9_max_7cf53 cJ9_max_7cf53 2 (some .int) 2 := ⟨⟨by decide, by decide, by decide +kernel⟩, mjW_of 296 rfl rfl, mjW_of 60 rfl rfl⟩
set_option maxRecDepth 10000 in
theorem st_J9_max_7cf53 : Cond.static yJ9_max_7cf53 ∈ mjW := mjW_of 295 rfl rfl
set_option maxRecDepth 10000 in
theorem nk_J9_min_7cf53 : mjnameOK yJ9_min_7cf53 cJ9_min_7cf53 2 (some .int) 2 := ⟨⟨by decide, by decide, by decide +kernel⟩, mjW_of 293 rfl rfl, mjW_of 60 rfl rfl⟩
set_option maxRecDepth 10000 in
theorem st_J9_min_7cf53 : Cond.static yJ9_min_7cf53 ∈ mjW := mjW_of 292 rfl rfl
set_option maxRecDepth 10000 in
theorem nk_J7_fill_53178 : mjnameOK yJ7_fill_53178 cJ7_fill_53178 4 none 2 := ⟨⟨by decide, by decide, by decide +kernel⟩, mjW_of 82 rfl rfl, mjW_of 53 rfl rfl⟩
set_option maxRecDepth 10000 in
theorem st_J7_fill_53178 : Cond.static yJ7_fill_53178 ∈ mjW := mjW_of 81 rfl rfl
set_option maxRecDepth 10000 in
theorem ii_L : Cond.initialized RL ∈ mjW := mjW_of 50 rfl rfl
set_option maxRecDepth 10000 in
theorem ii_X6 : Cond.initialized RX6 ∈ mjW := mjW_of 51 rfl rfl
set_option maxRecDepth 10000 in
theorem ii_X4 : Cond.initialized RX4 ∈ mjW := mjW_of 52 rfl rfl
set_option maxRecDepth 10000 in
theorem ii_J7 : Cond.initialized RJ7 ∈ mjW := mjW_of 53 rfl rfl
set_option maxRecDepth 10000 in
theorem ii_X2 : Cond.initialized RX2 ∈ mjW := mjW_of 54 rfl rfl
set_option maxRecDepth 10000 in
theorem ii_X3 : Cond.initialized RX3 ∈ mjW := mjW_of 55 rfl rfl
set_option maxRecDepth 10000 in
theorem ii_X5 : Cond.initialized RX5 ∈ mjW := mjW_of 56 rfl rfl
set_option maxRecDepth 10000 in
theorem ii_X0 : Cond.initialized RX0 ∈ mjW := mjW_of 57 rfl rfl
set_option maxRecDepth 10000 in
theorem ii_X7 : Cond.initialized RX7 ∈ mjW := mjW_of 58 rfl rfl
set_option maxRecDepth 10000 in
theorem cp_ini : Cond.initialized "java/lang/System" ∈ mjW := mjW_of 59 rfl rfl
set_option maxRecDepth 10000 in
theorem ii_J10 : Cond.initialized RJ10 ∈ mjW := mjW_of 59 rfl rfl
set_option maxRecDepth 10000 in
theorem ii_J9 : Cond.initialized RJ9 ∈ mjW := mjW_of 60 rfl rfl
set_option maxRecDepth 10000 in
theorem ii_X1 : Cond.initialized RX1 ∈ mjW := mjW_of 61 rfl rfl
set_option maxRecDepth 10000 in
theorem cl_L_7 : Cond.classLink RL 7 RX6 ∈ mjW := mjW_of 62 rfl rfl
set_option maxRecDepth 10000 in
theorem it_X6 : Cond.instantiable RX6 8 ∈ mjW := mjW_of 63 rfl rfl
set_option maxRecDepth 10000 in
theorem ln_L_9 : Cond.methodLink RL 9 yX6_init ∈ mjW := mjW_of 64 rfl rfl
set_option maxRecDepth 10000 in
theorem ln_X6_3 : Cond.methodLink RX6 3 Lib.objectInit ∈ mjW := mjW_of 67 rfl rfl
set_option maxRecDepth 10000 in
theorem ob_im : Cond.instanceMethod Lib.objectInit ∈ mjW := mjW_of 68 rfl rfl
set_option maxRecDepth 10000 in
theorem ob_code : Cond.code Lib.objectInit ⟨#[0xb1]⟩ 1 none ∈ mjW := mjW_of 69 rfl rfl
set_option maxRecDepth 10000 in
theorem cl_X6_9 : Cond.classLink RX6 9 RX4 ∈ mjW := mjW_of 70 rfl rfl
set_option maxRecDepth 10000 in
theorem it_X4 : Cond.instantiable RX4 12 ∈ mjW := mjW_of 71 rfl rfl
set_option maxRecDepth 10000 in
theorem ln_X6_11 : Cond.methodLink RX6 11 yX4_init ∈ mjW := mjW_of 72 rfl rfl
set_option maxRecDepth 10000 in
theorem ln_X4_3 : Cond.methodLink RX4 3 Lib.objectInit ∈ mjW := mjW_of 75 rfl rfl
set_option maxRecDepth 10000 in
theorem ln_X4_34 : Cond.methodLink RX4 34 yX4_renew ∈ mjW := mjW_of 76 rfl rfl
set_option maxRecDepth 10000 in
theorem ln_X4_38 : Cond.methodLink RX4 38 yJ7_fill_53178 ∈ mjW := mjW_of 80 rfl rfl
set_option maxRecDepth 10000 in
theorem ac_int : Cond.arrayClass .int ∈ mjW := mjW_of 128 rfl rfl
set_option maxRecDepth 10000 in
theorem cl_X6_26 : Cond.classLink RX6 26 RX2 ∈ mjW := mjW_of 129 rfl rfl
set_option maxRecDepth 10000 in
theorem it_X2 : Cond.instantiable RX2 2 ∈ mjW := mjW_of 130 rfl rfl
set_option maxRecDepth 10000 in
theorem ln_X6_28 : Cond.methodLink RX6 28 yX2_init ∈ mjW := mjW_of 131 rfl rfl
set_option maxRecDepth 10000 in
theorem ln_X2_3 : Cond.methodLink RX2 3 Lib.objectInit ∈ mjW := mjW_of 134 rfl rfl
set_option maxRecDepth 10000 in
theorem cl_X2_9 : Cond.classLink RX2 9 RX4 ∈ mjW := mjW_of 135 rfl rfl
set_option maxRecDepth 10000 in
theorem ln_X2_21 : Cond.methodLink RX2 21 yX4_init ∈ mjW := mjW_of 137 rfl rfl
set_option maxRecDepth 10000 in
theorem cl_X6_33 : Cond.classLink RX6 33 RX3 ∈ mjW := mjW_of 146 rfl rfl
set_option maxRecDepth 10000 in
theorem it_X3 : Cond.instantiable RX3 8 ∈ mjW := mjW_of 147 rfl rfl
set_option maxRecDepth 10000 in
theorem ln_X3_3 : Cond.methodLink RX3 3 Lib.objectInit ∈ mjW := mjW_of 151 rfl rfl
set_option maxRecDepth 10000 in
theorem ac_char : Cond.arrayClass .char ∈ mjW := mjW_of 179 rfl rfl
set_option maxRecDepth 10000 in
theorem cl_X6_40 : Cond.classLink RX6 40 RX5 ∈ mjW := mjW_of 180 rfl rfl
set_option maxRecDepth 10000 in
theorem it_X5 : Cond.instantiable RX5 3 ∈ mjW := mjW_of 181 rfl rfl
set_option maxRecDepth 10000 in
theorem ln_X5_3 : Cond.methodLink RX5 3 Lib.objectInit ∈ mjW := mjW_of 185 rfl rfl
set_option maxRecDepth 10000 in
theorem cl_X6_47 : Cond.classLink RX6 47 RX0 ∈ mjW := mjW_of 196 rfl rfl
set_option maxRecDepth 10000 in
theorem it_X0 : Cond.instantiable RX0 3 ∈ mjW := mjW_of 197 rfl rfl
set_option maxRecDepth 10000 in
theorem ln_X0_3 : Cond.methodLink RX0 3 Lib.objectInit ∈ mjW := mjW_of 201 rfl rfl
set_option maxRecDepth 10000 in
theorem ln_L_13 : Cond.methodLink RL 13 yX6_begin ∈ mjW := mjW_of 240 rfl rfl
set_option maxRecDepth 10000 in
theorem ln_X6_54 : Cond.methodLink RX6 54 yX6_isOutside ∈ mjW := mjW_of 244 rfl rfl
set_option maxRecDepth 10000 in
theorem ln_X6_58 : Cond.methodLink RX6 58 yX2_record ∈ mjW := mjW_of 247 rfl rfl
set_option maxRecDepth 10000 in
theorem ln_X2_22 : Cond.methodLink RX2 22 yX2_dropOldest ∈ mjW := mjW_of 251 rfl rfl
set_option maxRecDepth 10000 in
theorem ln_X2_25 : Cond.methodLink RX2 25 yX2_stateAt ∈ mjW := mjW_of 255 rfl rfl
set_option maxRecDepth 10000 in
theorem ln_X2_29 : Cond.methodLink RX2 29 yX4_copyFrom ∈ mjW := mjW_of 259 rfl rfl
set_option maxRecDepth 10000 in
theorem ln_X4_59 : Cond.methodLink RX4 59 arraycopyName ∈ mjW := mjW_of 263 rfl rfl
set_option maxRecDepth 10000 in
theorem cp_st : Cond.static arraycopyName ∈ mjW := mjW_of 264 rfl rfl
set_option maxRecDepth 10000 in
theorem cp_nat : Cond.native arraycopyName ∈ mjW := mjW_of 265 rfl rfl
set_option maxRecDepth 10000 in
theorem ln_X6_62 : Cond.methodLink RX6 62 yX4_renew ∈ mjW := mjW_of 266 rfl rfl
set_option maxRecDepth 10000 in
theorem ln_X6_66 : Cond.methodLink RX6 66 yX4_sumOfHeats ∈ mjW := mjW_of 267 rfl rfl
set_option maxRecDepth 10000 in
theorem ln_L_18 : Cond.methodLink RL 18 yX6_aim ∈ mjW := mjW_of 271 rfl rfl
set_option maxRecDepth 10000 in
theorem ln_L_23 : Cond.methodLink RL 23 yX6_pass ∈ mjW := mjW_of 275 rfl rfl
set_option maxRecDepth 10000 in
theorem ln_X6_77 : Cond.methodLink RX6 77 yX4_passMinutes ∈ mjW := mjW_of 279 rfl rfl
set_option maxRecDepth 10000 in
theorem ln_X4_65 : Cond.methodLink RX4 65 yX4_letHeatFlow ∈ mjW := mjW_of 283 rfl rfl
set_option maxRecDepth 10000 in
theorem ln_X4_72 : Cond.methodLink RX4 72 yX4_moveFurnace ∈ mjW := mjW_of 287 rfl rfl
set_option maxRecDepth 10000 in
theorem ln_X4_81 : Cond.methodLink RX4 81 yJ9_min_7cf53 ∈ mjW := mjW_of 291 rfl rfl
set_option maxRecDepth 10000 in
theorem ln_X4_87 : Cond.methodLink RX4 87 yJ9_max_7cf53 ∈ mjW := mjW_of 294 rfl rfl
set_option maxRecDepth 10000 in
theorem ln_X4_75 : Cond.methodLink RX4 75 yX4_flowOverJoints ∈ mjW := mjW_of 297 rfl rfl
set_option maxRecDepth 10000 in
theorem ln_X4_90 : Cond.methodLink RX4 90 yX4_isWhole ∈ mjW := mjW_of 301 rfl rfl
set_option maxRecDepth 10000 in
theorem ln_X4_94 : Cond.methodLink RX4 94 yX1_firstCell ∈ mjW := mjW_of 305 rfl rfl
set_option maxRecDepth 10000 in
theorem ln_X4_100 : Cond.methodLink RX4 100 yX1_secondCell ∈ mjW := mjW_of 308 rfl rfl
set_option maxRecDepth 10000 in
theorem ln_X4_103 : Cond.methodLink RX4 103 yX4_heatAt ∈ mjW := mjW_of 311 rfl rfl
set_option maxRecDepth 10000 in
theorem ln_X4_106 : Cond.methodLink RX4 106 yX4_gain ∈ mjW := mjW_of 315 rfl rfl
set_option maxRecDepth 10000 in
theorem ln_X4_113 : Cond.methodLink RX4 113 yX1_isCell ∈ mjW := mjW_of 319 rfl rfl
set_option maxRecDepth 10000 in
theorem ln_X4_78 : Cond.methodLink RX4 78 yX4_flowAtRim ∈ mjW := mjW_of 322 rfl rfl
set_option maxRecDepth 10000 in
theorem ln_X4_110 : Cond.methodLink RX4 110 yX1_rimSides ∈ mjW := mjW_of 326 rfl rfl
set_option maxRecDepth 10000 in
theorem ln_X4_68 : Cond.methodLink RX4 68 yX4_crackWorst ∈ mjW := mjW_of 329 rfl rfl
set_option maxRecDepth 10000 in
theorem ln_X4_116 : Cond.methodLink RX4 116 yX4_mostStrained ∈ mjW := mjW_of 333 rfl rfl
set_option maxRecDepth 10000 in
theorem ln_X4_120 : Cond.methodLink RX4 120 yX4_marginOf ∈ mjW := mjW_of 337 rfl rfl
set_option maxRecDepth 10000 in
theorem ln_X4_136 : Cond.methodLink RX4 136 yX4_strengthOf ∈ mjW := mjW_of 341 rfl rfl
set_option maxRecDepth 10000 in
theorem ln_X4_130 : Cond.methodLink RX4 130 yX1_isJoint ∈ mjW := mjW_of 345 rfl rfl
set_option maxRecDepth 10000 in
theorem ln_X4_139 : Cond.methodLink RX4 139 yX4_stressOf ∈ mjW := mjW_of 348 rfl rfl
set_option maxRecDepth 10000 in
theorem ln_X4_133 : Cond.methodLink RX4 133 yJ9_abs_0f7a4 ∈ mjW := mjW_of 352 rfl rfl
set_option maxRecDepth 10000 in
theorem ln_X4_123 : Cond.methodLink RX4 123 yX4_weakenBeside ∈ mjW := mjW_of 355 rfl rfl
set_option maxRecDepth 10000 in
theorem ln_X4_126 : Cond.methodLink RX4 126 yX1_touch ∈ mjW := mjW_of 359 rfl rfl
set_option maxRecDepth 10000 in
theorem ln_X1_9 : Cond.methodLink RX1 9 yX1_firstCell ∈ mjW := mjW_of 362 rfl rfl
set_option maxRecDepth 10000 in
theorem ln_X1_18 : Cond.methodLink RX1 18 yX1_isEnd ∈ mjW := mjW_of 363 rfl rfl
set_option maxRecDepth 10000 in
theorem ln_X1_15 : Cond.methodLink RX1 15 yX1_secondCell ∈ mjW := mjW_of 366 rfl rfl
set_option maxRecDepth 10000 in
theorem ln_L_27 : Cond.methodLink RL 27 yX6_scratch ∈ mjW := mjW_of 367 rfl rfl
set_option maxRecDepth 10000 in
theorem ln_X6_81 : Cond.methodLink RX6 81 yX1_isJoint ∈ mjW := mjW_of 371 rfl rfl
set_option maxRecDepth 10000 in
theorem ln_X6_87 : Cond.methodLink RX6 87 yX4_isWhole ∈ mjW := mjW_of 372 rfl rfl
set_option maxRecDepth 10000 in
theorem ln_X6_90 : Cond.methodLink RX6 90 yX4_strengthOf ∈ mjW := mjW_of 373 rfl rfl
set_option maxRecDepth 10000 in
theorem ln_X6_93 : Cond.methodLink RX6 93 yX4_strengthen ∈ mjW := mjW_of 374 rfl rfl
set_option maxRecDepth 10000 in
theorem ln_L_31 : Cond.methodLink RL 31 yX6_mend ∈ mjW := mjW_of 378 rfl rfl
set_option maxRecDepth 10000 in
theorem ln_X6_97 : Cond.methodLink RX6 97 yX4_makeWhole ∈ mjW := mjW_of 382 rfl rfl
set_option maxRecDepth 10000 in
theorem ln_X6_100 : Cond.methodLink RX6 100 yX4_crackedJoints ∈ mjW := mjW_of 386 rfl rfl
set_option maxRecDepth 10000 in
theorem ln_L_35 : Cond.methodLink RL 35 yX6_heat ∈ mjW := mjW_of 390 rfl rfl
set_option maxRecDepth 10000 in
theorem ln_X6_103 : Cond.methodLink RX6 103 yX1_isCell ∈ mjW := mjW_of 394 rfl rfl
set_option maxRecDepth 10000 in
theorem ln_X6_106 : Cond.methodLink RX6 106 yX4_holdFlame ∈ mjW := mjW_of 395 rfl rfl
set_option maxRecDepth 10000 in
theorem ln_L_39 : Cond.methodLink RL 39 yX6_set ∈ mjW := mjW_of 399 rfl rfl
set_option maxRecDepth 10000 in
theorem ln_L_43 : Cond.methodLink RL 43 yX6_append ∈ mjW := mjW_of 403 rfl rfl
set_option maxRecDepth 10000 in
theorem ln_X6_116 : Cond.methodLink RX6 116 yX3_take ∈ mjW := mjW_of 407 rfl rfl
set_option maxRecDepth 10000 in
theorem ln_L_47 : Cond.methodLink RL 47 yX6_clear ∈ mjW := mjW_of 411 rfl rfl
set_option maxRecDepth 10000 in
theorem ln_L_52 : Cond.methodLink RL 52 yX6_fault ∈ mjW := mjW_of 415 rfl rfl
set_option maxRecDepth 10000 in
theorem ln_X6_123 : Cond.methodLink RX6 123 yX3_findFault ∈ mjW := mjW_of 419 rfl rfl
set_option maxRecDepth 10000 in
theorem ln_X3_38 : Cond.methodLink RX3 38 yX3_reads ∈ mjW := mjW_of 423 rfl rfl
set_option maxRecDepth 10000 in
theorem ln_X3_45 : Cond.methodLink RX3 45 yX3_readsDigit ∈ mjW := mjW_of 427 rfl rfl
set_option maxRecDepth 10000 in
theorem ln_X3_60 : Cond.methodLink RX3 60 yX3_leastOfPart ∈ mjW := mjW_of 431 rfl rfl
set_option maxRecDepth 10000 in
theorem ln_X3_64 : Cond.methodLink RX3 64 yX3_mostOfPart ∈ mjW := mjW_of 435 rfl rfl
set_option maxRecDepth 10000 in
theorem ln_X3_49 : Cond.methodLink RX3 49 yX3_readsHold ∈ mjW := mjW_of 439 rfl rfl
set_option maxRecDepth 10000 in
theorem ln_X3_56 : Cond.methodLink RX3 56 yX3_keepIn ∈ mjW := mjW_of 443 rfl rfl
set_option maxRecDepth 10000 in
theorem ln_X3_52 : Cond.methodLink RX3 52 yX3_endOfPart ∈ mjW := mjW_of 447 rfl rfl
set_option maxRecDepth 10000 in
theorem ln_X3_42 : Cond.methodLink RX3 42 yX3_endNumber ∈ mjW := mjW_of 451 rfl rfl
set_option maxRecDepth 10000 in
theorem ln_L_56 : Cond.methodLink RL 56 yX6_run ∈ mjW := mjW_of 455 rfl rfl
set_option maxRecDepth 10000 in
theorem ln_X6_129 : Cond.methodLink RX6 129 yX3_aimOf ∈ mjW := mjW_of 459 rfl rfl
set_option maxRecDepth 10000 in
theorem ln_X3_67 : Cond.methodLink RX3 67 yX3_isSegment ∈ mjW := mjW_of 463 rfl rfl
set_option maxRecDepth 10000 in
theorem ln_X6_132 : Cond.methodLink RX6 132 yX3_rateOf ∈ mjW := mjW_of 466 rfl rfl
set_option maxRecDepth 10000 in
theorem ln_X6_135 : Cond.methodLink RX6 135 yX3_minutesOf ∈ mjW := mjW_of 470 rfl rfl
set_option maxRecDepth 10000 in
theorem ln_L_60 : Cond.methodLink RL 60 yX6_cell ∈ mjW := mjW_of 474 rfl rfl
set_option maxRecDepth 10000 in
theorem ln_X6_138 : Cond.methodLink RX6 138 yX4_heatAt ∈ mjW := mjW_of 478 rfl rfl
set_option maxRecDepth 10000 in
theorem ln_X6_141 : Cond.methodLink RX6 141 yX5_tellByGoing ∈ mjW := mjW_of 479 rfl rfl
set_option maxRecDepth 10000 in
theorem ln_X5_22 : Cond.methodLink RX5 22 yJ7_fill_53178 ∈ mjW := mjW_of 483 rfl rfl
set_option maxRecDepth 10000 in
theorem ln_X5_28 : Cond.methodLink RX5 28 yX5_spreadFrom ∈ mjW := mjW_of 484 rfl rfl
set_option maxRecDepth 10000 in
theorem ln_X5_32 : Cond.methodLink RX5 32 yX5_reach ∈ mjW := mjW_of 488 rfl rfl
set_option maxRecDepth 10000 in
theorem ln_X5_51 : Cond.methodLink RX5 51 yX5_nameOf ∈ mjW := mjW_of 492 rfl rfl
set_option maxRecDepth 10000 in
theorem ln_X5_55 : Cond.methodLink RX5 55 yX1_isCell ∈ mjW := mjW_of 496 rfl rfl
set_option maxRecDepth 10000 in
theorem ln_X5_36 : Cond.methodLink RX5 36 yX1_jointAt ∈ mjW := mjW_of 497 rfl rfl
set_option maxRecDepth 10000 in
theorem ln_X5_42 : Cond.methodLink RX5 42 yX4_isWhole ∈ mjW := mjW_of 500 rfl rfl
set_option maxRecDepth 10000 in
theorem ln_X5_48 : Cond.methodLink RX5 48 yX1_otherCell ∈ mjW := mjW_of 501 rfl rfl
set_option maxRecDepth 10000 in
theorem ln_X6_145 : Cond.methodLink RX6 145 yX5_nameOf ∈ mjW := mjW_of 504 rfl rfl
set_option maxRecDepth 10000 in
theorem ln_X6_148 : Cond.methodLink RX6 148 yX4_wholeJointsOf ∈ mjW := mjW_of 505 rfl rfl
set_option maxRecDepth 10000 in
theorem ln_X4_142 : Cond.methodLink RX4 142 yX1_jointAt ∈ mjW := mjW_of 509 rfl rfl
set_option maxRecDepth 10000 in
theorem ln_X6_151 : Cond.methodLink RX6 151 yX1_rimSides ∈ mjW := mjW_of 510 rfl rfl
set_option maxRecDepth 10000 in
theorem ln_X6_154 : Cond.methodLink RX6 154 yX4_greatestStressOf ∈ mjW := mjW_of 511 rfl rfl
set_option maxRecDepth 10000 in
theorem ln_L_64 : Cond.methodLink RL 64 yX6_joint ∈ mjW := mjW_of 515 rfl rfl
set_option maxRecDepth 10000 in
theorem ln_X6_157 : Cond.methodLink RX6 157 yX1_firstCell ∈ mjW := mjW_of 519 rfl rfl
set_option maxRecDepth 10000 in
theorem ln_X6_160 : Cond.methodLink RX6 160 yX1_secondCell ∈ mjW := mjW_of 520 rfl rfl
set_option maxRecDepth 10000 in
theorem ln_X6_163 : Cond.methodLink RX6 163 yX4_stressOf ∈ mjW := mjW_of 521 rfl rfl
set_option maxRecDepth 10000 in
theorem ln_X6_166 : Cond.methodLink RX6 166 yX4_crackedMinuteOf ∈ mjW := mjW_of 522 rfl rfl
set_option maxRecDepth 10000 in
theorem ln_X6_169 : Cond.methodLink RX6 169 yX4_wholeJointsBeside ∈ mjW := mjW_of 526 rfl rfl
set_option maxRecDepth 10000 in
theorem ln_L_68 : Cond.methodLink RL 68 yX6_strained ∈ mjW := mjW_of 530 rfl rfl
set_option maxRecDepth 10000 in
theorem ln_X6_172 : Cond.methodLink RX6 172 yX4_strainedAt ∈ mjW := mjW_of 534 rfl rfl
set_option maxRecDepth 10000 in
theorem ln_X4_145 : Cond.methodLink RX4 145 yX4_placeOf ∈ mjW := mjW_of 538 rfl rfl
set_option maxRecDepth 10000 in
theorem ln_L_72 : Cond.methodLink RL 72 yX6_pieces ∈ mjW := mjW_of 542 rfl rfl
set_option maxRecDepth 10000 in
theorem ln_X6_175 : Cond.methodLink RX6 175 yX5_tellByJoining ∈ mjW := mjW_of 546 rfl rfl
set_option maxRecDepth 10000 in
theorem ln_X5_58 : Cond.methodLink RX5 58 yX1_firstCell ∈ mjW := mjW_of 550 rfl rfl
set_option maxRecDepth 10000 in
theorem ln_X5_61 : Cond.methodLink RX5 61 yX1_secondCell ∈ mjW := mjW_of 551 rfl rfl
set_option maxRecDepth 10000 in
theorem ln_X5_64 : Cond.methodLink RX5 64 yX5_join ∈ mjW := mjW_of 552 rfl rfl
set_option maxRecDepth 10000 in
theorem ln_X5_68 : Cond.methodLink RX5 68 yJ9_min_7cf53 ∈ mjW := mjW_of 556 rfl rfl
set_option maxRecDepth 10000 in
theorem ln_X5_73 : Cond.methodLink RX5 73 yJ9_max_7cf53 ∈ mjW := mjW_of 557 rfl rfl
set_option maxRecDepth 10000 in
theorem ln_L_76 : Cond.methodLink RL 76 yX6_count ∈ mjW := mjW_of 558 rfl rfl
set_option maxRecDepth 10000 in
theorem ln_X6_187 : Cond.methodLink RX6 187 yX4_greatestHeat ∈ mjW := mjW_of 562 rfl rfl
set_option maxRecDepth 10000 in
theorem ln_X6_190 : Cond.methodLink RX6 190 yX4_leastHeat ∈ mjW := mjW_of 566 rfl rfl
set_option maxRecDepth 10000 in
theorem ln_X6_193 : Cond.methodLink RX6 193 yX4_greatestStress ∈ mjW := mjW_of 570 rfl rfl
set_option maxRecDepth 10000 in
theorem ln_X6_196 : Cond.methodLink RX6 196 yX4_leastMargin ∈ mjW := mjW_of 574 rfl rfl
set_option maxRecDepth 10000 in
theorem ln_X6_199 : Cond.methodLink RX6 199 yX5_greatestSize ∈ mjW := mjW_of 578 rfl rfl
set_option maxRecDepth 10000 in
theorem ln_X5_76 : Cond.methodLink RX5 76 yX5_sizeOf ∈ mjW := mjW_of 582 rfl rfl
set_option maxRecDepth 10000 in
theorem ln_L_80 : Cond.methodLink RL 80 yX6_mean ∈ mjW := mjW_of 586 rfl rfl
set_option maxRecDepth 10000 in
theorem cd_X6_208 : Cond.constantDouble RX6 208 (13830554455654793216 : UInt64) ∈ mjW := mjW_of 590 rfl rfl
set_option maxRecDepth 10000 in
theorem ln_X6_210 : Cond.methodLink RX6 210 yX5_meanHeat ∈ mjW := mjW_of 591 rfl rfl
set_option maxRecDepth 10000 in
theorem cd_X5_79 : Cond.constantDouble RX5 79 (13830554455654793216 : UInt64) ∈ mjW := mjW_of 595 rfl rfl
set_option maxRecDepth 10000 in
theorem ln_X5_81 : Cond.methodLink RX5 81 yX4_heatAt ∈ mjW := mjW_of 596 rfl rfl
set_option maxRecDepth 10000 in
theorem ln_L_85 : Cond.methodLink RL 85 yX6_ifPassed ∈ mjW := mjW_of 597 rfl rfl
set_option maxRecDepth 10000 in
theorem ln_X6_214 : Cond.methodLink RX6 214 yX4_copyFrom ∈ mjW := mjW_of 601 rfl rfl
set_option maxRecDepth 10000 in
theorem ln_X6_217 : Cond.methodLink RX6 217 yX0_look ∈ mjW := mjW_of 602 rfl rfl
set_option maxRecDepth 10000 in
theorem ln_X0_21 : Cond.methodLink RX0 21 yX4_letHeatFlow ∈ mjW := mjW_of 606 rfl rfl
set_option maxRecDepth 10000 in
theorem ln_X0_26 : Cond.methodLink RX0 26 yX4_greatestStress ∈ mjW := mjW_of 607 rfl rfl
set_option maxRecDepth 10000 in
theorem ln_X0_29 : Cond.methodLink RX0 29 yJ9_max_7cf53 ∈ mjW := mjW_of 608 rfl rfl
set_option maxRecDepth 10000 in
theorem ln_X0_35 : Cond.methodLink RX0 35 yX4_crackWorst ∈ mjW := mjW_of 609 rfl rfl
set_option maxRecDepth 10000 in
theorem ln_L_89 : Cond.methodLink RL 89 yX6_fastest ∈ mjW := mjW_of 610 rfl rfl
set_option maxRecDepth 10000 in
theorem ln_X6_229 : Cond.methodLink RX6 229 yX4_staysWhole ∈ mjW := mjW_of 614 rfl rfl
set_option maxRecDepth 10000 in
theorem ln_L_93 : Cond.methodLink RL 93 yX6_evenIn ∈ mjW := mjW_of 618 rfl rfl
set_option maxRecDepth 10000 in
theorem ln_L_97 : Cond.methodLink RL 97 yX6_undo ∈ mjW := mjW_of 622 rfl rfl
set_option maxRecDepth 10000 in
theorem ln_X6_232 : Cond.methodLink RX6 232 yX2_takeBack ∈ mjW := mjW_of 626 rfl rfl
set_option maxRecDepth 10000 in
theorem ln_L_101 : Cond.methodLink RL 101 yX6_save ∈ mjW := mjW_of 630 rfl rfl
set_option maxRecDepth 10000 in
theorem ln_L_105 : Cond.methodLink RL 105 yX6_restore ∈ mjW := mjW_of 634 rfl rfl
set_option maxRecDepth 10000 in
theorem cl_L_10 : Cond.classLink RL 10 RX7 ∈ mjW := mjW_of 638 rfl rfl
set_option maxRecDepth 10000 in
theorem it_X7 : Cond.instantiable RX7 17 ∈ mjW := mjW_of 639 rfl rfl
set_option maxRecDepth 10000 in
theorem ln_L_12 : Cond.methodLink RL 12 yX7_init ∈ mjW := mjW_of 640 rfl rfl
set_option maxRecDepth 10000 in
theorem ln_X7_1 : Cond.methodLink RX7 1 Lib.objectInit ∈ mjW := mjW_of 643 rfl rfl
set_option maxRecDepth 10000 in
theorem ln_X7_31 : Cond.methodLink RX7 31 yX7_goBegin ∈ mjW := mjW_of 644 rfl rfl
set_option maxRecDepth 10000 in
theorem ln_L_17 : Cond.methodLink RL 17 yX7_begin ∈ mjW := mjW_of 700 rfl rfl
set_option maxRecDepth 10000 in
theorem ln_X7_43 : Cond.methodLink RX7 43 yX7_in ∈ mjW := mjW_of 704 rfl rfl
set_option maxRecDepth 10000 in
theorem ln_X7_92 : Cond.methodLink RX7 92 yX7_records ∈ mjW := mjW_of 707 rfl rfl
set_option maxRecDepth 10000 in
theorem ln_X7_39 : Cond.methodLink RX7 39 yX7_copies ∈ mjW := mjW_of 711 rfl rfl
set_option maxRecDepth 10000 in
theorem ln_L_22 : Cond.methodLink RL 22 yX7_aim ∈ mjW := mjW_of 714 rfl rfl
set_option maxRecDepth 10000 in
theorem ln_X7_95 : Cond.methodLink RX7 95 yX7_laysAim ∈ mjW := mjW_of 718 rfl rfl
set_option maxRecDepth 10000 in
theorem ln_L_26 : Cond.methodLink RL 26 yX7_pass ∈ mjW := mjW_of 722 rfl rfl
set_option maxRecDepth 10000 in
theorem ln_X7_99 : Cond.methodLink RX7 99 yX7_goPass ∈ mjW := mjW_of 726 rfl rfl
set_option maxRecDepth 10000 in
theorem ln_X7_89 : Cond.methodLink RX7 89 yX7_minute ∈ mjW := mjW_of 730 rfl rfl
set_option maxRecDepth 10000 in
theorem ln_X7_53 : Cond.methodLink RX7 53 yX7_size ∈ mjW := mjW_of 734 rfl rfl
set_option maxRecDepth 10000 in
theorem ln_X7_73 : Cond.methodLink RX7 73 yX7_flows ∈ mjW := mjW_of 737 rfl rfl
set_option maxRecDepth 10000 in
theorem ln_X7_63 : Cond.methodLink RX7 63 yX7_isWhole ∈ mjW := mjW_of 741 rfl rfl
set_option maxRecDepth 10000 in
theorem ln_X7_47 : Cond.methodLink RX7 47 yX7_firstOf ∈ mjW := mjW_of 745 rfl rfl
set_option maxRecDepth 10000 in
theorem ln_X7_50 : Cond.methodLink RX7 50 yX7_secondOf ∈ mjW := mjW_of 748 rfl rfl
set_option maxRecDepth 10000 in
theorem ln_X7_67 : Cond.methodLink RX7 67 yX7_sidesOf ∈ mjW := mjW_of 751 rfl rfl
set_option maxRecDepth 10000 in
theorem ln_X7_76 : Cond.methodLink RX7 76 yX7_greatestStress ∈ mjW := mjW_of 754 rfl rfl
set_option maxRecDepth 10000 in
theorem ln_X7_56 : Cond.methodLink RX7 56 yX7_stressOf ∈ mjW := mjW_of 758 rfl rfl
set_option maxRecDepth 10000 in
theorem ln_X7_83 : Cond.methodLink RX7 83 yX7_worst ∈ mjW := mjW_of 762 rfl rfl
set_option maxRecDepth 10000 in
theorem ln_X7_70 : Cond.methodLink RX7 70 yX7_marginOf ∈ mjW := mjW_of 766 rfl rfl
set_option maxRecDepth 10000 in
theorem ln_X7_86 : Cond.methodLink RX7 86 yX7_touch ∈ mjW := mjW_of 770 rfl rfl
set_option maxRecDepth 10000 in
theorem ln_X7_59 : Cond.methodLink RX7 59 yX7_has ∈ mjW := mjW_of 773 rfl rfl
set_option maxRecDepth 10000 in
theorem ln_L_30 : Cond.methodLink RL 30 yX7_scratch ∈ mjW := mjW_of 776 rfl rfl
set_option maxRecDepth 10000 in
theorem ln_X7_102 : Cond.methodLink RX7 102 yX7_isJoint ∈ mjW := mjW_of 780 rfl rfl
set_option maxRecDepth 10000 in
theorem ln_L_34 : Cond.methodLink RL 34 yX7_mend ∈ mjW := mjW_of 783 rfl rfl
set_option maxRecDepth 10000 in
theorem ln_X7_105 : Cond.methodLink RX7 105 yX7_cracked ∈ mjW := mjW_of 787 rfl rfl
set_option maxRecDepth 10000 in
theorem ln_L_38 : Cond.methodLink RL 38 yX7_heat ∈ mjW := mjW_of 791 rfl rfl
set_option maxRecDepth 10000 in
theorem ln_X7_108 : Cond.methodLink RX7 108 yX7_isCell ∈ mjW := mjW_of 795 rfl rfl
set_option maxRecDepth 10000 in
theorem ln_L_42 : Cond.methodLink RL 42 yX7_set ∈ mjW := mjW_of 798 rfl rfl
set_option maxRecDepth 10000 in
theorem ln_L_46 : Cond.methodLink RL 46 yX7_append ∈ mjW := mjW_of 802 rfl rfl
set_option maxRecDepth 10000 in
theorem ln_L_51 : Cond.methodLink RL 51 yX7_clear ∈ mjW := mjW_of 806 rfl rfl
set_option maxRecDepth 10000 in
theorem ln_L_55 : Cond.methodLink RL 55 yX7_fault ∈ mjW := mjW_of 810 rfl rfl
set_option maxRecDepth 10000 in
theorem ln_X7_147 : Cond.methodLink RX7 147 yX7_isProgram ∈ mjW := mjW_of 814 rfl rfl
set_option maxRecDepth 10000 in
theorem ln_X7_144 : Cond.methodLink RX7 144 yX7_takesSegment ∈ mjW := mjW_of 818 rfl rfl
set_option maxRecDepth 10000 in
theorem ln_X7_121 : Cond.methodLink RX7 121 yX7_here ∈ mjW := mjW_of 822 rfl rfl
set_option maxRecDepth 10000 in
theorem ln_X7_124 : Cond.methodLink RX7 124 yX7_takes ∈ mjW := mjW_of 826 rfl rfl
set_option maxRecDepth 10000 in
theorem ln_X7_131 : Cond.methodLink RX7 131 yX7_takesNumber ∈ mjW := mjW_of 830 rfl rfl
set_option maxRecDepth 10000 in
theorem ln_L_59 : Cond.methodLink RL 59 yX7_run ∈ mjW := mjW_of 834 rfl rfl
set_option maxRecDepth 10000 in
theorem ln_L_75 : Cond.methodLink RL 75 yX7_pieces ∈ mjW := mjW_of 838 rfl rfl
set_option maxRecDepth 10000 in
theorem ln_X7_151 : Cond.methodLink RX7 151 yX7_names ∈ mjW := mjW_of 842 rfl rfl
set_option maxRecDepth 10000 in
theorem ln_L_84 : Cond.methodLink RL 84 yX7_mean ∈ mjW := mjW_of 846 rfl rfl
set_option maxRecDepth 10000 in
theorem cd_X7_157 : Cond.constantDouble RX7 157 (13830554455654793216 : UInt64) ∈ mjW := mjW_of 850 rfl rfl
set_option maxRecDepth 10000 in
theorem ln_X7_154 : Cond.methodLink RX7 154 yX7_cellsOf ∈ mjW := mjW_of 851 rfl rfl
set_option maxRecDepth 10000 in
theorem ln_L_63 : Cond.methodLink RL 63 yX7_cell ∈ mjW := mjW_of 855 rfl rfl
set_option maxRecDepth 10000 in
theorem ln_X7_159 : Cond.methodLink RX7 159 yX7_pieceOf ∈ mjW := mjW_of 859 rfl rfl
set_option maxRecDepth 10000 in
theorem ln_X7_162 : Cond.methodLink RX7 162 yX7_wholeOf ∈ mjW := mjW_of 863 rfl rfl
set_option maxRecDepth 10000 in
theorem ln_X7_165 : Cond.methodLink RX7 165 yX7_stressAt ∈ mjW := mjW_of 867 rfl rfl
set_option maxRecDepth 10000 in
theorem ln_L_67 : Cond.methodLink RL 67 yX7_joint ∈ mjW := mjW_of 871 rfl rfl
set_option maxRecDepth 10000 in
theorem ln_X7_168 : Cond.methodLink RX7 168 yX7_touching ∈ mjW := mjW_of 875 rfl rfl
set_option maxRecDepth 10000 in
theorem ln_L_71 : Cond.methodLink RL 71 yX7_strained ∈ mjW := mjW_of 879 rfl rfl
set_option maxRecDepth 10000 in
theorem ln_X7_171 : Cond.methodLink RX7 171 yX7_isAhead ∈ mjW := mjW_of 883 rfl rfl
set_option maxRecDepth 10000 in
theorem ln_L_79 : Cond.methodLink RL 79 yX7_count ∈ mjW := mjW_of 887 rfl rfl
set_option maxRecDepth 10000 in
theorem ln_X7_177 : Cond.methodLink RX7 177 yX7_sumOfHeats ∈ mjW := mjW_of 891 rfl rfl
set_option maxRecDepth 10000 in
theorem ln_X7_180 : Cond.methodLink RX7 180 yX7_heatMost ∈ mjW := mjW_of 895 rfl rfl
set_option maxRecDepth 10000 in
theorem ln_X7_184 : Cond.methodLink RX7 184 yX7_leastMargin ∈ mjW := mjW_of 899 rfl rfl
set_option maxRecDepth 10000 in
theorem ln_X7_174 : Cond.methodLink RX7 174 yX7_strained ∈ mjW := mjW_of 903 rfl rfl
set_option maxRecDepth 10000 in
theorem ln_X7_187 : Cond.methodLink RX7 187 yX7_greatestPiece ∈ mjW := mjW_of 904 rfl rfl
set_option maxRecDepth 10000 in
theorem ln_L_88 : Cond.methodLink RL 88 yX7_ifPassed ∈ mjW := mjW_of 908 rfl rfl
set_option maxRecDepth 10000 in
theorem ln_L_92 : Cond.methodLink RL 92 yX7_fastest ∈ mjW := mjW_of 912 rfl rfl
set_option maxRecDepth 10000 in
theorem ln_X7_190 : Cond.methodLink RX7 190 yX7_isHarmless ∈ mjW := mjW_of 916 rfl rfl
set_option maxRecDepth 10000 in
theorem ln_L_96 : Cond.methodLink RL 96 yX7_evenIn ∈ mjW := mjW_of 920 rfl rfl
set_option maxRecDepth 10000 in
theorem ln_L_100 : Cond.methodLink RL 100 yX7_undo ∈ mjW := mjW_of 924 rfl rfl
set_option maxRecDepth 10000 in
theorem ln_L_104 : Cond.methodLink RL 104 yX7_save ∈ mjW := mjW_of 928 rfl rfl
set_option maxRecDepth 10000 in
theorem ln_L_108 : Cond.methodLink RL 108 yX7_restore ∈ mjW := mjW_of 932 rfl rfl
end
section
/-! mj: what the small machine proves, the machine does -/
section MJM
variable {p : Program} {l : Launch} {e : Env} {R : Room} {s : State} {m : MethodId} {args : Array Value} {below : List Frame} {meth : Method} {c : Code} {Q : State → Prop} {D : va_G} {tc : Nat → ClassId} {ad0 : Nat → Nat} {n0 mc ms nL : Nat} {A : Nat → Prop} {H0 : Heap}
theorem mj_sound {G : mjG} {Z : Option (Nat × (Nat → Int32))} {Rr : mjM → Option Value → Nat × Nat → Prop} {cc : ByteArray} {own : String} {rp : Instr → Bool}
    (hx : p.tables.exec = Jvm.exec) (hb : c.code = cc) (hml : c.maxLocals = nL) (hown : s.vm.findClass own = some m.cls) (hts : ∀ w ∈ mjW, w.before args s = true) (hK : mjK D tc s) (hA : ∀ q, H0.size ≤ q → A q) (hmc : G.2.2.2.2.2.2.2.2.1 = mc) (hms : G.2.2.2.2.2.2.2.2.2.1 = ms)
    (hG : mjG_ok l R cc own G meth nL) (hZ : ∀ n f, Z = some (n, f) → ∃ b, ad0 4095 = b ∧ va_X b n f s H0 ∧ b < H0.size ∧ ¬ A b) (hRet : mjRet p l e R s m args below meth c Q D tc ad0 n0 mc ms A H0 cc G.2.2.2.2.2.2.2.1 rp Rr) (hrp : ∀ pc row, G.1 pc = some row → rp row.1 = true) :
    mjC G Z Rr (mjT p l e R s m args below meth c Q D tc ad0 n0 mc ms A H0 nL) := by
  refine ⟨fun cut n => ?_, fun bs pc L S M u h ad H locs ls hag hmz hn0 hM4 hu hL hP hD hS => h ad H locs ls hag hmz hn0 hM4 hu (mjlv_mask bs hL) hP hD hS⟩
  induction n with
  | zero => exact fun pc L S M u h => h
  | succ n ih =>
    intro pc L S M u h
    cases hi : G.1 pc with
    | none =>
      simp only [mj, hi] at h
    | some row =>
      obtain ⟨ins, len, v, t⟩ := row
      simp only [mj, hi] at h
      refine mjs_sound hx hb hml hown hts hK hA hmc hms hG hZ hRet hrp (fun pc' L' S' M' u' h' => ?_) (hG.1 pc _ hi) hi h
      cases hc : cut pc' with
      | true => rw [hc] at h'; exact h'
      | false => rw [hc] at h'; exact ih pc' L' S' M' u' h'
end MJM
theorem mjargs_entry {ad : Nat → Nat} : ∀ (as : List Value) (i : Nat), as.all mjone = true → lv_args i (as.map (mjv ad)) = (as.mapIdx (fun k v => (i + k, mjv ad v)))
  | [], i, _ => rfl
  | v :: as, i, h => by
    simp only [List.all_cons, Bool.and_eq_true] at h
    have hc : ¬ (mjv ad v).category = 2 := by
      rw [mjv_cat]
      have h1 := h.1
      cases v <;> first | (intro z; cases z; done) | cases h1
    rw [List.map_cons, List.mapIdx_cons]
    show (i, mjv ad v) :: lv_args _ _ = _
    rw [if_neg hc, mjargs_entry as (i + 1) h.2]
    congr 1
    apply List.mapIdx_eq_mapIdx_iff.mpr
    intro k hk
    rw [show i + 1 + k = i + (k + 1) by omega]
theorem mjslots {ad : Nat → Nat} : ∀ (as : List Value), as.all mjone = true → (lg_sl (as.map (mjv ad))).length = as.length
  | [], _ => rfl
  | v :: as, h => by
    simp only [List.all_cons, Bool.and_eq_true] at h
    have hc : ¬ (mjv ad v).category = 2 := by
      rw [mjv_cat]
      have h1 := h.1
      cases v <;> first | (intro z; cases z; done) | cases h1
    have ih := mjslots (ad := ad) as h.2
    unfold lg_sl at ih ⊢
    rw [List.map_cons, List.flatMap_cons, if_neg hc, List.length_append, ih]
    simp
    omega
/-- the tables with other hints -/
def mjh (G : mjG) (hn : Nat → List Nat) : mjG := (G.1, G.2.1, G.2.2.1, hn, G.2.2.2.2)
/-- a method does what is said of it; the hints may vary -/
def mjOKh (G : mjG) (nL : Nat) (Sp : mjSp) : Prop := ∀ (M : mjM) (as : List Value), (Sp M as).1 → ∀ T, (∀ hn, mjC (mjh G hn) none (fun M' r _ => M' = (Sp M as).2.1.getD M ∧ r = (Sp M as).2.2) T) → T 0 (as.map some ++ List.replicate (nL - as.length) none) [] M (0, 0)
theorem mjOK.h {G : mjG} {nL : Nat} {Sp : mjSp} (h : mjOK G nL Sp) : mjOKh G nL Sp := fun M as hP T hT => h M as hP T (hT G.2.2.2.1)
theorem mjMet_of {l : Launch} {y : MethodName} {ws ws' : List Cond} {rm : Room} {Pc : Array Value → State → Prop} {Qc : Array Value → State → Outcome → State → Prop} {mc ms : Nat} {free : Addr → Prop} {cc : ByteArray} {maxL : Nat} {ret : Option FieldType}
    (hy : plainFor y = true) (hw : ws = Cond.code y cc maxL ret :: ws')
    (body : ∀ p e s m args below meth c s₁, BodyLoose p l y (headSpec ws rm) cc maxL ret e s m args below meth c s₁ → c.maxLocals = maxL → Pc args s →
      W p l e (headSpec ws rm).room s m args below meth c s.heap [] 0 0 (MQ below Qc args s mc ms free) (entryFrame m args maxL)) : Met l y ws rm Pc Qc mc ms free := by
  refine MetFree.of_bodySF (code := cc) (maxLocals := maxL) (ret := ret) hy ?_ ?_
  · intro args s m h hn
    obtain ⟨meth, c, h1, h2, h3, h4, h5, h6, -, -⟩ := Cond.code_spec hn (atoms_spec (ws := ws) h _ (by rw [hw]; exact List.mem_cons_self))
    exact ⟨meth, c, h1, h2, h3, h4, h5, h6⟩
  · intro p e s m args below meth c s₁ B hml hP _
    have hh0 : s₁.heap = s.heap := by rw [B.state]; rfl
    obtain ⟨t, a1, o, b1, b2, b3⟩ := body p e s m args below meth c s₁ B hml hP s₁ hh0 (Stand.of_body B)
    exact ⟨t, o, a1, b1, b2, ⟨b3.1, b3.2⟩⟩
theorem mjCT_ofh {l : Launch} {y : MethodName} {cc : ByteArray} {maxL : Nat} {ret : Option FieldType} {rm : Room} {Sp : mjSp} {G : mjG} {own : String} (hy : plainFor y = true) (hcls : y.cls = own) (hOK : mjOKh G maxL Sp)
    (hG : ∀ meth : Method, meth.name = y.name → mjG_ok l rm cc own G meth maxL) (hmc : G.2.2.2.2.2.2.2.2.1 = rm.cells) (hms : G.2.2.2.2.2.2.2.2.2.1 = rm.slots) (hrt : G.2.2.2.2.2.2.2.1 = ret) (hrp : ∀ pc row, G.1 pc = some row → mjrp ret row.1 = true) : mjCT l y cc maxL ret rm Sp := by
  intro D tc ad sz M as hM4 hone hlen hP
  refine mjMet_of (cc := cc) (maxL := maxL) (ret := ret) hy rfl ?_
  intro p e s m args below meth c s₁ B hml hv
  obtain ⟨rfl, hsz, hPw, hK, hD0⟩ := hv
  have hx := B.exec
  have hb := B.bytes
  have hr := B.returns
  have hts0 := atoms_spec (ws := .code y cc maxL ret :: mjW) B.pre
  have hts : ∀ w ∈ mjW, w.before (as.map (mjv ad)).toArray s = true := fun w h => hts0 w (List.mem_cons_of_mem _ h)
  have hown : s.vm.findClass own = some m.cls := by rw [← hcls]; exact findClass_of_methodNamed B.named
  have hlocks := B.notSynchronized
  have hin : meth.name = y.name := (name_of_methodNamed B.named B.method).1
  subst hsz
  have hD := hD0.self (sz := s.heap.size)
  have hA : ∀ q : Nat, s.heap.size ≤ q → va_A (mjw tc ad M) s.heap.size q := fun q h => Or.inr h
  have hS : va_S (va_A (mjw tc ad M) s.heap.size) s.heap s.heap [] := va_S.rf
  have hsl := mjslots (ad := ad) as hone
  have hl := lv_entry (as.map (mjv ad)) (n := maxL) (by rw [hsl]; exact hlen)
  rw [lg_entry_eq]
  generalize (lg_sl (as.map (mjv ad)) ++ List.replicate (maxL - (lg_sl (as.map (mjv ad))).length) Slot.unset).toArray = ls at hl ⊢
  have hL : mjlv ad ls maxL (as.map some ++ List.replicate (maxL - as.length) none) := by
    refine ⟨by simp; omega, hl.1, hl.2.1, fun q hq => ?_⟩
    obtain ⟨v, hv, e1⟩ := mjpr_mem.mp hq
    rw [mjlg_some] at hv
    refine hl.2.2 q ?_
    rw [mjargs_entry as 0 hone]
    by_cases hqi : q.1 < as.length
    · rw [List.getElem?_append_left (by simpa using hqi), List.getElem?_map] at hv
      cases hz : as[q.1]? with
      | none => rw [hz] at hv; cases hv
      | some w =>
        rw [hz] at hv
        cases hv
        refine List.mem_of_getElem? (i := q.1) ?_
        rw [List.getElem?_mapIdx, hz]
        show some (0 + q.1, mjv ad _) = some q
        rw [Nat.zero_add, ← e1]
    · rw [List.getElem?_append_right (by simpa using hqi), List.getElem?_replicate] at hv
      split at hv <;> cases hv
  have hRet : mjRet p l e rm s m (as.map (mjv ad)).toArray below meth c (MQ below (mjQc D tc ad s.heap.size rm.cells M ((Sp M as).2.1.getD M) (Sp M as).2.2) (as.map (mjv ad)).toArray s rm.cells rm.slots (va_A (mjw tc ad M) s.heap.size)) D tc ad M.length rm.cells rm.slots (va_A (mjw tc ad M) s.heap.size) s.heap cc G.2.2.2.2.2.2.2.1 (mjrp ret) (fun M' r _ => M' = (Sp M as).2.1.getD M ∧ r = (Sp M as).2.2) := by
    intro M' o u ad' H locs ls' pc ins hR hag hmz hu hP1 hD1 hS1 hd hrpi hcase
    refine W.widen hu.1 hu.2 ?_
    have fin : ∀ t : State, t.heap = H → mjQc D tc ad s.heap.size rm.cells M ((Sp M as).2.1.getD M) (Sp M as).2.2 (as.map (mjv ad)).toArray s (.returned (o.map (mjv ad'))) t := by
      intro t ht
      refine ⟨⟨ad', hag, hmz, by rw [hR.2], ?_, ?_⟩, hS1.F ht⟩
      · rw [← hR.1, ht]; exact hP1
      · rw [← hR.1]; exact hD1
    rcases hcase with ⟨x, ty, rfl, rfl, h1, h2⟩ | ⟨x, rfl, rfl⟩ | ⟨rfl, h1⟩ | ⟨rfl, rfl⟩
    · exact W.zret (ty := ty) hx hb (by rw [hr, ← hrt]; exact h1) h2 (fun t ht _ => fin t ht) hS1.2.2 hd
    · exact W.dret hx hb (by rw [hr]; exact of_decide_eq_true hrpi) (fun t ht _ => fin t ht) hS1.2.2 hd
    · have hrt2 : ∃ rt, ret = some rt ∧ ((∃ n, rt = .object n) ∨ ∃ t, rt = .array t) := by
        unfold mjrp at hrpi
        simp only at hrpi
        split at hrpi
        · exact ⟨_, rfl, Or.inl ⟨_, rfl⟩⟩
        · exact ⟨_, rfl, Or.inr ⟨_, rfl⟩⟩
        · cases hrpi
      obtain ⟨rt, g1, g2⟩ := hrt2
      rcases h1 with ⟨x, rfl⟩ | rfl
      · exact W.aret (rt := rt) hx hb (by rw [hr]; exact g1) g2 (Or.inr ⟨_, rfl⟩) (fun t ht _ => fin t ht) hS1.2.2 hd
      · exact W.aret (rt := rt) hx hb (by rw [hr]; exact g1) g2 (Or.inl rfl) (fun t ht _ => fin t ht) hS1.2.2 hd
    · exact W.vret hx hb (by rw [hr]; exact of_decide_eq_true hrpi) (fun t ht _ => fin t ht) hS1.2.2 hd
  have hC : ∀ hn, mjC (mjh G hn) none (fun M' r _ => M' = (Sp M as).2.1.getD M ∧ r = (Sp M as).2.2) (mjT p l e rm s m (as.map (mjv ad)).toArray below meth c (MQ below (mjQc D tc ad s.heap.size rm.cells M ((Sp M as).2.1.getD M) (Sp M as).2.2) (as.map (mjv ad)).toArray s rm.cells rm.slots (va_A (mjw tc ad M) s.heap.size)) D tc ad M.length rm.cells rm.slots (va_A (mjw tc ad M) s.heap.size) s.heap maxL) := fun hn => mj_sound (G := mjh G hn) (R := rm) hx hb hml hown hts hK hA hmc hms (hG meth hin) (Z := none) (fun n f z => by cases z) hRet hrp
  exact hOK M as hP _ hC ad s.heap [] ls (fun _ _ => rfl) (fun _ => rfl) (Nat.le_refl _) hM4 ⟨Nat.zero_le _, Nat.zero_le _⟩ hL hPw hD hS

theorem mjCT_of {l : Launch} {y : MethodName} {cc : ByteArray} {maxL : Nat} {ret : Option FieldType} {rm : Room} {Sp : mjSp} {G : mjG} {own : String} (hy : plainFor y = true) (hcls : y.cls = own) (hOK : mjOK G maxL Sp)
    (hG : ∀ meth : Method, meth.name = y.name → mjG_ok l rm cc own G meth maxL) (hmc : G.2.2.2.2.2.2.2.2.1 = rm.cells) (hms : G.2.2.2.2.2.2.2.2.2.1 = rm.slots) (hrt : G.2.2.2.2.2.2.2.1 = ret) (hrp : ∀ pc row, G.1 pc = some row → mjrp ret row.1 = true) : mjCT l y cc maxL ret rm Sp := mjCT_ofh hy hcls hOK.h hG hmc hms hrt hrp
end
section
/-! reading cells; the arithmetic of the grid -/
def S_none : mjSp := fun _ _ => (False, none, none)
def rA (M : mjM) (i : Nat) : Nat → Int32 := match M[i]? with
  | some (.inl (_, (_, .inl f))) => f
  | _ => fun _ => 0
def rF (M : mjM) (i k : Nat) : Int32 := match M[i]? with
  | some (.inr (_, fs)) => (match fs[k]? with
    | some (.int x) => x
    | _ => 0)
  | _ => 0
def aI (as : List Value) (k : Nat) : Int32 := match as[k]? with
  | some (.int x) => x
  | _ => 0
def aR (as : List Value) (k : Nat) : Nat := match as[k]? with
  | some (.ref x) => x
  | _ => 0
/-- a value under seal: nothing unfolds it -/
noncomputable def kseal {α : Type} (a : α) : α := Classical.choose (⟨a, rfl⟩ : ∃ b, b = a)
theorem kseal_eq {α : Type} (a : α) : kseal a = a := Classical.choose_spec (⟨a, rfl⟩ : ∃ b, b = a)
theorem ksi {x v : Int32} (h : x = v) : (some (Value.int x)) = some (Value.int (kseal v)) := by rw [kseal_eq, h]
theorem mjsi {a b : Int32} (h : a = b) : (some (Value.int a)) = some (Value.int b) := by rw [h]
def bI (b : Bool) : Int32 := bif b then 1 else 0
theorem bI_0 {b : Bool} : bI b = 0 ↔ b = false := by cases b <;> decide
theorem mjix_of {x N : Int32} {n : Nat} {F : Nat → Prop} (h0 : ¬ x < 0) (h1 : ¬ N ≤ x) (hN : N = nI n) (hn : n < 2147483648) (k : F x.toNatClampNeg) : mjix x n F := by
  obtain ⟨j, hj, rfl⟩ := nI_of h0
  rw [nI_clamp hj] at k
  refine ⟨j, rfl, ⟨?_, hn⟩, k⟩
  rw [hN] at h1
  rcases Nat.lt_or_ge j n with q | q
  · exact q
  · exact absurd (nI_le q (by omega)) h1
theorem mjix_n {j n : Nat} {F : Nat → Prop} (h : j < n) (hn : n < 2147483648) (k : F j) : mjix (nI j) n F := ⟨j, rfl, ⟨h, hn⟩, k⟩
theorem mjix_e {x : Int32} {n : Nat} {F : Nat → Prop} (j : Nat) (e : x = nI j) (h : j < n) (hn : n < 2147483648) (k : F j) : mjix x n F := ⟨j, e, ⟨h, hn⟩, k⟩
theorem mjloop (N : Nat) (st : Nat → Prop) (h : ∀ i, i < N → st (i + 1) → st i) (hN : st N) : ∀ i, i ≤ N → st i := by
  have key : ∀ d i, i + d = N → st i := by
    intro d
    induction d with
    | zero => intro i hi; rw [show i = N by omega]; exact hN
    | succ d ih => intro i hi; exact h i (by omega) (ih (i + 1) (by omega))
  intro i hi
  exact key (N - i) i (by omega)
theorem mjloop0 (N : Nat) (st : Nat → Prop) (h : ∀ i, i < N → st (i + 1) → st i) (hN : st N) : st 0 := mjloop N st h hN 0 (Nat.zero_le N)
-- the grid, on the machine's numbers
def gIsCell (c : Int32) : Int32 := if c < 0 then 0 else if 36 ≤ c then 0 else 1
def gIsJoint (c : Int32) : Int32 := if c < 0 then 0 else if 60 ≤ c then 0 else 1
def gFirst (j : Int32) : Int32 := if j < 30 then 6 * (j / 5) + (j - j / 5 * 5) else j - 30
def gSecond (j : Int32) : Int32 := if j < 30 then 6 * (j / 5) + (j - j / 5 * 5) + 1 else j - 30 + 6
def gOther (j c : Int32) : Int32 := if gFirst j = c then gSecond j else gFirst j
def gJointAt (c d : Int32) : Int32 :=
  if d = 0 then (if c - c / 6 * 6 ≤ 0 then -1 else 5 * (c / 6) + (c - c / 6 * 6) - 1)
  else if d = 1 then (if 5 ≤ c - c / 6 * 6 then -1 else 5 * (c / 6) + (c - c / 6 * 6))
  else if d = 2 then (if c / 6 ≤ 0 then -1 else 30 + c - 6)
  else if 5 ≤ c / 6 then -1 else 30 + c
def gRim (c : Int32) : Int32 := (if c / 6 = 0 then 1 else if c / 6 = 5 then 1 else 0) + (if c - c / 6 * 6 = 0 then 1 else if c - c / 6 * 6 = 5 then 1 else 0)
def gIsEnd (c j : Int32) : Int32 := if gFirst j = c then 1 else if gSecond j = c then 1 else 0
def gTouch (j o : Int32) : Int32 := if j = o then 0 else if gIsEnd (gFirst j) o = 0 then (if gIsEnd (gSecond j) o = 0 then 0 else 1) else 1
def gAbs (x : Int32) : Int32 := if 0 ≤ x then x else -x
def gMax (x y : Int32) : Int32 := if x < y then y else x
def gMin (x y : Int32) : Int32 := if y < x then y else x
def gOut (v a b : Int32) : Int32 := if v < a then 1 else if v ≤ b then 0 else 1
/-- an array's number at a place, 0 outside -/
def gAt (n : Int32) (f : Nat → Int32) (j : Int32) : Int32 := if j < 0 then 0 else if n ≤ j then 0 else f j.toNatClampNeg
theorem pn_X0 : plainName RX0 = true := by decide +kernel
theorem pn_X1 : plainName RX1 = true := by decide +kernel
theorem pn_X2 : plainName RX2 = true := by decide +kernel
theorem pn_X3 : plainName RX3 = true := by decide +kernel
theorem pn_X4 : plainName RX4 = true := by decide +kernel
theorem pn_X5 : plainName RX5 = true := by decide +kernel
theorem pn_X6 : plainName RX6 = true := by decide +kernel
theorem pn_X7 : plainName RX7 = true := by decide +kernel
theorem pf_J9_abs_0f7a4 : plainFor yJ9_abs_0f7a4 = true := by decide +kernel
theorem pf_J9_max_7cf53 : plainFor yJ9_max_7cf53 = true := by decide +kernel
theorem pf_J9_min_7cf53 : plainFor yJ9_min_7cf53 = true := by decide +kernel
theorem pf_J7_fill_53178 : plainFor yJ7_fill_53178 = true := by decide +kernel
end
section
/-! Math, Arrays, the grid: what the methods do -/
def S_J9_abs_0f7a4 : mjSp := fun M as => (M = [] ∧ as = [.int (aI as 0)], none, some (.int (gAbs (aI as 0))))
def S_J9_max_7cf53 : mjSp := fun M as => (M = [] ∧ as = [.int (aI as 0), .int (aI as 1)], none, some (.int (gMax (aI as 0) (aI as 1))))
def S_J9_min_7cf53 : mjSp := fun M as => (M = [] ∧ as = [.int (aI as 0), .int (aI as 1)], none, some (.int (gMin (aI as 0) (aI as 1))))
def S_X1_isCell : mjSp := fun M as => (M = [] ∧ as = [.int (aI as 0)], none, some (.int (gIsCell (aI as 0))))
def S_X1_isJoint : mjSp := fun M as => (M = [] ∧ as = [.int (aI as 0)], none, some (.int (gIsJoint (aI as 0))))
def S_X1_firstCell : mjSp := fun M as => (M = [] ∧ as = [.int (aI as 0)], none, some (.int (gFirst (aI as 0))))
def S_X1_secondCell : mjSp := fun M as => (M = [] ∧ as = [.int (aI as 0)], none, some (.int (gSecond (aI as 0))))
def S_X1_otherCell : mjSp := fun M as => (M = [] ∧ as = [.int (aI as 0), .int (aI as 1)], none, some (.int (gOther (aI as 0) (aI as 1))))
def S_X1_jointAt : mjSp := fun M as => (M = [] ∧ as = [.int (aI as 0), .int (aI as 1)], none, some (.int (gJointAt (aI as 0) (aI as 1))))
def S_X1_rimSides : mjSp := fun M as => (M = [] ∧ as = [.int (aI as 0)], none, some (.int (gRim (aI as 0))))
def S_X1_isEnd : mjSp := fun M as => (M = [] ∧ as = [.int (aI as 0), .int (aI as 1)], none, some (.int (gIsEnd (aI as 0) (aI as 1))))
def S_X1_touch : mjSp := fun M as => (M = [] ∧ as = [.int (aI as 0), .int (aI as 1)], none, some (.int (gTouch (aI as 0) (aI as 1))))
def S_X6_isOutside : mjSp := fun M as => (M = [] ∧ as = [.int (aI as 0), .int (aI as 1), .int (aI as 2)], none, some (.int (gOut (aI as 0) (aI as 1) (aI as 2))))
theorem in1 {M : mjM} {as : List Value} (h : M = [] ∧ as = [.int (aI as 0)]) : ∃ x, M = [] ∧ as = [.int x] := ⟨_, h⟩
theorem in2 {M : mjM} {as : List Value} (h : M = [] ∧ as = [.int (aI as 0), .int (aI as 1)]) : ∃ x y, M = [] ∧ as = [.int x, .int y] := ⟨_, _, h⟩
theorem in3 {M : mjM} {as : List Value} (h : M = [] ∧ as = [.int (aI as 0), .int (aI as 1), .int (aI as 2)]) : ∃ x y z, M = [] ∧ as = [.int x, .int y, .int z] := ⟨_, _, _, h⟩
def rm_J9_abs_0f7a4 : Room := { frames := 0, cells := 0, slots := 0, locals := 0 }
noncomputable def G_J9_abs_0f7a4 : mjG := (I_J9_abs_0f7a4, (fun _ => none), [], (fun pc => []), Y0, (fun _ => none), (fun _ => none), (some .int), 0, 0, false)
set_option maxHeartbeats 20000000 in
set_option maxRecDepth 100000 in
theorem ok_J9_abs_0f7a4 : mjOK G_J9_abs_0f7a4 1 S_J9_abs_0f7a4 := by
  intro M as hP T hT
  obtain ⟨x, rfl, rfl⟩ := in1 hP
  refine hT.1 (fun _ => false) 40 _ _ _ _ _ ?_
  refine And.intro (fun h => ⟨rfl, mjsi ?_⟩) (fun h => ⟨rfl, mjsi ?_⟩)
  · exact (if_pos h).symm
  · exact (if_neg h).symm
set_option maxRecDepth 10000 in
theorem ct_J9_abs_0f7a4 (l : Launch) : mjCT l yJ9_abs_0f7a4 cJ9_abs_0f7a4 1 (some .int) rm_J9_abs_0f7a4 S_J9_abs_0f7a4 :=
  mjCT_of (own := RJ9) (G := G_J9_abs_0f7a4) pf_J9_abs_0f7a4 rfl ok_J9_abs_0f7a4 (fun meth hm => ⟨fun pc row h => (I_J9_abs_0f7a4_ok pc row h).1, (fun _ _ _ _ h => by cases h), fun _ h => absurd h List.not_mem_nil, (fun _ _ _ h => by cases h), (fun _ _ h => by cases h), ⟨Nat.le_refl _, Nat.le_refl _⟩, (fun h => by cases h), (fun h => absurd h (by decide))⟩) rfl rfl rfl (fun pc row h => (I_J9_abs_0f7a4_ok pc row h).2)
def rm_J9_max_7cf53 : Room := { frames := 0, cells := 0, slots := 0, locals := 0 }
noncomputable def G_J9_max_7cf53 : mjG := (I_J9_max_7cf53, (fun _ => none), [], (fun pc => []), Y0, (fun _ => none), (fun _ => none), (some .int), 0, 0, false)
set_option maxHeartbeats 20000000 in
set_option maxRecDepth 100000 in
theorem ok_J9_max_7cf53 : mjOK G_J9_max_7cf53 2 S_J9_max_7cf53 := by
  intro M as hP T hT
  obtain ⟨x, y, rfl, rfl⟩ := in2 hP
  refine hT.1 (fun _ => false) 40 _ _ _ _ _ ?_
  refine And.intro (fun h => ⟨rfl, mjsi ?_⟩) (fun h => ⟨rfl, mjsi ?_⟩)
  · exact (if_pos h).symm
  · exact (if_neg h).symm
set_option maxRecDepth 10000 in
theorem ct_J9_max_7cf53 (l : Launch) : mjCT l yJ9_max_7cf53 cJ9_max_7cf53 2 (some .int) rm_J9_max_7cf53 S_J9_max_7cf53 :=
  mjCT_of (own := RJ9) (G := G_J9_max_7cf53) pf_J9_max_7cf53 rfl ok_J9_max_7cf53 (fun meth hm => ⟨fun pc row h => (I_J9_max_7cf53_ok pc row h).1, (fun _ _ _ _ h => by cases h), fun _ h => absurd h List.not_mem_nil, (fun _ _ _ h => by cases h), (fun _ _ h => by cases h), ⟨Nat.le_refl _, Nat.le_refl _⟩, (fun h => by cases h), (fun h => absurd h (by decide))⟩) rfl rfl rfl (fun pc row h => (I_J9_max_7cf53_ok pc row h).2)
def rm_J9_min_7cf53 : Room := { frames := 0, cells := 0, slots := 0, locals := 0 }
noncomputable def G_J9_min_7cf53 : mjG := (I_J9_min_7cf53, (fun _ => none), [], (fun pc => []), Y0, (fun _ => none), (fun _ => none), (some .int), 0, 0, false)
set_option maxHeartbeats 20000000 in
set_option maxRecDepth 100000 in
theorem ok_J9_min_7cf53 : mjOK G_J9_min_7cf53 2 S_J9_min_7cf53 := by
  intro M as hP T hT
  obtain ⟨x, y, rfl, rfl⟩ := in2 hP
  refine hT.1 (fun _ => false) 40 _ _ _ _ _ ?_
  refine And.intro (fun h => ⟨rfl, mjsi ?_⟩) (fun h => ⟨rfl, mjsi ?_⟩)
  · exact (if_pos h).symm
  · exact (if_neg h).symm
set_option maxRecDepth 10000 in
theorem ct_J9_min_7cf53 (l : Launch) : mjCT l yJ9_min_7cf53 cJ9_min_7cf53 2 (some .int) rm_J9_min_7cf53 S_J9_min_7cf53 :=
  mjCT_of (own := RJ9) (G := G_J9_min_7cf53) pf_J9_min_7cf53 rfl ok_J9_min_7cf53 (fun meth hm => ⟨fun pc row h => (I_J9_min_7cf53_ok pc row h).1, (fun _ _ _ _ h => by cases h), fun _ h => absurd h List.not_mem_nil, (fun _ _ _ h => by cases h), (fun _ _ h => by cases h), ⟨Nat.le_refl _, Nat.le_refl _⟩, (fun h => by cases h), (fun h => absurd h (by decide))⟩) rfl rfl rfl (fun pc row h => (I_J9_min_7cf53_ok pc row h).2)
def rm_X1_isCell : Room := { frames := 0, cells := 0, slots := 0, locals := 0 }
noncomputable def G_X1_isCell : mjG := (I_X1_isCell, (fun _ => none), [], (fun pc => []), Y0, (fun _ => none), (fun _ => none), (some .boolean), 0, 0, false)
set_option maxHeartbeats 20000000 in
set_option maxRecDepth 100000 in
theorem ok_X1_isCell : mjOK G_X1_isCell 1 S_X1_isCell := by
  intro M as hP T hT
  obtain ⟨x, rfl, rfl⟩ := in1 hP
  refine hT.1 (fun _ => false) 40 _ _ _ _ _ ?_
  refine And.intro (fun h => ⟨rfl, rfl, mjsi ?_⟩) (fun h => And.intro (fun h2 => ⟨rfl, rfl, mjsi ?_⟩) (fun h2 => ⟨rfl, rfl, mjsi ?_⟩)) <;> (show _ = gIsCell x; simp only [gIsCell, h, if_true, if_false]) <;> simp only [h2, if_true, if_false]
set_option maxRecDepth 10000 in
theorem ct_X1_isCell (l : Launch) : mjCT l yX1_isCell cX1_isCell 1 (some .boolean) rm_X1_isCell S_X1_isCell :=
  mjCT_of (own := RX1) (G := G_X1_isCell) (plainFor_of_name pn_X1) rfl ok_X1_isCell (fun meth hm => ⟨fun pc row h => (I_X1_isCell_ok pc row h).1, (fun _ _ _ _ h => by cases h), fun _ h => absurd h List.not_mem_nil, (fun _ _ _ h => by cases h), (fun _ _ h => by cases h), ⟨Nat.le_refl _, Nat.le_refl _⟩, (fun h => by cases h), (fun h => absurd h (by decide))⟩) rfl rfl rfl (fun pc row h => (I_X1_isCell_ok pc row h).2)
def rm_X1_isJoint : Room := { frames := 0, cells := 0, slots := 0, locals := 0 }
noncomputable def G_X1_isJoint : mjG := (I_X1_isJoint, (fun _ => none), [], (fun pc => []), Y0, (fun _ => none), (fun _ => none), (some .boolean), 0, 0, false)
set_option maxHeartbeats 20000000 in
set_option maxRecDepth 100000 in
theorem ok_X1_isJoint : mjOK G_X1_isJoint 1 S_X1_isJoint := by
  intro M as hP T hT
  obtain ⟨x, rfl, rfl⟩ := in1 hP
  refine hT.1 (fun _ => false) 40 _ _ _ _ _ ?_
  refine And.intro (fun h => ⟨rfl, rfl, mjsi ?_⟩) (fun h => And.intro (fun h2 => ⟨rfl, rfl, mjsi ?_⟩) (fun h2 => ⟨rfl, rfl, mjsi ?_⟩)) <;> (show _ = gIsJoint x; simp only [gIsJoint, h, if_true, if_false]) <;> simp only [h2, if_true, if_false]
set_option maxRecDepth 10000 in
theorem ct_X1_isJoint (l : Launch) : mjCT l yX1_isJoint cX1_isJoint 1 (some .boolean) rm_X1_isJoint S_X1_isJoint :=
  mjCT_of (own := RX1) (G := G_X1_isJoint) (plainFor_of_name pn_X1) rfl ok_X1_isJoint (fun meth hm => ⟨fun pc row h => (I_X1_isJoint_ok pc row h).1, (fun _ _ _ _ h => by cases h), fun _ h => absurd h List.not_mem_nil, (fun _ _ _ h => by cases h), (fun _ _ h => by cases h), ⟨Nat.le_refl _, Nat.le_refl _⟩, (fun h => by cases h), (fun h => absurd h (by decide))⟩) rfl rfl rfl (fun pc row h => (I_X1_isJoint_ok pc row h).2)
def rm_X1_firstCell : Room := { frames := 0, cells := 0, slots := 0, locals := 0 }
noncomputable def G_X1_firstCell : mjG := (I_X1_firstCell, (fun _ => none), [], (fun pc => []), Y0, (fun _ => none), (fun _ => none), (some .int), 0, 0, false)
set_option maxHeartbeats 20000000 in
set_option maxRecDepth 100000 in
theorem ok_X1_firstCell : mjOK G_X1_firstCell 1 S_X1_firstCell := by
  intro M as hP T hT
  obtain ⟨x, rfl, rfl⟩ := in1 hP
  refine hT.1 (fun _ => false) 40 _ _ _ _ _ ?_
  refine And.intro (fun h => ⟨rfl, mjsi ?_⟩) (fun h => ⟨rfl, mjsi ?_⟩)
  · exact (if_pos h).symm
  · exact (if_neg h).symm
set_option maxRecDepth 10000 in
theorem ct_X1_firstCell (l : Launch) : mjCT l yX1_firstCell cX1_firstCell 1 (some .int) rm_X1_firstCell S_X1_firstCell :=
  mjCT_of (own := RX1) (G := G_X1_firstCell) (plainFor_of_name pn_X1) rfl ok_X1_firstCell (fun meth hm => ⟨fun pc row h => (I_X1_firstCell_ok pc row h).1, (fun _ _ _ _ h => by cases h), fun _ h => absurd h List.not_mem_nil, (fun _ _ _ h => by cases h), (fun _ _ h => by cases h), ⟨Nat.le_refl _, Nat.le_refl _⟩, (fun h => by cases h), (fun h => absurd h (by decide))⟩) rfl rfl rfl (fun pc row h => (I_X1_firstCell_ok pc row h).2)
def rm_X1_secondCell : Room := { frames := 0, cells := 0, slots := 0, locals := 0 }
noncomputable def G_X1_secondCell : mjG := (I_X1_secondCell, (fun _ => none), [], (fun pc => []), Y0, (fun _ => none), (fun _ => none), (some .int), 0, 0, false)
set_option maxHeartbeats 20000000 in
set_option maxRecDepth 100000 in
theorem ok_X1_secondCell : mjOK G_X1_secondCell 1 S_X1_secondCell := by
  intro M as hP T hT
  obtain ⟨x, rfl, rfl⟩ := in1 hP
  refine hT.1 (fun _ => false) 40 _ _ _ _ _ ?_
  refine And.intro (fun h => ⟨rfl, mjsi ?_⟩) (fun h => ⟨rfl, mjsi ?_⟩)
  · exact (if_pos h).symm
  · exact (if_neg h).symm
set_option maxRecDepth 10000 in
theorem ct_X1_secondCell (l : Launch) : mjCT l yX1_secondCell cX1_secondCell 1 (some .int) rm_X1_secondCell S_X1_secondCell :=
  mjCT_of (own := RX1) (G := G_X1_secondCell) (plainFor_of_name pn_X1) rfl ok_X1_secondCell (fun meth hm => ⟨fun pc row h => (I_X1_secondCell_ok pc row h).1, (fun _ _ _ _ h => by cases h), fun _ h => absurd h List.not_mem_nil, (fun _ _ _ h => by cases h), (fun _ _ h => by cases h), ⟨Nat.le_refl _, Nat.le_refl _⟩, (fun h => by cases h), (fun h => absurd h (by decide))⟩) rfl rfl rfl (fun pc row h => (I_X1_secondCell_ok pc row h).2)
def rm_X1_otherCell : Room := { frames := 1, cells := 0, slots := 0, locals := 20 }
noncomputable def G_X1_otherCell : mjG := (I_X1_otherCell, (fun _ => none), [(9, 1, 0, 1, 0, 0, S_X1_firstCell), (15, 1, 0, 1, 0, 0, S_X1_secondCell)], (fun pc => []), Y0, (fun _ => none), (fun _ => none), (some .int), 0, 0, false)
set_option maxHeartbeats 20000000 in
set_option maxRecDepth 100000 in
theorem ok_X1_otherCell : mjOK G_X1_otherCell 2 S_X1_otherCell := by
  intro M as hP T hT
  obtain ⟨x, y, rfl, rfl⟩ := in2 hP
  refine hT.1 (fun _ => false) 40 _ _ _ _ _ ?_
  refine And.intro ⟨rfl, rfl⟩ (And.intro (fun h => And.intro ⟨rfl, rfl⟩ ⟨rfl, mjsi ?_⟩) (fun h => And.intro ⟨rfl, rfl⟩ ⟨rfl, mjsi ?_⟩))
  · exact (if_neg h).symm
  · exact (if_pos h).symm
set_option maxRecDepth 10000 in
theorem ct_X1_otherCell (l : Launch) : mjCT l yX1_otherCell cX1_otherCell 2 (some .int) rm_X1_otherCell S_X1_otherCell :=
  mjCT_of (own := RX1) (G := G_X1_otherCell) (plainFor_of_name pn_X1) rfl ok_X1_otherCell (fun meth hm => ⟨fun pc row h => (I_X1_otherCell_ok pc row h).1, (fun _ _ _ _ h => by cases h), List.forall_mem_cons.mpr ⟨⟨yX1_firstCell, cX1_firstCell, 1, (some .int), rm_X1_firstCell, ct_X1_firstCell l, ⟨rfl, rfl⟩, ⟨by decide, by decide⟩, by decide, nk_X1_firstCell, ln_X1_9, st_X1_firstCell⟩, List.forall_mem_cons.mpr ⟨⟨yX1_secondCell, cX1_secondCell, 1, (some .int), rm_X1_secondCell, ct_X1_secondCell l, ⟨rfl, rfl⟩, ⟨by decide, by decide⟩, by decide, nk_X1_secondCell, ln_X1_15, st_X1_secondCell⟩, fun _ h => absurd h List.not_mem_nil⟩⟩, (fun _ _ _ h => by cases h), (fun _ _ h => by cases h), ⟨Nat.le_refl _, Nat.le_refl _⟩, (fun h => by cases h), (fun h => absurd h (by decide))⟩) rfl rfl rfl (fun pc row h => (I_X1_otherCell_ok pc row h).2)
def rm_X1_jointAt : Room := { frames := 0, cells := 0, slots := 0, locals := 0 }
noncomputable def G_X1_jointAt : mjG := (I_X1_jointAt, (fun _ => none), [], (fun pc => []), Y_X1_jointAt, (fun _ => none), (fun _ => none), (some .int), 0, 0, false)
set_option maxHeartbeats 20000000 in
set_option maxRecDepth 100000 in
theorem ok_X1_jointAt : mjOK G_X1_jointAt 4 S_X1_jointAt := by
  intro M as hP T hT
  obtain ⟨x, y, rfl, rfl⟩ := in2 hP
  refine hT.1 (fun _ => false) 60 _ _ _ _ _ ?_
  refine And.intro (fun h => And.intro (fun h2 => ⟨rfl, mjsi ?_⟩) (fun h2 => ⟨rfl, mjsi ?_⟩)) (fun h => And.intro (fun h1 => And.intro (fun h2 => ⟨rfl, mjsi ?_⟩) (fun h2 => ⟨rfl, mjsi ?_⟩)) (fun h1 => And.intro (fun h3 => And.intro (fun h2 => ⟨rfl, mjsi ?_⟩) (fun h2 => ⟨rfl, mjsi ?_⟩)) (fun h3 => And.intro (fun h2 => ⟨rfl, mjsi ?_⟩) (fun h2 => ⟨rfl, mjsi ?_⟩))))
  all_goals (show _ = gJointAt x y; unfold gJointAt)
  · rw [if_pos h, if_pos h2]
  · rw [if_pos h, if_neg h2]
  · rw [if_neg h, if_pos h1, if_pos h2]
  · rw [if_neg h, if_pos h1, if_neg h2]
  · rw [if_neg h, if_neg h1, if_pos h3, if_pos h2]
  · rw [if_neg h, if_neg h1, if_pos h3, if_neg h2]
  · rw [if_neg h, if_neg h1, if_neg h3, if_pos h2]
  · rw [if_neg h, if_neg h1, if_neg h3, if_neg h2]
set_option maxRecDepth 10000 in
theorem ct_X1_jointAt (l : Launch) : mjCT l yX1_jointAt cX1_jointAt 4 (some .int) rm_X1_jointAt S_X1_jointAt :=
  mjCT_of (own := RX1) (G := G_X1_jointAt) (plainFor_of_name pn_X1) rfl ok_X1_jointAt (fun meth hm => ⟨fun pc row h => (I_X1_jointAt_ok pc row h).1, (fun _ _ _ _ h => by cases h), fun _ h => absurd h List.not_mem_nil, (fun _ _ _ h => by cases h), (fun _ _ h => by cases h), ⟨Nat.le_refl _, Nat.le_refl _⟩, (fun h => by cases h), (fun h => absurd h (by decide))⟩) rfl rfl rfl (fun pc row h => (I_X1_jointAt_ok pc row h).2)
def rm_X1_rimSides : Room := { frames := 0, cells := 0, slots := 0, locals := 0 }
noncomputable def G_X1_rimSides : mjG := (I_X1_rimSides, (fun _ => none), [], (fun pc => []), Y0, (fun _ => none), (fun _ => none), (some .int), 0, 0, false)
set_option maxHeartbeats 20000000 in
set_option maxRecDepth 100000 in
theorem ok_X1_rimSides : mjOK G_X1_rimSides 5 S_X1_rimSides := by
  intro M as hP T hT
  obtain ⟨x, rfl, rfl⟩ := in1 hP
  have tail : ∀ (z : Int32), z = (if x / 6 = 0 then 1 else if x / 6 = 5 then 1 else 0) → T 25 [some (.int x), some (.int (x / 6)), some (.int (x - x / 6 * 6)), some (.int z), none] [] [] (0, 0) := by
    intro z hz
    refine hT.1 (fun _ => false) 40 _ _ _ _ _ ?_
    refine And.intro (fun h => ⟨rfl, mjsi ?_⟩) (fun h => And.intro (fun h2 => ⟨rfl, mjsi ?_⟩) (fun h2 => ⟨rfl, mjsi ?_⟩)) <;> (show _ = gRim x; unfold gRim; rw [hz])
    · rw [if_pos h]
    · rw [if_neg h, if_neg h2]
    · rw [if_neg h, if_pos h2]
  refine hT.1 (fun pc => Nat.beq pc 25) 40 _ _ _ _ _ ?_
  refine And.intro (fun h => tail _ ?_) (fun h => And.intro (fun h2 => tail _ ?_) (fun h2 => tail _ ?_))
  · rw [if_pos h]
  · rw [if_neg h, if_neg h2]
  · rw [if_neg h, if_pos h2]
set_option maxRecDepth 10000 in
theorem ct_X1_rimSides (l : Launch) : mjCT l yX1_rimSides cX1_rimSides 5 (some .int) rm_X1_rimSides S_X1_rimSides :=
  mjCT_of (own := RX1) (G := G_X1_rimSides) (plainFor_of_name pn_X1) rfl ok_X1_rimSides (fun meth hm => ⟨fun pc row h => (I_X1_rimSides_ok pc row h).1, (fun _ _ _ _ h => by cases h), fun _ h => absurd h List.not_mem_nil, (fun _ _ _ h => by cases h), (fun _ _ h => by cases h), ⟨Nat.le_refl _, Nat.le_refl _⟩, (fun h => by cases h), (fun h => absurd h (by decide))⟩) rfl rfl rfl (fun pc row h => (I_X1_rimSides_ok pc row h).2)
def rm_X1_isEnd : Room := { frames := 1, cells := 0, slots := 0, locals := 20 }
noncomputable def G_X1_isEnd : mjG := (I_X1_isEnd, (fun _ => none), [(9, 1, 0, 1, 0, 0, S_X1_firstCell), (15, 1, 0, 1, 0, 0, S_X1_secondCell)], (fun pc => []), Y0, (fun _ => none), (fun _ => none), (some .boolean), 0, 0, false)
set_option maxHeartbeats 20000000 in
set_option maxRecDepth 100000 in
theorem ok_X1_isEnd : mjOK G_X1_isEnd 2 S_X1_isEnd := by
  intro M as hP T hT
  obtain ⟨x, y, rfl, rfl⟩ := in2 hP
  refine hT.1 (fun _ => false) 40 _ _ _ _ _ ?_
  refine And.intro ⟨rfl, rfl⟩ (And.intro (fun (h : gFirst y = x) => ⟨rfl, rfl, mjsi ?_⟩) (fun (h : ¬ gFirst y = x) => And.intro ⟨rfl, rfl⟩ (And.intro (fun (h2 : ¬ gSecond y = x) => ⟨rfl, rfl, mjsi ?_⟩) (fun (h2 : gSecond y = x) => ⟨rfl, rfl, mjsi ?_⟩)))) <;> (show _ = gIsEnd x y; unfold gIsEnd)
  · rw [if_pos h]
  · rw [if_neg h, if_neg h2]
  · rw [if_neg h, if_pos h2]
set_option maxRecDepth 10000 in
theorem ct_X1_isEnd (l : Launch) : mjCT l yX1_isEnd cX1_isEnd 2 (some .boolean) rm_X1_isEnd S_X1_isEnd :=
  mjCT_of (own := RX1) (G := G_X1_isEnd) (plainFor_of_name pn_X1) rfl ok_X1_isEnd (fun meth hm => ⟨fun pc row h => (I_X1_isEnd_ok pc row h).1, (fun _ _ _ _ h => by cases h), List.forall_mem_cons.mpr ⟨⟨yX1_firstCell, cX1_firstCell, 1, (some .int), rm_X1_firstCell, ct_X1_firstCell l, ⟨rfl, rfl⟩, ⟨by decide, by decide⟩, by decide, nk_X1_firstCell, ln_X1_9, st_X1_firstCell⟩, List.forall_mem_cons.mpr ⟨⟨yX1_secondCell, cX1_secondCell, 1, (some .int), rm_X1_secondCell, ct_X1_secondCell l, ⟨rfl, rfl⟩, ⟨by decide, by decide⟩, by decide, nk_X1_secondCell, ln_X1_15, st_X1_secondCell⟩, fun _ h => absurd h List.not_mem_nil⟩⟩, (fun _ _ _ h => by cases h), (fun _ _ h => by cases h), ⟨Nat.le_refl _, Nat.le_refl _⟩, (fun h => by cases h), (fun h => absurd h (by decide))⟩) rfl rfl rfl (fun pc row h => (I_X1_isEnd_ok pc row h).2)
def rm_X1_touch : Room := { frames := 2, cells := 0, slots := 0, locals := 41 }
noncomputable def G_X1_touch : mjG := (I_X1_touch, (fun _ => none), [(9, 1, 0, 1, 0, 0, S_X1_firstCell), (18, 1, 0, 2, 0, 0, S_X1_isEnd), (15, 1, 0, 1, 0, 0, S_X1_secondCell)], (fun pc => []), Y0, (fun _ => none), (fun _ => none), (some .boolean), 0, 0, false)
set_option maxHeartbeats 20000000 in
set_option maxRecDepth 100000 in
theorem ok_X1_touch : mjOK G_X1_touch 2 S_X1_touch := by
  intro M as hP T hT
  obtain ⟨x, y, rfl, rfl⟩ := in2 hP
  refine hT.1 (fun _ => false) 40 _ _ _ _ _ ?_
  refine And.intro (fun h => ⟨rfl, rfl, mjsi ?_⟩) (fun h => And.intro ⟨rfl, rfl⟩ (And.intro ⟨rfl, rfl⟩ (And.intro (fun (h2 : ¬ gIsEnd (gFirst x) y = 0) => ⟨rfl, rfl, mjsi ?_⟩) (fun (h2 : gIsEnd (gFirst x) y = 0) => And.intro ⟨rfl, rfl⟩ (And.intro ⟨rfl, rfl⟩ (And.intro (fun (h3 : gIsEnd (gSecond x) y = 0) => ⟨rfl, rfl, mjsi ?_⟩) (fun (h3 : ¬ gIsEnd (gSecond x) y = 0) => ⟨rfl, rfl, mjsi ?_⟩))))))) <;> (show _ = gTouch x y; unfold gTouch)
  · rw [if_pos h]
  · rw [if_neg h, if_neg h2]
  · rw [if_neg h, if_pos h2, if_pos h3]
  · rw [if_neg h, if_pos h2, if_neg h3]
set_option maxRecDepth 10000 in
theorem ct_X1_touch (l : Launch) : mjCT l yX1_touch cX1_touch 2 (some .boolean) rm_X1_touch S_X1_touch :=
  mjCT_of (own := RX1) (G := G_X1_touch) (plainFor_of_name pn_X1) rfl ok_X1_touch (fun meth hm => ⟨fun pc row h => (I_X1_touch_ok pc row h).1, (fun _ _ _ _ h => by cases h), List.forall_mem_cons.mpr ⟨⟨yX1_firstCell, cX1_firstCell, 1, (some .int), rm_X1_firstCell, ct_X1_firstCell l, ⟨rfl, rfl⟩, ⟨by decide, by decide⟩, by decide, nk_X1_firstCell, ln_X1_9, st_X1_firstCell⟩, List.forall_mem_cons.mpr ⟨⟨yX1_isEnd, cX1_isEnd, 2, (some .boolean), rm_X1_isEnd, ct_X1_isEnd l, ⟨rfl, rfl⟩, ⟨by decide, by decide⟩, by decide, nk_X1_isEnd, ln_X1_18, st_X1_isEnd⟩, List.forall_mem_cons.mpr ⟨⟨yX1_secondCell, cX1_secondCell, 1, (some .int), rm_X1_secondCell, ct_X1_secondCell l, ⟨rfl, rfl⟩, ⟨by decide, by decide⟩, by decide, nk_X1_secondCell, ln_X1_15, st_X1_secondCell⟩, fun _ h => absurd h List.not_mem_nil⟩⟩⟩, (fun _ _ _ h => by cases h), (fun _ _ h => by cases h), ⟨Nat.le_refl _, Nat.le_refl _⟩, (fun h => by cases h), (fun h => absurd h (by decide))⟩) rfl rfl rfl (fun pc row h => (I_X1_touch_ok pc row h).2)
def rm_X6_isOutside : Room := { frames := 0, cells := 0, slots := 0, locals := 0 }
noncomputable def G_X6_isOutside : mjG := (I_X6_isOutside, F_X6, [], (fun pc => []), Y0, (fun _ => none), (fun _ => none), (some .boolean), 0, 0, false)
set_option maxHeartbeats 20000000 in
set_option maxRecDepth 100000 in
theorem ok_X6_isOutside : mjOK G_X6_isOutside 3 S_X6_isOutside := by
  intro M as hP T hT
  obtain ⟨x, y, z, rfl, rfl⟩ := in3 hP
  refine hT.1 (fun _ => false) 40 _ _ _ _ _ ?_
  refine And.intro (fun h => ⟨rfl, rfl, mjsi ?_⟩) (fun h => And.intro (fun h2 => ⟨rfl, rfl, mjsi ?_⟩) (fun h2 => ⟨rfl, rfl, mjsi ?_⟩)) <;> (show _ = gOut x y z; unfold gOut)
  · rw [if_pos h]
  · rw [if_neg h, if_pos h2]
  · rw [if_neg h, if_neg h2]
set_option maxRecDepth 10000 in
theorem ct_X6_isOutside (l : Launch) : mjCT l yX6_isOutside cX6_isOutside 3 (some .boolean) rm_X6_isOutside S_X6_isOutside :=
  mjCT_of (own := RX6) (G := G_X6_isOutside) (plainFor_of_name pn_X6) rfl ok_X6_isOutside (fun meth hm => ⟨fun pc row h => (I_X6_isOutside_ok pc row h).1, F_X6_ok, fun _ h => absurd h List.not_mem_nil, (fun _ _ _ h => by cases h), (fun _ _ h => by cases h), ⟨Nat.le_refl _, Nat.le_refl _⟩, (fun h => by cases h), (fun h => absurd h (by decide))⟩) rfl rfl rfl (fun pc row h => (I_X6_isOutside_ok pc row h).2)
/-- fill: all of the row -/
def fillA (n : Nat) (f : Nat → Int32) (v : Int32) : Nat → Int32 := fun k => if k < n then v else f k
def rN (M : mjM) (i : Nat) : Nat := match M[i]? with
  | some (.inl (_, (n, _))) => n
  | _ => 0
def S_J7_fill_53178 : mjSp := fun M as => ((M = [.inl (0, (rN M 0, .inl (rA M 0)))] ∧ rN M 0 < 2147483647) ∧ as = [.ref 0, .int (aI as 1)], some [.inl (0, (rN M 0, .inl (fillA (rN M 0) (rA M 0) (aI as 1))))], none)
def rm_J7_fill_53178 : Room := { frames := 0, cells := 0, slots := 0, locals := 0 }
noncomputable def G_J7_fill_53178 : mjG := (I_J7_fill_53178, (fun _ => none), [], (fun pc => []), Y0, (fun _ => none), (fun _ => none), none, 0, 0, false)
set_option maxHeartbeats 20000000 in
set_option maxRecDepth 100000 in
theorem ok_J7_fill_53178 : mjOK G_J7_fill_53178 4 S_J7_fill_53178 := by
  intro M as hP T hT
  obtain ⟨⟨hM, hn⟩, ha⟩ := hP
  obtain ⟨n, f, v, rfl, rfl, hn⟩ : ∃ n f v, M = [.inl (0, (n, .inl f))] ∧ as = [.ref 0, .int v] ∧ n < 2147483647 := ⟨_, _, _, hM, ha, hn⟩
  have loop : ∀ (F : Nat → Int32), (∀ k, F k = fillA 0 f v k) → T 5 [some (.ref 0), some (.int v), some (.int (nI 0)), some (.int (nI n))] [] [.inl (0, (n, .inl F))] (0, 0) := by
    refine mjloop0 n (fun i => ∀ (F : Nat → Int32), (∀ k, F k = fillA i f v k) → T 5 [some (.ref 0), some (.int v), some (.int (nI i)), some (.int (nI n))] [] [.inl (0, (n, .inl F))] (0, 0)) (fun i hi ih F hF => ?_) (fun F hF => ?_)
    · refine hT.1 (fun pc => Nat.beq pc 5) 40 _ _ _ _ _ ?_
      refine And.intro (fun h => absurd h (nI_ge hi (by omega))) (fun _ => mjix_n hi (by omega) ?_)
      have := ih (upd F i v) (fun k => by
        unfold upd fillA
        by_cases hk : k = i
        · subst hk; simp
        · rw [if_neg hk, hF k]
          unfold fillA
          by_cases h2 : k < i
          · rw [if_pos h2, if_pos (by omega)]
          · rw [if_neg h2, if_neg (by omega)])
      rw [nI_succ] at this
      exact this
    · refine hT.1 (fun pc => Nat.beq pc 5) 40 _ _ _ _ _ ?_
      refine And.intro (fun h => ⟨?_, rfl⟩) (fun h => absurd (nI_le (Nat.le_refl n) (by omega)) h)
      rw [show F = fillA n f v from funext hF]
      rfl
  refine hT.1 (fun pc => Nat.beq pc 5) 40 _ _ _ _ _ ?_
  exact loop f (fun k => by simp [fillA])
set_option maxRecDepth 10000 in
theorem ct_J7_fill_53178 (l : Launch) : mjCT l yJ7_fill_53178 cJ7_fill_53178 4 none rm_J7_fill_53178 S_J7_fill_53178 :=
  mjCT_of (own := RJ7) (G := G_J7_fill_53178) pf_J7_fill_53178 rfl ok_J7_fill_53178 (fun meth hm => ⟨fun pc row h => (I_J7_fill_53178_ok pc row h).1, (fun _ _ _ _ h => by cases h), fun _ h => absurd h List.not_mem_nil, (fun _ _ _ h => by cases h), (fun _ _ h => by cases h), ⟨Nat.le_refl _, Nat.le_refl _⟩, (fun h => by cases h), (fun h => absurd h (by decide))⟩) rfl rfl rfl (fun pc row h => (I_J7_fill_53178_ok pc row h).2)
end
section
/-! the pane: what its looks answer -/
def nf {α : Type} (F : Nat → α → α) (a : α) : Nat → α
  | 0 => a
  | n + 1 => F n (nf F a n)
/-- heats, gains, strengths, cracked in; furnace, aim, rate, lead, rim, minutes, loss, flames -/
abbrev PSt : Type := (Nat → Int32) × (Nat → Int32) × (Nat → Int32) × (Nat → Int32) × Int32 × Int32 × Int32 × Int32 × Int32 × Int32 × Int32 × Int32
def pw (p : PSt) : mjM := match p with
  | (h, g, s, c, fu, ai, ra, le, ri, mi, lo, fl) => [.inr (3, [.ref 1, .ref 2, .ref 3, .ref 4, .int fu, .int ai, .int ra, .int le, .int ri, .int mi, .int lo, .int fl]), .inl (0, (36, .inl h)), .inl (0, (36, .inl g)), .inl (0, (60, .inl s)), .inl (0, (60, .inl c))]
def rP (M : mjM) : PSt := (rA M 1, rA M 2, rA M 3, rA M 4, rF M 0 4, rF M 0 5, rF M 0 6, rF M 0 7, rF M 0 8, rF M 0 9, rF M 0 10, rF M 0 11)
def pH (p : PSt) : Nat → Int32 := p.1
def pS (p : PSt) : Nat → Int32 := p.2.2.1
def pC (p : PSt) : Nat → Int32 := p.2.2.2.1
theorem inP0 {M : mjM} {as : List Value} (h : M = pw (rP M) ∧ as = [.ref 0]) : ∃ p, M = pw p ∧ as = [.ref 0] := ⟨_, h⟩
theorem inP1 {M : mjM} {as : List Value} (h : M = pw (rP M) ∧ as = [.ref 0, .int (aI as 1)]) : ∃ p x, M = pw p ∧ as = [.ref 0, .int x] := ⟨_, _, h⟩
theorem inP2 {M : mjM} {as : List Value} (h : M = pw (rP M) ∧ as = [.ref 0, .int (aI as 1), .int (aI as 2)]) : ∃ p x y, M = pw p ∧ as = [.ref 0, .int x, .int y] := ⟨_, _, _, h⟩
def gWh (c : Nat → Int32) (j : Int32) : Int32 := if j < 0 then 0 else if 60 ≤ j then 0 else if c j.toNatClampNeg = 0 then 1 else 0
def gJt (s : Nat → Int32) (j : Int32) : Int32 := if gIsJoint j = 0 then 0 else s j.toNatClampNeg
def gStr (h : Nat → Int32) (j : Int32) : Int32 := gAbs (gAt 36 h (gFirst j) - gAt 36 h (gSecond j))
def gMar (h s : Nat → Int32) (j : Int32) : Int32 := gJt s j - gStr h j
theorem gIsJoint_ne {j : Int32} (h : ¬ gIsJoint j = 0) : ¬ j < 0 ∧ ¬ 60 ≤ j := by
  unfold gIsJoint at h
  by_cases h1 : j < 0
  · rw [if_pos h1] at h; exact absurd rfl h
  · by_cases h2 : 60 ≤ j
    · rw [if_neg h1, if_pos h2] at h; exact absurd rfl h
    · exact ⟨h1, h2⟩
theorem gIsCell_ne {j : Int32} (h : ¬ gIsCell j = 0) : ¬ j < 0 ∧ ¬ 36 ≤ j := by
  unfold gIsCell at h
  by_cases h1 : j < 0
  · rw [if_pos h1] at h; exact absurd rfl h
  · by_cases h2 : 36 ≤ j
    · rw [if_neg h1, if_pos h2] at h; exact absurd rfl h
    · exact ⟨h1, h2⟩
abbrev pm0 (V : PSt → Int32) : mjSp := fun M as => (M = pw (rP M) ∧ as = [.ref 0], none, some (.int (V (rP M))))
abbrev pm1 (V : PSt → Int32 → Int32) : mjSp := fun M as => (M = pw (rP M) ∧ as = [.ref 0, .int (aI as 1)], none, some (.int (V (rP M) (aI as 1))))
def S_X4_heatAt : mjSp := pm1 fun p j => gAt 36 (pH p) j
def S_X4_isWhole : mjSp := pm1 fun p j => gWh (pC p) j
def S_X4_crackedMinuteOf : mjSp := pm1 fun p j => gJt (pC p) j
def S_X4_strengthOf : mjSp := pm1 fun p j => gJt (pS p) j
def S_X4_stressOf : mjSp := pm1 fun p j => gStr (pH p) j
def S_X4_marginOf : mjSp := pm1 fun p j => gMar (pH p) (pS p) j
def gWholeOf (c : Nat → Int32) (k : Int32) : Int32 := nf (fun i a => if gWh c (gJointAt k (nI i)) = 0 then a else a + 1) 0 4
def gBeside (c : Nat → Int32) (j : Int32) : Int32 := nf (fun i a => if gWh c (nI i) = 0 then a else if gTouch (nI i) j = 0 then a else a + 1) 0 60
def gStrOf (h c : Nat → Int32) (k : Int32) : Int32 := nf (fun i a => if gWh c (gJointAt k (nI i)) = 0 then a else gMax a (gStr h (gJointAt k (nI i)))) (-4) 4
def gStrMax (h c : Nat → Int32) : Int32 := nf (fun i a => if gWh c (nI i) = 0 then a else gMax a (gStr h (nI i))) (-4) 60
/-- the most strained joint so far, and its margin -/
def gWorst (h s c : Nat → Int32) : Nat → Int32 × Int32 := nf (fun i a => if gWh c (nI i) = 0 then a else if a.1 = -1 then (nI i, gMar h s (nI i)) else if a.2 ≤ gMar h s (nI i) then a else (nI i, gMar h s (nI i))) (-1, 0)
def gLeastMar (h s c : Nat → Int32) : Int32 := if (gWorst h s c 60).1 = -1 then -4 else gMar h s (gWorst h s c 60).1
def gPlace (h s c : Nat → Int32) (j : Int32) : Int32 := nf (fun i a => if gWh c (nI i) = 0 then a else if gMar h s (nI i) < gMar h s j then a + 1 else if gMar h s (nI i) = gMar h s j then (if j ≤ nI i then a else a + 1) else a) 0 60
/-- the first joint from i on that is whole and at the place -/
def gFind (h s c : Nat → Int32) (x : Int32) : Nat → Nat → Int32
  | _, 0 => -4
  | i, d + 1 => if gWh c (nI i) = 0 then gFind h s c x (i + 1) d else if gPlace h s c (nI i) = x then nI i else gFind h s c x (i + 1) d
def gCracked (c : Nat → Int32) : Int32 := nf (fun i a => if gWh c (nI i) = 0 then a + 1 else a) 0 60
def gSum (h : Nat → Int32) : Int32 := nf (fun i a => a + h i) 0 36
def gHot (h : Nat → Int32) : Int32 := nf (fun i a => gMax a (h (i + 1))) (h 0) 35
def gCold (h : Nat → Int32) : Int32 := nf (fun i a => gMin a (h (i + 1))) (h 0) 35
noncomputable def S_X4_wholeJointsOf : mjSp := pm1 fun p k => kseal (gWholeOf (pC p) k)
noncomputable def S_X4_wholeJointsBeside : mjSp := pm1 fun p k => kseal (gBeside (pC p) k)
noncomputable def S_X4_greatestStressOf : mjSp := pm1 fun p k => kseal (gStrOf (pH p) (pC p) k)
noncomputable def S_X4_greatestStress : mjSp := pm0 fun p => kseal (gStrMax (pH p) (pC p))
noncomputable def S_X4_mostStrained : mjSp := pm0 fun p => kseal ((gWorst (pH p) (pS p) (pC p) 60).1)
noncomputable def S_X4_leastMargin : mjSp := pm0 fun p => kseal (gLeastMar (pH p) (pS p) (pC p))
noncomputable def S_X4_placeOf : mjSp := pm1 fun p j => kseal (gPlace (pH p) (pS p) (pC p) j)
noncomputable def S_X4_strainedAt : mjSp := pm1 fun p x => kseal (gFind (pH p) (pS p) (pC p) x 0 60)
noncomputable def S_X4_crackedJoints : mjSp := pm0 fun p => kseal (gCracked (pC p))
noncomputable def S_X4_sumOfHeats : mjSp := pm0 fun p => kseal (gSum (pH p))
noncomputable def S_X4_greatestHeat : mjSp := pm0 fun p => kseal (gHot (pH p))
noncomputable def S_X4_leastHeat : mjSp := pm0 fun p => kseal (gCold (pH p))
def rm_X4_heatAt : Room := { frames := 0, cells := 0, slots := 0, locals := 0 }
noncomputable def G_X4_heatAt : mjG := (I_X4_heatAt, F_X4, [], (fun pc => []), Y0, (fun _ => none), (fun _ => none), (some .int), 0, 0, false)
set_option maxHeartbeats 20000000 in
set_option maxRecDepth 100000 in
theorem ok_X4_heatAt : mjOK G_X4_heatAt 2 S_X4_heatAt := by
  intro M as hP T hT
  obtain ⟨⟨h, g, s, c, fu, ai, ra, le, ri, mi, lo, fl⟩, j, rfl, rfl⟩ := inP1 hP
  refine hT.1 (fun _ => false) 40 _ _ _ _ _ ?_
  refine And.intro (fun h1 => ⟨rfl, mjsi ?_⟩) (fun h1 => And.intro (fun h2 => ⟨rfl, mjsi ?_⟩) (fun h2 => mjix_of h1 h2 rfl (by decide) ⟨rfl, mjsi ?_⟩))
  · exact (if_pos h1).symm
  · exact ((if_neg h1).trans (if_pos h2)).symm
  · exact ((if_neg h1).trans (if_neg h2)).symm
set_option maxRecDepth 10000 in
theorem ct_X4_heatAt (l : Launch) : mjCT l yX4_heatAt cX4_heatAt 2 (some .int) rm_X4_heatAt S_X4_heatAt :=
  mjCT_of (own := RX4) (G := G_X4_heatAt) (plainFor_of_name pn_X4) rfl ok_X4_heatAt (fun meth hm => ⟨fun pc row h => (I_X4_heatAt_ok pc row h).1, F_X4_ok, fun _ h => absurd h List.not_mem_nil, (fun _ _ _ h => by cases h), (fun _ _ h => by cases h), ⟨Nat.le_refl _, Nat.le_refl _⟩, (fun h => by cases h), (fun h => absurd h (by decide))⟩) rfl rfl rfl (fun pc row h => (I_X4_heatAt_ok pc row h).2)
def rm_X4_isWhole : Room := { frames := 0, cells := 0, slots := 0, locals := 0 }
noncomputable def G_X4_isWhole : mjG := (I_X4_isWhole, F_X4, [], (fun pc => []), Y0, (fun _ => none), (fun _ => none), (some .boolean), 0, 0, false)
set_option maxHeartbeats 20000000 in
set_option maxRecDepth 100000 in
theorem ok_X4_isWhole : mjOK G_X4_isWhole 2 S_X4_isWhole := by
  intro M as hP T hT
  obtain ⟨⟨h, g, s, c, fu, ai, ra, le, ri, mi, lo, fl⟩, j, rfl, rfl⟩ := inP1 hP
  refine hT.1 (fun _ => false) 40 _ _ _ _ _ ?_
  refine And.intro (fun h1 => ⟨rfl, rfl, mjsi ?_⟩) (fun h1 => And.intro (fun h2 => ⟨rfl, rfl, mjsi ?_⟩) (fun h2 => mjix_of h1 h2 rfl (by decide) (And.intro (fun h3 => ⟨rfl, rfl, mjsi ?_⟩) (fun h3 => ⟨rfl, rfl, mjsi ?_⟩))))
  · exact (if_pos h1).symm
  · exact ((if_neg h1).trans (if_pos h2)).symm
  · exact ((if_neg h1).trans ((if_neg h2).trans (if_neg h3))).symm
  · exact ((if_neg h1).trans ((if_neg h2).trans (if_pos h3))).symm
set_option maxRecDepth 10000 in
theorem ct_X4_isWhole (l : Launch) : mjCT l yX4_isWhole cX4_isWhole 2 (some .boolean) rm_X4_isWhole S_X4_isWhole :=
  mjCT_of (own := RX4) (G := G_X4_isWhole) (plainFor_of_name pn_X4) rfl ok_X4_isWhole (fun meth hm => ⟨fun pc row h => (I_X4_isWhole_ok pc row h).1, F_X4_ok, fun _ h => absurd h List.not_mem_nil, (fun _ _ _ h => by cases h), (fun _ _ h => by cases h), ⟨Nat.le_refl _, Nat.le_refl _⟩, (fun h => by cases h), (fun h => absurd h (by decide))⟩) rfl rfl rfl (fun pc row h => (I_X4_isWhole_ok pc row h).2)
def rm_X4_crackedMinuteOf : Room := { frames := 1, cells := 0, slots := 0, locals := 20 }
noncomputable def G_X4_crackedMinuteOf : mjG := (I_X4_crackedMinuteOf, F_X4, [(130, 1, 0, 1, 0, 0, S_X1_isJoint)], (fun pc => []), Y0, (fun _ => none), (fun _ => none), (some .int), 0, 0, false)
set_option maxHeartbeats 20000000 in
set_option maxRecDepth 100000 in
theorem ok_X4_crackedMinuteOf : mjOK G_X4_crackedMinuteOf 2 S_X4_crackedMinuteOf := by
  intro M as hP T hT
  obtain ⟨⟨h, g, s, c, fu, ai, ra, le, ri, mi, lo, fl⟩, j, rfl, rfl⟩ := inP1 hP
  refine hT.1 (fun _ => false) 40 _ _ _ _ _ ?_
  refine And.intro ⟨rfl, rfl⟩ (And.intro (fun (h1 : gIsJoint j = 0) => ⟨rfl, mjsi ?_⟩) (fun (h1 : ¬ gIsJoint j = 0) => mjix_of (gIsJoint_ne h1).1 (gIsJoint_ne h1).2 rfl (by decide) ⟨rfl, mjsi ?_⟩))
  · exact (if_pos h1).symm
  · exact (if_neg h1).symm
set_option maxRecDepth 10000 in
theorem ct_X4_crackedMinuteOf (l : Launch) : mjCT l yX4_crackedMinuteOf cX4_crackedMinuteOf 2 (some .int) rm_X4_crackedMinuteOf S_X4_crackedMinuteOf :=
  mjCT_of (own := RX4) (G := G_X4_crackedMinuteOf) (plainFor_of_name pn_X4) rfl ok_X4_crackedMinuteOf (fun meth hm => ⟨fun pc row h => (I_X4_crackedMinuteOf_ok pc row h).1, F_X4_ok, List.forall_mem_cons.mpr ⟨⟨yX1_isJoint, cX1_isJoint, 1, (some .boolean), rm_X1_isJoint, ct_X1_isJoint l, ⟨rfl, rfl⟩, ⟨by decide, by decide⟩, by decide, nk_X1_isJoint, ln_X4_130, st_X1_isJoint⟩, fun _ h => absurd h List.not_mem_nil⟩, (fun _ _ _ h => by cases h), (fun _ _ h => by cases h), ⟨Nat.le_refl _, Nat.le_refl _⟩, (fun h => by cases h), (fun h => absurd h (by decide))⟩) rfl rfl rfl (fun pc row h => (I_X4_crackedMinuteOf_ok pc row h).2)
def rm_X4_strengthOf : Room := { frames := 1, cells := 0, slots := 0, locals := 20 }
noncomputable def G_X4_strengthOf : mjG := (I_X4_strengthOf, F_X4, [(130, 1, 0, 1, 0, 0, S_X1_isJoint)], (fun pc => []), Y0, (fun _ => none), (fun _ => none), (some .int), 0, 0, false)
set_option maxHeartbeats 20000000 in
set_option maxRecDepth 100000 in
theorem ok_X4_strengthOf : mjOK G_X4_strengthOf 2 S_X4_strengthOf := by
  intro M as hP T hT
  obtain ⟨⟨h, g, s, c, fu, ai, ra, le, ri, mi, lo, fl⟩, j, rfl, rfl⟩ := inP1 hP
  refine hT.1 (fun _ => false) 40 _ _ _ _ _ ?_
  refine And.intro ⟨rfl, rfl⟩ (And.intro (fun (h1 : gIsJoint j = 0) => ⟨rfl, mjsi ?_⟩) (fun (h1 : ¬ gIsJoint j = 0) => mjix_of (gIsJoint_ne h1).1 (gIsJoint_ne h1).2 rfl (by decide) ⟨rfl, mjsi ?_⟩))
  · exact (if_pos h1).symm
  · exact (if_neg h1).symm
set_option maxRecDepth 10000 in
theorem ct_X4_strengthOf (l : Launch) : mjCT l yX4_strengthOf cX4_strengthOf 2 (some .int) rm_X4_strengthOf S_X4_strengthOf :=
  mjCT_of (own := RX4) (G := G_X4_strengthOf) (plainFor_of_name pn_X4) rfl ok_X4_strengthOf (fun meth hm => ⟨fun pc row h => (I_X4_strengthOf_ok pc row h).1, F_X4_ok, List.forall_mem_cons.mpr ⟨⟨yX1_isJoint, cX1_isJoint, 1, (some .boolean), rm_X1_isJoint, ct_X1_isJoint l, ⟨rfl, rfl⟩, ⟨by decide, by decide⟩, by decide, nk_X1_isJoint, ln_X4_130, st_X1_isJoint⟩, fun _ h => absurd h List.not_mem_nil⟩, (fun _ _ _ h => by cases h), (fun _ _ h => by cases h), ⟨Nat.le_refl _, Nat.le_refl _⟩, (fun h => by cases h), (fun h => absurd h (by decide))⟩) rfl rfl rfl (fun pc row h => (I_X4_strengthOf_ok pc row h).2)
def rm_X4_stressOf : Room := { frames := 1, cells := 0, slots := 0, locals := 21 }
noncomputable def G_X4_stressOf : mjG := (I_X4_stressOf, F_X4, [(94, 1, 0, 1, 0, 0, S_X1_firstCell), (103, 0, 3, 2, 0, 0, S_X4_heatAt), (100, 1, 0, 1, 0, 0, S_X1_secondCell), (133, 1, 0, 1, 0, 0, S_J9_abs_0f7a4)], (fun pc => bif Nat.beq pc 13 then [0, 1, 2, 3, 4] else bif Nat.beq pc 5 then [0, 1, 2, 3, 4] else []), Y0, (fun _ => none), (fun _ => none), (some .int), 0, 0, false)
set_option maxHeartbeats 20000000 in
set_option maxRecDepth 100000 in
theorem ok_X4_stressOf : mjOK G_X4_stressOf 2 S_X4_stressOf := by
  intro M as hP T hT
  obtain ⟨⟨h, g, s, c, fu, ai, ra, le, ri, mi, lo, fl⟩, j, rfl, rfl⟩ := inP1 hP
  refine hT.1 (fun _ => false) 40 _ _ _ _ _ ?_
  exact And.intro ⟨rfl, rfl⟩ (And.intro ⟨rfl, rfl⟩ (And.intro ⟨rfl, rfl⟩ (And.intro ⟨rfl, rfl⟩ (And.intro ⟨rfl, rfl⟩ ⟨rfl, rfl⟩))))
set_option maxRecDepth 10000 in
theorem ct_X4_stressOf (l : Launch) : mjCT l yX4_stressOf cX4_stressOf 2 (some .int) rm_X4_stressOf S_X4_stressOf :=
  mjCT_of (own := RX4) (G := G_X4_stressOf) (plainFor_of_name pn_X4) rfl ok_X4_stressOf (fun meth hm => ⟨fun pc row h => (I_X4_stressOf_ok pc row h).1, F_X4_ok, List.forall_mem_cons.mpr ⟨⟨yX1_firstCell, cX1_firstCell, 1, (some .int), rm_X1_firstCell, ct_X1_firstCell l, ⟨rfl, rfl⟩, ⟨by decide, by decide⟩, by decide, nk_X1_firstCell, ln_X4_94, st_X1_firstCell⟩, List.forall_mem_cons.mpr ⟨⟨yX4_heatAt, cX4_heatAt, 2, (some .int), rm_X4_heatAt, ct_X4_heatAt l, ⟨rfl, rfl⟩, ⟨by decide, by decide⟩, by decide, by decide, nk_X4_heatAt, ln_X4_103, im_X4_heatAt, se_X4_heatAt, rfl⟩, List.forall_mem_cons.mpr ⟨⟨yX1_secondCell, cX1_secondCell, 1, (some .int), rm_X1_secondCell, ct_X1_secondCell l, ⟨rfl, rfl⟩, ⟨by decide, by decide⟩, by decide, nk_X1_secondCell, ln_X4_100, st_X1_secondCell⟩, List.forall_mem_cons.mpr ⟨⟨yJ9_abs_0f7a4, cJ9_abs_0f7a4, 1, (some .int), rm_J9_abs_0f7a4, ct_J9_abs_0f7a4 l, ⟨rfl, rfl⟩, ⟨by decide, by decide⟩, by decide, nk_J9_abs_0f7a4, ln_X4_133, st_J9_abs_0f7a4⟩, fun _ h => absurd h List.not_mem_nil⟩⟩⟩⟩, (fun _ _ _ h => by cases h), (fun _ _ h => by cases h), ⟨Nat.le_refl _, Nat.le_refl _⟩, (fun h => by cases h), (fun h => absurd h (by decide))⟩) rfl rfl rfl (fun pc row h => (I_X4_stressOf_ok pc row h).2)
def rm_X4_marginOf : Room := { frames := 2, cells := 0, slots := 0, locals := 42 }
noncomputable def G_X4_marginOf : mjG := (I_X4_marginOf, F_X4, [(136, 0, 3, 2, 0, 0, S_X4_strengthOf), (139, 0, 3, 2, 0, 0, S_X4_stressOf)], (fun pc => [0, 1, 2, 3, 4]), Y0, (fun _ => none), (fun _ => none), (some .int), 0, 0, false)
set_option maxHeartbeats 20000000 in
set_option maxRecDepth 100000 in
theorem ok_X4_marginOf : mjOK G_X4_marginOf 2 S_X4_marginOf := by
  intro M as hP T hT
  obtain ⟨⟨h, g, s, c, fu, ai, ra, le, ri, mi, lo, fl⟩, j, rfl, rfl⟩ := inP1 hP
  refine hT.1 (fun _ => false) 40 _ _ _ _ _ ?_
  exact And.intro ⟨rfl, rfl⟩ (And.intro ⟨rfl, rfl⟩ ⟨rfl, rfl⟩)
set_option maxRecDepth 10000 in
theorem ct_X4_marginOf (l : Launch) : mjCT l yX4_marginOf cX4_marginOf 2 (some .int) rm_X4_marginOf S_X4_marginOf :=
  mjCT_of (own := RX4) (G := G_X4_marginOf) (plainFor_of_name pn_X4) rfl ok_X4_marginOf (fun meth hm => ⟨fun pc row h => (I_X4_marginOf_ok pc row h).1, F_X4_ok, List.forall_mem_cons.mpr ⟨⟨yX4_strengthOf, cX4_strengthOf, 2, (some .int), rm_X4_strengthOf, ct_X4_strengthOf l, ⟨rfl, rfl⟩, ⟨by decide, by decide⟩, by decide, by decide, nk_X4_strengthOf, ln_X4_136, im_X4_strengthOf, se_X4_strengthOf, rfl⟩, List.forall_mem_cons.mpr ⟨⟨yX4_stressOf, cX4_stressOf, 2, (some .int), rm_X4_stressOf, ct_X4_stressOf l, ⟨rfl, rfl⟩, ⟨by decide, by decide⟩, by decide, by decide, nk_X4_stressOf, ln_X4_139, im_X4_stressOf, se_X4_stressOf, rfl⟩, fun _ h => absurd h List.not_mem_nil⟩⟩, (fun _ _ _ h => by cases h), (fun _ _ h => by cases h), ⟨Nat.le_refl _, Nat.le_refl _⟩, (fun h => by cases h), (fun h => absurd h (by decide))⟩) rfl rfl rfl (fun pc row h => (I_X4_marginOf_ok pc row h).2)
def rm_X4_wholeJointsOf : Room := { frames := 1, cells := 0, slots := 0, locals := 23 }
noncomputable def G_X4_wholeJointsOf : mjG := (I_X4_wholeJointsOf, F_X4, [(142, 1, 0, 2, 0, 0, S_X1_jointAt), (90, 0, 3, 2, 0, 0, S_X4_isWhole)], (fun pc => bif Nat.beq pc 15 then [0, 1, 2, 3, 4] else []), Y0, (fun _ => none), (fun _ => none), (some .int), 0, 0, false)
set_option maxHeartbeats 20000000 in
set_option maxRecDepth 100000 in
theorem ok_X4_wholeJointsOf : mjOK G_X4_wholeJointsOf 4 S_X4_wholeJointsOf := by
  intro M as hP T hT
  obtain ⟨⟨h, g, s, c, fu, ai, ra, le, ri, mi, lo, fl⟩, k, rfl, rfl⟩ := inP1 hP
  refine hT.1 (fun pc => Nat.beq pc 4) 40 _ _ _ _ _ ?_
  refine mjloop0 4 (fun i => ∀ x, x = nf (fun i a => if gWh c (gJointAt k (nI i)) = 0 then a else a + 1) 0 i → T 4 [some (.ref 0), some (.int k), some (.int x), some (.int (nI i))] [] (pw (h, g, s, c, fu, ai, ra, le, ri, mi, lo, fl)) (0, 0)) (fun i hi ih x hx => ?_) (fun x hx => ?_) 0 rfl
  · rw [nI_succ] at ih
    refine hT.1 (fun pc => Nat.beq pc 4) 40 _ _ _ _ _ ?_
    refine And.intro (fun h => absurd h (nI_ge hi (by decide))) (fun _ => And.intro ⟨rfl, rfl⟩ (And.intro ⟨rfl, rfl⟩ (And.intro (fun h1 => ih _ ?_) (fun h1 => ih _ ?_))))
    · rw [hx]; exact (if_pos h1).symm
    · rw [hx]; exact (if_neg h1).symm
  · refine hT.1 (fun pc => Nat.beq pc 4) 40 _ _ _ _ _ ?_
    exact And.intro (fun _ => ⟨rfl, ksi hx⟩) (fun h => absurd (nI_le (Nat.le_refl 4) (by decide)) h)
set_option maxRecDepth 10000 in
theorem ct_X4_wholeJointsOf (l : Launch) : mjCT l yX4_wholeJointsOf cX4_wholeJointsOf 4 (some .int) rm_X4_wholeJointsOf S_X4_wholeJointsOf :=
  mjCT_of (own := RX4) (G := G_X4_wholeJointsOf) (plainFor_of_name pn_X4) rfl ok_X4_wholeJointsOf (fun meth hm => ⟨fun pc row h => (I_X4_wholeJointsOf_ok pc row h).1, F_X4_ok, List.forall_mem_cons.mpr ⟨⟨yX1_jointAt, cX1_jointAt, 4, (some .int), rm_X1_jointAt, ct_X1_jointAt l, ⟨rfl, rfl⟩, ⟨by decide, by decide⟩, by decide, nk_X1_jointAt, ln_X4_142, st_X1_jointAt⟩, List.forall_mem_cons.mpr ⟨⟨yX4_isWhole, cX4_isWhole, 2, (some .boolean), rm_X4_isWhole, ct_X4_isWhole l, ⟨rfl, rfl⟩, ⟨by decide, by decide⟩, by decide, by decide, nk_X4_isWhole, ln_X4_90, im_X4_isWhole, se_X4_isWhole, rfl⟩, fun _ h => absurd h List.not_mem_nil⟩⟩, (fun _ _ _ h => by cases h), (fun _ _ h => by cases h), ⟨Nat.le_refl _, Nat.le_refl _⟩, (fun h => by cases h), (fun h => absurd h (by decide))⟩) rfl rfl rfl (fun pc row h => (I_X4_wholeJointsOf_ok pc row h).2)
def rm_X4_wholeJointsBeside : Room := { frames := 3, cells := 0, slots := 0, locals := 62 }
noncomputable def G_X4_wholeJointsBeside : mjG := (I_X4_wholeJointsBeside, F_X4, [(90, 0, 3, 2, 0, 0, S_X4_isWhole), (126, 1, 0, 2, 0, 0, S_X1_touch)], (fun pc => bif Nat.beq pc 20 then [] else [0, 1, 2, 3, 4]), Y0, (fun _ => none), (fun _ => none), (some .int), 0, 0, false)
set_option maxHeartbeats 20000000 in
set_option maxRecDepth 100000 in
theorem ok_X4_wholeJointsBeside : mjOK G_X4_wholeJointsBeside 4 S_X4_wholeJointsBeside := by
  intro M as hP T hT
  obtain ⟨⟨h, g, s, c, fu, ai, ra, le, ri, mi, lo, fl⟩, k, rfl, rfl⟩ := inP1 hP
  refine hT.1 (fun pc => Nat.beq pc 4) 40 _ _ _ _ _ ?_
  refine mjloop0 60 (fun i => ∀ x, x = nf (fun i a => if gWh c (nI i) = 0 then a else if gTouch (nI i) k = 0 then a else a + 1) 0 i → T 4 [some (.ref 0), some (.int k), some (.int x), some (.int (nI i))] [] (pw (h, g, s, c, fu, ai, ra, le, ri, mi, lo, fl)) (0, 0)) (fun i hi ih x hx => ?_) (fun x hx => ?_) 0 rfl
  · rw [nI_succ] at ih
    refine hT.1 (fun pc => Nat.beq pc 4) 40 _ _ _ _ _ ?_
    refine And.intro (fun h => absurd h (nI_ge hi (by decide))) (fun _ => And.intro ⟨rfl, rfl⟩ (And.intro (fun h1 => ih _ ?_) (fun h1 => And.intro ⟨rfl, rfl⟩ (And.intro (fun h2 => ih _ ?_) (fun h2 => ih _ ?_)))))
    · rw [hx]; exact (if_pos h1).symm
    · rw [hx]; exact ((if_neg h1).trans (if_pos h2)).symm
    · rw [hx]; exact ((if_neg h1).trans (if_neg h2)).symm
  · refine hT.1 (fun pc => Nat.beq pc 4) 40 _ _ _ _ _ ?_
    exact And.intro (fun _ => ⟨rfl, ksi hx⟩) (fun h => absurd (nI_le (Nat.le_refl 60) (by decide)) h)
set_option maxRecDepth 10000 in
theorem ct_X4_wholeJointsBeside (l : Launch) : mjCT l yX4_wholeJointsBeside cX4_wholeJointsBeside 4 (some .int) rm_X4_wholeJointsBeside S_X4_wholeJointsBeside :=
  mjCT_of (own := RX4) (G := G_X4_wholeJointsBeside) (plainFor_of_name pn_X4) rfl ok_X4_wholeJointsBeside (fun meth hm => ⟨fun pc row h => (I_X4_wholeJointsBeside_ok pc row h).1, F_X4_ok, List.forall_mem_cons.mpr ⟨⟨yX4_isWhole, cX4_isWhole, 2, (some .boolean), rm_X4_isWhole, ct_X4_isWhole l, ⟨rfl, rfl⟩, ⟨by decide, by decide⟩, by decide, by decide, nk_X4_isWhole, ln_X4_90, im_X4_isWhole, se_X4_isWhole, rfl⟩, List.forall_mem_cons.mpr ⟨⟨yX1_touch, cX1_touch, 2, (some .boolean), rm_X1_touch, ct_X1_touch l, ⟨rfl, rfl⟩, ⟨by decide, by decide⟩, by decide, nk_X1_touch, ln_X4_126, st_X1_touch⟩, fun _ h => absurd h List.not_mem_nil⟩⟩, (fun _ _ _ h => by cases h), (fun _ _ h => by cases h), ⟨Nat.le_refl _, Nat.le_refl _⟩, (fun h => by cases h), (fun h => absurd h (by decide))⟩) rfl rfl rfl (fun pc row h => (I_X4_wholeJointsBeside_ok pc row h).2)
def rm_X4_greatestStressOf : Room := { frames := 2, cells := 0, slots := 0, locals := 42 }
noncomputable def G_X4_greatestStressOf : mjG := (I_X4_greatestStressOf, F_X4, [(142, 1, 0, 2, 0, 0, S_X1_jointAt), (90, 0, 3, 2, 0, 0, S_X4_isWhole), (139, 0, 3, 2, 0, 0, S_X4_stressOf), (87, 1, 0, 2, 0, 0, S_J9_max_7cf53)], (fun pc => bif Nat.beq pc 30 then [0, 1, 2, 3, 4] else bif Nat.beq pc 20 then [0, 1, 2, 3, 4] else []), Y0, (fun _ => none), (fun _ => none), (some .int), 0, 0, false)
set_option maxHeartbeats 20000000 in
set_option maxRecDepth 100000 in
theorem ok_X4_greatestStressOf : mjOK G_X4_greatestStressOf 5 S_X4_greatestStressOf := by
  intro M as hP T hT
  obtain ⟨⟨h, g, s, c, fu, ai, ra, le, ri, mi, lo, fl⟩, k, rfl, rfl⟩ := inP1 hP
  refine hT.1 (fun pc => Nat.beq pc 5) 40 _ _ _ _ _ ?_
  refine mjloop0 4 (fun i => ∀ x, x = nf (fun i a => if gWh c (gJointAt k (nI i)) = 0 then a else gMax a (gStr h (gJointAt k (nI i)))) (-4) i → T 5 [some (.ref 0), some (.int k), some (.int x), some (.int (nI i)), none] [] (pw (h, g, s, c, fu, ai, ra, le, ri, mi, lo, fl)) (0, 0)) (fun i hi ih x hx => ?_) (fun x hx => ?_) (-4) rfl
  · rw [nI_succ] at ih
    refine hT.1 (fun pc => Nat.beq pc 5) 40 _ _ _ _ _ ?_
    refine And.intro (fun h => absurd h (nI_ge hi (by decide))) (fun _ => And.intro ⟨rfl, rfl⟩ (And.intro ⟨rfl, rfl⟩ (And.intro (fun h1 => hT.2 [true, true, true, true, false] _ _ _ _ _ (ih _ ?_)) (fun h1 => And.intro ⟨rfl, rfl⟩ (And.intro ⟨rfl, rfl⟩ (hT.2 [true, true, true, true, false] _ _ _ _ _ (ih _ ?_)))))))
    · rw [hx]; exact (if_pos h1).symm
    · rw [hx]; exact (if_neg h1).symm
  · refine hT.1 (fun pc => Nat.beq pc 5) 40 _ _ _ _ _ ?_
    exact And.intro (fun _ => ⟨rfl, ksi hx⟩) (fun h => absurd (nI_le (Nat.le_refl 4) (by decide)) h)
set_option maxRecDepth 10000 in
theorem ct_X4_greatestStressOf (l : Launch) : mjCT l yX4_greatestStressOf cX4_greatestStressOf 5 (some .int) rm_X4_greatestStressOf S_X4_greatestStressOf :=
  mjCT_of (own := RX4) (G := G_X4_greatestStressOf) (plainFor_of_name pn_X4) rfl ok_X4_greatestStressOf (fun meth hm => ⟨fun pc row h => (I_X4_greatestStressOf_ok pc row h).1, F_X4_ok, List.forall_mem_cons.mpr ⟨⟨yX1_jointAt, cX1_jointAt, 4, (some .int), rm_X1_jointAt, ct_X1_jointAt l, ⟨rfl, rfl⟩, ⟨by decide, by decide⟩, by decide, nk_X1_jointAt, ln_X4_142, st_X1_jointAt⟩, List.forall_mem_cons.mpr ⟨⟨yX4_isWhole, cX4_isWhole, 2, (some .boolean), rm_X4_isWhole, ct_X4_isWhole l, ⟨rfl, rfl⟩, ⟨by decide, by decide⟩, by decide, by decide, nk_X4_isWhole, ln_X4_90, im_X4_isWhole, se_X4_isWhole, rfl⟩, List.forall_mem_cons.mpr ⟨⟨yX4_stressOf, cX4_stressOf, 2, (some .int), rm_X4_stressOf, ct_X4_stressOf l, ⟨rfl, rfl⟩, ⟨by decide, by decide⟩, by decide, by decide, nk_X4_stressOf, ln_X4_139, im_X4_stressOf, se_X4_stressOf, rfl⟩, List.forall_mem_cons.mpr ⟨⟨yJ9_max_7cf53, cJ9_max_7cf53, 2, (some .int), rm_J9_max_7cf53, ct_J9_max_7cf53 l, ⟨rfl, rfl⟩, ⟨by decide, by decide⟩, by decide, nk_J9_max_7cf53, ln_X4_87, st_J9_max_7cf53⟩, fun _ h => absurd h List.not_mem_nil⟩⟩⟩⟩, (fun _ _ _ h => by cases h), (fun _ _ h => by cases h), ⟨Nat.le_refl _, Nat.le_refl _⟩, (fun h => by cases h), (fun h => absurd h (by decide))⟩) rfl rfl rfl (fun pc row h => (I_X4_greatestStressOf_ok pc row h).2)
def rm_X4_greatestStress : Room := { frames := 2, cells := 0, slots := 0, locals := 42 }
noncomputable def G_X4_greatestStress : mjG := (I_X4_greatestStress, F_X4, [(90, 0, 3, 2, 0, 0, S_X4_isWhole), (139, 0, 3, 2, 0, 0, S_X4_stressOf), (87, 1, 0, 2, 0, 0, S_J9_max_7cf53)], (fun pc => bif Nat.beq pc 25 then [] else [0, 1, 2, 3, 4]), Y0, (fun _ => none), (fun _ => none), (some .int), 0, 0, false)
set_option maxHeartbeats 20000000 in
set_option maxRecDepth 100000 in
theorem ok_X4_greatestStress : mjOK G_X4_greatestStress 3 S_X4_greatestStress := by
  intro M as hP T hT
  obtain ⟨⟨h, g, s, c, fu, ai, ra, le, ri, mi, lo, fl⟩, rfl, rfl⟩ := inP0 hP
  refine hT.1 (fun pc => Nat.beq pc 5) 40 _ _ _ _ _ ?_
  refine mjloop0 60 (fun i => ∀ x, x = nf (fun i a => if gWh c (nI i) = 0 then a else gMax a (gStr h (nI i))) (-4) i → T 5 [some (.ref 0), some (.int x), some (.int (nI i))] [] (pw (h, g, s, c, fu, ai, ra, le, ri, mi, lo, fl)) (0, 0)) (fun i hi ih x hx => ?_) (fun x hx => ?_) (-4) rfl
  · rw [nI_succ] at ih
    refine hT.1 (fun pc => Nat.beq pc 5) 40 _ _ _ _ _ ?_
    refine And.intro (fun h => absurd h (nI_ge hi (by decide))) (fun _ => And.intro ⟨rfl, rfl⟩ (And.intro (fun h1 => ih _ ?_) (fun h1 => And.intro ⟨rfl, rfl⟩ (And.intro ⟨rfl, rfl⟩ (ih _ ?_)))))
    · rw [hx]; exact (if_pos h1).symm
    · rw [hx]; exact (if_neg h1).symm
  · refine hT.1 (fun pc => Nat.beq pc 5) 40 _ _ _ _ _ ?_
    exact And.intro (fun _ => ⟨rfl, ksi hx⟩) (fun h => absurd (nI_le (Nat.le_refl 60) (by decide)) h)
set_option maxRecDepth 10000 in
theorem ct_X4_greatestStress (l : Launch) : mjCT l yX4_greatestStress cX4_greatestStress 3 (some .int) rm_X4_greatestStress S_X4_greatestStress :=
  mjCT_of (own := RX4) (G := G_X4_greatestStress) (plainFor_of_name pn_X4) rfl ok_X4_greatestStress (fun meth hm => ⟨fun pc row h => (I_X4_greatestStress_ok pc row h).1, F_X4_ok, List.forall_mem_cons.mpr ⟨⟨yX4_isWhole, cX4_isWhole, 2, (some .boolean), rm_X4_isWhole, ct_X4_isWhole l, ⟨rfl, rfl⟩, ⟨by decide, by decide⟩, by decide, by decide, nk_X4_isWhole, ln_X4_90, im_X4_isWhole, se_X4_isWhole, rfl⟩, List.forall_mem_cons.mpr ⟨⟨yX4_stressOf, cX4_stressOf, 2, (some .int), rm_X4_stressOf, ct_X4_stressOf l, ⟨rfl, rfl⟩, ⟨by decide, by decide⟩, by decide, by decide, nk_X4_stressOf, ln_X4_139, im_X4_stressOf, se_X4_stressOf, rfl⟩, List.forall_mem_cons.mpr ⟨⟨yJ9_max_7cf53, cJ9_max_7cf53, 2, (some .int), rm_J9_max_7cf53, ct_J9_max_7cf53 l, ⟨rfl, rfl⟩, ⟨by decide, by decide⟩, by decide, nk_J9_max_7cf53, ln_X4_87, st_J9_max_7cf53⟩, fun _ h => absurd h List.not_mem_nil⟩⟩⟩, (fun _ _ _ h => by cases h), (fun _ _ h => by cases h), ⟨Nat.le_refl _, Nat.le_refl _⟩, (fun h => by cases h), (fun h => absurd h (by decide))⟩) rfl rfl rfl (fun pc row h => (I_X4_greatestStress_ok pc row h).2)
def rm_X4_mostStrained : Room := { frames := 3, cells := 0, slots := 0, locals := 63 }
noncomputable def G_X4_mostStrained : mjG := (I_X4_mostStrained, F_X4, [(90, 0, 3, 2, 0, 0, S_X4_isWhole), (120, 0, 3, 2, 0, 0, S_X4_marginOf)], (fun pc => [0, 1, 2, 3, 4]), Y0, (fun _ => none), (fun _ => none), (some .int), 0, 0, false)
set_option maxHeartbeats 20000000 in
set_option maxRecDepth 100000 in
theorem ok_X4_mostStrained : mjOK G_X4_mostStrained 5 S_X4_mostStrained := by
  intro M as hP T hT
  obtain ⟨⟨h, g, s, c, fu, ai, ra, le, ri, mi, lo, fl⟩, rfl, rfl⟩ := inP0 hP
  refine hT.1 (fun pc => Nat.beq pc 6) 40 _ _ _ _ _ ?_
  refine hT.2 [true, true, true, true, false] _ _ _ _ _ ?_
  refine mjloop0 60 (fun i => ∀ x y, (x, y) = gWorst h s c i → T 6 [some (.ref 0), some (.int x), some (.int y), some (.int (nI i)), none] [] (pw (h, g, s, c, fu, ai, ra, le, ri, mi, lo, fl)) (0, 0)) (fun i hi ih x y hx => ?_) (fun x y hx => ?_) (-1) 0 rfl
  · have hs : gWorst h s c (i + 1) = (fun (a : Int32 × Int32) => if gWh c (nI i) = 0 then a else if a.1 = -1 then (nI i, gMar h s (nI i)) else if a.2 ≤ gMar h s (nI i) then a else (nI i, gMar h s (nI i))) (gWorst h s c i) := rfl
    rw [← hx] at hs
    rw [nI_succ, hs] at ih
    refine hT.1 (fun pc => Nat.beq pc 6) 40 _ _ _ _ _ ?_
    refine And.intro (fun h => absurd h (nI_ge hi (by decide))) (fun _ => And.intro ⟨rfl, rfl⟩ (And.intro (fun h1 => hT.2 [true, true, true, true, false] _ _ _ _ _ (ih _ _ ?_)) (fun h1 => And.intro ⟨rfl, rfl⟩ (And.intro (fun h2 => hT.2 [true, true, true, true, false] _ _ _ _ _ (ih _ _ ?_)) (fun h2 => And.intro (fun (h3 : y ≤ gMar h s (nI i)) => hT.2 [true, true, true, true, false] _ _ _ _ _ (ih _ _ ?_)) (fun (h3 : ¬ y ≤ gMar h s (nI i)) => hT.2 [true, true, true, true, false] _ _ _ _ _ (ih _ _ ?_)))))))
    · exact (if_pos h1).symm
    · exact ((if_neg h1).trans (if_pos h2)).symm
    · exact ((if_neg h1).trans ((if_neg h2).trans (if_pos h3))).symm
    · exact ((if_neg h1).trans ((if_neg h2).trans (if_neg h3))).symm
  · refine hT.1 (fun pc => Nat.beq pc 6) 40 _ _ _ _ _ ?_
    exact And.intro (fun _ => ⟨rfl, ksi (congrArg Prod.fst hx)⟩) (fun h => absurd (nI_le (Nat.le_refl 60) (by decide)) h)
set_option maxRecDepth 10000 in
theorem ct_X4_mostStrained (l : Launch) : mjCT l yX4_mostStrained cX4_mostStrained 5 (some .int) rm_X4_mostStrained S_X4_mostStrained :=
  mjCT_of (own := RX4) (G := G_X4_mostStrained) (plainFor_of_name pn_X4) rfl ok_X4_mostStrained (fun meth hm => ⟨fun pc row h => (I_X4_mostStrained_ok pc row h).1, F_X4_ok, List.forall_mem_cons.mpr ⟨⟨yX4_isWhole, cX4_isWhole, 2, (some .boolean), rm_X4_isWhole, ct_X4_isWhole l, ⟨rfl, rfl⟩, ⟨by decide, by decide⟩, by decide, by decide, nk_X4_isWhole, ln_X4_90, im_X4_isWhole, se_X4_isWhole, rfl⟩, List.forall_mem_cons.mpr ⟨⟨yX4_marginOf, cX4_marginOf, 2, (some .int), rm_X4_marginOf, ct_X4_marginOf l, ⟨rfl, rfl⟩, ⟨by decide, by decide⟩, by decide, by decide, nk_X4_marginOf, ln_X4_120, im_X4_marginOf, se_X4_marginOf, rfl⟩, fun _ h => absurd h List.not_mem_nil⟩⟩, (fun _ _ _ h => by cases h), (fun _ _ h => by cases h), ⟨Nat.le_refl _, Nat.le_refl _⟩, (fun h => by cases h), (fun h => absurd h (by decide))⟩) rfl rfl rfl (fun pc row h => (I_X4_mostStrained_ok pc row h).2)
def rm_X4_leastMargin : Room := { frames := 4, cells := 0, slots := 0, locals := 87 }
noncomputable def G_X4_leastMargin : mjG := (I_X4_leastMargin, F_X4, [(116, 0, 3, 1, 0, 0, S_X4_mostStrained), (120, 0, 3, 2, 0, 0, S_X4_marginOf)], (fun pc => [0, 1, 2, 3, 4]), Y0, (fun _ => none), (fun _ => none), (some .int), 0, 0, false)
set_option maxHeartbeats 20000000 in
set_option maxRecDepth 100000 in
theorem ok_X4_leastMargin : mjOK G_X4_leastMargin 2 S_X4_leastMargin := by
  intro M as hP T hT
  obtain ⟨⟨h, g, s, c, fu, ai, ra, le, ri, mi, lo, fl⟩, rfl, rfl⟩ := inP0 hP
  have s1 : ∀ w, w = (gWorst h s c 60).1 → T 4 [some (.ref 0), none] [.int w] (pw (h, g, s, c, fu, ai, ra, le, ri, mi, lo, fl)) (0, 0) := by
    intro w hw
    have hv : gLeastMar h s c = if w = -1 then -4 else gMar h s w := by rw [hw]; rfl
    refine hT.1 (fun _ => false) 40 _ _ _ _ _ ?_
    refine And.intro (fun h1 => And.intro ⟨rfl, rfl⟩ ⟨rfl, ksi ?_⟩) (fun h1 => ⟨rfl, ksi ?_⟩)
    · exact (hv.trans (if_neg h1)).symm
    · exact (hv.trans (if_pos h1)).symm
  refine hT.1 (fun pc => Nat.beq pc 4) 40 _ _ _ _ _ ?_
  exact And.intro ⟨rfl, rfl⟩ (s1 _ (kseal_eq _))
set_option maxRecDepth 10000 in
theorem ct_X4_leastMargin (l : Launch) : mjCT l yX4_leastMargin cX4_leastMargin 2 (some .int) rm_X4_leastMargin S_X4_leastMargin :=
  mjCT_of (own := RX4) (G := G_X4_leastMargin) (plainFor_of_name pn_X4) rfl ok_X4_leastMargin (fun meth hm => ⟨fun pc row h => (I_X4_leastMargin_ok pc row h).1, F_X4_ok, List.forall_mem_cons.mpr ⟨⟨yX4_mostStrained, cX4_mostStrained, 5, (some .int), rm_X4_mostStrained, ct_X4_mostStrained l, ⟨rfl, rfl⟩, ⟨by decide, by decide⟩, by decide, by decide, nk_X4_mostStrained, ln_X4_116, im_X4_mostStrained, se_X4_mostStrained, rfl⟩, List.forall_mem_cons.mpr ⟨⟨yX4_marginOf, cX4_marginOf, 2, (some .int), rm_X4_marginOf, ct_X4_marginOf l, ⟨rfl, rfl⟩, ⟨by decide, by decide⟩, by decide, by decide, nk_X4_marginOf, ln_X4_120, im_X4_marginOf, se_X4_marginOf, rfl⟩, fun _ h => absurd h List.not_mem_nil⟩⟩, (fun _ _ _ h => by cases h), (fun _ _ h => by cases h), ⟨Nat.le_refl _, Nat.le_refl _⟩, (fun h => by cases h), (fun h => absurd h (by decide))⟩) rfl rfl rfl (fun pc row h => (I_X4_leastMargin_ok pc row h).2)
def rm_X4_placeOf : Room := { frames := 3, cells := 0, slots := 0, locals := 63 }
noncomputable def G_X4_placeOf : mjG := (I_X4_placeOf, F_X4, [(120, 0, 3, 2, 0, 0, S_X4_marginOf), (90, 0, 3, 2, 0, 0, S_X4_isWhole)], (fun pc => [0, 1, 2, 3, 4]), Y0, (fun _ => none), (fun _ => none), (some .int), 0, 0, false)
set_option maxHeartbeats 20000000 in
set_option maxRecDepth 100000 in
theorem ok_X4_placeOf : mjOK G_X4_placeOf 6 S_X4_placeOf := by
  intro M as hP T hT
  obtain ⟨⟨h, g, s, c, fu, ai, ra, le, ri, mi, lo, fl⟩, j, rfl, rfl⟩ := inP1 hP
  refine hT.1 (fun pc => Nat.beq pc 11) 40 _ _ _ _ _ ?_
  refine And.intro ⟨rfl, rfl⟩ ?_
  refine hT.2 [true, true, true, true, true, false] _ _ _ _ _ ?_
  refine mjloop0 60 (fun i => ∀ x, x = nf (fun i a => if gWh c (nI i) = 0 then a else if gMar h s (nI i) < gMar h s j then a + 1 else if gMar h s (nI i) = gMar h s j then (if j ≤ nI i then a else a + 1) else a) 0 i → T 11 [some (.ref 0), some (.int j), some (.int (gMar h s j)), some (.int x), some (.int (nI i)), none] [] (pw (h, g, s, c, fu, ai, ra, le, ri, mi, lo, fl)) (0, 0)) (fun i hi ih x hx => ?_) (fun x hx => ?_) 0 rfl
  · rw [nI_succ] at ih
    have ih2 : ∀ x', x' = _ → ∀ z, T 11 [some (.ref 0), some (.int j), some (.int (gMar h s j)), some (.int x'), some (.int (nI i + 1)), z] [] (pw (h, g, s, c, fu, ai, ra, le, ri, mi, lo, fl)) (0, 0) := fun x' hx' z => hT.2 [true, true, true, true, true, false] _ _ _ _ _ (ih x' hx')
    refine hT.1 (fun pc => Nat.beq pc 11) 40 _ _ _ _ _ ?_
    refine And.intro (fun h => absurd h (nI_ge hi (by decide))) (fun _ => And.intro ⟨rfl, rfl⟩ (And.intro (fun h1 => ih2 _ ?_ _) (fun h1 => And.intro ⟨rfl, rfl⟩ (And.intro (fun (h2 : gMar h s (nI i) < gMar h s j) => ih2 _ ?_ _) (fun (h2 : ¬ gMar h s (nI i) < gMar h s j) => And.intro (fun (h3 : ¬ gMar h s (nI i) = gMar h s j) => ih2 _ ?_ _) (fun (h3 : gMar h s (nI i) = gMar h s j) => And.intro (fun h4 => ih2 _ ?_ _) (fun h4 => ih2 _ ?_ _)))))))
    · rw [hx]; exact (if_pos h1).symm
    · rw [hx]; exact ((if_neg h1).trans (if_pos h2)).symm
    · rw [hx]; exact ((if_neg h1).trans ((if_neg h2).trans (if_neg h3))).symm
    · rw [hx]; exact ((if_neg h1).trans ((if_neg h2).trans ((if_pos h3).trans (if_pos h4)))).symm
    · rw [hx]; exact ((if_neg h1).trans ((if_neg h2).trans ((if_pos h3).trans (if_neg h4)))).symm
  · refine hT.1 (fun pc => Nat.beq pc 11) 40 _ _ _ _ _ ?_
    exact And.intro (fun _ => ⟨rfl, ksi hx⟩) (fun h => absurd (nI_le (Nat.le_refl 60) (by decide)) h)
set_option maxRecDepth 10000 in
theorem ct_X4_placeOf (l : Launch) : mjCT l yX4_placeOf cX4_placeOf 6 (some .int) rm_X4_placeOf S_X4_placeOf :=
  mjCT_of (own := RX4) (G := G_X4_placeOf) (plainFor_of_name pn_X4) rfl ok_X4_placeOf (fun meth hm => ⟨fun pc row h => (I_X4_placeOf_ok pc row h).1, F_X4_ok, List.forall_mem_cons.mpr ⟨⟨yX4_marginOf, cX4_marginOf, 2, (some .int), rm_X4_marginOf, ct_X4_marginOf l, ⟨rfl, rfl⟩, ⟨by decide, by decide⟩, by decide, by decide, nk_X4_marginOf, ln_X4_120, im_X4_marginOf, se_X4_marginOf, rfl⟩, List.forall_mem_cons.mpr ⟨⟨yX4_isWhole, cX4_isWhole, 2, (some .boolean), rm_X4_isWhole, ct_X4_isWhole l, ⟨rfl, rfl⟩, ⟨by decide, by decide⟩, by decide, by decide, nk_X4_isWhole, ln_X4_90, im_X4_isWhole, se_X4_isWhole, rfl⟩, fun _ h => absurd h List.not_mem_nil⟩⟩, (fun _ _ _ h => by cases h), (fun _ _ h => by cases h), ⟨Nat.le_refl _, Nat.le_refl _⟩, (fun h => by cases h), (fun h => absurd h (by decide))⟩) rfl rfl rfl (fun pc row h => (I_X4_placeOf_ok pc row h).2)
def rm_X4_strainedAt : Room := { frames := 4, cells := 0, slots := 0, locals := 88 }
noncomputable def G_X4_strainedAt : mjG := (I_X4_strainedAt, F_X4, [(90, 0, 3, 2, 0, 0, S_X4_isWhole), (145, 0, 3, 2, 0, 0, S_X4_placeOf)], (fun pc => [0, 1, 2, 3, 4]), Y0, (fun _ => none), (fun _ => none), (some .int), 0, 0, false)
set_option maxHeartbeats 20000000 in
set_option maxRecDepth 100000 in
theorem ok_X4_strainedAt : mjOK G_X4_strainedAt 3 S_X4_strainedAt := by
  intro M as hP T hT
  obtain ⟨⟨h, g, s, c, fu, ai, ra, le, ri, mi, lo, fl⟩, x, rfl, rfl⟩ := inP1 hP
  refine hT.1 (fun pc => Nat.beq pc 2) 40 _ _ _ _ _ ?_
  refine mjloop0 60 (fun i => gFind h s c x i (60 - i) = gFind h s c x 0 60 → T 2 [some (.ref 0), some (.int x), some (.int (nI i))] [] (pw (h, g, s, c, fu, ai, ra, le, ri, mi, lo, fl)) (0, 0)) (fun i hi ih hx => ?_) (fun hx => ?_) rfl
  · rw [nI_succ] at ih
    have hs : gFind h s c x i (60 - i) = if gWh c (nI i) = 0 then gFind h s c x (i + 1) (60 - (i + 1)) else if gPlace h s c (nI i) = x then nI i else gFind h s c x (i + 1) (60 - (i + 1)) := by
      rw [show 60 - i = (60 - (i + 1)) + 1 by omega]
      rfl
    rw [hs] at hx
    refine hT.1 (fun pc => Nat.beq pc 2) 40 _ _ _ _ _ ?_
    refine And.intro (fun h => absurd h (nI_ge hi (by decide))) (fun _ => And.intro ⟨rfl, rfl⟩ (And.intro (fun h1 => ih ?_) (fun h1 => And.intro ⟨rfl, rfl⟩ (And.intro (fun (h2 : ¬ kseal (gPlace h s c (nI i)) = x) => ih ?_) (fun (h2 : kseal (gPlace h s c (nI i)) = x) => ⟨rfl, ksi ?_⟩)))))
    · rw [← hx]; exact (if_pos h1).symm
    · rw [kseal_eq] at h2
      rw [← hx]; exact ((if_neg h1).trans (if_neg h2)).symm
    · rw [kseal_eq] at h2
      show nI i = gFind h s c x 0 60
      rw [← hx]; exact ((if_neg h1).trans (if_pos h2)).symm
  · refine hT.1 (fun pc => Nat.beq pc 2) 40 _ _ _ _ _ ?_
    exact And.intro (fun _ => ⟨rfl, ksi hx⟩) (fun h => absurd (nI_le (Nat.le_refl 60) (by decide)) h)
set_option maxRecDepth 10000 in
theorem ct_X4_strainedAt (l : Launch) : mjCT l yX4_strainedAt cX4_strainedAt 3 (some .int) rm_X4_strainedAt S_X4_strainedAt :=
  mjCT_of (own := RX4) (G := G_X4_strainedAt) (plainFor_of_name pn_X4) rfl ok_X4_strainedAt (fun meth hm => ⟨fun pc row h => (I_X4_strainedAt_ok pc row h).1, F_X4_ok, List.forall_mem_cons.mpr ⟨⟨yX4_isWhole, cX4_isWhole, 2, (some .boolean), rm_X4_isWhole, ct_X4_isWhole l, ⟨rfl, rfl⟩, ⟨by decide, by decide⟩, by decide, by decide, nk_X4_isWhole, ln_X4_90, im_X4_isWhole, se_X4_isWhole, rfl⟩, List.forall_mem_cons.mpr ⟨⟨yX4_placeOf, cX4_placeOf, 6, (some .int), rm_X4_placeOf, ct_X4_placeOf l, ⟨rfl, rfl⟩, ⟨by decide, by decide⟩, by decide, by decide, nk_X4_placeOf, ln_X4_145, im_X4_placeOf, se_X4_placeOf, rfl⟩, fun _ h => absurd h List.not_mem_nil⟩⟩, (fun _ _ _ h => by cases h), (fun _ _ h => by cases h), ⟨Nat.le_refl _, Nat.le_refl _⟩, (fun h => by cases h), (fun h => absurd h (by decide))⟩) rfl rfl rfl (fun pc row h => (I_X4_strainedAt_ok pc row h).2)
def rm_X4_crackedJoints : Room := { frames := 1, cells := 0, slots := 0, locals := 21 }
noncomputable def G_X4_crackedJoints : mjG := (I_X4_crackedJoints, F_X4, [(90, 0, 3, 2, 0, 0, S_X4_isWhole)], (fun pc => [0, 1, 2, 3, 4]), Y0, (fun _ => none), (fun _ => none), (some .int), 0, 0, false)
set_option maxHeartbeats 20000000 in
set_option maxRecDepth 100000 in
theorem ok_X4_crackedJoints : mjOK G_X4_crackedJoints 3 S_X4_crackedJoints := by
  intro M as hP T hT
  obtain ⟨⟨h, g, s, c, fu, ai, ra, le, ri, mi, lo, fl⟩, rfl, rfl⟩ := inP0 hP
  refine hT.1 (fun pc => Nat.beq pc 4) 40 _ _ _ _ _ ?_
  refine mjloop0 60 (fun i => ∀ x, x = nf (fun i a => if gWh c (nI i) = 0 then a + 1 else a) 0 i → T 4 [some (.ref 0), some (.int x), some (.int (nI i))] [] (pw (h, g, s, c, fu, ai, ra, le, ri, mi, lo, fl)) (0, 0)) (fun i hi ih x hx => ?_) (fun x hx => ?_) 0 rfl
  · rw [nI_succ] at ih
    refine hT.1 (fun pc => Nat.beq pc 4) 40 _ _ _ _ _ ?_
    refine And.intro (fun h => absurd h (nI_ge hi (by decide))) (fun _ => And.intro ⟨rfl, rfl⟩ (And.intro (fun h1 => ih _ ?_) (fun h1 => ih _ ?_)))
    · rw [hx]; exact (if_neg h1).symm
    · rw [hx]; exact (if_pos h1).symm
  · refine hT.1 (fun pc => Nat.beq pc 4) 40 _ _ _ _ _ ?_
    exact And.intro (fun _ => ⟨rfl, ksi hx⟩) (fun h => absurd (nI_le (Nat.le_refl 60) (by decide)) h)
set_option maxRecDepth 10000 in
theorem ct_X4_crackedJoints (l : Launch) : mjCT l yX4_crackedJoints cX4_crackedJoints 3 (some .int) rm_X4_crackedJoints S_X4_crackedJoints :=
  mjCT_of (own := RX4) (G := G_X4_crackedJoints) (plainFor_of_name pn_X4) rfl ok_X4_crackedJoints (fun meth hm => ⟨fun pc row h => (I_X4_crackedJoints_ok pc row h).1, F_X4_ok, List.forall_mem_cons.mpr ⟨⟨yX4_isWhole, cX4_isWhole, 2, (some .boolean), rm_X4_isWhole, ct_X4_isWhole l, ⟨rfl, rfl⟩, ⟨by decide, by decide⟩, by decide, by decide, nk_X4_isWhole, ln_X4_90, im_X4_isWhole, se_X4_isWhole, rfl⟩, fun _ h => absurd h List.not_mem_nil⟩, (fun _ _ _ h => by cases h), (fun _ _ h => by cases h), ⟨Nat.le_refl _, Nat.le_refl _⟩, (fun h => by cases h), (fun h => absurd h (by decide))⟩) rfl rfl rfl (fun pc row h => (I_X4_crackedJoints_ok pc row h).2)
def rm_X4_sumOfHeats : Room := { frames := 0, cells := 0, slots := 0, locals := 0 }
noncomputable def G_X4_sumOfHeats : mjG := (I_X4_sumOfHeats, F_X4, [], (fun pc => []), Y0, (fun _ => none), (fun _ => none), (some .int), 0, 0, false)
set_option maxHeartbeats 20000000 in
set_option maxRecDepth 100000 in
theorem ok_X4_sumOfHeats : mjOK G_X4_sumOfHeats 3 S_X4_sumOfHeats := by
  intro M as hP T hT
  obtain ⟨⟨h, g, s, c, fu, ai, ra, le, ri, mi, lo, fl⟩, rfl, rfl⟩ := inP0 hP
  refine hT.1 (fun pc => Nat.beq pc 4) 40 _ _ _ _ _ ?_
  refine mjloop0 36 (fun i => ∀ x, x = nf (fun i a => a + h i) 0 i → T 4 [some (.ref 0), some (.int x), some (.int (nI i))] [] (pw (h, g, s, c, fu, ai, ra, le, ri, mi, lo, fl)) (0, 0)) (fun i hi ih x hx => ?_) (fun x hx => ?_) 0 rfl
  · rw [nI_succ] at ih
    refine hT.1 (fun pc => Nat.beq pc 4) 40 _ _ _ _ _ ?_
    refine And.intro (fun h => absurd h (nI_ge hi (by decide))) (fun _ => mjix_n hi (by decide) (ih _ ?_))
    rw [hx]
    rfl
  · refine hT.1 (fun pc => Nat.beq pc 4) 40 _ _ _ _ _ ?_
    exact And.intro (fun _ => ⟨rfl, ksi hx⟩) (fun h => absurd (nI_le (Nat.le_refl 36) (by decide)) h)
set_option maxRecDepth 10000 in
theorem ct_X4_sumOfHeats (l : Launch) : mjCT l yX4_sumOfHeats cX4_sumOfHeats 3 (some .int) rm_X4_sumOfHeats S_X4_sumOfHeats :=
  mjCT_of (own := RX4) (G := G_X4_sumOfHeats) (plainFor_of_name pn_X4) rfl ok_X4_sumOfHeats (fun meth hm => ⟨fun pc row h => (I_X4_sumOfHeats_ok pc row h).1, F_X4_ok, fun _ h => absurd h List.not_mem_nil, (fun _ _ _ h => by cases h), (fun _ _ h => by cases h), ⟨Nat.le_refl _, Nat.le_refl _⟩, (fun h => by cases h), (fun h => absurd h (by decide))⟩) rfl rfl rfl (fun pc row h => (I_X4_sumOfHeats_ok pc row h).2)
def rm_X4_greatestHeat : Room := { frames := 1, cells := 0, slots := 0, locals := 21 }
noncomputable def G_X4_greatestHeat : mjG := (I_X4_greatestHeat, F_X4, [(87, 1, 0, 2, 0, 0, S_J9_max_7cf53)], (fun pc => []), Y0, (fun _ => none), (fun _ => none), (some .int), 0, 0, false)
set_option maxHeartbeats 20000000 in
set_option maxRecDepth 100000 in
theorem ok_X4_greatestHeat : mjOK G_X4_greatestHeat 3 S_X4_greatestHeat := by
  intro M as hP T hT
  obtain ⟨⟨h, g, s, c, fu, ai, ra, le, ri, mi, lo, fl⟩, rfl, rfl⟩ := inP0 hP
  refine hT.1 (fun pc => Nat.beq pc 9) 40 _ _ _ _ _ ?_
  refine mjix_e 0 rfl (by decide) (by decide) ?_
  refine mjloop0 35 (fun i => ∀ x, x = nf (fun i a => gMax a (h (i + 1))) (h 0) i → T 9 [some (.ref 0), some (.int x), some (.int (nI (i + 1)))] [] (pw (h, g, s, c, fu, ai, ra, le, ri, mi, lo, fl)) (0, 0)) (fun i hi ih x hx => ?_) (fun x hx => ?_) (h 0) rfl
  · rw [nI_succ (i + 1)] at ih
    refine hT.1 (fun pc => Nat.beq pc 9) 40 _ _ _ _ _ ?_
    refine And.intro (fun h => absurd h (nI_ge (by omega : i + 1 < 36) (by decide))) (fun _ => mjix_n (by omega) (by decide) (And.intro ⟨rfl, rfl⟩ (ih _ ?_)))
    rw [hx]
    rfl
  · refine hT.1 (fun pc => Nat.beq pc 9) 40 _ _ _ _ _ ?_
    exact And.intro (fun _ => ⟨rfl, ksi hx⟩) (fun h => absurd (nI_le (Nat.le_refl 36) (by decide)) h)
set_option maxRecDepth 10000 in
theorem ct_X4_greatestHeat (l : Launch) : mjCT l yX4_greatestHeat cX4_greatestHeat 3 (some .int) rm_X4_greatestHeat S_X4_greatestHeat :=
  mjCT_of (own := RX4) (G := G_X4_greatestHeat) (plainFor_of_name pn_X4) rfl ok_X4_greatestHeat (fun meth hm => ⟨fun pc row h => (I_X4_greatestHeat_ok pc row h).1, F_X4_ok, List.forall_mem_cons.mpr ⟨⟨yJ9_max_7cf53, cJ9_max_7cf53, 2, (some .int), rm_J9_max_7cf53, ct_J9_max_7cf53 l, ⟨rfl, rfl⟩, ⟨by decide, by decide⟩, by decide, nk_J9_max_7cf53, ln_X4_87, st_J9_max_7cf53⟩, fun _ h => absurd h List.not_mem_nil⟩, (fun _ _ _ h => by cases h), (fun _ _ h => by cases h), ⟨Nat.le_refl _, Nat.le_refl _⟩, (fun h => by cases h), (fun h => absurd h (by decide))⟩) rfl rfl rfl (fun pc row h => (I_X4_greatestHeat_ok pc row h).2)
def rm_X4_leastHeat : Room := { frames := 1, cells := 0, slots := 0, locals := 21 }
noncomputable def G_X4_leastHeat : mjG := (I_X4_leastHeat, F_X4, [(81, 1, 0, 2, 0, 0, S_J9_min_7cf53)], (fun pc => []), Y0, (fun _ => none), (fun _ => none), (some .int), 0, 0, false)
set_option maxHeartbeats 20000000 in
set_option maxRecDepth 100000 in
theorem ok_X4_leastHeat : mjOK G_X4_leastHeat 3 S_X4_leastHeat := by
  intro M as hP T hT
  obtain ⟨⟨h, g, s, c, fu, ai, ra, le, ri, mi, lo, fl⟩, rfl, rfl⟩ := inP0 hP
  refine hT.1 (fun pc => Nat.beq pc 9) 40 _ _ _ _ _ ?_
  refine mjix_e 0 rfl (by decide) (by decide) ?_
  refine mjloop0 35 (fun i => ∀ x, x = nf (fun i a => gMin a (h (i + 1))) (h 0) i → T 9 [some (.ref 0), some (.int x), some (.int (nI (i + 1)))] [] (pw (h, g, s, c, fu, ai, ra, le, ri, mi, lo, fl)) (0, 0)) (fun i hi ih x hx => ?_) (fun x hx => ?_) (h 0) rfl
  · rw [nI_succ (i + 1)] at ih
    refine hT.1 (fun pc => Nat.beq pc 9) 40 _ _ _ _ _ ?_
    refine And.intro (fun h => absurd h (nI_ge (by omega : i + 1 < 36) (by decide))) (fun _ => mjix_n (by omega) (by decide) (And.intro ⟨rfl, rfl⟩ (ih _ ?_)))
    rw [hx]
    rfl
  · refine hT.1 (fun pc => Nat.beq pc 9) 40 _ _ _ _ _ ?_
    exact And.intro (fun _ => ⟨rfl, ksi hx⟩) (fun h => absurd (nI_le (Nat.le_refl 36) (by decide)) h)
set_option maxRecDepth 10000 in
theorem ct_X4_leastHeat (l : Launch) : mjCT l yX4_leastHeat cX4_leastHeat 3 (some .int) rm_X4_leastHeat S_X4_leastHeat :=
  mjCT_of (own := RX4) (G := G_X4_leastHeat) (plainFor_of_name pn_X4) rfl ok_X4_leastHeat (fun meth hm => ⟨fun pc row h => (I_X4_leastHeat_ok pc row h).1, F_X4_ok, List.forall_mem_cons.mpr ⟨⟨yJ9_min_7cf53, cJ9_min_7cf53, 2, (some .int), rm_J9_min_7cf53, ct_J9_min_7cf53 l, ⟨rfl, rfl⟩, ⟨by decide, by decide⟩, by decide, nk_J9_min_7cf53, ln_X4_81, st_J9_min_7cf53⟩, fun _ h => absurd h List.not_mem_nil⟩, (fun _ _ _ h => by cases h), (fun _ _ h => by cases h), ⟨Nat.le_refl _, Nat.le_refl _⟩, (fun h => by cases h), (fun h => absurd h (by decide))⟩) rfl rfl rfl (fun pc row h => (I_X4_leastHeat_ok pc row h).2)
end
section
/-! the pane: what changes it -/
def gFur (fu ai ra : Int32) : Int32 := if ai ≤ fu then gMax ai (fu - ra) else gMin ai (fu + ra)
def gGain (g : Nat → Int32) (k x : Int32) : Nat → Int32 := if gIsCell k = 0 then g else upd g k.toNatClampNeg (g k.toNatClampNeg + x)
def gPut (f : Nat → Int32) (j x : Int32) : Nat → Int32 := if gIsJoint j = 0 then f else upd f j.toNatClampNeg x
def gFx (h : Nat → Int32) (le j : Int32) : Int32 := (gAt 36 h (gFirst j) - gAt 36 h (gSecond j)) * le / 100
def gJo (h c : Nat → Int32) (le : Int32) (g : Nat → Int32) : Nat → Nat → Int32 := nf (fun i g => if gWh c (nI i) = 0 then g else gGain (gGain g (gFirst (nI i)) (-(gFx h le (nI i)))) (gSecond (nI i)) (gFx h le (nI i))) g
def gFr (h : Nat → Int32) (fu ri : Int32) (i : Nat) : Int32 := (h i - fu) * ri / 100 * gRim (nI i)
def gRi (h : Nat → Int32) (fu ri : Int32) (a : (Nat → Int32) × Int32) : Nat → (Nat → Int32) × Int32 := nf (fun i a => (upd a.1 i (a.1 i - gFr h fu ri i), a.2 + gFr h fu ri i)) a
def gHe (g : Nat → Int32) (h : Nat → Int32) : Nat → Nat → Int32 := nf (fun i h => upd h i (h i + g i)) h
/-- the heats' step -/
noncomputable def pFlow (p : PSt) : PSt := match p with
  | (h, g, s, c, fu, ai, ra, le, ri, mi, lo, fl) =>
    (kseal (gHe (kseal (gRi h (gFur fu ai ra) ri (kseal (gJo h c le (fillA 36 g 0) 60), lo) 36)).1 h 36), (kseal (gRi h (gFur fu ai ra) ri (kseal (gJo h c le (fillA 36 g 0) 60), lo) 36)).1, s, c, gFur fu ai ra, ai, ra, le, ri, mi + 1, (kseal (gRi h (gFur fu ai ra) ri (kseal (gJo h c le (fillA 36 g 0) 60), lo) 36)).2, fl)
def gWeak (c : Nat → Int32) (w : Int32) (s : Nat → Int32) : Nat → Nat → Int32 := nf (fun i s => if gWh c (nI i) = 0 then s else if gTouch (nI i) w = 0 then s else upd s i (gMax 1 (s i * 9 / 10))) s
/-- the crack's step; 1: one cracked -/
def pCrack (p : PSt) : PSt × Int32 := match p with
  | (h, g, s, c, fu, ai, ra, le, ri, mi, lo, fl) =>
    if gWh c (gWorst h s c 60).1 = 0 then (p, 0) else if gMar h s (gWorst h s c 60).1 < 0 then
      ((h, g, gWeak (upd c (gWorst h s c 60).1.toNatClampNeg mi) (gWorst h s c 60).1 s 60, upd c (gWorst h s c 60).1.toNatClampNeg mi, fu, ai, ra, le, ri, mi, lo, fl), 1) else (p, 0)
noncomputable def pMin (p : PSt) : PSt × Int32 := kseal (pCrack (pFlow p))
noncomputable def pPass (p : PSt) : Nat → PSt × Int32 := nf (fun _ a => ((pMin a.1).1, if (pMin a.1).2 = 0 then a.2 else a.2 + 1)) (p, 0)
noncomputable def pStay : PSt → Nat → PSt × Int32
  | p, 0 => (p, 1)
  | p, k + 1 => if (pMin p).2 = 0 then pStay (pMin p).1 k else ((pMin p).1, 0)
def pNew (p : PSt) (x : Int32) : PSt := match p with
  | (h, g, s, c, _, _, ra, le, ri, _, _, _) => (fillA 36 h x, g, fillA 60 s 100, fillA 60 c 0, x, x, ra, le, ri, 0, 0, 0)
def cpyA (n : Nat) (f g : Nat → Int32) : Nat → Int32 := fun k => if k < n then f k else g k
theorem va_cpyA (n : Nat) (f g : Nat → Int32) : va_cpy f g 0 0 n = cpyA n f g := by
  funext k
  simp [va_cpy, cpyA]
def pCopy (p q : PSt) : PSt := match p, q with
  | (h, g, s, c, _), (h', _, s', c', r) => (cpyA 36 h' h, g, cpyA 60 s' s, cpyA 60 c' c, r)
def pFlame (p : PSt) (k x : Int32) : PSt := match p with
  | (h, g, s, c, fu, ai, ra, le, ri, mi, lo, fl) => (if gIsCell k = 0 then h else upd h k.toNatClampNeg (gMax 0 (gAt 36 h k + x)), g, s, c, fu, ai, ra, le, ri, mi, lo, fl + (gMax 0 (gAt 36 h k + x) - gAt 36 h k))
def pwb (b : Nat) (p : PSt) : mjM := match p with
  | (h, g, s, c, fu, ai, ra, le, ri, mi, lo, fl) => [.inr (3, [.ref (b + 1), .ref (b + 2), .ref (b + 3), .ref (b + 4), .int fu, .int ai, .int ra, .int le, .int ri, .int mi, .int lo, .int fl]), .inl (0, (36, .inl h)), .inl (0, (36, .inl g)), .inl (0, (60, .inl s)), .inl (0, (60, .inl c))]
def rPb (b : Nat) (M : mjM) : PSt := (rA M (b + 1), rA M (b + 2), rA M (b + 3), rA M (b + 4), rF M b 4, rF M b 5, rF M b 6, rF M b 7, rF M b 8, rF M b 9, rF M b 10, rF M b 11)
def S_X4_moveFurnace : mjSp := fun M as => (M = pw (rP M) ∧ as = [.ref 0], some (pw (match rP M with
  | (h, g, s, c, fu, ai, ra, r) => (h, g, s, c, gFur fu ai ra, ai, ra, r))), none)
def S_X4_gain : mjSp := fun M as => (M = pw (rP M) ∧ as = [.ref 0, .int (aI as 1), .int (aI as 2)], some (pw (match rP M with
  | (h, g, r) => (h, gGain g (aI as 1) (aI as 2), r))), none)
noncomputable def S_X4_flowOverJoints : mjSp := fun M as => (M = pw (rP M) ∧ as = [.ref 0], some (pw (match rP M with
  | (h, g, s, c, fu, ai, ra, le, r) => (h, kseal (gJo h c le g 60), s, c, fu, ai, ra, le, r))), none)
noncomputable def S_X4_flowAtRim : mjSp := fun M as => (M = pw (rP M) ∧ as = [.ref 0], some (pw (match rP M with
  | (h, g, s, c, fu, ai, ra, le, ri, mi, lo, fl) => (h, (kseal (gRi h fu ri (g, lo) 36)).1, s, c, fu, ai, ra, le, ri, mi, (kseal (gRi h fu ri (g, lo) 36)).2, fl))), none)
noncomputable def S_X4_letHeatFlow : mjSp := fun M as => (M = pw (rP M) ∧ as = [.ref 0], some (pw (pFlow (rP M))), none)
noncomputable def S_X4_weakenBeside : mjSp := fun M as => (M = pw (rP M) ∧ as = [.ref 0, .int (aI as 1)], some (pw (match rP M with
  | (h, g, s, c, r) => (h, g, kseal (gWeak c (aI as 1) s 60), c, r))), none)
noncomputable def S_X4_crackWorst : mjSp := fun M as => (M = pw (rP M) ∧ as = [.ref 0], some (pw (kseal (pCrack (rP M))).1), some (.int (kseal (pCrack (rP M))).2))
noncomputable def S_X4_passMinutes : mjSp := fun M as => ((M = pw (rP M) ∧ as = [.ref 0, .int (aI as 1)]) ∧ ¬ aI as 1 < 0, some (pw (kseal (pPass (rP M) (aI as 1).toNatClampNeg)).1), some (.int (kseal (pPass (rP M) (aI as 1).toNatClampNeg)).2))
noncomputable def S_X4_staysWhole : mjSp := fun M as => ((M = pw (rP M) ∧ as = [.ref 0, .int (aI as 1)]) ∧ ¬ aI as 1 < 0, some (pw (kseal (pStay (rP M) (aI as 1).toNatClampNeg)).1), some (.int (kseal (pStay (rP M) (aI as 1).toNatClampNeg)).2))
def S_X4_renew : mjSp := fun M as => (M = pw (rP M) ∧ as = [.ref 0, .int (aI as 1)], some (pw (pNew (rP M) (aI as 1))), none)
def S_X4_copyFrom : mjSp := fun M as => (M = pw (rP M) ++ pwb 5 (rPb 5 M) ∧ as = [.ref 0, .ref 5], some (pw (pCopy (rP M) (rPb 5 M)) ++ pwb 5 (rPb 5 M)), none)
def S_X4_holdFlame : mjSp := fun M as => (M = pw (rP M) ∧ as = [.ref 0, .int (aI as 1), .int (aI as 2)], some (pw (pFlame (rP M) (aI as 1) (aI as 2))), some (.int (gMax 0 (gAt 36 (pH (rP M)) (aI as 1) + aI as 2))))
def S_X4_makeWhole : mjSp := fun M as => (M = pw (rP M) ∧ as = [.ref 0, .int (aI as 1)], some (pw (match rP M with
  | (h, g, s, c, r) => (h, g, s, gPut c (aI as 1) 0, r))), none)
def S_X4_strengthen : mjSp := fun M as => (M = pw (rP M) ∧ as = [.ref 0, .int (aI as 1), .int (aI as 2)], some (pw (match rP M with
  | (h, g, s, c, r) => (h, g, gPut s (aI as 1) (aI as 2), c, r))), none)
theorem pwg {h g g' s c : Nat → Int32} {r} (e : g = g') : pw (h, g, s, c, r) = pw (h, g', s, c, r) := by rw [e]
theorem pws {h g s s' c : Nat → Int32} {r} (e : s = s') : pw (h, g, s, c, r) = pw (h, g, s', c, r) := by rw [e]
theorem pwc {h g s c c' : Nat → Int32} {r} (e : c = c') : pw (h, g, s, c, r) = pw (h, g, s, c', r) := by rw [e]
def rm_X4_moveFurnace : Room := { frames := 1, cells := 0, slots := 0, locals := 21 }
noncomputable def G_X4_moveFurnace : mjG := (I_X4_moveFurnace, F_X4, [(81, 1, 0, 2, 0, 0, S_J9_min_7cf53), (87, 1, 0, 2, 0, 0, S_J9_max_7cf53)], (fun pc => []), Y0, (fun _ => none), (fun _ => none), none, 0, 0, false)
set_option maxHeartbeats 20000000 in
set_option maxRecDepth 100000 in
theorem ok_X4_moveFurnace : mjOK G_X4_moveFurnace 1 S_X4_moveFurnace := by
  intro M as hP T hT
  obtain ⟨⟨h, g, s, c, fu, ai, ra, le, ri, mi, lo, fl⟩, rfl, rfl⟩ := inP0 hP
  refine hT.1 (fun _ => false) 60 _ _ _ _ _ ?_
  refine And.intro (fun h1 => And.intro ⟨rfl, rfl⟩ ⟨?_, rfl⟩) (fun h1 => And.intro ⟨rfl, rfl⟩ ⟨?_, rfl⟩)
  · show pw (h, g, s, c, gMax ai (fu - ra), ai, ra, le, ri, mi, lo, fl) = pw (h, g, s, c, gFur fu ai ra, ai, ra, le, ri, mi, lo, fl)
    rw [show gFur fu ai ra = _ from if_pos h1]
  · show pw (h, g, s, c, gMin ai (fu + ra), ai, ra, le, ri, mi, lo, fl) = pw (h, g, s, c, gFur fu ai ra, ai, ra, le, ri, mi, lo, fl)
    rw [show gFur fu ai ra = _ from if_neg h1]
set_option maxRecDepth 10000 in
theorem ct_X4_moveFurnace (l : Launch) : mjCT l yX4_moveFurnace cX4_moveFurnace 1 none rm_X4_moveFurnace S_X4_moveFurnace :=
  mjCT_of (own := RX4) (G := G_X4_moveFurnace) (plainFor_of_name pn_X4) rfl ok_X4_moveFurnace (fun meth hm => ⟨fun pc row h => (I_X4_moveFurnace_ok pc row h).1, F_X4_ok, List.forall_mem_cons.mpr ⟨⟨yJ9_min_7cf53, cJ9_min_7cf53, 2, (some .int), rm_J9_min_7cf53, ct_J9_min_7cf53 l, ⟨rfl, rfl⟩, ⟨by decide, by decide⟩, by decide, nk_J9_min_7cf53, ln_X4_81, st_J9_min_7cf53⟩, List.forall_mem_cons.mpr ⟨⟨yJ9_max_7cf53, cJ9_max_7cf53, 2, (some .int), rm_J9_max_7cf53, ct_J9_max_7cf53 l, ⟨rfl, rfl⟩, ⟨by decide, by decide⟩, by decide, nk_J9_max_7cf53, ln_X4_87, st_J9_max_7cf53⟩, fun _ h => absurd h List.not_mem_nil⟩⟩, (fun _ _ _ h => by cases h), (fun _ _ h => by cases h), ⟨Nat.le_refl _, Nat.le_refl _⟩, (fun h => by cases h), (fun h => absurd h (by decide))⟩) rfl rfl rfl (fun pc row h => (I_X4_moveFurnace_ok pc row h).2)
def rm_X4_gain : Room := { frames := 1, cells := 0, slots := 0, locals := 20 }
noncomputable def G_X4_gain : mjG := (I_X4_gain, F_X4, [(113, 1, 0, 1, 0, 0, S_X1_isCell)], (fun pc => []), Y0, (fun _ => none), (fun _ => none), none, 0, 0, false)
set_option maxHeartbeats 20000000 in
set_option maxRecDepth 100000 in
theorem ok_X4_gain : mjOK G_X4_gain 3 S_X4_gain := by
  intro M as hP T hT
  obtain ⟨⟨h, g, s, c, fu, ai, ra, le, ri, mi, lo, fl⟩, k, x, rfl, rfl⟩ := inP2 hP
  refine hT.1 (fun _ => false) 60 _ _ _ _ _ ?_
  refine And.intro ⟨rfl, rfl⟩ (And.intro (fun (h1 : gIsCell k = 0) => ⟨?_, rfl⟩) (fun (h1 : ¬ gIsCell k = 0) => mjix_of (gIsCell_ne h1).1 (gIsCell_ne h1).2 rfl (by decide) (mjix_of (gIsCell_ne h1).1 (gIsCell_ne h1).2 rfl (by decide) ⟨?_, rfl⟩)))
  · exact pwg (if_pos h1).symm
  · show pw (h, upd g k.toNatClampNeg (g k.toNatClampNeg + x), s, c, fu, ai, ra, le, ri, mi, lo, fl) = _
    exact pwg (if_neg h1).symm
set_option maxRecDepth 10000 in
theorem ct_X4_gain (l : Launch) : mjCT l yX4_gain cX4_gain 3 none rm_X4_gain S_X4_gain :=
  mjCT_of (own := RX4) (G := G_X4_gain) (plainFor_of_name pn_X4) rfl ok_X4_gain (fun meth hm => ⟨fun pc row h => (I_X4_gain_ok pc row h).1, F_X4_ok, List.forall_mem_cons.mpr ⟨⟨yX1_isCell, cX1_isCell, 1, (some .boolean), rm_X1_isCell, ct_X1_isCell l, ⟨rfl, rfl⟩, ⟨by decide, by decide⟩, by decide, nk_X1_isCell, ln_X4_113, st_X1_isCell⟩, fun _ h => absurd h List.not_mem_nil⟩, (fun _ _ _ h => by cases h), (fun _ _ h => by cases h), ⟨Nat.le_refl _, Nat.le_refl _⟩, (fun h => by cases h), (fun h => absurd h (by decide))⟩) rfl rfl rfl (fun pc row h => (I_X4_gain_ok pc row h).2)
def rm_X4_makeWhole : Room := { frames := 1, cells := 0, slots := 0, locals := 20 }
noncomputable def G_X4_makeWhole : mjG := (I_X4_makeWhole, F_X4, [(130, 1, 0, 1, 0, 0, S_X1_isJoint)], (fun pc => []), Y0, (fun _ => none), (fun _ => none), none, 0, 0, false)
set_option maxHeartbeats 20000000 in
set_option maxRecDepth 100000 in
theorem ok_X4_makeWhole : mjOK G_X4_makeWhole 2 S_X4_makeWhole := by
  intro M as hP T hT
  obtain ⟨⟨h, g, s, c, fu, ai, ra, le, ri, mi, lo, fl⟩, k, rfl, rfl⟩ := inP1 hP
  refine hT.1 (fun _ => false) 60 _ _ _ _ _ ?_
  refine And.intro ⟨rfl, rfl⟩ (And.intro (fun (h1 : gIsJoint k = 0) => ⟨?_, rfl⟩) (fun (h1 : ¬ gIsJoint k = 0) => mjix_of (gIsJoint_ne h1).1 (gIsJoint_ne h1).2 rfl (by decide) ⟨?_, rfl⟩))
  · exact pwc (if_pos h1).symm
  · show pw (h, g, s, upd c k.toNatClampNeg 0, fu, ai, ra, le, ri, mi, lo, fl) = _
    exact pwc (if_neg h1).symm
set_option maxRecDepth 10000 in
theorem ct_X4_makeWhole (l : Launch) : mjCT l yX4_makeWhole cX4_makeWhole 2 none rm_X4_makeWhole S_X4_makeWhole :=
  mjCT_of (own := RX4) (G := G_X4_makeWhole) (plainFor_of_name pn_X4) rfl ok_X4_makeWhole (fun meth hm => ⟨fun pc row h => (I_X4_makeWhole_ok pc row h).1, F_X4_ok, List.forall_mem_cons.mpr ⟨⟨yX1_isJoint, cX1_isJoint, 1, (some .boolean), rm_X1_isJoint, ct_X1_isJoint l, ⟨rfl, rfl⟩, ⟨by decide, by decide⟩, by decide, nk_X1_isJoint, ln_X4_130, st_X1_isJoint⟩, fun _ h => absurd h List.not_mem_nil⟩, (fun _ _ _ h => by cases h), (fun _ _ h => by cases h), ⟨Nat.le_refl _, Nat.le_refl _⟩, (fun h => by cases h), (fun h => absurd h (by decide))⟩) rfl rfl rfl (fun pc row h => (I_X4_makeWhole_ok pc row h).2)
def rm_X4_strengthen : Room := { frames := 1, cells := 0, slots := 0, locals := 20 }
noncomputable def G_X4_strengthen : mjG := (I_X4_strengthen, F_X4, [(130, 1, 0, 1, 0, 0, S_X1_isJoint)], (fun pc => []), Y0, (fun _ => none), (fun _ => none), none, 0, 0, false)
set_option maxHeartbeats 20000000 in
set_option maxRecDepth 100000 in
theorem ok_X4_strengthen : mjOK G_X4_strengthen 3 S_X4_strengthen := by
  intro M as hP T hT
  obtain ⟨⟨h, g, s, c, fu, ai, ra, le, ri, mi, lo, fl⟩, k, x, rfl, rfl⟩ := inP2 hP
  refine hT.1 (fun _ => false) 60 _ _ _ _ _ ?_
  refine And.intro ⟨rfl, rfl⟩ (And.intro (fun (h1 : gIsJoint k = 0) => ⟨?_, rfl⟩) (fun (h1 : ¬ gIsJoint k = 0) => mjix_of (gIsJoint_ne h1).1 (gIsJoint_ne h1).2 rfl (by decide) ⟨?_, rfl⟩))
  · exact pws (if_pos h1).symm
  · show pw (h, g, upd s k.toNatClampNeg x, c, fu, ai, ra, le, ri, mi, lo, fl) = _
    exact pws (if_neg h1).symm
set_option maxRecDepth 10000 in
theorem ct_X4_strengthen (l : Launch) : mjCT l yX4_strengthen cX4_strengthen 3 none rm_X4_strengthen S_X4_strengthen :=
  mjCT_of (own := RX4) (G := G_X4_strengthen) (plainFor_of_name pn_X4) rfl ok_X4_strengthen (fun meth hm => ⟨fun pc row h => (I_X4_strengthen_ok pc row h).1, F_X4_ok, List.forall_mem_cons.mpr ⟨⟨yX1_isJoint, cX1_isJoint, 1, (some .boolean), rm_X1_isJoint, ct_X1_isJoint l, ⟨rfl, rfl⟩, ⟨by decide, by decide⟩, by decide, nk_X1_isJoint, ln_X4_130, st_X1_isJoint⟩, fun _ h => absurd h List.not_mem_nil⟩, (fun _ _ _ h => by cases h), (fun _ _ h => by cases h), ⟨Nat.le_refl _, Nat.le_refl _⟩, (fun h => by cases h), (fun h => absurd h (by decide))⟩) rfl rfl rfl (fun pc row h => (I_X4_strengthen_ok pc row h).2)
def rm_X4_flowOverJoints : Room := { frames := 2, cells := 0, slots := 0, locals := 42 }
noncomputable def G_X4_flowOverJoints : mjG := (I_X4_flowOverJoints, F_X4, [(90, 0, 3, 2, 0, 0, S_X4_isWhole), (94, 1, 0, 1, 0, 0, S_X1_firstCell), (100, 1, 0, 1, 0, 0, S_X1_secondCell), (103, 0, 3, 2, 0, 0, S_X4_heatAt), (106, 0, 3, 3, 0, 0, S_X4_gain)], (fun pc => bif Nat.beq pc 22 then [] else bif Nat.beq pc 17 then [] else [0, 1, 2, 3, 4]), Y0, (fun _ => none), (fun _ => none), none, 0, 0, false)
set_option maxHeartbeats 20000000 in
set_option maxRecDepth 100000 in
theorem ok_X4_flowOverJoints : mjOK G_X4_flowOverJoints 5 S_X4_flowOverJoints := by
  intro M as hP T hT
  obtain ⟨⟨h, g, s, c, fu, ai, ra, le, ri, mi, lo, fl⟩, rfl, rfl⟩ := inP0 hP
  refine hT.1 (fun pc => Nat.beq pc 2) 60 _ _ _ _ _ ?_
  refine hT.2 [true, true, false, false, false] _ _ _ _ _ ?_
  refine mjloop0 60 (fun i => ∀ g', g' = gJo h c le g i → T 2 [some (.ref 0), some (.int (nI i)), none, none, none] [] (pw (h, g', s, c, fu, ai, ra, le, ri, mi, lo, fl)) (0, 0)) (fun i hi ih g' hg => ?_) (fun g' hg => ?_) g rfl
  · rw [nI_succ] at ih
    refine hT.1 (fun pc => Nat.beq pc 2) 60 _ _ _ _ _ ?_
    refine And.intro (fun h => absurd h (nI_ge hi (by decide))) (fun _ => And.intro ⟨rfl, rfl⟩ (And.intro (fun h1 => hT.2 [true, true, false, false, false] _ _ _ _ _ (ih _ ?_)) (fun h1 => And.intro ⟨rfl, rfl⟩ (And.intro ⟨rfl, rfl⟩ (And.intro ⟨rfl, rfl⟩ (And.intro ⟨rfl, rfl⟩ (And.intro ⟨rfl, rfl⟩ (And.intro ⟨rfl, rfl⟩ (hT.2 [true, true, false, false, false] _ _ _ _ _ (ih _ ?_))))))))))
    · rw [hg]; exact (if_pos h1).symm
    · rw [hg]; exact (if_neg h1).symm
  · refine hT.1 (fun pc => Nat.beq pc 2) 60 _ _ _ _ _ ?_
    exact And.intro (fun _ => ⟨pwg (hg.trans (kseal_eq _).symm), rfl⟩) (fun h => absurd (nI_le (Nat.le_refl 60) (by decide)) h)
set_option maxRecDepth 10000 in
theorem ct_X4_flowOverJoints (l : Launch) : mjCT l yX4_flowOverJoints cX4_flowOverJoints 5 none rm_X4_flowOverJoints S_X4_flowOverJoints :=
  mjCT_of (own := RX4) (G := G_X4_flowOverJoints) (plainFor_of_name pn_X4) rfl ok_X4_flowOverJoints (fun meth hm => ⟨fun pc row h => (I_X4_flowOverJoints_ok pc row h).1, F_X4_ok, List.forall_mem_cons.mpr ⟨⟨yX4_isWhole, cX4_isWhole, 2, (some .boolean), rm_X4_isWhole, ct_X4_isWhole l, ⟨rfl, rfl⟩, ⟨by decide, by decide⟩, by decide, by decide, nk_X4_isWhole, ln_X4_90, im_X4_isWhole, se_X4_isWhole, rfl⟩, List.forall_mem_cons.mpr ⟨⟨yX1_firstCell, cX1_firstCell, 1, (some .int), rm_X1_firstCell, ct_X1_firstCell l, ⟨rfl, rfl⟩, ⟨by decide, by decide⟩, by decide, nk_X1_firstCell, ln_X4_94, st_X1_firstCell⟩, List.forall_mem_cons.mpr ⟨⟨yX1_secondCell, cX1_secondCell, 1, (some .int), rm_X1_secondCell, ct_X1_secondCell l, ⟨rfl, rfl⟩, ⟨by decide, by decide⟩, by decide, nk_X1_secondCell, ln_X4_100, st_X1_secondCell⟩, List.forall_mem_cons.mpr ⟨⟨yX4_heatAt, cX4_heatAt, 2, (some .int), rm_X4_heatAt, ct_X4_heatAt l, ⟨rfl, rfl⟩, ⟨by decide, by decide⟩, by decide, by decide, nk_X4_heatAt, ln_X4_103, im_X4_heatAt, se_X4_heatAt, rfl⟩, List.forall_mem_cons.mpr ⟨⟨yX4_gain, cX4_gain, 3, none, rm_X4_gain, ct_X4_gain l, ⟨rfl, rfl⟩, ⟨by decide, by decide⟩, by decide, by decide, nk_X4_gain, ln_X4_106, im_X4_gain, se_X4_gain, rfl⟩, fun _ h => absurd h List.not_mem_nil⟩⟩⟩⟩⟩, (fun _ _ _ h => by cases h), (fun _ _ h => by cases h), ⟨Nat.le_refl _, Nat.le_refl _⟩, (fun h => by cases h), (fun h => absurd h (by decide))⟩) rfl rfl rfl (fun pc row h => (I_X4_flowOverJoints_ok pc row h).2)
def rm_X4_flowAtRim : Room := { frames := 1, cells := 0, slots := 0, locals := 24 }
noncomputable def G_X4_flowAtRim : mjG := (I_X4_flowAtRim, F_X4, [(110, 1, 0, 1, 0, 0, S_X1_rimSides)], (fun pc => []), Y0, (fun _ => none), (fun _ => none), none, 0, 0, false)
set_option maxHeartbeats 20000000 in
set_option maxRecDepth 100000 in
theorem ok_X4_flowAtRim : mjOK G_X4_flowAtRim 3 S_X4_flowAtRim := by
  intro M as hP T hT
  obtain ⟨⟨h, g, s, c, fu, ai, ra, le, ri, mi, lo, fl⟩, rfl, rfl⟩ := inP0 hP
  refine hT.1 (fun pc => Nat.beq pc 2) 60 _ _ _ _ _ ?_
  refine hT.2 [true, true, false] _ _ _ _ _ ?_
  refine mjloop0 36 (fun i => ∀ g' lo', (g', lo') = gRi h fu ri (g, lo) i → T 2 [some (.ref 0), some (.int (nI i)), none] [] (pw (h, g', s, c, fu, ai, ra, le, ri, mi, lo', fl)) (0, 0)) (fun i hi ih g' lo' hg => ?_) (fun g' lo' hg => ?_) g lo rfl
  · have hs : gRi h fu ri (g, lo) (i + 1) = (fun (a : (Nat → Int32) × Int32) => (upd a.1 i (a.1 i - gFr h fu ri i), a.2 + gFr h fu ri i)) (gRi h fu ri (g, lo) i) := rfl
    rw [← hg] at hs
    rw [nI_succ, hs] at ih
    refine hT.1 (fun pc => Nat.beq pc 2) 60 _ _ _ _ _ ?_
    refine And.intro (fun h => absurd h (nI_ge hi (by decide))) (fun _ => mjix_n hi (by decide) (And.intro ⟨rfl, rfl⟩ (mjix_n hi (by decide) (mjix_n hi (by decide) (hT.2 [true, true, false] _ _ _ _ _ (ih _ _ rfl))))))
  · refine hT.1 (fun pc => Nat.beq pc 2) 60 _ _ _ _ _ ?_
    refine And.intro (fun _ => ⟨?_, rfl⟩) (fun h => absurd (nI_le (Nat.le_refl 36) (by decide)) h)
    show pw (h, g', s, c, fu, ai, ra, le, ri, mi, lo', fl) = pw (h, (kseal (gRi h fu ri (g, lo) 36)).1, s, c, fu, ai, ra, le, ri, mi, (kseal (gRi h fu ri (g, lo) 36)).2, fl)
    rw [kseal_eq, ← hg]
set_option maxRecDepth 10000 in
theorem ct_X4_flowAtRim (l : Launch) : mjCT l yX4_flowAtRim cX4_flowAtRim 3 none rm_X4_flowAtRim S_X4_flowAtRim :=
  mjCT_of (own := RX4) (G := G_X4_flowAtRim) (plainFor_of_name pn_X4) rfl ok_X4_flowAtRim (fun meth hm => ⟨fun pc row h => (I_X4_flowAtRim_ok pc row h).1, F_X4_ok, List.forall_mem_cons.mpr ⟨⟨yX1_rimSides, cX1_rimSides, 5, (some .int), rm_X1_rimSides, ct_X1_rimSides l, ⟨rfl, rfl⟩, ⟨by decide, by decide⟩, by decide, nk_X1_rimSides, ln_X4_110, st_X1_rimSides⟩, fun _ h => absurd h List.not_mem_nil⟩, (fun _ _ _ h => by cases h), (fun _ _ h => by cases h), ⟨Nat.le_refl _, Nat.le_refl _⟩, (fun h => by cases h), (fun h => absurd h (by decide))⟩) rfl rfl rfl (fun pc row h => (I_X4_flowAtRim_ok pc row h).2)
def rm_X4_letHeatFlow : Room := { frames := 3, cells := 0, slots := 0, locals := 66 }
noncomputable def G_X4_letHeatFlow : mjG := (I_X4_letHeatFlow, F_X4, [(72, 0, 3, 1, 0, 0, S_X4_moveFurnace), (38, 1, 0, 2, 0, 0, S_J7_fill_53178), (75, 0, 3, 1, 0, 0, S_X4_flowOverJoints), (78, 0, 3, 1, 0, 0, S_X4_flowAtRim)], (fun pc => bif Nat.beq pc 19 then [2] else [0, 1, 2, 3, 4]), Y0, (fun _ => none), (fun _ => none), none, 0, 0, false)
set_option maxHeartbeats 20000000 in
set_option maxRecDepth 100000 in
theorem ok_X4_letHeatFlow : mjOK G_X4_letHeatFlow 2 S_X4_letHeatFlow := by
  intro M as hP T hT
  obtain ⟨⟨h, g, s, c, fu, ai, ra, le, ri, mi, lo, fl⟩, rfl, rfl⟩ := inP0 hP
  have s4 : ∀ g2 fu2 mi2 lo2, pw (kseal (gHe g2 h 36), g2, s, c, fu2, ai, ra, le, ri, mi2, lo2, fl) = pw (pFlow (h, g, s, c, fu, ai, ra, le, ri, mi, lo, fl)) → T 32 [some (.ref 0), some (.int (nI 0))] [] (pw (h, g2, s, c, fu2, ai, ra, le, ri, mi2, lo2, fl)) (0, 0) := by
    intro g2 fu2 mi2 lo2 he
    refine mjloop0 36 (fun i => ∀ h', h' = gHe g2 h i → T 32 [some (.ref 0), some (.int (nI i))] [] (pw (h', g2, s, c, fu2, ai, ra, le, ri, mi2, lo2, fl)) (0, 0)) (fun i hi ih h' hh => ?_) (fun h' hh => ?_) h rfl
    · rw [nI_succ] at ih
      refine hT.1 (fun pc => Nat.beq pc 32) 60 _ _ _ _ _ ?_
      refine And.intro (fun h => absurd h (nI_ge hi (by decide))) (fun _ => mjix_n hi (by decide) (mjix_n hi (by decide) (mjix_n hi (by decide) (ih _ ?_))))
      rw [hh]
      rfl
    · refine hT.1 (fun pc => Nat.beq pc 32) 60 _ _ _ _ _ ?_
      refine And.intro (fun _ => ⟨?_, rfl⟩) (fun h => absurd (nI_le (Nat.le_refl 36) (by decide)) h)
      rw [hh, ← kseal_eq (gHe g2 h 36)]
      exact he
  have s3 : ∀ g1 fu2 mi2, pw (kseal (gHe (kseal (gRi h fu2 ri (g1, lo) 36)).1 h 36), (kseal (gRi h fu2 ri (g1, lo) 36)).1, s, c, fu2, ai, ra, le, ri, mi2, (kseal (gRi h fu2 ri (g1, lo) 36)).2, fl) = pw (pFlow (h, g, s, c, fu, ai, ra, le, ri, mi, lo, fl)) → T 26 [some (.ref 0), none] [] (pw (h, g1, s, c, fu2, ai, ra, le, ri, mi2, lo, fl)) (0, 0) := by
    intro g1 fu2 mi2 he
    refine hT.1 (fun pc => Nat.beq pc 32) 60 _ _ _ _ _ ?_
    exact And.intro ⟨rfl, rfl⟩ (s4 _ _ _ _ he)
  have s2 : ∀ g1 fu2 mi2, pw (kseal (gHe (kseal (gRi h fu2 ri (kseal (gJo h c le g1 60), lo) 36)).1 h 36), (kseal (gRi h fu2 ri (kseal (gJo h c le g1 60), lo) 36)).1, s, c, fu2, ai, ra, le, ri, mi2, (kseal (gRi h fu2 ri (kseal (gJo h c le g1 60), lo) 36)).2, fl) = pw (pFlow (h, g, s, c, fu, ai, ra, le, ri, mi, lo, fl)) → T 22 [some (.ref 0), none] [] (pw (h, g1, s, c, fu2, ai, ra, le, ri, mi2, lo, fl)) (0, 0) := by
    intro g1 fu2 mi2 he
    refine hT.1 (fun pc => Nat.beq pc 26) 60 _ _ _ _ _ ?_
    exact And.intro ⟨rfl, rfl⟩ (s3 _ _ _ he)
  have s1 : ∀ fu2 mi2, pw (kseal (gHe (kseal (gRi h fu2 ri (kseal (gJo h c le (fillA 36 g 0) 60), lo) 36)).1 h 36), (kseal (gRi h fu2 ri (kseal (gJo h c le (fillA 36 g 0) 60), lo) 36)).1, s, c, fu2, ai, ra, le, ri, mi2, (kseal (gRi h fu2 ri (kseal (gJo h c le (fillA 36 g 0) 60), lo) 36)).2, fl) = pw (pFlow (h, g, s, c, fu, ai, ra, le, ri, mi, lo, fl)) → T 14 [some (.ref 0), none] [] (pw (h, g, s, c, fu2, ai, ra, le, ri, mi2, lo, fl)) (0, 0) := by
    intro fu2 mi2 he
    refine hT.1 (fun pc => Nat.beq pc 22) 60 _ _ _ _ _ ?_
    exact And.intro ⟨⟨rfl, show (36 : Nat) < 2147483647 by decide⟩, rfl⟩ (s2 _ _ _ he)
  refine hT.1 (fun pc => Nat.beq pc 14) 60 _ _ _ _ _ ?_
  exact And.intro ⟨rfl, rfl⟩ (s1 _ _ rfl)
set_option maxRecDepth 10000 in
theorem ct_X4_letHeatFlow (l : Launch) : mjCT l yX4_letHeatFlow cX4_letHeatFlow 2 none rm_X4_letHeatFlow S_X4_letHeatFlow :=
  mjCT_of (own := RX4) (G := G_X4_letHeatFlow) (plainFor_of_name pn_X4) rfl ok_X4_letHeatFlow (fun meth hm => ⟨fun pc row h => (I_X4_letHeatFlow_ok pc row h).1, F_X4_ok, List.forall_mem_cons.mpr ⟨⟨yX4_moveFurnace, cX4_moveFurnace, 1, none, rm_X4_moveFurnace, ct_X4_moveFurnace l, ⟨rfl, rfl⟩, ⟨by decide, by decide⟩, by decide, by decide, nk_X4_moveFurnace, ln_X4_72, im_X4_moveFurnace, se_X4_moveFurnace, rfl⟩, List.forall_mem_cons.mpr ⟨⟨yJ7_fill_53178, cJ7_fill_53178, 4, none, rm_J7_fill_53178, ct_J7_fill_53178 l, ⟨rfl, rfl⟩, ⟨by decide, by decide⟩, by decide, nk_J7_fill_53178, ln_X4_38, st_J7_fill_53178⟩, List.forall_mem_cons.mpr ⟨⟨yX4_flowOverJoints, cX4_flowOverJoints, 5, none, rm_X4_flowOverJoints, ct_X4_flowOverJoints l, ⟨rfl, rfl⟩, ⟨by decide, by decide⟩, by decide, by decide, nk_X4_flowOverJoints, ln_X4_75, im_X4_flowOverJoints, se_X4_flowOverJoints, rfl⟩, List.forall_mem_cons.mpr ⟨⟨yX4_flowAtRim, cX4_flowAtRim, 3, none, rm_X4_flowAtRim, ct_X4_flowAtRim l, ⟨rfl, rfl⟩, ⟨by decide, by decide⟩, by decide, by decide, nk_X4_flowAtRim, ln_X4_78, im_X4_flowAtRim, se_X4_flowAtRim, rfl⟩, fun _ h => absurd h List.not_mem_nil⟩⟩⟩⟩, (fun _ _ _ h => by cases h), (fun _ _ h => by cases h), ⟨Nat.le_refl _, Nat.le_refl _⟩, (fun h => by cases h), (fun h => absurd h (by decide))⟩) rfl rfl rfl (fun pc row h => (I_X4_letHeatFlow_ok pc row h).2)
def rm_X4_weakenBeside : Room := { frames := 3, cells := 0, slots := 0, locals := 62 }
noncomputable def G_X4_weakenBeside : mjG := (I_X4_weakenBeside, F_X4, [(90, 0, 3, 2, 0, 0, S_X4_isWhole), (126, 1, 0, 2, 0, 0, S_X1_touch), (87, 1, 0, 2, 0, 0, S_J9_max_7cf53)], (fun pc => bif Nat.beq pc 10 then [0, 1, 2, 3, 4] else []), Y0, (fun _ => none), (fun _ => none), none, 0, 0, false)
set_option maxHeartbeats 20000000 in
set_option maxRecDepth 100000 in
theorem ok_X4_weakenBeside : mjOK G_X4_weakenBeside 3 S_X4_weakenBeside := by
  intro M as hP T hT
  obtain ⟨⟨h, g, s, c, fu, ai, ra, le, ri, mi, lo, fl⟩, w, rfl, rfl⟩ := inP1 hP
  refine hT.1 (fun pc => Nat.beq pc 2) 60 _ _ _ _ _ ?_
  refine mjloop0 60 (fun i => ∀ s', s' = gWeak c w s i → T 2 [some (.ref 0), some (.int w), some (.int (nI i))] [] (pw (h, g, s', c, fu, ai, ra, le, ri, mi, lo, fl)) (0, 0)) (fun i hi ih s' hs => ?_) (fun s' hs => ?_) s rfl
  · rw [nI_succ] at ih
    refine hT.1 (fun pc => Nat.beq pc 2) 60 _ _ _ _ _ ?_
    refine And.intro (fun h => absurd h (nI_ge hi (by decide))) (fun _ => And.intro ⟨rfl, rfl⟩ (And.intro (fun h1 => ih _ ?_) (fun h1 => And.intro ⟨rfl, rfl⟩ (And.intro (fun h2 => ih _ ?_) (fun h2 => mjix_n hi (by decide) (And.intro ⟨rfl, rfl⟩ (mjix_n hi (by decide) (ih _ ?_))))))))
    · rw [hs]; exact (if_pos h1).symm
    · rw [hs]; exact ((if_neg h1).trans (if_pos h2)).symm
    · rw [hs]; exact ((if_neg h1).trans (if_neg h2)).symm
  · refine hT.1 (fun pc => Nat.beq pc 2) 60 _ _ _ _ _ ?_
    exact And.intro (fun _ => ⟨pws (hs.trans (kseal_eq _).symm), rfl⟩) (fun h => absurd (nI_le (Nat.le_refl 60) (by decide)) h)
set_option maxRecDepth 10000 in
theorem ct_X4_weakenBeside (l : Launch) : mjCT l yX4_weakenBeside cX4_weakenBeside 3 none rm_X4_weakenBeside S_X4_weakenBeside :=
  mjCT_of (own := RX4) (G := G_X4_weakenBeside) (plainFor_of_name pn_X4) rfl ok_X4_weakenBeside (fun meth hm => ⟨fun pc row h => (I_X4_weakenBeside_ok pc row h).1, F_X4_ok, List.forall_mem_cons.mpr ⟨⟨yX4_isWhole, cX4_isWhole, 2, (some .boolean), rm_X4_isWhole, ct_X4_isWhole l, ⟨rfl, rfl⟩, ⟨by decide, by decide⟩, by decide, by decide, nk_X4_isWhole, ln_X4_90, im_X4_isWhole, se_X4_isWhole, rfl⟩, List.forall_mem_cons.mpr ⟨⟨yX1_touch, cX1_touch, 2, (some .boolean), rm_X1_touch, ct_X1_touch l, ⟨rfl, rfl⟩, ⟨by decide, by decide⟩, by decide, nk_X1_touch, ln_X4_126, st_X1_touch⟩, List.forall_mem_cons.mpr ⟨⟨yJ9_max_7cf53, cJ9_max_7cf53, 2, (some .int), rm_J9_max_7cf53, ct_J9_max_7cf53 l, ⟨rfl, rfl⟩, ⟨by decide, by decide⟩, by decide, nk_J9_max_7cf53, ln_X4_87, st_J9_max_7cf53⟩, fun _ h => absurd h List.not_mem_nil⟩⟩⟩, (fun _ _ _ h => by cases h), (fun _ _ h => by cases h), ⟨Nat.le_refl _, Nat.le_refl _⟩, (fun h => by cases h), (fun h => absurd h (by decide))⟩) rfl rfl rfl (fun pc row h => (I_X4_weakenBeside_ok pc row h).2)
theorem gWh_ne {c : Nat → Int32} {j : Int32} (h : ¬ gWh c j = 0) : ¬ j < 0 ∧ ¬ 60 ≤ j ∧ c j.toNatClampNeg = 0 := by
  unfold gWh at h
  by_cases h1 : j < 0
  · rw [if_pos h1] at h; exact absurd rfl h
  · by_cases h2 : 60 ≤ j
    · rw [if_neg h1, if_pos h2] at h; exact absurd rfl h
    · by_cases h3 : c j.toNatClampNeg = 0
      · exact ⟨h1, h2, h3⟩
      · rw [if_neg h1, if_neg h2, if_neg h3] at h; exact absurd rfl h
def rm_X4_crackWorst : Room := { frames := 4, cells := 0, slots := 0, locals := 87 }
noncomputable def G_X4_crackWorst : mjG := (I_X4_crackWorst, F_X4, [(116, 0, 3, 1, 0, 0, S_X4_mostStrained), (90, 0, 3, 2, 0, 0, S_X4_isWhole), (120, 0, 3, 2, 0, 0, S_X4_marginOf), (123, 0, 3, 2, 0, 0, S_X4_weakenBeside)], (fun pc => [0, 1, 2, 3, 4]), Y0, (fun _ => none), (fun _ => none), (some .boolean), 0, 0, false)
set_option maxHeartbeats 20000000 in
set_option maxRecDepth 100000 in
theorem ok_X4_crackWorst : mjOK G_X4_crackWorst 2 S_X4_crackWorst := by
  intro M as hP T hT
  obtain ⟨⟨h, g, s, c, fu, ai, ra, le, ri, mi, lo, fl⟩, rfl, rfl⟩ := inP0 hP
  have hz : pCrack (h, g, s, c, fu, ai, ra, le, ri, mi, lo, fl) = if gWh c (gWorst h s c 60).1 = 0 then ((h, g, s, c, fu, ai, ra, le, ri, mi, lo, fl), 0) else if gMar h s (gWorst h s c 60).1 < 0 then
      ((h, g, gWeak (upd c (gWorst h s c 60).1.toNatClampNeg mi) (gWorst h s c 60).1 s 60, upd c (gWorst h s c 60).1.toNatClampNeg mi, fu, ai, ra, le, ri, mi, lo, fl), 1) else ((h, g, s, c, fu, ai, ra, le, ri, mi, lo, fl), 0) := rfl
  have fin : ∀ (q : PSt) (r : Int32), pCrack (h, g, s, c, fu, ai, ra, le, ri, mi, lo, fl) = (q, r) → pw q = (S_X4_crackWorst (pw (h, g, s, c, fu, ai, ra, le, ri, mi, lo, fl)) [.ref 0]).2.1.getD (pw (h, g, s, c, fu, ai, ra, le, ri, mi, lo, fl)) ∧ some (Value.int r) = (S_X4_crackWorst (pw (h, g, s, c, fu, ai, ra, le, ri, mi, lo, fl)) [.ref 0]).2.2 := by
    intro q r hq
    show pw q = pw (kseal (pCrack (h, g, s, c, fu, ai, ra, le, ri, mi, lo, fl))).1 ∧ some (Value.int r) = some (Value.int (kseal (pCrack (h, g, s, c, fu, ai, ra, le, ri, mi, lo, fl))).2)
    rw [kseal_eq, hq]
    exact ⟨rfl, rfl⟩
  generalize S_X4_crackWorst (pw (h, g, s, c, fu, ai, ra, le, ri, mi, lo, fl)) [.ref 0] = SS at hT fin
  have s1 : ∀ w : Int32, w = (gWorst h s c 60).1 → T 4 [some (.ref 0), none] [.int w] (pw (h, g, s, c, fu, ai, ra, le, ri, mi, lo, fl)) (0, 0) := by
    intro w hw
    rw [← hw] at hz
    generalize pCrack (h, g, s, c, fu, ai, ra, le, ri, mi, lo, fl) = PC at hz fin
    have s2 : ¬ gWh c w = 0 → gMar h s w < 0 → ∀ (q : PSt), q = (h, g, gWeak (upd c w.toNatClampNeg mi) w s 60, upd c w.toNatClampNeg mi, fu, ai, ra, le, ri, mi, lo, fl) → T 38 [some (.ref 0), none] [] (pw q) (0, 0) := by
      intro h1 h2 q hq
      refine hT.1 (fun _ => false) 60 _ _ _ _ _ ?_
      exact ⟨rfl, fin q 1 (by rw [hz, if_neg h1, if_pos h2, hq])⟩
    refine hT.1 (fun pc => Nat.beq pc 38) 60 _ _ _ _ _ ?_
    refine And.intro ⟨rfl, rfl⟩ (And.intro (fun (h1 : gWh c w = 0) => ⟨rfl, ?_⟩) (fun (h1 : ¬ gWh c w = 0) => And.intro ⟨rfl, rfl⟩ (And.intro (fun (h2 : gMar h s w < 0) => ?_) (fun (h2 : ¬ gMar h s w < 0) => ⟨rfl, ?_⟩))))
    · exact fin _ 0 (by rw [hz, if_pos h1])
    · obtain ⟨g1, g2, g3⟩ := gWh_ne h1
      refine mjix_of g1 g2 rfl (by decide) ?_
      refine And.intro ⟨rfl, rfl⟩ ?_
      refine hT.2 [true, false] _ _ _ _ _ (s2 h1 h2 (h, g, kseal (gWeak (upd c w.toNatClampNeg mi) w s 60), upd c w.toNatClampNeg mi, fu, ai, ra, le, ri, mi, lo, fl) ?_)
      rw [kseal_eq]
    · exact fin _ 0 (by rw [hz, if_neg h1, if_neg h2])
  refine hT.1 (fun pc => Nat.beq pc 4) 60 _ _ _ _ _ ?_
  exact And.intro ⟨rfl, rfl⟩ (s1 _ (kseal_eq _))
set_option maxRecDepth 10000 in
theorem ct_X4_crackWorst (l : Launch) : mjCT l yX4_crackWorst cX4_crackWorst 2 (some .boolean) rm_X4_crackWorst S_X4_crackWorst :=
  mjCT_of (own := RX4) (G := G_X4_crackWorst) (plainFor_of_name pn_X4) rfl ok_X4_crackWorst (fun meth hm => ⟨fun pc row h => (I_X4_crackWorst_ok pc row h).1, F_X4_ok, List.forall_mem_cons.mpr ⟨⟨yX4_mostStrained, cX4_mostStrained, 5, (some .int), rm_X4_mostStrained, ct_X4_mostStrained l, ⟨rfl, rfl⟩, ⟨by decide, by decide⟩, by decide, by decide, nk_X4_mostStrained, ln_X4_116, im_X4_mostStrained, se_X4_mostStrained, rfl⟩, List.forall_mem_cons.mpr ⟨⟨yX4_isWhole, cX4_isWhole, 2, (some .boolean), rm_X4_isWhole, ct_X4_isWhole l, ⟨rfl, rfl⟩, ⟨by decide, by decide⟩, by decide, by decide, nk_X4_isWhole, ln_X4_90, im_X4_isWhole, se_X4_isWhole, rfl⟩, List.forall_mem_cons.mpr ⟨⟨yX4_marginOf, cX4_marginOf, 2, (some .int), rm_X4_marginOf, ct_X4_marginOf l, ⟨rfl, rfl⟩, ⟨by decide, by decide⟩, by decide, by decide, nk_X4_marginOf, ln_X4_120, im_X4_marginOf, se_X4_marginOf, rfl⟩, List.forall_mem_cons.mpr ⟨⟨yX4_weakenBeside, cX4_weakenBeside, 3, none, rm_X4_weakenBeside, ct_X4_weakenBeside l, ⟨rfl, rfl⟩, ⟨by decide, by decide⟩, by decide, by decide, nk_X4_weakenBeside, ln_X4_123, im_X4_weakenBeside, se_X4_weakenBeside, rfl⟩, fun _ h => absurd h List.not_mem_nil⟩⟩⟩⟩, (fun _ _ _ h => by cases h), (fun _ _ h => by cases h), ⟨Nat.le_refl _, Nat.le_refl _⟩, (fun h => by cases h), (fun h => absurd h (by decide))⟩) rfl rfl rfl (fun pc row h => (I_X4_crackWorst_ok pc row h).2)
theorem pPass_s (p : PSt) (i : Nat) : pPass p (i + 1) = ((pMin (pPass p i).1).1, if (pMin (pPass p i).1).2 = 0 then (pPass p i).2 else (pPass p i).2 + 1) := rfl
theorem pMin_e (p : PSt) : pMin p = kseal (pCrack (pFlow p)) := rfl
def rm_X4_passMinutes : Room := { frames := 5, cells := 0, slots := 0, locals := 108 }
noncomputable def G_X4_passMinutes : mjG := (I_X4_passMinutes, F_X4, [(65, 0, 3, 1, 0, 0, S_X4_letHeatFlow), (68, 0, 3, 1, 0, 0, S_X4_crackWorst)], (fun pc => [0, 1, 2, 3, 4]), Y0, (fun _ => none), (fun _ => none), (some .int), 0, 0, false)
set_option maxHeartbeats 20000000 in
set_option maxRecDepth 100000 in
theorem ok_X4_passMinutes : mjOK G_X4_passMinutes 4 S_X4_passMinutes := by
  intro M as hP T hT
  obtain ⟨hP, hn⟩ := hP
  obtain ⟨p, n, rfl, rfl, hn⟩ : ∃ p n, M = pw p ∧ as = [.ref 0, .int n] ∧ ¬ n < 0 := ⟨_, _, hP.1, hP.2, hn⟩
  obtain ⟨k, hk, rfl⟩ := nI_of hn
  have fin : pw (pPass p k).1 = (S_X4_passMinutes (pw p) [.ref 0, .int (nI k)]).2.1.getD (pw p) ∧ some (Value.int (pPass p k).2) = (S_X4_passMinutes (pw p) [.ref 0, .int (nI k)]).2.2 := by
    show pw (pPass p k).1 = pw (kseal (pPass p (nI k).toNatClampNeg)).1 ∧ some (Value.int (pPass p k).2) = some (Value.int (kseal (pPass p (nI k).toNatClampNeg)).2)
    rw [kseal_eq, nI_clamp hk]
    exact ⟨rfl, rfl⟩
  generalize S_X4_passMinutes (pw p) [.ref 0, .int (nI k)] = SS at hT fin
  refine hT.1 (fun pc => Nat.beq pc 4) 60 _ _ _ _ _ ?_
  refine mjloop0 k (fun i => ∀ (q : PSt) (x : Int32), (q, x) = pPass p i → T 4 [some (.ref 0), some (.int (nI k)), some (.int x), some (.int (nI i))] [] (pw q) (0, 0)) (fun i hi ih q x hq => ?_) (fun q x hq => ?_) p 0 rfl
  · have hs := pPass_s p i
    rw [← hq] at hs
    rw [nI_succ, hs] at ih
    have s2 : ∀ (z : PSt × Int32), z = pMin q → T 17 [some (.ref 0), some (.int (nI k)), some (.int x), some (.int (nI i))] [.int z.2] (pw z.1) (0, 0) := by
      intro z hz
      dsimp only at ih
      rw [← hz] at ih
      refine hT.1 (fun pc => Nat.beq pc 4) 60 _ _ _ _ _ ?_
      refine And.intro (fun h1 => ih z.1 _ ?_) (fun h1 => ih z.1 _ ?_)
      · rw [if_pos h1]
      · rw [if_neg h1]
    have s1 : ∀ q', q' = pFlow q → T 13 [some (.ref 0), some (.int (nI k)), some (.int x), some (.int (nI i))] [] (pw q') (0, 0) := by
      intro q' hq'
      refine hT.1 (fun pc => Nat.beq pc 17) 60 _ _ _ _ _ ?_
      exact And.intro ⟨rfl, rfl⟩ (s2 (kseal (pCrack q')) (by rw [hq']; rfl))
    refine hT.1 (fun pc => Nat.beq pc 13) 60 _ _ _ _ _ ?_
    exact And.intro (fun h => absurd h (nI_ge hi hk)) (fun _ => And.intro ⟨rfl, rfl⟩ (s1 _ rfl))
  · refine hT.1 (fun pc => Nat.beq pc 4) 60 _ _ _ _ _ ?_
    refine And.intro (fun _ => ?_) (fun h => absurd (nI_le (Nat.le_refl k) hk) h)
    rw [← hq] at fin
    exact fin
set_option maxRecDepth 10000 in
theorem ct_X4_passMinutes (l : Launch) : mjCT l yX4_passMinutes cX4_passMinutes 4 (some .int) rm_X4_passMinutes S_X4_passMinutes :=
  mjCT_of (own := RX4) (G := G_X4_passMinutes) (plainFor_of_name pn_X4) rfl ok_X4_passMinutes (fun meth hm => ⟨fun pc row h => (I_X4_passMinutes_ok pc row h).1, F_X4_ok, List.forall_mem_cons.mpr ⟨⟨yX4_letHeatFlow, cX4_letHeatFlow, 2, none, rm_X4_letHeatFlow, ct_X4_letHeatFlow l, ⟨rfl, rfl⟩, ⟨by decide, by decide⟩, by decide, by decide, nk_X4_letHeatFlow, ln_X4_65, im_X4_letHeatFlow, se_X4_letHeatFlow, rfl⟩, List.forall_mem_cons.mpr ⟨⟨yX4_crackWorst, cX4_crackWorst, 2, (some .boolean), rm_X4_crackWorst, ct_X4_crackWorst l, ⟨rfl, rfl⟩, ⟨by decide, by decide⟩, by decide, by decide, nk_X4_crackWorst, ln_X4_68, im_X4_crackWorst, se_X4_crackWorst, rfl⟩, fun _ h => absurd h List.not_mem_nil⟩⟩, (fun _ _ _ h => by cases h), (fun _ _ h => by cases h), ⟨Nat.le_refl _, Nat.le_refl _⟩, (fun h => by cases h), (fun h => absurd h (by decide))⟩) rfl rfl rfl (fun pc row h => (I_X4_passMinutes_ok pc row h).2)
theorem pStay_s (p : PSt) (k : Nat) : pStay p (k + 1) = if (pMin p).2 = 0 then pStay (pMin p).1 k else ((pMin p).1, 0) := rfl
def rm_X4_staysWhole : Room := { frames := 5, cells := 0, slots := 0, locals := 108 }
noncomputable def G_X4_staysWhole : mjG := (I_X4_staysWhole, F_X4, [(65, 0, 3, 1, 0, 0, S_X4_letHeatFlow), (68, 0, 3, 1, 0, 0, S_X4_crackWorst)], (fun pc => [0, 1, 2, 3, 4]), Y0, (fun _ => none), (fun _ => none), (some .boolean), 0, 0, false)
set_option maxHeartbeats 20000000 in
set_option maxRecDepth 100000 in
theorem ok_X4_staysWhole : mjOK G_X4_staysWhole 3 S_X4_staysWhole := by
  intro M as hP T hT
  obtain ⟨hP, hn⟩ := hP
  obtain ⟨p, n, rfl, rfl, hn⟩ : ∃ p n, M = pw p ∧ as = [.ref 0, .int n] ∧ ¬ n < 0 := ⟨_, _, hP.1, hP.2, hn⟩
  obtain ⟨k, hk, rfl⟩ := nI_of hn
  have fin : pw (pStay p k).1 = (S_X4_staysWhole (pw p) [.ref 0, .int (nI k)]).2.1.getD (pw p) ∧ some (Value.int (pStay p k).2) = (S_X4_staysWhole (pw p) [.ref 0, .int (nI k)]).2.2 := by
    show pw (pStay p k).1 = pw (kseal (pStay p (nI k).toNatClampNeg)).1 ∧ some (Value.int (pStay p k).2) = some (Value.int (kseal (pStay p (nI k).toNatClampNeg)).2)
    rw [kseal_eq, nI_clamp hk]
    exact ⟨rfl, rfl⟩
  generalize S_X4_staysWhole (pw p) [.ref 0, .int (nI k)] = SS at hT fin
  refine hT.1 (fun pc => Nat.beq pc 2) 60 _ _ _ _ _ ?_
  refine mjloop0 k (fun i => ∀ (q : PSt), pStay p k = pStay q (k - i) → T 2 [some (.ref 0), some (.int (nI k)), some (.int (nI i))] [] (pw q) (0, 0)) (fun i hi ih q hq => ?_) (fun q hq => ?_) p rfl
  · rw [nI_succ] at ih
    rw [show k - i = (k - (i + 1)) + 1 by omega, pStay_s] at hq
    have s2 : ∀ (z : PSt × Int32), z = pMin q → T 15 [some (.ref 0), some (.int (nI k)), some (.int (nI i))] [.int z.2] (pw z.1) (0, 0) := by
      intro z hz
      rw [← hz] at hq
      refine hT.1 (fun pc => Nat.beq pc 2) 60 _ _ _ _ _ ?_
      refine And.intro (fun h1 => ih z.1 ?_) (fun h1 => ⟨rfl, ?_⟩)
      · rw [hq, if_pos h1]
      · rw [hq, if_neg h1] at fin
        exact fin
    have s1 : ∀ q', q' = pFlow q → T 11 [some (.ref 0), some (.int (nI k)), some (.int (nI i))] [] (pw q') (0, 0) := by
      intro q' hq'
      refine hT.1 (fun pc => Nat.beq pc 15) 60 _ _ _ _ _ ?_
      exact And.intro ⟨rfl, rfl⟩ (s2 (kseal (pCrack q')) (by rw [hq']; rfl))
    refine hT.1 (fun pc => Nat.beq pc 11) 60 _ _ _ _ _ ?_
    exact And.intro (fun h => absurd h (nI_ge hi hk)) (fun _ => And.intro ⟨rfl, rfl⟩ (s1 _ rfl))
  · refine hT.1 (fun pc => Nat.beq pc 2) 60 _ _ _ _ _ ?_
    refine And.intro (fun _ => ⟨rfl, ?_⟩) (fun h => absurd (nI_le (Nat.le_refl k) hk) h)
    rw [hq, Nat.sub_self] at fin
    exact fin
set_option maxRecDepth 10000 in
theorem ct_X4_staysWhole (l : Launch) : mjCT l yX4_staysWhole cX4_staysWhole 3 (some .boolean) rm_X4_staysWhole S_X4_staysWhole :=
  mjCT_of (own := RX4) (G := G_X4_staysWhole) (plainFor_of_name pn_X4) rfl ok_X4_staysWhole (fun meth hm => ⟨fun pc row h => (I_X4_staysWhole_ok pc row h).1, F_X4_ok, List.forall_mem_cons.mpr ⟨⟨yX4_letHeatFlow, cX4_letHeatFlow, 2, none, rm_X4_letHeatFlow, ct_X4_letHeatFlow l, ⟨rfl, rfl⟩, ⟨by decide, by decide⟩, by decide, by decide, nk_X4_letHeatFlow, ln_X4_65, im_X4_letHeatFlow, se_X4_letHeatFlow, rfl⟩, List.forall_mem_cons.mpr ⟨⟨yX4_crackWorst, cX4_crackWorst, 2, (some .boolean), rm_X4_crackWorst, ct_X4_crackWorst l, ⟨rfl, rfl⟩, ⟨by decide, by decide⟩, by decide, by decide, nk_X4_crackWorst, ln_X4_68, im_X4_crackWorst, se_X4_crackWorst, rfl⟩, fun _ h => absurd h List.not_mem_nil⟩⟩, (fun _ _ _ h => by cases h), (fun _ _ h => by cases h), ⟨Nat.le_refl _, Nat.le_refl _⟩, (fun h => by cases h), (fun h => absurd h (by decide))⟩) rfl rfl rfl (fun pc row h => (I_X4_staysWhole_ok pc row h).2)
def rm_X4_renew : Room := { frames := 1, cells := 0, slots := 0, locals := 23 }
noncomputable def G_X4_renew : mjG := (I_X4_renew, F_X4, [(38, 1, 0, 2, 0, 0, S_J7_fill_53178)], (fun pc => bif Nat.beq pc 22 then [4] else bif Nat.beq pc 14 then [3] else [1]), Y0, (fun _ => none), (fun _ => none), none, 0, 0, false)
set_option maxHeartbeats 20000000 in
set_option maxRecDepth 100000 in
theorem ok_X4_renew : mjOK G_X4_renew 2 S_X4_renew := by
  intro M as hP T hT
  obtain ⟨⟨h, g, s, c, fu, ai, ra, le, ri, mi, lo, fl⟩, x, rfl, rfl⟩ := inP1 hP
  have s2 : T 25 [some (.ref 0), some (.int x)] [] (pw (fillA 36 h x, g, fillA 60 s 100, fillA 60 c 0, fu, ai, ra, le, ri, mi, lo, fl)) (0, 0) := by
    refine hT.1 (fun _ => false) 60 _ _ _ _ _ ?_
    exact ⟨rfl, rfl⟩
  have s1 : T 17 [some (.ref 0), some (.int x)] [] (pw (fillA 36 h x, g, fillA 60 s 100, c, fu, ai, ra, le, ri, mi, lo, fl)) (0, 0) := by
    refine hT.1 (fun pc => Nat.beq pc 25) 60 _ _ _ _ _ ?_
    exact And.intro ⟨⟨rfl, show (60 : Nat) < 2147483647 by decide⟩, rfl⟩ s2
  have s0 : T 8 [some (.ref 0), some (.int x)] [] (pw (fillA 36 h x, g, s, c, fu, ai, ra, le, ri, mi, lo, fl)) (0, 0) := by
    refine hT.1 (fun pc => Nat.beq pc 17) 60 _ _ _ _ _ ?_
    exact And.intro ⟨⟨rfl, show (60 : Nat) < 2147483647 by decide⟩, rfl⟩ s1
  refine hT.1 (fun pc => Nat.beq pc 8) 60 _ _ _ _ _ ?_
  exact And.intro ⟨⟨rfl, show (36 : Nat) < 2147483647 by decide⟩, rfl⟩ s0
set_option maxRecDepth 10000 in
theorem ct_X4_renew (l : Launch) : mjCT l yX4_renew cX4_renew 2 none rm_X4_renew S_X4_renew :=
  mjCT_of (own := RX4) (G := G_X4_renew) (plainFor_of_name pn_X4) rfl ok_X4_renew (fun meth hm => ⟨fun pc row h => (I_X4_renew_ok pc row h).1, F_X4_ok, List.forall_mem_cons.mpr ⟨⟨yJ7_fill_53178, cJ7_fill_53178, 4, none, rm_J7_fill_53178, ct_J7_fill_53178 l, ⟨rfl, rfl⟩, ⟨by decide, by decide⟩, by decide, nk_J7_fill_53178, ln_X4_38, st_J7_fill_53178⟩, fun _ h => absurd h List.not_mem_nil⟩, (fun _ _ _ h => by cases h), (fun _ _ h => by cases h), ⟨Nat.le_refl _, Nat.le_refl _⟩, (fun h => by cases h), (fun h => absurd h (by decide))⟩) rfl rfl rfl (fun pc row h => (I_X4_renew_ok pc row h).2)
def rm_X4_copyFrom : Room := { frames := 1, cells := 0, slots := 0, locals := 43 }
noncomputable def G_X4_copyFrom : mjG := (I_X4_copyFrom, F_X4, [(59, 4, 0, 5, 0, 0, S_none)], (fun pc => []), Y0, (fun _ => none), (fun _ => none), none, 0, 0, false)
set_option maxHeartbeats 20000000 in
set_option maxRecDepth 100000 in
theorem ok_X4_copyFrom : mjOK G_X4_copyFrom 2 S_X4_copyFrom := by
  intro M as hP T hT
  obtain ⟨p, q, rfl, rfl⟩ : ∃ p q, M = pw p ++ pwb 5 q ∧ as = [.ref 0, .ref 5] := ⟨_, _, hP.1, hP.2⟩
  obtain ⟨h, g, s, c, fu, ai, ra, le, ri, mi, lo, fl⟩ := p
  obtain ⟨h', g', s', c', fu', ai', ra', le', ri', mi', lo', fl'⟩ := q
  have s3 : T 45 [some (.ref 0), some (.ref 5)] [] (pw (cpyA 36 h' h, g, cpyA 60 s' s, cpyA 60 c' c, fu, ai, ra, le, ri, mi, lo, fl) ++ pwb 5 (h', g', s', c', fu', ai', ra', le', ri', mi', lo', fl')) (0, 0) := by
    refine hT.1 (fun _ => false) 60 _ _ _ _ _ ?_
    exact ⟨rfl, rfl⟩
  have s2 : T 30 [some (.ref 0), some (.ref 5)] [] (pw (cpyA 36 h' h, g, cpyA 60 s' s, c, fu, ai, ra, le, ri, mi, lo, fl) ++ pwb 5 (h', g', s', c', fu', ai', ra', le', ri', mi', lo', fl')) (0, 0) := by
    refine hT.1 (fun pc => Nat.beq pc 45) 60 _ _ _ _ _ ?_
    refine And.intro ⟨by decide, by decide, by decide, by decide, by decide⟩ ?_
    rw [← va_cpyA 60 c'] at s3
    exact s3
  have s1 : T 15 [some (.ref 0), some (.ref 5)] [] (pw (cpyA 36 h' h, g, s, c, fu, ai, ra, le, ri, mi, lo, fl) ++ pwb 5 (h', g', s', c', fu', ai', ra', le', ri', mi', lo', fl')) (0, 0) := by
    refine hT.1 (fun pc => Nat.beq pc 30) 60 _ _ _ _ _ ?_
    refine And.intro ⟨by decide, by decide, by decide, by decide, by decide⟩ ?_
    rw [← va_cpyA 60 s'] at s2
    exact s2
  refine hT.1 (fun pc => Nat.beq pc 15) 60 _ _ _ _ _ ?_
  refine And.intro ⟨by decide, by decide, by decide, by decide, by decide⟩ ?_
  rw [← va_cpyA 36 h'] at s1
  exact s1
set_option maxRecDepth 10000 in
theorem ct_X4_copyFrom (l : Launch) : mjCT l yX4_copyFrom cX4_copyFrom 2 none rm_X4_copyFrom S_X4_copyFrom :=
  mjCT_of (own := RX4) (G := G_X4_copyFrom) (plainFor_of_name pn_X4) rfl ok_X4_copyFrom (fun meth hm => ⟨fun pc row h => (I_X4_copyFrom_ok pc row h).1, F_X4_ok, List.forall_mem_cons.mpr ⟨⟨ln_X4_59, cp_nat, cp_st, cp_ini, by decide, by decide⟩, fun _ h => absurd h List.not_mem_nil⟩, (fun _ _ _ h => by cases h), (fun _ _ h => by cases h), ⟨Nat.le_refl _, Nat.le_refl _⟩, (fun h => by cases h), (fun h => absurd h (by decide))⟩) rfl rfl rfl (fun pc row h => (I_X4_copyFrom_ok pc row h).2)
def rm_X4_holdFlame : Room := { frames := 1, cells := 0, slots := 0, locals := 21 }
noncomputable def G_X4_holdFlame : mjG := (I_X4_holdFlame, F_X4, [(103, 0, 3, 2, 0, 0, S_X4_heatAt), (87, 1, 0, 2, 0, 0, S_J9_max_7cf53), (113, 1, 0, 1, 0, 0, S_X1_isCell)], (fun pc => bif Nat.beq pc 2 then [0, 1, 2, 3, 4] else []), Y0, (fun _ => none), (fun _ => none), (some .int), 0, 0, false)
set_option maxHeartbeats 20000000 in
set_option maxRecDepth 100000 in
theorem ok_X4_holdFlame : mjOK G_X4_holdFlame 5 S_X4_holdFlame := by
  intro M as hP T hT
  obtain ⟨⟨h, g, s, c, fu, ai, ra, le, ri, mi, lo, fl⟩, k, x, rfl, rfl⟩ := inP2 hP
  refine hT.1 (fun _ => false) 60 _ _ _ _ _ ?_
  refine And.intro ⟨rfl, rfl⟩ (And.intro ⟨rfl, rfl⟩ (And.intro ⟨rfl, rfl⟩ (And.intro (fun (h1 : gIsCell k = 0) => ⟨?_, rfl⟩) (fun (h1 : ¬ gIsCell k = 0) => mjix_of (gIsCell_ne h1).1 (gIsCell_ne h1).2 rfl (by decide) ⟨?_, rfl⟩))))
  · show pw (h, g, s, c, fu, ai, ra, le, ri, mi, lo, fl + (gMax 0 (gAt 36 h k + x) - gAt 36 h k)) = pw (if gIsCell k = 0 then h else upd h k.toNatClampNeg (gMax 0 (gAt 36 h k + x)), g, s, c, fu, ai, ra, le, ri, mi, lo, fl + (gMax 0 (gAt 36 h k + x) - gAt 36 h k))
    rw [if_pos h1]
  · show pw (upd h k.toNatClampNeg (gMax 0 (gAt 36 h k + x)), g, s, c, fu, ai, ra, le, ri, mi, lo, fl + (gMax 0 (gAt 36 h k + x) - gAt 36 h k)) = pw (if gIsCell k = 0 then h else upd h k.toNatClampNeg (gMax 0 (gAt 36 h k + x)), g, s, c, fu, ai, ra, le, ri, mi, lo, fl + (gMax 0 (gAt 36 h k + x) - gAt 36 h k))
    rw [if_neg h1]
set_option maxRecDepth 10000 in
theorem ct_X4_holdFlame (l : Launch) : mjCT l yX4_holdFlame cX4_holdFlame 5 (some .int) rm_X4_holdFlame S_X4_holdFlame :=
  mjCT_of (own := RX4) (G := G_X4_holdFlame) (plainFor_of_name pn_X4) rfl ok_X4_holdFlame (fun meth hm => ⟨fun pc row h => (I_X4_holdFlame_ok pc row h).1, F_X4_ok, List.forall_mem_cons.mpr ⟨⟨yX4_heatAt, cX4_heatAt, 2, (some .int), rm_X4_heatAt, ct_X4_heatAt l, ⟨rfl, rfl⟩, ⟨by decide, by decide⟩, by decide, by decide, nk_X4_heatAt, ln_X4_103, im_X4_heatAt, se_X4_heatAt, rfl⟩, List.forall_mem_cons.mpr ⟨⟨yJ9_max_7cf53, cJ9_max_7cf53, 2, (some .int), rm_J9_max_7cf53, ct_J9_max_7cf53 l, ⟨rfl, rfl⟩, ⟨by decide, by decide⟩, by decide, nk_J9_max_7cf53, ln_X4_87, st_J9_max_7cf53⟩, List.forall_mem_cons.mpr ⟨⟨yX1_isCell, cX1_isCell, 1, (some .boolean), rm_X1_isCell, ct_X1_isCell l, ⟨rfl, rfl⟩, ⟨by decide, by decide⟩, by decide, nk_X1_isCell, ln_X4_113, st_X1_isCell⟩, fun _ h => absurd h List.not_mem_nil⟩⟩⟩, (fun _ _ _ h => by cases h), (fun _ _ h => by cases h), ⟨Nat.le_refl _, Nat.le_refl _⟩, (fun h => by cases h), (fun h => absurd h (by decide))⟩) rfl rfl rfl (fun pc row h => (I_X4_holdFlame_ok pc row h).2)
end
section
/-! the history; the forecast -/
theorem pwb0 (p : PSt) : pwb 0 p = pw p := rfl
/-- Forecast: cracks, first crack, greatest stress; and the pane behind it -/
abbrev FSt : Type := Int32 × Int32 × Int32
def fw (z : FSt) : mjM := [.inr (0, [.int z.1, .int z.2.1, .int z.2.2])]
def rFo (M : mjM) : FSt := (rF M 0 0, rF M 0 1, rF M 0 2)
/-- minute i (from 1 on) of the look -/
noncomputable def pLook (p : PSt) : Nat → PSt × FSt := nf (fun i a =>
  ((pMin a.1).1, if (pMin a.1).2 = 0 then (a.2.1, a.2.2.1, gMax a.2.2.2 (kseal (gStrMax (pH (pFlow a.1)) (pC (pFlow a.1))))) else (a.2.1 + 1, if a.2.2.1 = -4 then nI (i + 1) else a.2.2.1, gMax a.2.2.2 (kseal (gStrMax (pH (pFlow a.1)) (pC (pFlow a.1))))))) (p, 0, -4, 0)
noncomputable def S_X0_look : mjSp := fun M as => ((M = fw (rFo M) ++ pwb 1 (rPb 1 M) ∧ as = [.ref 0, .ref 1, .int (aI as 2)]) ∧ ¬ aI as 2 < 0 ∧ aI as 2 < 1000, some (fw (kseal (pLook (rPb 1 M) (aI as 2).toNatClampNeg)).2 ++ pwb 1 (kseal (pLook (rPb 1 M) (aI as 2).toNatClampNeg)).1), none)
theorem pLook_s (p : PSt) (i : Nat) : pLook p (i + 1) = ((pMin (pLook p i).1).1, if (pMin (pLook p i).1).2 = 0 then ((pLook p i).2.1, (pLook p i).2.2.1, gMax (pLook p i).2.2.2 (kseal (gStrMax (pH (pFlow (pLook p i).1)) (pC (pFlow (pLook p i).1))))) else ((pLook p i).2.1 + 1, if (pLook p i).2.2.1 = -4 then nI (i + 1) else (pLook p i).2.2.1, gMax (pLook p i).2.2.2 (kseal (gStrMax (pH (pFlow (pLook p i).1)) (pC (pFlow (pLook p i).1)))))) := rfl
def rm_X0_look : Room := { frames := 5, cells := 0, slots := 0, locals := 108 }
noncomputable def G_X0_look : mjG := (I_X0_look, F_X0, [(21, 0, 3, 1, 0, 0, S_X4_letHeatFlow), (26, 0, 3, 1, 0, 0, S_X4_greatestStress), (29, 1, 0, 2, 0, 0, S_J9_max_7cf53), (35, 0, 3, 1, 0, 0, S_X4_crackWorst)], (fun pc => bif Nat.beq pc 36 then [] else [1, 2, 3, 4, 5]), Y0, (fun _ => none), (fun _ => none), none, 0, 0, false)
set_option maxHeartbeats 20000000 in
set_option maxRecDepth 100000 in
theorem ok_X0_look : mjOK G_X0_look 4 S_X0_look := by
  intro M as hP T hT
  obtain ⟨hP, hn, hn2⟩ := hP
  obtain ⟨z0, p, n, rfl, rfl, hn, hn2⟩ : ∃ z p n, M = fw z ++ pwb 1 p ∧ as = [.ref 0, .ref 1, .int n] ∧ ¬ n < 0 ∧ n < 1000 := ⟨_, _, _, hP.1, hP.2, hn, hn2⟩
  obtain ⟨k, hk, rfl⟩ := nI_of hn
  have hk2 : k < 1000 := (nI_ltI hk (by decide)).mp hn2
  have fin : fw (pLook p k).2 ++ pwb 1 (pLook p k).1 = (S_X0_look (fw z0 ++ pwb 1 p) [.ref 0, .ref 1, .int (nI k)]).2.1.getD (fw z0 ++ pwb 1 p) := by
    show _ = fw (kseal (pLook p (nI k).toNatClampNeg)).2 ++ pwb 1 (kseal (pLook p (nI k).toNatClampNeg)).1
    rw [kseal_eq, nI_clamp hk]
  have fin2 : none = (S_X0_look (fw z0 ++ pwb 1 p) [.ref 0, .ref 1, .int (nI k)]).2.2 := rfl
  generalize S_X0_look (fw z0 ++ pwb 1 p) [.ref 0, .ref 1, .int (nI k)] = SS at hT fin fin2
  refine hT.1 (fun pc => Nat.beq pc 18) 60 _ _ _ _ _ ?_
  refine mjloop0 k (fun i => ∀ (q : PSt) (a b c : Int32), (q, a, b, c) = pLook p i → T 18 [some (.ref 0), some (.ref 1), some (.int (nI k)), some (.int (nI (i + 1)))] [] (fw (a, b, c) ++ pwb 1 q) (0, 0)) (fun i hi ih q a b c hq => ?_) (fun q a b c hq => ?_) p 0 (-4) 0 rfl
  · have hs := pLook_s p i
    rw [← hq] at hs
    dsimp only at hs
    rw [nI_succ (i + 1)] at ih
    have s3 : ∀ (z : PSt × Int32) (c' : Int32), z = pMin q → c' = gMax c (kseal (gStrMax (pH (pFlow q)) (pC (pFlow q)))) → T 46 [some (.ref 0), some (.ref 1), some (.int (nI k)), some (.int (nI (i + 1)))] [.int z.2] (fw (a, b, c') ++ pwb 1 z.1) (0, 0) := by
      intro z c' hz hc
      rw [← hz, ← hc] at hs
      refine hT.1 (fun pc => Nat.beq pc 18) 60 _ _ _ _ _ ?_
      refine And.intro (fun h1 => ih z.1 a b c' ?_) (fun h1 => And.intro (fun h2 => ih z.1 (a + 1) b c' ?_) (fun h2 => ih z.1 (a + 1) (nI (i + 1)) c' ?_))
      · rw [hs, if_pos h1]
      · rw [hs, if_neg h1, if_neg h2]
      · rw [hs, if_neg h1, if_pos h2]
    have s2 : ∀ q' c', q' = pFlow q → c' = gMax c (kseal (gStrMax (pH (pFlow q)) (pC (pFlow q)))) → T 42 [some (.ref 0), some (.ref 1), some (.int (nI k)), some (.int (nI (i + 1)))] [] (fw (a, b, c') ++ pwb 1 q') (0, 0) := by
      intro q' c' hq' hc
      refine hT.1 (fun pc => Nat.beq pc 46) 60 _ _ _ _ _ ?_
      exact And.intro ⟨rfl, rfl⟩ (s3 (kseal (pCrack q')) c' (by rw [hq']; rfl) hc)
    have s1 : ∀ q', q' = pFlow q → T 27 [some (.ref 0), some (.ref 1), some (.int (nI k)), some (.int (nI (i + 1)))] [] (fw (a, b, c) ++ pwb 1 q') (0, 0) := by
      intro q' hq'
      refine hT.1 (fun pc => Nat.beq pc 42) 60 _ _ _ _ _ ?_
      exact And.intro ⟨rfl, rfl⟩ (And.intro ⟨rfl, rfl⟩ (s2 q' (gMax c (kseal (gStrMax (pH q') (pC q')))) hq' (by rw [hq'])))
    refine hT.1 (fun pc => Nat.beq pc 27) 60 _ _ _ _ _ ?_
    exact And.intro (fun h => absurd h (nI_nlt (by omega) (by omega))) (fun _ => And.intro ⟨rfl, rfl⟩ (s1 _ rfl))
  · refine hT.1 (fun pc => Nat.beq pc 18) 60 _ _ _ _ _ ?_
    refine And.intro (fun _ => ?_) (fun h => absurd (nI_lt (by omega : k < k + 1) (by omega)) h)
    rw [← hq] at fin
    exact ⟨fin, fin2⟩
set_option maxRecDepth 10000 in
theorem ct_X0_look (l : Launch) : mjCT l yX0_look cX0_look 4 none rm_X0_look S_X0_look :=
  mjCT_of (own := RX0) (G := G_X0_look) (plainFor_of_name pn_X0) rfl ok_X0_look (fun meth hm => ⟨fun pc row h => (I_X0_look_ok pc row h).1, F_X0_ok, List.forall_mem_cons.mpr ⟨⟨yX4_letHeatFlow, cX4_letHeatFlow, 2, none, rm_X4_letHeatFlow, ct_X4_letHeatFlow l, ⟨rfl, rfl⟩, ⟨by decide, by decide⟩, by decide, by decide, nk_X4_letHeatFlow, ln_X0_21, im_X4_letHeatFlow, se_X4_letHeatFlow, rfl⟩, List.forall_mem_cons.mpr ⟨⟨yX4_greatestStress, cX4_greatestStress, 3, (some .int), rm_X4_greatestStress, ct_X4_greatestStress l, ⟨rfl, rfl⟩, ⟨by decide, by decide⟩, by decide, by decide, nk_X4_greatestStress, ln_X0_26, im_X4_greatestStress, se_X4_greatestStress, rfl⟩, List.forall_mem_cons.mpr ⟨⟨yJ9_max_7cf53, cJ9_max_7cf53, 2, (some .int), rm_J9_max_7cf53, ct_J9_max_7cf53 l, ⟨rfl, rfl⟩, ⟨by decide, by decide⟩, by decide, nk_J9_max_7cf53, ln_X0_29, st_J9_max_7cf53⟩, List.forall_mem_cons.mpr ⟨⟨yX4_crackWorst, cX4_crackWorst, 2, (some .boolean), rm_X4_crackWorst, ct_X4_crackWorst l, ⟨rfl, rfl⟩, ⟨by decide, by decide⟩, by decide, by decide, nk_X4_crackWorst, ln_X0_35, im_X4_crackWorst, se_X4_crackWorst, rfl⟩, fun _ h => absurd h List.not_mem_nil⟩⟩⟩⟩, (fun _ _ _ h => by cases h), (fun _ _ h => by cases h), ⟨Nat.le_refl _, Nat.le_refl _⟩, (fun h => by cases h), (fun h => absurd h (by decide))⟩) rfl rfl rfl (fun pc row h => (I_X0_look_ok pc row h).2)
/-- the history: how many states, where the states lie (places 2, 7, 12, 17), the four panes -/
abbrev HSt : Type := Int32 × (Nat → Option Nat) × PSt × PSt × PSt × PSt
def hw (z : HSt) : mjM := match z with
  | (n, f, p0, p1, p2, p3) => [.inr (1, [.ref 1, .int n]), .inl (2, (4, .inr (.inr (.inr (.inr f)))))] ++ pwb 2 p0 ++ pwb 7 p1 ++ pwb 12 p2 ++ pwb 17 p3
def rQ (M : mjM) (i : Nat) : Nat → Option Nat := match M[i]? with
  | some (.inl (_, (_, .inr (.inr (.inr (.inr f)))))) => f
  | _ => fun _ => none
def rH (M : mjM) : HSt := (rF M 0 1, rQ M 1, rPb 2 M, rPb 7 M, rPb 12 M, rPb 17 M)
def hOk (f : Nat → Option Nat) : Prop := (∀ k : Nat, k < 4 → f k = some 2 ∨ f k = some 7 ∨ f k = some 12 ∨ f k = some 17) ∧ ∀ k : Nat, 4 ≤ k → f k = none
theorem mjcut_id {g : Nat → Nat} {f : Nat → Option Nat} (hf : hOk f) (h2 : g 2 = 2) (h7 : g 7 = 7) (h12 : g 12 = 12) (h17 : g 17 = 17) : mjcut g 4 f = f := by
  funext k
  unfold mjcut
  by_cases hk : k < 4
  · rw [if_pos hk]
    rcases hf.1 k hk with h | h | h | h <;> (rw [h]; simp [h2, h7, h12, h17])
  · rw [if_neg hk, hf.2 k (by omega)]
theorem mjto {T : Nat → mjL → List Value → mjM → Nat × Nat → Prop} {pc : Nat} {L : mjL} {S : List Value} {M M' : mjM} {u : Nat × Nat} (h : T pc L S M u) (e : M' = M) : T pc L S M' u := e ▸ h
def i22 : List Nat := [0, 1, 2, 3, 4, 5, 6, 7, 8, 9, 10, 11, 12, 13, 14, 15, 16, 17, 18, 19, 20, 21]
def hRot (f : Nat → Option Nat) : Nat → Option Nat := fun k => if k = 3 then f 0 else if k < 3 then f (k + 1) else f k
def hDrop (z : HSt) : HSt := match z with
  | (_, f, r) => (3, hRot f, r)
def hPut (t : Nat) (q : PSt) (z : HSt) : HSt := match z with
  | (n, f, p0, p1, p2, p3) => (n + 1, f, if t = 2 then pCopy p0 q else p0, if t = 7 then pCopy p1 q else p1, if t = 12 then pCopy p2 q else p2, if t = 17 then pCopy p3 q else p3)
def hTop (z : HSt) : Nat := (z.2.1 z.1.toNatClampNeg).getD 0
/-- a state is added -/
def hRec (q : PSt) (z : HSt) : HSt := if z.1 < 4 then hPut (hTop z) q z else hPut (hTop (hDrop z)) q (hDrop z)
def hGet (t : Nat) (z : HSt) : PSt := if t = 2 then z.2.2.1 else if t = 7 then z.2.2.2.1 else if t = 12 then z.2.2.2.2.1 else z.2.2.2.2.2
def S_X2_stateAt : mjSp := fun M as => ((M = hw (rH M) ∧ as = [.ref 0, .int (aI as 1)]) ∧ hOk (rQ M 1), none, some (if aI as 1 < 0 then .null else if 4 ≤ aI as 1 then .null else .ref ((rQ M 1 (aI as 1).toNatClampNeg).getD 0)))
def S_X2_dropOldest : mjSp := fun M as => ((M = hw (rH M) ∧ as = [.ref 0]) ∧ hOk (rQ M 1), some (hw (hDrop (rH M))), none)
noncomputable def S_X2_record : mjSp := fun M as => ((M = hw (rH M) ++ pwb 22 (rPb 22 M) ∧ as = [.ref 0, .ref 22]) ∧ hOk (rQ M 1) ∧ ¬ rF M 0 1 < 0 ∧ rF M 0 1 ≤ 4, some (hw (kseal (hRec (rPb 22 M) (rH M))) ++ pwb 22 (rPb 22 M)), none)
def hTake (z : HSt) (q : PSt) : HSt × PSt := if z.1 = 0 then (z, q) else ((z.1 - 1, z.2), pCopy q (hGet ((z.2.1 (z.1 - 1).toNatClampNeg).getD 0) z))
noncomputable def S_X2_takeBack : mjSp := fun M as => ((M = hw (rH M) ++ pwb 22 (rPb 22 M) ∧ as = [.ref 0, .ref 22]) ∧ hOk (rQ M 1) ∧ ¬ rF M 0 1 < 0 ∧ rF M 0 1 ≤ 4,
  some (hw (kseal (hTake (rH M) (rPb 22 M))).1 ++ pwb 22 (kseal (hTake (rH M) (rPb 22 M))).2), some (.int (if rF M 0 1 = 0 then 0 else 1)))
theorem hw_f {n : Int32} {f f' : Nat → Option Nat} {r} (h : f = f') : hw (n, f, r) = hw (n, f', r) := by rw [h]
theorem mji3 {x : Int32} (h0 : ¬ x < 0) (h : ¬ 4 ≤ x) : ∃ j : Nat, x = nI j ∧ j < 4 := by
  obtain ⟨j, hj, rfl⟩ := nI_of h0
  refine ⟨j, rfl, ?_⟩
  rcases Nat.lt_or_ge j 4 with q | q
  · exact q
  · exact absurd (nI_le q hj) h
def rm_X2_stateAt : Room := { frames := 0, cells := 0, slots := 0, locals := 0 }
noncomputable def G_X2_stateAt : mjG := (I_X2_stateAt, F_X2, [], (fun pc => []), Y0, (fun _ => none), (fun _ => none), (some (.object "ColdPanes$Pane")), 0, 0, false)
set_option maxHeartbeats 20000000 in
set_option maxRecDepth 100000 in
theorem ok_X2_stateAt : mjOK G_X2_stateAt 2 S_X2_stateAt := by
  intro M as hP T hT
  obtain ⟨hP, hf⟩ := hP
  obtain ⟨⟨n, f, p0, p1, p2, p3⟩, x, rfl, rfl, hf⟩ : ∃ z x, M = hw z ∧ as = [.ref 0, .int x] ∧ hOk z.2.1 := ⟨_, _, hP.1, hP.2, hf⟩
  have hv : (S_X2_stateAt (hw (n, f, p0, p1, p2, p3)) [.ref 0, .int x]).2.2 = some (if x < 0 then .null else if 4 ≤ x then .null else .ref ((f x.toNatClampNeg).getD 0)) := rfl
  have hm : (S_X2_stateAt (hw (n, f, p0, p1, p2, p3)) [.ref 0, .int x]).2.1 = none := rfl
  generalize S_X2_stateAt (hw (n, f, p0, p1, p2, p3)) [.ref 0, .int x] = SS at hT hv hm
  refine hT.1 (fun _ => false) 60 _ _ _ _ _ ?_
  refine And.intro (fun h1 => ⟨by rw [hm]; rfl, by rw [hv, if_pos h1]⟩) (fun h1 => And.intro (fun h2 => ⟨by rw [hm]; rfl, by rw [hv, if_neg h1, if_pos h2]⟩) (fun h2 => ?_))
  obtain ⟨j, rfl, hj⟩ := mji3 h1 h2
  have hr : ∃ r, f j = some r := by rcases hf.1 j hj with h | h | h | h <;> exact ⟨_, h⟩
  obtain ⟨r, hr⟩ := hr
  refine mjix_n hj (by decide) ⟨r, hr, ⟨by rw [hm]; rfl, ?_⟩⟩
  rw [hv, if_neg h1, if_neg h2, nI_clamp (by omega), hr]
  rfl
set_option maxRecDepth 10000 in
theorem ct_X2_stateAt (l : Launch) : mjCT l yX2_stateAt cX2_stateAt 2 (some (.object "ColdPanes$Pane")) rm_X2_stateAt S_X2_stateAt :=
  mjCT_of (own := RX2) (G := G_X2_stateAt) (plainFor_of_name pn_X2) rfl ok_X2_stateAt (fun meth hm => ⟨fun pc row h => (I_X2_stateAt_ok pc row h).1, F_X2_ok, fun _ h => absurd h List.not_mem_nil, (fun _ _ _ h => by cases h), (fun _ _ h => by cases h), ⟨Nat.le_refl _, Nat.le_refl _⟩, (fun h => by cases h), (fun h => absurd h (by decide))⟩) rfl rfl rfl (fun pc row h => (I_X2_stateAt_ok pc row h).2)
def rm_X2_dropOldest : Room := { frames := 0, cells := 0, slots := 0, locals := 0 }
noncomputable def G_X2_dropOldest : mjG := (I_X2_dropOldest, F_X2, [], (fun pc => []), Y0, (fun _ => none), (fun _ => none), none, 0, 0, false)
set_option maxHeartbeats 20000000 in
set_option maxRecDepth 100000 in
theorem ok_X2_dropOldest : mjOK G_X2_dropOldest 3 S_X2_dropOldest := by
  intro M as hP T hT
  obtain ⟨hP, hf⟩ := hP
  obtain ⟨⟨n, f, p0, p1, p2, p3⟩, rfl, rfl, hf⟩ : ∃ z, M = hw z ∧ as = [.ref 0] ∧ hOk z.2.1 := ⟨_, hP.1, hP.2, hf⟩
  have cellAt : ∀ r, (r = 2 ∨ r = 7 ∨ r = 12 ∨ r = 17) → ∀ n (f : Nat → Option Nat), ∃ fs, (hw (n, f, p0, p1, p2, p3))[r]? = some (.inr (3, fs)) := by
    intro r hr n f
    rcases hr with rfl | rfl | rfl | rfl <;> exact ⟨_, rfl⟩
  have some4 : ∀ k : Nat, k < 4 → ∃ r, f k = some r ∧ (r = 2 ∨ r = 7 ∨ r = 12 ∨ r = 17) := by
    intro k hk
    rcases hf.1 k hk with h | h | h | h
    · exact ⟨_, h, Or.inl rfl⟩
    · exact ⟨_, h, Or.inr (Or.inl rfl)⟩
    · exact ⟨_, h, Or.inr (Or.inr (Or.inl rfl))⟩
    · exact ⟨_, h, Or.inr (Or.inr (Or.inr rfl))⟩
  have mjO3 : ∀ {r : Nat} {n : Int32} {f : Nat → Option Nat} {F : List Value → Prop}, (r = 2 ∨ r = 7 ∨ r = 12 ∨ r = 17) → (∀ fs, F fs) → mjO 3 (hw (n, f, p0, p1, p2, p3))[r]? F := by
    intro r n f F hr hF
    obtain ⟨fs, h⟩ := cellAt r hr n f
    rw [h]
    exact hF fs
  obtain ⟨r0, h0, g0⟩ := some4 0 (by decide)
  obtain ⟨r1, h1, g1⟩ := some4 1 (by decide)
  obtain ⟨r2, h2, g2⟩ := some4 2 (by decide)
  obtain ⟨r3, h3, g3⟩ := some4 3 (by decide)
  have fin : (S_X2_dropOldest (hw (n, f, p0, p1, p2, p3)) [.ref 0]).2.1 = some (hw (3, hRot f, p0, p1, p2, p3)) := rfl
  have fin2 : (S_X2_dropOldest (hw (n, f, p0, p1, p2, p3)) [.ref 0]).2.2 = none := rfl
  generalize S_X2_dropOldest (hw (n, f, p0, p1, p2, p3)) [.ref 0] = SS at hT fin fin2
  have s4 : T 34 [some (.ref 0), some (.ref r0), some (.int (nI 4))] [] (hw (n, va_up (va_up (va_up f 0 (some r1)) 1 (some r2)) 2 (some r3), p0, p1, p2, p3)) (0, 0) := by
    refine hT.1 (fun _ => false) 60 _ _ _ _ _ ?_
    refine mjO3 g0 (fun _ => mjix_e 3 rfl (by decide) (by decide) ⟨?_, fin2.symm⟩)
    rw [fin]
    show hw (3, va_up (va_up (va_up (va_up f 0 (some r1)) 1 (some r2)) 2 (some r3)) 3 (some r0), p0, p1, p2, p3) = hw (3, hRot f, p0, p1, p2, p3)
    refine hw_f ?_
    funext k
    unfold va_up hRot
    by_cases k3 : k = 3
    · rw [if_pos k3, if_pos k3, h0]
    · rw [if_neg k3, if_neg k3]
      by_cases k2 : k = 2
      · rw [if_pos k2, if_pos (by omega), k2, h3]
      · rw [if_neg k2]
        by_cases k1 : k = 1
        · rw [if_pos k1, if_pos (by omega), k1, h2]
        · rw [if_neg k1]
          by_cases k0 : k = 0
          · rw [if_pos k0, if_pos (by omega), k0, h1]
          · rw [if_neg k0, if_neg (by omega)]
  have s3 : T 9 [some (.ref 0), some (.ref r0), some (.int (nI 3))] [] (hw (n, va_up (va_up f 0 (some r1)) 1 (some r2), p0, p1, p2, p3)) (0, 0) := by
    refine hT.1 (fun pc => Nat.beq pc 9 || Nat.beq pc 34) 60 _ _ _ _ _ ?_
    refine And.intro (fun h => absurd h (by decide)) (fun _ => mjix_e 3 rfl (by decide) (by decide) ⟨r3, h3, mjO3 g3 (fun _ => mjix_e 2 (by decide) (by decide) (by decide) ?_)⟩)
    refine hT.1 (fun pc => Nat.beq pc 34) 60 _ _ _ _ _ ?_
    exact And.intro (fun _ => s4) (fun h => absurd (by decide) h)
  have s2 : T 9 [some (.ref 0), some (.ref r0), some (.int (nI 2))] [] (hw (n, va_up f 0 (some r1), p0, p1, p2, p3)) (0, 0) := by
    refine hT.1 (fun pc => Nat.beq pc 9) 60 _ _ _ _ _ ?_
    exact And.intro (fun h => absurd h (by decide)) (fun _ => mjix_e 2 rfl (by decide) (by decide) ⟨r2, h2, mjO3 g2 (fun _ => mjix_e 1 (by decide) (by decide) (by decide) s3)⟩)
  have s1 : T 9 [some (.ref 0), some (.ref r0), some (.int (nI 1))] [] (hw (n, f, p0, p1, p2, p3)) (0, 0) := by
    refine hT.1 (fun pc => Nat.beq pc 9) 60 _ _ _ _ _ ?_
    exact And.intro (fun h => absurd h (by decide)) (fun _ => mjix_e 1 rfl (by decide) (by decide) ⟨r1, h1, mjO3 g1 (fun _ => mjix_e 0 (by decide) (by decide) (by decide) s2)⟩)
  refine hT.1 (fun pc => Nat.beq pc 9) 60 _ _ _ _ _ ?_
  exact mjix_e 0 rfl (by decide) (by decide) ⟨r0, h0, s1⟩
set_option maxRecDepth 10000 in
theorem ct_X2_dropOldest (l : Launch) : mjCT l yX2_dropOldest cX2_dropOldest 3 none rm_X2_dropOldest S_X2_dropOldest :=
  mjCT_of (own := RX2) (G := G_X2_dropOldest) (plainFor_of_name pn_X2) rfl ok_X2_dropOldest (fun meth hm => ⟨fun pc row h => (I_X2_dropOldest_ok pc row h).1, F_X2_ok, fun _ h => absurd h List.not_mem_nil, (fun _ _ _ h => by cases h), (fun _ _ h => by cases h), ⟨Nat.le_refl _, Nat.le_refl _⟩, (fun h => by cases h), (fun h => absurd h (by decide))⟩) rfl rfl rfl (fun pc row h => (I_X2_dropOldest_ok pc row h).2)
end
section
/-! the history: record, take back -/
theorem hOk_some {f : Nat → Option Nat} (hf : hOk f) {k : Nat} (hk : k < 4) : ∃ r, f k = some r ∧ (r = 2 ∨ r = 7 ∨ r = 12 ∨ r = 17) := by
  rcases hf.1 k hk with h | h | h | h
  · exact ⟨_, h, Or.inl rfl⟩
  · exact ⟨_, h, Or.inr (Or.inl rfl)⟩
  · exact ⟨_, h, Or.inr (Or.inr (Or.inl rfl))⟩
  · exact ⟨_, h, Or.inr (Or.inr (Or.inr rfl))⟩
theorem hOk_rot {f : Nat → Option Nat} (hf : hOk f) : hOk (hRot f) := by
  refine ⟨fun k hk => ?_, fun k hk => ?_⟩
  · unfold hRot
    by_cases k3 : k = 3
    · rw [if_pos k3]; exact hf.1 0 (by decide)
    · rw [if_neg k3, if_pos (by omega)]; exact hf.1 (k + 1) (by omega)
  · unfold hRot
    rw [if_neg (by omega), if_neg (by omega)]
    exact hf.2 k hk
theorem cut_ri {f : Nat → Option Nat} (hf : hOk f) : mjcut (mjri i22) 4 f = f := mjcut_id hf (by decide) (by decide) (by decide) (by decide)
theorem cut_ui {f : Nat → Option Nat} (hf : hOk f) : mjcut (mjui i22 27) 4 f = f := mjcut_id hf (by decide) (by decide) (by decide) (by decide)
def rm_X2_record : Room := { frames := 2, cells := 0, slots := 0, locals := 64 }
noncomputable def G_X2_record : mjG := (I_X2_record, F_X2, [(22, 0, 1, 1, 0, 0, S_X2_dropOldest), (25, 0, 1, 2, 0, 0, S_X2_stateAt), (29, 0, 3, 2, 0, 0, S_X4_copyFrom)], (fun pc => bif Nat.beq pc 27 then [2, 3, 4, 5, 6, 22, 23, 24, 25, 26] else [0, 1, 2, 3, 4, 5, 6, 7, 8, 9, 10, 11, 12, 13, 14, 15, 16, 17, 18, 19, 20, 21]), Y0, (fun _ => none), (fun _ => none), none, 0, 0, false)
set_option maxHeartbeats 20000000 in
set_option maxRecDepth 100000 in
theorem ok_X2_record : mjOKh G_X2_record 3 S_X2_record := by
  intro M as hP T hT
  obtain ⟨hP, hf, hn0, hn4⟩ := hP
  obtain ⟨⟨n, f, p0, p1, p2, p3⟩, q, rfl, rfl, hf, hn0, hn4⟩ : ∃ z q, M = hw z ++ pwb 22 q ∧ as = [.ref 0, .ref 22] ∧ hOk z.2.1 ∧ ¬ z.1 < 0 ∧ z.1 ≤ 4 := ⟨_, _, hP.1, hP.2, hf, hn0, hn4⟩
  have fin : (S_X2_record (hw (n, f, p0, p1, p2, p3) ++ pwb 22 q) [.ref 0, .ref 22]).2.1 = some (hw (kseal (hRec q (n, f, p0, p1, p2, p3))) ++ pwb 22 q) := rfl
  have fin2 : (S_X2_record (hw (n, f, p0, p1, p2, p3) ++ pwb 22 q) [.ref 0, .ref 22]).2.2 = none := rfl
  rw [kseal_eq] at fin
  generalize S_X2_record (hw (n, f, p0, p1, p2, p3) ++ pwb 22 q) [.ref 0, .ref 22] = SS at hT fin fin2
  -- from the place where the oldest state is dropped, if it had to be
  have s1 : ∀ (m : Nat) (f : Nat → Option Nat), m < 4 → hOk f → hw (hRec q (n, f, p0, p1, p2, p3)) = hw (hRec q (n, f, p0, p1, p2, p3)) → SS.2.1 = some (hw (hPut ((f m).getD 0) q (nI m, f, p0, p1, p2, p3)) ++ pwb 22 q) → T 12 [some (.ref 0), some (.ref 22), none] [] (hw (nI m, f, p0, p1, p2, p3) ++ pwb 22 q) (0, 0) := by
    intro m f hm hf _ fin
    obtain ⟨r, hr, g⟩ := hOk_some hf hm
    have s2 : ∀ v, v = mjv (mjui i22 27) (if nI m < 0 then Value.null else if 4 ≤ nI m then .null else .ref ((mjcut (mjri i22) 4 f (nI m).toNatClampNeg).getD 0)) → T 20 [some (.ref 0), some (.ref 22), none] [v] (hw (nI m, f, p0, p1, p2, p3) ++ pwb 22 q) (0, 0) := by
      intro v hv
      rw [cut_ri hf, if_neg (nI_pos (by omega)), if_neg (show ¬ (4 : Int32) ≤ nI m from nI_ge (by omega : m < 4) (by decide)), nI_clamp (by omega), hr] at hv
      have hv : v = .ref r := by
        rw [hv]
        rcases g with rfl | rfl | rfl | rfl <;> rfl
      subst hv
      rw [hr] at fin
      have s3 : T 25 [some (.ref 0), some (.ref 22), some (.ref r)] [] (hw (nI m, f, p0, p1, p2, p3) ++ pwb 22 q) (0, 0) := by
        rcases g with rfl | rfl | rfl | rfl
        · refine (hT (fun _ => [2, 3, 4, 5, 6, 22, 23, 24, 25, 26])).1 (fun _ => false) 60 _ _ _ _ _ ?_
          refine And.intro ⟨rfl, rfl⟩ ⟨?_, fin2.symm⟩
          rw [fin]
          rfl
        · refine (hT (fun _ => [7, 8, 9, 10, 11, 22, 23, 24, 25, 26])).1 (fun _ => false) 60 _ _ _ _ _ ?_
          refine And.intro ⟨rfl, rfl⟩ ⟨?_, fin2.symm⟩
          rw [fin]
          rfl
        · refine (hT (fun _ => [12, 13, 14, 15, 16, 22, 23, 24, 25, 26])).1 (fun _ => false) 60 _ _ _ _ _ ?_
          refine And.intro ⟨rfl, rfl⟩ ⟨?_, fin2.symm⟩
          rw [fin]
          rfl
        · refine (hT (fun _ => [17, 18, 19, 20, 21, 22, 23, 24, 25, 26])).1 (fun _ => false) 60 _ _ _ _ _ ?_
          refine And.intro ⟨rfl, rfl⟩ ⟨?_, fin2.symm⟩
          rw [fin]
          rfl
      exact (hT G_X2_record.2.2.2.1).1 (fun pc => Nat.beq pc 25) 60 _ _ _ _ _ s3
    refine (hT G_X2_record.2.2.2.1).1 (fun pc => Nat.beq pc 20) 60 _ _ _ _ _ ?_
    refine And.intro ⟨⟨rfl, rfl⟩, ?_⟩ (s2 _ rfl)
    show hOk (mjcut (mjri i22) 4 f)
    rw [cut_ri hf]
    exact hf
  obtain ⟨m, hm31, rfl⟩ := nI_of hn0
  have hm4 : m ≤ 4 := (nI_leI hm31 (by decide)).mp hn4
  refine (hT G_X2_record.2.2.2.1).1 (fun pc => Nat.beq pc 12) 60 _ _ _ _ _ ?_
  refine And.intro (fun (h1 : nI m < 4) => ?_) (fun (h1 : ¬ nI m < 4) => And.intro ⟨⟨rfl, rfl⟩, ?_⟩ ?_)
  · have hm : m < 4 := (nI_ltI hm31 (by decide)).mp h1
    refine s1 m f hm hf rfl ?_
    rw [fin, hRec, if_pos h1]
    show some (hw (hPut ((f (nI m).toNatClampNeg).getD 0) q (nI m, f, p0, p1, p2, p3)) ++ pwb 22 q) = _
    rw [nI_clamp hm31]
  · show hOk (mjcut (mjri i22) 4 f)
    rw [cut_ri hf]
    exact hf
  · have s5 := s1 3 (hRot f) (by decide) (hOk_rot hf) rfl (by
      rw [fin, hRec, if_neg h1]
      rfl)
    have e5 : mjcut (mjui i22 27) 4 (hRot (mjcut (mjri i22) 4 f)) = hRot f := by
      rw [cut_ri hf, cut_ui (hOk_rot hf)]
    rw [← e5] at s5
    exact s5
set_option maxRecDepth 10000 in
theorem ct_X2_record (l : Launch) : mjCT l yX2_record cX2_record 3 none rm_X2_record S_X2_record :=
  mjCT_ofh (own := RX2) (G := G_X2_record) (plainFor_of_name pn_X2) rfl ok_X2_record (fun meth hm => ⟨fun pc row h => (I_X2_record_ok pc row h).1, F_X2_ok, List.forall_mem_cons.mpr ⟨⟨yX2_dropOldest, cX2_dropOldest, 3, none, rm_X2_dropOldest, ct_X2_dropOldest l, ⟨rfl, rfl⟩, ⟨by decide, by decide⟩, by decide, by decide, nk_X2_dropOldest, ln_X2_22, im_X2_dropOldest, se_X2_dropOldest, rfl⟩, List.forall_mem_cons.mpr ⟨⟨yX2_stateAt, cX2_stateAt, 2, (some (.object "ColdPanes$Pane")), rm_X2_stateAt, ct_X2_stateAt l, ⟨rfl, rfl⟩, ⟨by decide, by decide⟩, by decide, by decide, nk_X2_stateAt, ln_X2_25, im_X2_stateAt, se_X2_stateAt, rfl⟩, List.forall_mem_cons.mpr ⟨⟨yX4_copyFrom, cX4_copyFrom, 2, none, rm_X4_copyFrom, ct_X4_copyFrom l, ⟨rfl, rfl⟩, ⟨by decide, by decide⟩, by decide, by decide, nk_X4_copyFrom, ln_X2_29, im_X4_copyFrom, se_X4_copyFrom, rfl⟩, fun _ h => absurd h List.not_mem_nil⟩⟩⟩, (fun _ _ _ h => by cases h), (fun _ _ h => by cases h), ⟨Nat.le_refl _, Nat.le_refl _⟩, (fun h => by cases h), (fun h => absurd h (by decide))⟩) rfl rfl rfl (fun pc row h => (I_X2_record_ok pc row h).2)
def rm_X2_takeBack : Room := { frames := 2, cells := 0, slots := 0, locals := 64 }
noncomputable def G_X2_takeBack : mjG := (I_X2_takeBack, F_X2, [(25, 0, 1, 2, 0, 0, S_X2_stateAt), (29, 0, 3, 2, 0, 0, S_X4_copyFrom)], (fun pc => bif Nat.beq pc 19 then [22, 23, 24, 25, 26, 2, 3, 4, 5, 6] else [0, 1, 2, 3, 4, 5, 6, 7, 8, 9, 10, 11, 12, 13, 14, 15, 16, 17, 18, 19, 20, 21]), Y0, (fun _ => none), (fun _ => none), (some .boolean), 0, 0, false)
set_option maxHeartbeats 20000000 in
set_option maxRecDepth 100000 in
theorem ok_X2_takeBack : mjOKh G_X2_takeBack 3 S_X2_takeBack := by
  intro M as hP T hT
  obtain ⟨hP, hf, hn0, hn4⟩ := hP
  obtain ⟨⟨n, f, p0, p1, p2, p3⟩, q, rfl, rfl, hf, hn0, hn4⟩ : ∃ z q, M = hw z ++ pwb 22 q ∧ as = [.ref 0, .ref 22] ∧ hOk z.2.1 ∧ ¬ z.1 < 0 ∧ z.1 ≤ 4 := ⟨_, _, hP.1, hP.2, hf, hn0, hn4⟩
  have fin : (S_X2_takeBack (hw (n, f, p0, p1, p2, p3) ++ pwb 22 q) [.ref 0, .ref 22]).2.1 = some (hw (kseal (hTake (n, f, p0, p1, p2, p3) q)).1 ++ pwb 22 (kseal (hTake (n, f, p0, p1, p2, p3) q)).2) := rfl
  have fin2 : (S_X2_takeBack (hw (n, f, p0, p1, p2, p3) ++ pwb 22 q) [.ref 0, .ref 22]).2.2 = some (.int (if n = 0 then 0 else 1)) := rfl
  rw [kseal_eq] at fin
  generalize S_X2_takeBack (hw (n, f, p0, p1, p2, p3) ++ pwb 22 q) [.ref 0, .ref 22] = SS at hT fin fin2
  obtain ⟨m, hm31, rfl⟩ := nI_of hn0
  have hm4 : m ≤ 4 := (nI_leI hm31 (by decide)).mp hn4
  have s2 : ∀ v, v = mjv (mjui i22 27) (if nI m - 1 < 0 then Value.null else if 4 ≤ nI m - 1 then .null else .ref ((mjcut (mjri i22) 4 f (nI m - 1).toNatClampNeg).getD 0)) → T 10 [some (.ref 0), some (.ref 22), none] [v] (hw (nI m, f, p0, p1, p2, p3) ++ pwb 22 q) (0, 0) := by
    intro v hv
    cases m with
    | zero =>
      have hv : v = .null := by
        rw [hv, if_pos (show nI 0 - 1 < 0 by decide)]
        rfl
      subst hv
      refine (hT G_X2_takeBack.2.2.2.1).1 (fun _ => false) 60 _ _ _ _ _ ?_
      refine ⟨rfl, ?_, ?_⟩
      · rw [fin, hTake, if_pos (show nI 0 = 0 from rfl)]
        rfl
      · rw [fin2, if_pos (show nI 0 = 0 from rfl)]
    | succ m =>
      have hz : ¬ nI (m + 1) = 0 := nI_ne0 (by omega) hm31
      obtain ⟨r, hr, g⟩ := hOk_some hf (by omega : m < 4)
      rw [cut_ri hf, nI_pred, if_neg (nI_pos (by omega)), if_neg (show ¬ (4 : Int32) ≤ nI m from nI_ge (by omega : m < 4) (by decide)), nI_clamp (by omega), hr] at hv
      have hv : v = .ref r := by
        rw [hv]
        rcases g with rfl | rfl | rfl | rfl <;> rfl
      subst hv
      rw [hTake, if_neg hz] at fin
      have fin : SS.2.1 = some (hw (nI (m + 1) - 1, f, p0, p1, p2, p3) ++ pwb 22 (pCopy q (hGet r (nI (m + 1), f, p0, p1, p2, p3)))) := by
        rw [fin]
        show some (hw (nI (m + 1) - 1, f, p0, p1, p2, p3) ++ pwb 22 (pCopy q (hGet ((f (nI (m + 1) - 1).toNatClampNeg).getD 0) (nI (m + 1), f, p0, p1, p2, p3)))) = _
        have hr2 : f m = some r := hr
        rw [nI_pred, nI_clamp (by omega), hr2]
        rfl
      rw [if_neg hz] at fin2
      have s3 : T 17 [some (.ref 0), some (.ref 22), some (.ref r)] [] (hw (nI (m + 1), f, p0, p1, p2, p3) ++ pwb 22 q) (0, 0) := by
        rcases g with rfl | rfl | rfl | rfl
        · refine (hT (fun _ => [22, 23, 24, 25, 26, 2, 3, 4, 5, 6])).1 (fun _ => false) 60 _ _ _ _ _ ?_
          refine And.intro ⟨rfl, rfl⟩ ⟨rfl, ?_, fin2.symm⟩
          rw [fin]
          rfl
        · refine (hT (fun _ => [22, 23, 24, 25, 26, 7, 8, 9, 10, 11])).1 (fun _ => false) 60 _ _ _ _ _ ?_
          refine And.intro ⟨rfl, rfl⟩ ⟨rfl, ?_, fin2.symm⟩
          rw [fin]
          rfl
        · refine (hT (fun _ => [22, 23, 24, 25, 26, 12, 13, 14, 15, 16])).1 (fun _ => false) 60 _ _ _ _ _ ?_
          refine And.intro ⟨rfl, rfl⟩ ⟨rfl, ?_, fin2.symm⟩
          rw [fin]
          rfl
        · refine (hT (fun _ => [22, 23, 24, 25, 26, 17, 18, 19, 20, 21])).1 (fun _ => false) 60 _ _ _ _ _ ?_
          refine And.intro ⟨rfl, rfl⟩ ⟨rfl, ?_, fin2.symm⟩
          rw [fin]
          rfl
      exact (hT G_X2_takeBack.2.2.2.1).1 (fun pc => Nat.beq pc 17) 60 _ _ _ _ _ s3
  refine (hT G_X2_takeBack.2.2.2.1).1 (fun pc => Nat.beq pc 10) 60 _ _ _ _ _ ?_
  refine And.intro ⟨⟨rfl, rfl⟩, ?_⟩ (s2 _ rfl)
  show hOk (mjcut (mjri i22) 4 f)
  rw [cut_ri hf]
  exact hf
set_option maxRecDepth 10000 in
theorem ct_X2_takeBack (l : Launch) : mjCT l yX2_takeBack cX2_takeBack 3 (some .boolean) rm_X2_takeBack S_X2_takeBack :=
  mjCT_ofh (own := RX2) (G := G_X2_takeBack) (plainFor_of_name pn_X2) rfl ok_X2_takeBack (fun meth hm => ⟨fun pc row h => (I_X2_takeBack_ok pc row h).1, F_X2_ok, List.forall_mem_cons.mpr ⟨⟨yX2_stateAt, cX2_stateAt, 2, (some (.object "ColdPanes$Pane")), rm_X2_stateAt, ct_X2_stateAt l, ⟨rfl, rfl⟩, ⟨by decide, by decide⟩, by decide, by decide, nk_X2_stateAt, ln_X2_25, im_X2_stateAt, se_X2_stateAt, rfl⟩, List.forall_mem_cons.mpr ⟨⟨yX4_copyFrom, cX4_copyFrom, 2, none, rm_X4_copyFrom, ct_X4_copyFrom l, ⟨rfl, rfl⟩, ⟨by decide, by decide⟩, by decide, by decide, nk_X4_copyFrom, ln_X2_29, im_X4_copyFrom, se_X4_copyFrom, rfl⟩, fun _ h => absurd h List.not_mem_nil⟩⟩, (fun _ _ _ h => by cases h), (fun _ _ h => by cases h), ⟨Nat.le_refl _, Nat.le_refl _⟩, (fun h => by cases h), (fun h => absurd h (by decide))⟩) rfl rfl rfl (fun pc row h => (I_X2_takeBack_ok pc row h).2)
end
