-- ===== PART A: goes FIRST, ahead of the names: the tables' words, and 'selects' of the private methods out of them =====
/-- a private method of a class that the tables say can be made, by its rows of tables_1 -/
def lw_okq (q : MethodName × Nat) : Prop := (q.1.cls ≠ "java/lang/invoke/MethodHandle" ∧ q.1.cls ≠ "java/lang/invoke/VarHandle") ∧ Cond.instantiable q.1.cls q.2 ∈ tables_1 ∧ Cond.privateMethod q.1 ∈ tables_1 ∧ Cond.instanceMethod q.1 ∈ tables_1
theorem lw_p0 : lw_okq (⟨"ColdPanes$Pane", "mostStrained", "()I"⟩, 12) := ⟨⟨by decide +kernel, by decide +kernel⟩, List.mem_of_getElem? (i := 20) (by decide +kernel), List.mem_of_getElem? (i := 245) (by decide +kernel), List.mem_of_getElem? (i := 246) (by decide +kernel)⟩
theorem lw_p1 : lw_okq (⟨"ColdPanes$Pieces", "spreadFrom", "(LColdPanes$Pane;I)V"⟩, 3) := ⟨⟨by decide +kernel, by decide +kernel⟩, List.mem_of_getElem? (i := 130) (by decide +kernel), List.mem_of_getElem? (i := 265) (by decide +kernel), List.mem_of_getElem? (i := 266) (by decide +kernel)⟩
theorem lw_p2 : lw_okq (⟨"ColdPanes$Pieces", "reach", "(II)V"⟩, 3) := ⟨⟨by decide +kernel, by decide +kernel⟩, List.mem_of_getElem? (i := 130) (by decide +kernel), List.mem_of_getElem? (i := 269) (by decide +kernel), List.mem_of_getElem? (i := 270) (by decide +kernel)⟩
theorem lw_p3 : lw_okq (⟨"ColdPanes$Pieces", "sizeOf", "(I)I"⟩, 3) := ⟨⟨by decide +kernel, by decide +kernel⟩, List.mem_of_getElem? (i := 130) (by decide +kernel), List.mem_of_getElem? (i := 293) (by decide +kernel), List.mem_of_getElem? (i := 294) (by decide +kernel)⟩
theorem lw_p4 : lw_okq (⟨"ColdPanes$History", "stateAt", "(I)LColdPanes$Pane;"⟩, 2) := ⟨⟨by decide +kernel, by decide +kernel⟩, List.mem_of_getElem? (i := 79) (by decide +kernel), List.mem_of_getElem? (i := 306) (by decide +kernel), List.mem_of_getElem? (i := 307) (by decide +kernel)⟩
theorem lw_p5 : lw_okq (⟨"ColdPanes$History", "dropOldest", "()V"⟩, 2) := ⟨⟨by decide +kernel, by decide +kernel⟩, List.mem_of_getElem? (i := 79) (by decide +kernel), List.mem_of_getElem? (i := 330) (by decide +kernel), List.mem_of_getElem? (i := 331) (by decide +kernel)⟩
theorem lw_p6 : lw_okq (⟨"ColdPanes$Pane", "placeOf", "(I)I"⟩, 12) := ⟨⟨by decide +kernel, by decide +kernel⟩, List.mem_of_getElem? (i := 20) (by decide +kernel), List.mem_of_getElem? (i := 413) (by decide +kernel), List.mem_of_getElem? (i := 414) (by decide +kernel)⟩
theorem lw_p7 : lw_okq (⟨"ColdPanes$Pieces", "join", "(II)Z"⟩, 3) := ⟨⟨by decide +kernel, by decide +kernel⟩, List.mem_of_getElem? (i := 130) (by decide +kernel), List.mem_of_getElem? (i := 427) (by decide +kernel), List.mem_of_getElem? (i := 428) (by decide +kernel)⟩
theorem lw_p8 : lw_okq (⟨"ColdPanes$Pane", "moveFurnace", "()V"⟩, 12) := ⟨⟨by decide +kernel, by decide +kernel⟩, List.mem_of_getElem? (i := 20) (by decide +kernel), List.mem_of_getElem? (i := 450) (by decide +kernel), List.mem_of_getElem? (i := 451) (by decide +kernel)⟩
theorem lw_p9 : lw_okq (⟨"ColdPanes$Pane", "flowOverJoints", "()V"⟩, 12) := ⟨⟨by decide +kernel, by decide +kernel⟩, List.mem_of_getElem? (i := 20) (by decide +kernel), List.mem_of_getElem? (i := 454) (by decide +kernel), List.mem_of_getElem? (i := 455) (by decide +kernel)⟩
theorem lw_p10 : lw_okq (⟨"ColdPanes$Pane", "gain", "(II)V"⟩, 12) := ⟨⟨by decide +kernel, by decide +kernel⟩, List.mem_of_getElem? (i := 20) (by decide +kernel), List.mem_of_getElem? (i := 458) (by decide +kernel), List.mem_of_getElem? (i := 459) (by decide +kernel)⟩
theorem lw_p11 : lw_okq (⟨"ColdPanes$Pane", "flowAtRim", "()V"⟩, 12) := ⟨⟨by decide +kernel, by decide +kernel⟩, List.mem_of_getElem? (i := 20) (by decide +kernel), List.mem_of_getElem? (i := 463) (by decide +kernel), List.mem_of_getElem? (i := 464) (by decide +kernel)⟩
theorem lw_p12 : lw_okq (⟨"ColdPanes$Pane", "weakenBeside", "(I)V"⟩, 12) := ⟨⟨by decide +kernel, by decide +kernel⟩, List.mem_of_getElem? (i := 20) (by decide +kernel), List.mem_of_getElem? (i := 474) (by decide +kernel), List.mem_of_getElem? (i := 475) (by decide +kernel)⟩
theorem lw_p13 : lw_okq (⟨"ColdPanes$Pad", "reads", "(C)Z"⟩, 8) := ⟨⟨by decide +kernel, by decide +kernel⟩, List.mem_of_getElem? (i := 96) (by decide +kernel), List.mem_of_getElem? (i := 567) (by decide +kernel), List.mem_of_getElem? (i := 568) (by decide +kernel)⟩
theorem lw_p14 : lw_okq (⟨"ColdPanes$Pad", "readsDigit", "(I)Z"⟩, 8) := ⟨⟨by decide +kernel, by decide +kernel⟩, List.mem_of_getElem? (i := 96) (by decide +kernel), List.mem_of_getElem? (i := 571) (by decide +kernel), List.mem_of_getElem? (i := 572) (by decide +kernel)⟩
theorem lw_p15 : lw_okq (⟨"ColdPanes$Pad", "leastOfPart", "()I"⟩, 8) := ⟨⟨by decide +kernel, by decide +kernel⟩, List.mem_of_getElem? (i := 96) (by decide +kernel), List.mem_of_getElem? (i := 575) (by decide +kernel), List.mem_of_getElem? (i := 576) (by decide +kernel)⟩
def lw_privs_1 : List (MethodName × Nat) := [(⟨"ColdPanes$Pane", "mostStrained", "()I"⟩, 12), (⟨"ColdPanes$Pieces", "spreadFrom", "(LColdPanes$Pane;I)V"⟩, 3), (⟨"ColdPanes$Pieces", "reach", "(II)V"⟩, 3), (⟨"ColdPanes$Pieces", "sizeOf", "(I)I"⟩, 3), (⟨"ColdPanes$History", "stateAt", "(I)LColdPanes$Pane;"⟩, 2), (⟨"ColdPanes$History", "dropOldest", "()V"⟩, 2), (⟨"ColdPanes$Pane", "placeOf", "(I)I"⟩, 12), (⟨"ColdPanes$Pieces", "join", "(II)Z"⟩, 3), (⟨"ColdPanes$Pane", "moveFurnace", "()V"⟩, 12), (⟨"ColdPanes$Pane", "flowOverJoints", "()V"⟩, 12), (⟨"ColdPanes$Pane", "gain", "(II)V"⟩, 12), (⟨"ColdPanes$Pane", "flowAtRim", "()V"⟩, 12), (⟨"ColdPanes$Pane", "weakenBeside", "(I)V"⟩, 12), (⟨"ColdPanes$Pad", "reads", "(C)Z"⟩, 8), (⟨"ColdPanes$Pad", "readsDigit", "(I)Z"⟩, 8), (⟨"ColdPanes$Pad", "leastOfPart", "()I"⟩, 8)]
theorem lw_r1 : ∀ q ∈ lw_privs_1, lw_okq q := List.forall_mem_cons.mpr ⟨lw_p0, List.forall_mem_cons.mpr ⟨lw_p1, List.forall_mem_cons.mpr ⟨lw_p2, List.forall_mem_cons.mpr ⟨lw_p3, List.forall_mem_cons.mpr ⟨lw_p4, List.forall_mem_cons.mpr ⟨lw_p5, List.forall_mem_cons.mpr ⟨lw_p6, List.forall_mem_cons.mpr ⟨lw_p7, List.forall_mem_cons.mpr ⟨lw_p8, List.forall_mem_cons.mpr ⟨lw_p9, List.forall_mem_cons.mpr ⟨lw_p10, List.forall_mem_cons.mpr ⟨lw_p11, List.forall_mem_cons.mpr ⟨lw_p12, List.forall_mem_cons.mpr ⟨lw_p13, List.forall_mem_cons.mpr ⟨lw_p14, List.forall_mem_cons.mpr ⟨lw_p15, fun _ h => absurd h List.not_mem_nil⟩⟩⟩⟩⟩⟩⟩⟩⟩⟩⟩⟩⟩⟩⟩⟩
theorem lw_p16 : lw_okq (⟨"ColdPanes$Pad", "mostOfPart", "()I"⟩, 8) := ⟨⟨by decide +kernel, by decide +kernel⟩, List.mem_of_getElem? (i := 96) (by decide +kernel), List.mem_of_getElem? (i := 579) (by decide +kernel), List.mem_of_getElem? (i := 580) (by decide +kernel)⟩
theorem lw_p17 : lw_okq (⟨"ColdPanes$Pad", "readsHold", "(C)Z"⟩, 8) := ⟨⟨by decide +kernel, by decide +kernel⟩, List.mem_of_getElem? (i := 96) (by decide +kernel), List.mem_of_getElem? (i := 583) (by decide +kernel), List.mem_of_getElem? (i := 584) (by decide +kernel)⟩
theorem lw_p18 : lw_okq (⟨"ColdPanes$Pad", "keepIn", "([II)V"⟩, 8) := ⟨⟨by decide +kernel, by decide +kernel⟩, List.mem_of_getElem? (i := 96) (by decide +kernel), List.mem_of_getElem? (i := 587) (by decide +kernel), List.mem_of_getElem? (i := 588) (by decide +kernel)⟩
theorem lw_p19 : lw_okq (⟨"ColdPanes$Pad", "endOfPart", "()C"⟩, 8) := ⟨⟨by decide +kernel, by decide +kernel⟩, List.mem_of_getElem? (i := 96) (by decide +kernel), List.mem_of_getElem? (i := 591) (by decide +kernel), List.mem_of_getElem? (i := 592) (by decide +kernel)⟩
theorem lw_p20 : lw_okq (⟨"ColdPanes$Pad", "endNumber", "()V"⟩, 8) := ⟨⟨by decide +kernel, by decide +kernel⟩, List.mem_of_getElem? (i := 96) (by decide +kernel), List.mem_of_getElem? (i := 595) (by decide +kernel), List.mem_of_getElem? (i := 596) (by decide +kernel)⟩
def lw_privs_2 : List (MethodName × Nat) := [(⟨"ColdPanes$Pad", "mostOfPart", "()I"⟩, 8), (⟨"ColdPanes$Pad", "readsHold", "(C)Z"⟩, 8), (⟨"ColdPanes$Pad", "keepIn", "([II)V"⟩, 8), (⟨"ColdPanes$Pad", "endOfPart", "()C"⟩, 8), (⟨"ColdPanes$Pad", "endNumber", "()V"⟩, 8)]
theorem lw_r2 : ∀ q ∈ lw_privs_2, lw_okq q := List.forall_mem_cons.mpr ⟨lw_p16, List.forall_mem_cons.mpr ⟨lw_p17, List.forall_mem_cons.mpr ⟨lw_p18, List.forall_mem_cons.mpr ⟨lw_p19, List.forall_mem_cons.mpr ⟨lw_p20, fun _ h => absurd h List.not_mem_nil⟩⟩⟩⟩⟩
def lw_privs : List (MethodName × Nat) := lw_privs_1 ++ (lw_privs_2)
def lw_tbl : List Cond := k2_sels lw_privs ++ tables_1
theorem lw_privs_ok : ∀ q ∈ lw_privs, lw_okq q := by
  show ∀ q ∈ lw_privs_1 ++ (lw_privs_2), lw_okq q
  exact List.forall_mem_append.mpr ⟨lw_r1, lw_r2⟩
/-- the streams that the claim lets the run draw from -/
abbrev lw_cs : List Choice := [Jvm.Choice.named "NaN.bits"]
theorem lw_bits : nanBits ∈ lw_cs := by first | decide | exact List.mem_cons_self | simp [lw_cs, nanBits]
/-! ===== BEGIN words of one list among another's, by their places ===== -/
theorem goodIn_r {big : List Cond} (ws : List Cond) (ps : List Nat) (hp : ws = ps.filterMap (fun i => big[i]?)) (h : ws.all goodWord = true) : GoodIn big ws := by
  intro w hw
  have h1 := List.all_eq_true.mp h w hw
  rw [hp] at hw
  obtain ⟨i, -, hi⟩ := List.mem_filterMap.mp hw
  have hm : w ∈ big := by first | exact List.mem_of_getElem? hi | exact List.getElem?_mem hi
  exact ⟨hm, good_of_word h1⟩
theorem goodIn_app {big a b : List Cond} (ha : GoodIn big a) (hb : GoodIn big b) : GoodIn big (a ++ b) := fun w h => (List.mem_append.mp h).elim (ha w) (hb w)
theorem goodIn_ca {big a b : List Cond} {c : Cond} (ha : GoodIn big (c :: a)) (hb : GoodIn big b) : GoodIn big (c :: (a ++ b)) := fun w h => (List.mem_cons.mp h).elim (fun e => ha w (List.mem_cons.mpr (Or.inl e))) (fun h => (List.mem_append.mp h).elim (fun h => ha w (List.mem_cons.mpr (Or.inr h))) (hb w))
theorem goodIn_sub {big ws : List Cond} (hm : ∀ w ∈ ws, w ∈ big) (h : ws.all goodWord = true) : GoodIn big ws := fun w hw => ⟨hm w hw, good_of_word (List.all_eq_true.mp h w hw)⟩
/-! ===== END ===== -/

/-! ===== BEGIN printed: names, fields, word lists, decode rows ===== -/
def RX0 : String := "ColdPanes$Forecast"
def TX0 : u_T := fun k => match k with
  | 0 => ("ColdPanes$Forecast", "cracks", "I", false)
  | 1 => ("ColdPanes$Forecast", "firstCrack", "I", false)
  | _ => ("ColdPanes$Forecast", "greatestStress", "I", false)
def tyX0 : Nat → FieldType := fun k => match k with
  | 0 => .int
  | 1 => .int
  | _ => .int
abbrev wsX00 : List Cond := u_ws RX0 TX0 3
theorem nmX0 : ∀ a, a < 3 → ∀ b, b < 3 → a ≠ b → (TX0 a).2.1 ≠ (TX0 b).2.1 := by decide +kernel
theorem tyX0_ok : ∀ k, k < 3 → parseFieldDescriptor (TX0 k).2.2.1 = some (tyX0 k) := by decide +kernel
abbrev cX0_init : ByteArray := prog_2_method_1_code
def yX0_init : MethodName := ⟨RX0, "<init>", "()V"⟩
abbrev cX0_look : ByteArray := prog_2_method_2_code
def yX0_look : MethodName := ⟨RX0, "look", "(LColdPanes$Pane;I)V"⟩
def RX1 : String := "ColdPanes$Grid"
def TX1 : u_T := fun k => match k with
  | _ => ("", "", "", false)
def tyX1 : Nat → FieldType := fun k => match k with
  | _ => .int
abbrev wsX10 : List Cond := u_ws RX1 TX1 0
theorem nmX1 : ∀ a, a < 0 → ∀ b, b < 0 → a ≠ b → (TX1 a).2.1 ≠ (TX1 b).2.1 := by decide +kernel
theorem tyX1_ok : ∀ k, k < 0 → parseFieldDescriptor (TX1 k).2.2.1 = some (tyX1 k) := by decide +kernel
abbrev cX1_isCell : ByteArray := prog_3_method_2_code
def yX1_isCell : MethodName := ⟨RX1, "isCell", "(I)Z"⟩
abbrev cX1_isJoint : ByteArray := prog_3_method_3_code
def yX1_isJoint : MethodName := ⟨RX1, "isJoint", "(I)Z"⟩
abbrev cX1_firstCell : ByteArray := prog_3_method_4_code
def yX1_firstCell : MethodName := ⟨RX1, "firstCell", "(I)I"⟩
abbrev cX1_secondCell : ByteArray := prog_3_method_5_code
def yX1_secondCell : MethodName := ⟨RX1, "secondCell", "(I)I"⟩
abbrev cX1_otherCell : ByteArray := prog_3_method_6_code
def yX1_otherCell : MethodName := ⟨RX1, "otherCell", "(II)I"⟩
abbrev cX1_jointAt : ByteArray := prog_3_method_7_code
def yX1_jointAt : MethodName := ⟨RX1, "jointAt", "(II)I"⟩
abbrev cX1_rimSides : ByteArray := prog_3_method_8_code
def yX1_rimSides : MethodName := ⟨RX1, "rimSides", "(I)I"⟩
abbrev cX1_touch : ByteArray := prog_3_method_9_code
def yX1_touch : MethodName := ⟨RX1, "touch", "(II)Z"⟩
abbrev cX1_isEnd : ByteArray := prog_3_method_10_code
def yX1_isEnd : MethodName := ⟨RX1, "isEnd", "(II)Z"⟩
def RX2 : String := "ColdPanes$History"
def TX2 : u_T := fun k => match k with
  | 0 => ("ColdPanes$History", "states", "[LColdPanes$Pane;", true)
  | _ => ("ColdPanes$History", "size", "I", false)
def tyX2 : Nat → FieldType := fun k => match k with
  | 0 => .array (.object "ColdPanes$Pane")
  | _ => .int
abbrev wsX20 : List Cond := u_ws RX2 TX2 2
theorem nmX2 : ∀ a, a < 2 → ∀ b, b < 2 → a ≠ b → (TX2 a).2.1 ≠ (TX2 b).2.1 := by decide +kernel
theorem tyX2_ok : ∀ k, k < 2 → parseFieldDescriptor (TX2 k).2.2.1 = some (tyX2 k) := by decide +kernel
abbrev cX2_init : ByteArray := prog_4_method_1_code
def yX2_init : MethodName := ⟨RX2, "<init>", "()V"⟩
abbrev cX2_record : ByteArray := prog_4_method_2_code
def yX2_record : MethodName := ⟨RX2, "record", "(LColdPanes$Pane;)V"⟩
abbrev cX2_takeBack : ByteArray := prog_4_method_3_code
def yX2_takeBack : MethodName := ⟨RX2, "takeBack", "(LColdPanes$Pane;)Z"⟩
abbrev cX2_stateAt : ByteArray := prog_4_method_4_code
def yX2_stateAt : MethodName := ⟨RX2, "stateAt", "(I)LColdPanes$Pane;"⟩
abbrev cX2_dropOldest : ByteArray := prog_4_method_5_code
def yX2_dropOldest : MethodName := ⟨RX2, "dropOldest", "()V"⟩
def RX3 : String := "ColdPanes$Pad"
def TX3 : u_T := fun k => match k with
  | 0 => ("ColdPanes$Pad", "characters", "[C", true)
  | 1 => ("ColdPanes$Pad", "length", "I", false)
  | 2 => ("ColdPanes$Pad", "aims", "[I", true)
  | 3 => ("ColdPanes$Pad", "rates", "[I", true)
  | 4 => ("ColdPanes$Pad", "minutes", "[I", true)
  | 5 => ("ColdPanes$Pad", "segments", "I", false)
  | 6 => ("ColdPanes$Pad", "part", "I", false)
  | _ => ("ColdPanes$Pad", "number", "I", false)
def tyX3 : Nat → FieldType := fun k => match k with
  | 0 => .array .char
  | 1 => .int
  | 2 => .array .int
  | 3 => .array .int
  | 4 => .array .int
  | 5 => .int
  | 6 => .int
  | _ => .int
abbrev wsX30 : List Cond := u_ws RX3 TX3 8
theorem nmX3 : ∀ a, a < 8 → ∀ b, b < 8 → a ≠ b → (TX3 a).2.1 ≠ (TX3 b).2.1 := by decide +kernel
theorem tyX3_ok : ∀ k, k < 8 → parseFieldDescriptor (TX3 k).2.2.1 = some (tyX3 k) := by decide +kernel
abbrev cX3_init : ByteArray := prog_5_method_1_code
def yX3_init : MethodName := ⟨RX3, "<init>", "()V"⟩
abbrev cX3_take : ByteArray := prog_5_method_2_code
def yX3_take : MethodName := ⟨RX3, "take", "(C)Z"⟩
abbrev cX3_findFault : ByteArray := prog_5_method_3_code
def yX3_findFault : MethodName := ⟨RX3, "findFault", "()I"⟩
abbrev cX3_reads : ByteArray := prog_5_method_4_code
def yX3_reads : MethodName := ⟨RX3, "reads", "(C)Z"⟩
abbrev cX3_readsHold : ByteArray := prog_5_method_5_code
def yX3_readsHold : MethodName := ⟨RX3, "readsHold", "(C)Z"⟩
abbrev cX3_readsDigit : ByteArray := prog_5_method_6_code
def yX3_readsDigit : MethodName := ⟨RX3, "readsDigit", "(I)Z"⟩
abbrev cX3_endNumber : ByteArray := prog_5_method_7_code
def yX3_endNumber : MethodName := ⟨RX3, "endNumber", "()V"⟩
abbrev cX3_keepIn : ByteArray := prog_5_method_8_code
def yX3_keepIn : MethodName := ⟨RX3, "keepIn", "([II)V"⟩
abbrev cX3_endOfPart : ByteArray := prog_5_method_9_code
def yX3_endOfPart : MethodName := ⟨RX3, "endOfPart", "()C"⟩
abbrev cX3_leastOfPart : ByteArray := prog_5_method_10_code
def yX3_leastOfPart : MethodName := ⟨RX3, "leastOfPart", "()I"⟩
abbrev cX3_mostOfPart : ByteArray := prog_5_method_11_code
def yX3_mostOfPart : MethodName := ⟨RX3, "mostOfPart", "()I"⟩
abbrev cX3_aimOf : ByteArray := prog_5_method_12_code
def yX3_aimOf : MethodName := ⟨RX3, "aimOf", "(I)I"⟩
abbrev cX3_rateOf : ByteArray := prog_5_method_13_code
def yX3_rateOf : MethodName := ⟨RX3, "rateOf", "(I)I"⟩
abbrev cX3_minutesOf : ByteArray := prog_5_method_14_code
def yX3_minutesOf : MethodName := ⟨RX3, "minutesOf", "(I)I"⟩
abbrev cX3_isSegment : ByteArray := prog_5_method_15_code
def yX3_isSegment : MethodName := ⟨RX3, "isSegment", "(I)Z"⟩
def RX4 : String := "ColdPanes$Pane"
def TX4 : u_T := fun k => match k with
  | 0 => ("ColdPanes$Pane", "heats", "[I", true)
  | 1 => ("ColdPanes$Pane", "gains", "[I", true)
  | 2 => ("ColdPanes$Pane", "strengths", "[I", true)
  | 3 => ("ColdPanes$Pane", "crackedIn", "[I", true)
  | 4 => ("ColdPanes$Pane", "furnace", "I", false)
  | 5 => ("ColdPanes$Pane", "aim", "I", false)
  | 6 => ("ColdPanes$Pane", "rate", "I", false)
  | 7 => ("ColdPanes$Pane", "lead", "I", false)
  | 8 => ("ColdPanes$Pane", "rim", "I", false)
  | 9 => ("ColdPanes$Pane", "minutes", "I", false)
  | 10 => ("ColdPanes$Pane", "loss", "I", false)
  | _ => ("ColdPanes$Pane", "flames", "I", false)
def tyX4 : Nat → FieldType := fun k => match k with
  | 0 => .array .int
  | 1 => .array .int
  | 2 => .array .int
  | 3 => .array .int
  | 4 => .int
  | 5 => .int
  | 6 => .int
  | 7 => .int
  | 8 => .int
  | 9 => .int
  | 10 => .int
  | _ => .int
abbrev wsX40 : List Cond := u_ws RX4 TX4 12
theorem nmX4 : ∀ a, a < 12 → ∀ b, b < 12 → a ≠ b → (TX4 a).2.1 ≠ (TX4 b).2.1 := by decide +kernel
theorem tyX4_ok : ∀ k, k < 12 → parseFieldDescriptor (TX4 k).2.2.1 = some (tyX4 k) := by decide +kernel
abbrev cX4_init : ByteArray := prog_6_method_1_code
def yX4_init : MethodName := ⟨RX4, "<init>", "()V"⟩
abbrev cX4_renew : ByteArray := prog_6_method_2_code
def yX4_renew : MethodName := ⟨RX4, "renew", "(I)V"⟩
abbrev cX4_copyFrom : ByteArray := prog_6_method_3_code
def yX4_copyFrom : MethodName := ⟨RX4, "copyFrom", "(LColdPanes$Pane;)V"⟩
abbrev cX4_passMinutes : ByteArray := prog_6_method_4_code
def yX4_passMinutes : MethodName := ⟨RX4, "passMinutes", "(I)I"⟩
abbrev cX4_staysWhole : ByteArray := prog_6_method_5_code
def yX4_staysWhole : MethodName := ⟨RX4, "staysWhole", "(I)Z"⟩
abbrev cX4_letHeatFlow : ByteArray := prog_6_method_6_code
def yX4_letHeatFlow : MethodName := ⟨RX4, "letHeatFlow", "()V"⟩
abbrev cX4_moveFurnace : ByteArray := prog_6_method_7_code
def yX4_moveFurnace : MethodName := ⟨RX4, "moveFurnace", "()V"⟩
abbrev cX4_flowOverJoints : ByteArray := prog_6_method_8_code
def yX4_flowOverJoints : MethodName := ⟨RX4, "flowOverJoints", "()V"⟩
abbrev cX4_flowAtRim : ByteArray := prog_6_method_9_code
def yX4_flowAtRim : MethodName := ⟨RX4, "flowAtRim", "()V"⟩
abbrev cX4_gain : ByteArray := prog_6_method_10_code
def yX4_gain : MethodName := ⟨RX4, "gain", "(II)V"⟩
abbrev cX4_crackWorst : ByteArray := prog_6_method_11_code
def yX4_crackWorst : MethodName := ⟨RX4, "crackWorst", "()Z"⟩
abbrev cX4_weakenBeside : ByteArray := prog_6_method_12_code
def yX4_weakenBeside : MethodName := ⟨RX4, "weakenBeside", "(I)V"⟩
abbrev cX4_holdFlame : ByteArray := prog_6_method_13_code
def yX4_holdFlame : MethodName := ⟨RX4, "holdFlame", "(II)I"⟩
abbrev cX4_makeWhole : ByteArray := prog_6_method_14_code
def yX4_makeWhole : MethodName := ⟨RX4, "makeWhole", "(I)V"⟩
abbrev cX4_strengthen : ByteArray := prog_6_method_15_code
def yX4_strengthen : MethodName := ⟨RX4, "strengthen", "(II)V"⟩
abbrev cX4_heatAt : ByteArray := prog_6_method_16_code
def yX4_heatAt : MethodName := ⟨RX4, "heatAt", "(I)I"⟩
abbrev cX4_isWhole : ByteArray := prog_6_method_17_code
def yX4_isWhole : MethodName := ⟨RX4, "isWhole", "(I)Z"⟩
abbrev cX4_crackedMinuteOf : ByteArray := prog_6_method_18_code
def yX4_crackedMinuteOf : MethodName := ⟨RX4, "crackedMinuteOf", "(I)I"⟩
abbrev cX4_strengthOf : ByteArray := prog_6_method_19_code
def yX4_strengthOf : MethodName := ⟨RX4, "strengthOf", "(I)I"⟩
abbrev cX4_stressOf : ByteArray := prog_6_method_20_code
def yX4_stressOf : MethodName := ⟨RX4, "stressOf", "(I)I"⟩
abbrev cX4_marginOf : ByteArray := prog_6_method_21_code
def yX4_marginOf : MethodName := ⟨RX4, "marginOf", "(I)I"⟩
abbrev cX4_wholeJointsOf : ByteArray := prog_6_method_22_code
def yX4_wholeJointsOf : MethodName := ⟨RX4, "wholeJointsOf", "(I)I"⟩
abbrev cX4_wholeJointsBeside : ByteArray := prog_6_method_23_code
def yX4_wholeJointsBeside : MethodName := ⟨RX4, "wholeJointsBeside", "(I)I"⟩
abbrev cX4_greatestStressOf : ByteArray := prog_6_method_24_code
def yX4_greatestStressOf : MethodName := ⟨RX4, "greatestStressOf", "(I)I"⟩
abbrev cX4_greatestStress : ByteArray := prog_6_method_25_code
def yX4_greatestStress : MethodName := ⟨RX4, "greatestStress", "()I"⟩
abbrev cX4_leastMargin : ByteArray := prog_6_method_26_code
def yX4_leastMargin : MethodName := ⟨RX4, "leastMargin", "()I"⟩
abbrev cX4_mostStrained : ByteArray := prog_6_method_27_code
def yX4_mostStrained : MethodName := ⟨RX4, "mostStrained", "()I"⟩
abbrev cX4_strainedAt : ByteArray := prog_6_method_28_code
def yX4_strainedAt : MethodName := ⟨RX4, "strainedAt", "(I)I"⟩
abbrev cX4_placeOf : ByteArray := prog_6_method_29_code
def yX4_placeOf : MethodName := ⟨RX4, "placeOf", "(I)I"⟩
abbrev cX4_crackedJoints : ByteArray := prog_6_method_30_code
def yX4_crackedJoints : MethodName := ⟨RX4, "crackedJoints", "()I"⟩
abbrev cX4_sumOfHeats : ByteArray := prog_6_method_31_code
def yX4_sumOfHeats : MethodName := ⟨RX4, "sumOfHeats", "()I"⟩
abbrev cX4_greatestHeat : ByteArray := prog_6_method_32_code
def yX4_greatestHeat : MethodName := ⟨RX4, "greatestHeat", "()I"⟩
abbrev cX4_leastHeat : ByteArray := prog_6_method_33_code
def yX4_leastHeat : MethodName := ⟨RX4, "leastHeat", "()I"⟩
def RX5 : String := "ColdPanes$Pieces"
def TX5 : u_T := fun k => match k with
  | 0 => ("ColdPanes$Pieces", "names", "[I", true)
  | 1 => ("ColdPanes$Pieces", "reached", "[I", true)
  | _ => ("ColdPanes$Pieces", "reachedCells", "I", false)
def tyX5 : Nat → FieldType := fun k => match k with
  | 0 => .array .int
  | 1 => .array .int
  | _ => .int
abbrev wsX50 : List Cond := u_ws RX5 TX5 3
theorem nmX5 : ∀ a, a < 3 → ∀ b, b < 3 → a ≠ b → (TX5 a).2.1 ≠ (TX5 b).2.1 := by decide +kernel
theorem tyX5_ok : ∀ k, k < 3 → parseFieldDescriptor (TX5 k).2.2.1 = some (tyX5 k) := by decide +kernel
abbrev cX5_init : ByteArray := prog_7_method_1_code
def yX5_init : MethodName := ⟨RX5, "<init>", "()V"⟩
abbrev cX5_tellByGoing : ByteArray := prog_7_method_2_code
def yX5_tellByGoing : MethodName := ⟨RX5, "tellByGoing", "(LColdPanes$Pane;)I"⟩
abbrev cX5_spreadFrom : ByteArray := prog_7_method_3_code
def yX5_spreadFrom : MethodName := ⟨RX5, "spreadFrom", "(LColdPanes$Pane;I)V"⟩
abbrev cX5_reach : ByteArray := prog_7_method_4_code
def yX5_reach : MethodName := ⟨RX5, "reach", "(II)V"⟩
abbrev cX5_tellByJoining : ByteArray := prog_7_method_5_code
def yX5_tellByJoining : MethodName := ⟨RX5, "tellByJoining", "(LColdPanes$Pane;)I"⟩
abbrev cX5_join : ByteArray := prog_7_method_6_code
def yX5_join : MethodName := ⟨RX5, "join", "(II)Z"⟩
abbrev cX5_nameOf : ByteArray := prog_7_method_7_code
def yX5_nameOf : MethodName := ⟨RX5, "nameOf", "(I)I"⟩
abbrev cX5_greatestSize : ByteArray := prog_7_method_8_code
def yX5_greatestSize : MethodName := ⟨RX5, "greatestSize", "()I"⟩
abbrev cX5_sizeOf : ByteArray := prog_7_method_9_code
def yX5_sizeOf : MethodName := ⟨RX5, "sizeOf", "(I)I"⟩
abbrev cX5_meanHeat : ByteArray := prog_7_method_10_code
def yX5_meanHeat : MethodName := ⟨RX5, "meanHeat", "(LColdPanes$Pane;I)D"⟩
def RX6 : String := "ColdPanes"
def TX6 : u_T := fun k => match k with
  | 0 => ("ColdPanes", "now", "LColdPanes$Pane;", true)
  | 1 => ("ColdPanes", "trial", "LColdPanes$Pane;", true)
  | 2 => ("ColdPanes", "snapshot", "LColdPanes$Pane;", true)
  | 3 => ("ColdPanes", "hasSnapshot", "Z", false)
  | 4 => ("ColdPanes", "history", "LColdPanes$History;", true)
  | 5 => ("ColdPanes", "pad", "LColdPanes$Pad;", true)
  | 6 => ("ColdPanes", "parts", "LColdPanes$Pieces;", true)
  | _ => ("ColdPanes", "forecast", "LColdPanes$Forecast;", true)
def tyX6 : Nat → FieldType := fun k => match k with
  | 0 => .object "ColdPanes$Pane"
  | 1 => .object "ColdPanes$Pane"
  | 2 => .object "ColdPanes$Pane"
  | 3 => .boolean
  | 4 => .object "ColdPanes$History"
  | 5 => .object "ColdPanes$Pad"
  | 6 => .object "ColdPanes$Pieces"
  | _ => .object "ColdPanes$Forecast"
abbrev wsX60 : List Cond := u_ws RX6 TX6 8
theorem nmX6 : ∀ a, a < 8 → ∀ b, b < 8 → a ≠ b → (TX6 a).2.1 ≠ (TX6 b).2.1 := by decide +kernel
theorem tyX6_ok : ∀ k, k < 8 → parseFieldDescriptor (TX6 k).2.2.1 = some (tyX6 k) := by decide +kernel
abbrev cX6_init : ByteArray := prog_1_method_1_code
def yX6_init : MethodName := ⟨RX6, "<init>", "()V"⟩
abbrev cX6_begin : ByteArray := prog_1_method_2_code
def yX6_begin : MethodName := ⟨RX6, "begin", "(I)I"⟩
abbrev cX6_aim : ByteArray := prog_1_method_3_code
def yX6_aim : MethodName := ⟨RX6, "aim", "(II)I"⟩
abbrev cX6_pass : ByteArray := prog_1_method_4_code
def yX6_pass : MethodName := ⟨RX6, "pass", "(I)I"⟩
abbrev cX6_scratch : ByteArray := prog_1_method_5_code
def yX6_scratch : MethodName := ⟨RX6, "scratch", "(II)I"⟩
abbrev cX6_mend : ByteArray := prog_1_method_6_code
def yX6_mend : MethodName := ⟨RX6, "mend", "(I)I"⟩
abbrev cX6_heat : ByteArray := prog_1_method_7_code
def yX6_heat : MethodName := ⟨RX6, "heat", "(II)I"⟩
abbrev cX6_set : ByteArray := prog_1_method_8_code
def yX6_set : MethodName := ⟨RX6, "set", "(II)I"⟩
abbrev cX6_append : ByteArray := prog_1_method_9_code
def yX6_append : MethodName := ⟨RX6, "append", "(I)I"⟩
abbrev cX6_clear : ByteArray := prog_1_method_10_code
def yX6_clear : MethodName := ⟨RX6, "clear", "()I"⟩
abbrev cX6_fault : ByteArray := prog_1_method_11_code
def yX6_fault : MethodName := ⟨RX6, "fault", "()I"⟩
abbrev cX6_run : ByteArray := prog_1_method_12_code
def yX6_run : MethodName := ⟨RX6, "run", "()I"⟩
abbrev cX6_cell : ByteArray := prog_1_method_13_code
def yX6_cell : MethodName := ⟨RX6, "cell", "(II)I"⟩
abbrev cX6_joint : ByteArray := prog_1_method_14_code
def yX6_joint : MethodName := ⟨RX6, "joint", "(II)I"⟩
abbrev cX6_strained : ByteArray := prog_1_method_15_code
def yX6_strained : MethodName := ⟨RX6, "strained", "(I)I"⟩
abbrev cX6_pieces : ByteArray := prog_1_method_16_code
def yX6_pieces : MethodName := ⟨RX6, "pieces", "(I)I"⟩
abbrev cX6_count : ByteArray := prog_1_method_17_code
def yX6_count : MethodName := ⟨RX6, "count", "(I)I"⟩
abbrev cX6_mean : ByteArray := prog_1_method_18_code
def yX6_mean : MethodName := ⟨RX6, "mean", "(I)D"⟩
abbrev cX6_ifPassed : ByteArray := prog_1_method_19_code
def yX6_ifPassed : MethodName := ⟨RX6, "ifPassed", "(II)I"⟩
abbrev cX6_fastest : ByteArray := prog_1_method_20_code
def yX6_fastest : MethodName := ⟨RX6, "fastest", "(II)I"⟩
abbrev cX6_evenIn : ByteArray := prog_1_method_21_code
def yX6_evenIn : MethodName := ⟨RX6, "evenIn", "(I)I"⟩
abbrev cX6_undo : ByteArray := prog_1_method_22_code
def yX6_undo : MethodName := ⟨RX6, "undo", "()I"⟩
abbrev cX6_save : ByteArray := prog_1_method_23_code
def yX6_save : MethodName := ⟨RX6, "save", "()I"⟩
abbrev cX6_restore : ByteArray := prog_1_method_24_code
def yX6_restore : MethodName := ⟨RX6, "restore", "()I"⟩
abbrev cX6_isOutside : ByteArray := prog_1_method_25_code
def yX6_isOutside : MethodName := ⟨RX6, "isOutside", "(III)Z"⟩
def RX7 : String := "ColdPanesModel"
def TX7 : u_T := fun k => match k with
  | _ => ("", "", "", false)
def tyX7 : Nat → FieldType := fun k => match k with
  | _ => .int
abbrev wsX70 : List Cond := u_ws RX7 TX7 0
theorem nmX7 : ∀ a, a < 0 → ∀ b, b < 0 → a ≠ b → (TX7 a).2.1 ≠ (TX7 b).2.1 := by decide +kernel
theorem tyX7_ok : ∀ k, k < 0 → parseFieldDescriptor (TX7 k).2.2.1 = some (tyX7 k) := by decide +kernel
def RJ9 : String := "java/lang/Math"
def TJ9 : u_T := fun k => match k with
  | _ => ("", "", "", false)
def tyJ9 : Nat → FieldType := fun k => match k with
  | _ => .int
abbrev wsJ90 : List Cond := u_ws RJ9 TJ9 0
theorem nmJ9 : ∀ a, a < 0 → ∀ b, b < 0 → a ≠ b → (TJ9 a).2.1 ≠ (TJ9 b).2.1 := by decide +kernel
theorem tyJ9_ok : ∀ k, k < 0 → parseFieldDescriptor (TJ9 k).2.2.1 = some (tyJ9 k) := by decide +kernel
abbrev cJ9_abs_0f7a4 : ByteArray := prog_10_method_59_code
def yJ9_abs_0f7a4 : MethodName := ⟨RJ9, "abs", "(I)I"⟩
abbrev cJ9_max_7cf53 : ByteArray := prog_10_method_65_code
def yJ9_max_7cf53 : MethodName := ⟨RJ9, "max", "(II)I"⟩
abbrev cJ9_min_7cf53 : ByteArray := prog_10_method_69_code
def yJ9_min_7cf53 : MethodName := ⟨RJ9, "min", "(II)I"⟩
def RJ10 : String := "java/lang/System"
def TJ10 : u_T := fun k => match k with
  | _ => ("", "", "", false)
def tyJ10 : Nat → FieldType := fun k => match k with
  | _ => .int
abbrev wsJ100 : List Cond := u_ws RJ10 TJ10 0
theorem nmJ10 : ∀ a, a < 0 → ∀ b, b < 0 → a ≠ b → (TJ10 a).2.1 ≠ (TJ10 b).2.1 := by decide +kernel
theorem tyJ10_ok : ∀ k, k < 0 → parseFieldDescriptor (TJ10 k).2.2.1 = some (tyJ10 k) := by decide +kernel
def RJ7 : String := "java/util/Arrays"
def TJ7 : u_T := fun k => match k with
  | _ => ("", "", "", false)
def tyJ7 : Nat → FieldType := fun k => match k with
  | _ => .int
abbrev wsJ70 : List Cond := u_ws RJ7 TJ7 0
theorem nmJ7 : ∀ a, a < 0 → ∀ b, b < 0 → a ≠ b → (TJ7 a).2.1 ≠ (TJ7 b).2.1 := by decide +kernel
theorem tyJ7_ok : ∀ k, k < 0 → parseFieldDescriptor (TJ7 k).2.2.1 = some (tyJ7 k) := by decide +kernel
abbrev cJ7_fill_53178 : ByteArray := prog_12_method_103_code
def yJ7_fill_53178 : MethodName := ⟨RJ7, "fill", "([II)V"⟩
def RL : String := "ColdPanesLaw"
abbrev cL_lot : ByteArray := method_2_code
def yL_lot : MethodName := ⟨RL, "lot", "([II)I"⟩
abbrev cL_low : ByteArray := method_3_code
def yL_low : MethodName := ⟨RL, "low", "(II)I"⟩
abbrev cL_look : ByteArray := method_4_code
def yL_look : MethodName := ⟨RL, "look", "(LColdPanes;)J"⟩
abbrev cL_holds : ByteArray := method_5_code
def yL_holds : MethodName := ⟨RL, "holds", "(LColdPanes;)Z"⟩
abbrev cL_would : ByteArray := method_6_code
def yL_would : MethodName := ⟨RL, "would", "(LColdPanes;I)Z"⟩
abbrev cL_number : ByteArray := method_7_code
def yL_number : MethodName := ⟨RL, "number", "(LColdPanes;I)Z"⟩
abbrev cL_types : ByteArray := method_8_code
def yL_types : MethodName := ⟨RL, "types", "(LColdPanes;I)Z"⟩
abbrev cL_runs : ByteArray := method_9_code
def yL_runs : MethodName := ⟨RL, "runs", "(LColdPanes;I)Z"⟩
abbrev cL_joints : ByteArray := method_10_code
def yL_joints : MethodName := ⟨RL, "joints", "(LColdPanes;II)Z"⟩
abbrev cL_acts : ByteArray := method_11_code
def yL_acts : MethodName := ⟨RL, "acts", "(LColdPanes;II)Z"⟩
abbrev cL_law : ByteArray := code
def yL_law : MethodName := ⟨RL, "law", "([I)Z"⟩
abbrev vwCl : List vw_C := [(RX0, TX0, 3), (RX2, TX2, 2), (RX3, TX3, 8), (RX4, TX4, 12), (RX5, TX5, 3), (RX6, TX6, 8)]
/-- the words that methods may ask for: the tables' that stay good -/
def mjW : List Cond := lw_tbl.filter goodWord
theorem mjW_of {w : Cond} (i : Nat) (h : lw_tbl[i]? = some w) (hg : goodWord w = true) : w ∈ mjW := List.mem_filter.mpr ⟨List.mem_of_getElem? h, hg⟩
theorem mjW_tbl : ∀ w ∈ mjW, w ∈ lw_tbl := fun _ h => (List.mem_filter.mp h).1
theorem mjW_good : ∀ w ∈ mjW, goodWord w = true := fun _ h => (List.mem_filter.mp h).2
