/-! the law: each of its cases, and its loop -/
theorem rR_mw (m : RSt) : rR (mw m) = m := by
  obtain ⟨s, ad, pa, ke, pd, fl, nm, kn, ik, ln, sg, sp, fo, ho, ta, tR, tm⟩ := m
  rfl
theorem rX_xw (c : CSt) : rX (xw c) = c := rfl
abbrev lwL (i : Nat) : mjL := [some (.ref 4095), some (.ref 0), some (.ref 47), some (.int (nI i)), none, none, none, none]
noncomputable def rStrained (m : RSt) (x : Int32) : RSt × Int32 := (m, if 0 ≤ x then kFound (vH m.1) (vS m.1) (vC m.1) x else -1)
theorem sp6_begin (c : CSt) (x : Int32) (hx : xOk c.2.2.2.2.1) : ∃ P, S_X6_begin (xw c) [.ref 0, .int x] = (P, some (xw (cBegin c x).1), some (.int (cBegin c x).2)) ∧ P := ⟨_, rfl, ⟨rfl, rfl⟩, hx⟩
theorem sp7_begin (m : RSt) (x : Int32) (h : r7Ok m) : ∃ P, S_X7_begin (mw m) [.ref 0, .int x] = (P, some (mw (rBegin m x).1), some (.int (rBegin m x).2)) ∧ P := by
  have e := rR_mw m
  refine ⟨(mw m = mw (rR (mw m)) ∧ [Value.ref 0, .int x] = [.ref 0, .int x]) ∧ r7Ok (rR (mw m)), ?_, ?_⟩
  · show (_, some (mw (rBegin (rR (mw m)) x).1), some (Value.int (rBegin (rR (mw m)) x).2)) = _
    rw [e]
    try rfl
  · rw [e]
    exact ⟨⟨rfl, rfl⟩, h⟩
theorem sp6_aim (c : CSt) (x y : Int32) (hx : xOk c.2.2.2.2.1) : ∃ P, S_X6_aim (xw c) [.ref 0, .int x, .int y] = (P, some (xw (cAim c x y).1), some (.int (cAim c x y).2)) ∧ P := ⟨_, rfl, ⟨rfl, rfl⟩, hx⟩
theorem sp7_aim (m : RSt) (x y : Int32) (h : r7Ok m) : ∃ P, S_X7_aim (mw m) [.ref 0, .int x, .int y] = (P, some (mw (rAim m x y).1), some (.int (rAim m x y).2)) ∧ P := by
  have e := rR_mw m
  refine ⟨(mw m = mw (rR (mw m)) ∧ [Value.ref 0, .int x, .int y] = [.ref 0, .int x, .int y]) ∧ r7Ok (rR (mw m)), ?_, ?_⟩
  · show (_, some (mw (rAim (rR (mw m)) x y).1), some (Value.int (rAim (rR (mw m)) x y).2)) = _
    rw [e]
    try rfl
  · rw [e]
    exact ⟨⟨rfl, rfl⟩, h⟩
theorem sp6_pass (c : CSt) (x : Int32) (hx : xOk c.2.2.2.2.1) : ∃ P, S_X6_pass (xw c) [.ref 0, .int x] = (P, some (xw (cPass c x).1), some (.int (cPass c x).2)) ∧ P := ⟨_, rfl, ⟨rfl, rfl⟩, hx⟩
theorem sp7_pass (m : RSt) (x : Int32) (h : r7Ok m) : ∃ P, S_X7_pass (mw m) [.ref 0, .int x] = (P, some (mw (rPass m x).1), some (.int (rPass m x).2)) ∧ P := by
  have e := rR_mw m
  refine ⟨(mw m = mw (rR (mw m)) ∧ [Value.ref 0, .int x] = [.ref 0, .int x]) ∧ r7Ok (rR (mw m)), ?_, ?_⟩
  · show (_, some (mw (rPass (rR (mw m)) x).1), some (Value.int (rPass (rR (mw m)) x).2)) = _
    rw [e]
    try rfl
  · rw [e]
    exact ⟨⟨rfl, rfl⟩, h⟩
theorem sp6_scratch (c : CSt) (x y : Int32) (hx : xOk c.2.2.2.2.1) : ∃ P, S_X6_scratch (xw c) [.ref 0, .int x, .int y] = (P, some (xw (cScratch c x y).1), some (.int (cScratch c x y).2)) ∧ P := ⟨_, rfl, ⟨rfl, rfl⟩, hx⟩
theorem sp7_scratch (m : RSt) (x y : Int32) (h : r7Ok m) : ∃ P, S_X7_scratch (mw m) [.ref 0, .int x, .int y] = (P, some (mw (rScratch m x y).1), some (.int (rScratch m x y).2)) ∧ P := by
  have e := rR_mw m
  refine ⟨(mw m = mw (rR (mw m)) ∧ [Value.ref 0, .int x, .int y] = [.ref 0, .int x, .int y]) ∧ r7Ok (rR (mw m)), ?_, ?_⟩
  · show (_, some (mw (rScratch (rR (mw m)) x y).1), some (Value.int (rScratch (rR (mw m)) x y).2)) = _
    rw [e]
    try rfl
  · rw [e]
    exact ⟨⟨rfl, rfl⟩, h⟩
theorem sp6_mend (c : CSt) (x : Int32) (hx : xOk c.2.2.2.2.1) : ∃ P, S_X6_mend (xw c) [.ref 0, .int x] = (P, some (xw (cMend c x).1), some (.int (cMend c x).2)) ∧ P := ⟨_, rfl, ⟨rfl, rfl⟩, hx⟩
theorem sp7_mend (m : RSt) (x : Int32) (h : r7Ok m) : ∃ P, S_X7_mend (mw m) [.ref 0, .int x] = (P, some (mw (rMend m x).1), some (.int (rMend m x).2)) ∧ P := by
  have e := rR_mw m
  refine ⟨(mw m = mw (rR (mw m)) ∧ [Value.ref 0, .int x] = [.ref 0, .int x]) ∧ r7Ok (rR (mw m)), ?_, ?_⟩
  · show (_, some (mw (rMend (rR (mw m)) x).1), some (Value.int (rMend (rR (mw m)) x).2)) = _
    rw [e]
    try rfl
  · rw [e]
    exact ⟨⟨rfl, rfl⟩, h⟩
theorem sp6_heat (c : CSt) (x y : Int32) (hx : xOk c.2.2.2.2.1) : ∃ P, S_X6_heat (xw c) [.ref 0, .int x, .int y] = (P, some (xw (cHeat c x y).1), some (.int (cHeat c x y).2)) ∧ P := ⟨_, rfl, ⟨rfl, rfl⟩, hx⟩
theorem sp7_heat (m : RSt) (x y : Int32) (h : r7Ok m) : ∃ P, S_X7_heat (mw m) [.ref 0, .int x, .int y] = (P, some (mw (rHeat m x y).1), some (.int (rHeat m x y).2)) ∧ P := by
  have e := rR_mw m
  refine ⟨(mw m = mw (rR (mw m)) ∧ [Value.ref 0, .int x, .int y] = [.ref 0, .int x, .int y]) ∧ r7Ok (rR (mw m)), ?_, ?_⟩
  · show (_, some (mw (rHeat (rR (mw m)) x y).1), some (Value.int (rHeat (rR (mw m)) x y).2)) = _
    rw [e]
    try rfl
  · rw [e]
    exact ⟨⟨rfl, rfl⟩, h⟩
theorem sp6_set (c : CSt) (x y : Int32) (hx : xOk c.2.2.2.2.1) : ∃ P, S_X6_set (xw c) [.ref 0, .int x, .int y] = (P, some (xw (cSet c x y).1), some (.int (cSet c x y).2)) ∧ P := ⟨_, rfl, ⟨rfl, rfl⟩, hx⟩
theorem sp7_set (m : RSt) (x y : Int32) (h : r7Ok m) : ∃ P, S_X7_set (mw m) [.ref 0, .int x, .int y] = (P, some (mw (rSet m x y).1), some (.int (rSet m x y).2)) ∧ P := by
  have e := rR_mw m
  refine ⟨(mw m = mw (rR (mw m)) ∧ [Value.ref 0, .int x, .int y] = [.ref 0, .int x, .int y]) ∧ r7Ok (rR (mw m)), ?_, ?_⟩
  · show (_, some (mw (rSet (rR (mw m)) x y).1), some (Value.int (rSet (rR (mw m)) x y).2)) = _
    rw [e]
    try rfl
  · rw [e]
    exact ⟨⟨rfl, rfl⟩, h⟩
theorem sp6_append (c : CSt) (x : Int32) (hx : xOk c.2.2.2.2.1) : ∃ P, S_X6_append (xw c) [.ref 0, .int x] = (P, some (xw (cAppend c x).1), some (.int (cAppend c x).2)) ∧ P := ⟨_, rfl, ⟨rfl, rfl⟩, hx⟩
theorem sp7_append (m : RSt) (x : Int32) (h : r7Ok m) : ∃ P, S_X7_append (mw m) [.ref 0, .int x] = (P, some (mw (rAppend m x).1), some (.int (rAppend m x).2)) ∧ P := by
  have e := rR_mw m
  refine ⟨(mw m = mw (rR (mw m)) ∧ [Value.ref 0, .int x] = [.ref 0, .int x]) ∧ r7Ok (rR (mw m)), ?_, ?_⟩
  · show (_, some (mw (rAppend (rR (mw m)) x).1), some (Value.int (rAppend (rR (mw m)) x).2)) = _
    rw [e]
    try rfl
  · rw [e]
    exact ⟨⟨rfl, rfl⟩, h⟩
theorem sp6_clear (c : CSt) (hx : xOk c.2.2.2.2.1) : ∃ P, S_X6_clear (xw c) [.ref 0] = (P, some (xw (cClear c).1), some (.int (cClear c).2)) ∧ P := ⟨_, rfl, ⟨rfl, rfl⟩, hx⟩
theorem sp7_clear (m : RSt) (h : r7Ok m) : ∃ P, S_X7_clear (mw m) [.ref 0] = (P, some (mw (rClear m).1), some (.int (rClear m).2)) ∧ P := by
  have e := rR_mw m
  refine ⟨(mw m = mw (rR (mw m)) ∧ [Value.ref 0] = [.ref 0]) ∧ r7Ok (rR (mw m)), ?_, ?_⟩
  · show (_, some (mw (rClear (rR (mw m))).1), some (Value.int (rClear (rR (mw m))).2)) = _
    rw [e]
    try rfl
  · rw [e]
    exact ⟨⟨rfl, rfl⟩, h⟩
theorem sp6_fault (c : CSt) (hx : xOk c.2.2.2.2.1) : ∃ P, S_X6_fault (xw c) [.ref 0] = (P, some (xw (cFault c).1), some (.int (cFault c).2)) ∧ P := ⟨_, rfl, ⟨rfl, rfl⟩, hx⟩
theorem sp7_fault (m : RSt) (h : r7Ok m) : ∃ P, S_X7_fault (mw m) [.ref 0] = (P, some (mw (rFault m).1), some (.int (rFault m).2)) ∧ P := by
  have e := rR_mw m
  refine ⟨(mw m = mw (rR (mw m)) ∧ [Value.ref 0] = [.ref 0]) ∧ r7Ok (rR (mw m)), ?_, ?_⟩
  · show (_, some (mw (rFault (rR (mw m))).1), some (Value.int (rFault (rR (mw m))).2)) = _
    rw [e]
    try rfl
  · rw [e]
    exact ⟨⟨rfl, rfl⟩, h⟩
theorem sp6_run (c : CSt) (hx : xOk c.2.2.2.2.1) (hr : rOk (kFault c.2.2.2.2.2.1).1) : ∃ P, S_X6_run (xw c) [.ref 0] = (P, some (xw (cRun c).1), some (.int (cRun c).2)) ∧ P := ⟨_, rfl, ⟨⟨rfl, rfl⟩, hx⟩, hr⟩
theorem sp7_run (m : RSt) (h : r7Ok m) : ∃ P, S_X7_run (mw m) [.ref 0] = (P, some (mw (rRun m).1), some (.int (rRun m).2)) ∧ P := by
  have e := rR_mw m
  refine ⟨(mw m = mw (rR (mw m)) ∧ [Value.ref 0] = [.ref 0]) ∧ r7Ok (rR (mw m)), ?_, ?_⟩
  · show (_, some (mw (rRun (rR (mw m))).1), some (Value.int (rRun (rR (mw m))).2)) = _
    rw [e]
    try rfl
  · rw [e]
    exact ⟨⟨rfl, rfl⟩, h⟩
theorem sp6_cell (c : CSt) (x y : Int32) (hx : xOk c.2.2.2.2.1) : ∃ P, S_X6_cell (xw c) [.ref 0, .int x, .int y] = (P, some (xw (cCell c x y).1), some (.int (cCell c x y).2)) ∧ P := ⟨_, rfl, ⟨rfl, rfl⟩, hx⟩
theorem sp7_cell (m : RSt) (x y : Int32) (h : aOk m) : ∃ P, S_X7_cell (mw m) [.ref 0, .int x, .int y] = (P, some (mw (rCell m x y).1), some (.int (rCell m x y).2)) ∧ P := by
  have e := rR_mw m
  refine ⟨(mw m = mw (rR (mw m)) ∧ [Value.ref 0, .int x, .int y] = [.ref 0, .int x, .int y]) ∧ aOk (rR (mw m)), ?_, ?_⟩
  · show (_, some (mw (rCell (rR (mw m)) x y).1), some (Value.int (rCell (rR (mw m)) x y).2)) = _
    rw [e]
    try rfl
  · rw [e]
    exact ⟨⟨rfl, rfl⟩, h⟩
theorem sp6_joint (c : CSt) (x y : Int32) (hx : xOk c.2.2.2.2.1) : ∃ P, S_X6_joint (xw c) [.ref 0, .int x, .int y] = (P, some (xw (cJoint c x y).1), some (.int (cJoint c x y).2)) ∧ P := ⟨_, rfl, ⟨rfl, rfl⟩, hx⟩
theorem sp7_joint (m : RSt) (x y : Int32) (h : aOk m) : ∃ P, S_X7_joint (mw m) [.ref 0, .int x, .int y] = (P, some (mw (rJoint m x y).1), some (.int (rJoint m x y).2)) ∧ P := by
  have e := rR_mw m
  refine ⟨(mw m = mw (rR (mw m)) ∧ [Value.ref 0, .int x, .int y] = [.ref 0, .int x, .int y]) ∧ aOk (rR (mw m)), ?_, ?_⟩
  · show (_, some (mw (rJoint (rR (mw m)) x y).1), some (Value.int (rJoint (rR (mw m)) x y).2)) = _
    rw [e]
    try rfl
  · rw [e]
    exact ⟨⟨rfl, rfl⟩, h⟩
theorem sp6_strained (c : CSt) (x : Int32) (hx : xOk c.2.2.2.2.1) : ∃ P, S_X6_strained (xw c) [.ref 0, .int x] = (P, some (xw (cStrained c x).1), some (.int (cStrained c x).2)) ∧ P := ⟨_, rfl, ⟨rfl, rfl⟩, hx⟩
theorem sp7_strained (m : RSt) (x : Int32) : ∃ P, S_X7_strained (mw m) [.ref 0, .int x] = (P, none, some (.int (rStrained m x).2)) ∧ P := by
  have e := rR_mw m
  refine ⟨(mw m = mw (rR (mw m)) ∧ [Value.ref 0, .int x] = [.ref 0, .int x]) ∧ inA x, ?_, ?_⟩
  · show (_, none, some (Value.int (if 0 ≤ x then kFound (vH (rR (mw m)).1) (vS (rR (mw m)).1) (vC (rR (mw m)).1) x else -1))) = _
    rw [e]
    try rfl
  · rw [e]
    exact ⟨⟨rfl, rfl⟩, trivial⟩
theorem sp6_pieces (c : CSt) (x : Int32) (hx : xOk c.2.2.2.2.1) : ∃ P, S_X6_pieces (xw c) [.ref 0, .int x] = (P, some (xw (cPieces c x).1), some (.int (cPieces c x).2)) ∧ P := ⟨_, rfl, ⟨rfl, rfl⟩, hx⟩
theorem sp7_pieces (m : RSt) (x : Int32) (h : aOk m) : ∃ P, S_X7_pieces (mw m) [.ref 0, .int x] = (P, some (mw (rPieces m x).1), some (.int (rPieces m x).2)) ∧ P := by
  have e := rR_mw m
  refine ⟨(mw m = mw (rR (mw m)) ∧ [Value.ref 0, .int x] = [.ref 0, .int x]) ∧ aOk (rR (mw m)), ?_, ?_⟩
  · show (_, some (mw (rPieces (rR (mw m)) x).1), some (Value.int (rPieces (rR (mw m)) x).2)) = _
    rw [e]
    try rfl
  · rw [e]
    exact ⟨⟨rfl, rfl⟩, h⟩
theorem sp6_count (c : CSt) (x : Int32) (hx : xOk c.2.2.2.2.1) : ∃ P, S_X6_count (xw c) [.ref 0, .int x] = (P, some (xw (cCount c x).1), some (.int (cCount c x).2)) ∧ P := ⟨_, rfl, ⟨rfl, rfl⟩, hx⟩
theorem sp7_count (m : RSt) (x : Int32) (h : aOk m) : ∃ P, S_X7_count (mw m) [.ref 0, .int x] = (P, some (mw (rCount m x).1), some (.int (rCount m x).2)) ∧ P := by
  have e := rR_mw m
  refine ⟨(mw m = mw (rR (mw m)) ∧ [Value.ref 0, .int x] = [.ref 0, .int x]) ∧ aOk (rR (mw m)), ?_, ?_⟩
  · show (_, some (mw (rCount (rR (mw m)) x).1), some (Value.int (rCount (rR (mw m)) x).2)) = _
    rw [e]
    try rfl
  · rw [e]
    exact ⟨⟨rfl, rfl⟩, h⟩
theorem sp6_mean (c : CSt) (x : Int32) (hx : xOk c.2.2.2.2.1) (hm : ¬ gIsCell x = 0 → mOk (kGo c.1 c.2.2.2.2.2.2.1).1.1 (pH c.1) (gName (kGo c.1 c.2.2.2.2.2.2.1).1.1 x)) : ∃ P, S_X6_mean (xw c) [.ref 0, .int x] = (P, some (xw (cMean c x).1), some (.double (cMean c x).2)) ∧ P := ⟨_, rfl, ⟨⟨rfl, rfl⟩, hx⟩, hm⟩
theorem sp7_mean (m : RSt) (x : Int32) (hm : ¬ gIsCell x = 0 → vf_n64 (uMeanV m.1 (lcN (vC m.1) m.2.2.2.2.2.2.1) x)) : ∃ P, S_X7_mean (mw m) [.ref 0, .int x] = (P, some (mw (rMean m x).1), some (.double (rMean m x).2)) ∧ P := by
  have e := rR_mw m
  refine ⟨(mw m = mw (rR (mw m)) ∧ [Value.ref 0, .int x] = [.ref 0, .int x]) ∧ (¬ gIsCell x = 0 → vf_n64 (uMeanV (rR (mw m)).1 (lcN (vC (rR (mw m)).1) (rR (mw m)).2.2.2.2.2.2.1) x)), ?_, ?_⟩
  · show (_, some (mw (rMean (rR (mw m)) x).1), some (Value.double (rMean (rR (mw m)) x).2)) = _
    rw [e]
    try rfl
  · rw [e]
    exact ⟨⟨rfl, rfl⟩, hm⟩
theorem sp6_ifPassed (c : CSt) (x y : Int32) (hx : xOk c.2.2.2.2.1) : ∃ P, S_X6_ifPassed (xw c) [.ref 0, .int x, .int y] = (P, some (xw (cIf c x y).1), some (.int (cIf c x y).2)) ∧ P := ⟨_, rfl, ⟨rfl, rfl⟩, hx⟩
theorem sp7_ifPassed (m : RSt) (x y : Int32) (h : r7Ok m) : ∃ P, S_X7_ifPassed (mw m) [.ref 0, .int x, .int y] = (P, some (mw (rIf m x y).1), some (.int (rIf m x y).2)) ∧ P := by
  have e := rR_mw m
  refine ⟨(mw m = mw (rR (mw m)) ∧ [Value.ref 0, .int x, .int y] = [.ref 0, .int x, .int y]) ∧ r7Ok (rR (mw m)), ?_, ?_⟩
  · show (_, some (mw (rIf (rR (mw m)) x y).1), some (Value.int (rIf (rR (mw m)) x y).2)) = _
    rw [e]
    try rfl
  · rw [e]
    exact ⟨⟨rfl, rfl⟩, h⟩
theorem sp6_fastest (c : CSt) (x y : Int32) (hx : xOk c.2.2.2.2.1) : ∃ P, S_X6_fastest (xw c) [.ref 0, .int x, .int y] = (P, some (xw (cFast c x y).1), some (.int (cFast c x y).2)) ∧ P := ⟨_, rfl, ⟨rfl, rfl⟩, hx⟩
theorem sp7_fastest (m : RSt) (x y : Int32) (h : r7Ok m) : ∃ P, S_X7_fastest (mw m) [.ref 0, .int x, .int y] = (P, some (mw (rFast m x y).1), some (.int (rFast m x y).2)) ∧ P := by
  have e := rR_mw m
  refine ⟨(mw m = mw (rR (mw m)) ∧ [Value.ref 0, .int x, .int y] = [.ref 0, .int x, .int y]) ∧ r7Ok (rR (mw m)), ?_, ?_⟩
  · show (_, some (mw (rFast (rR (mw m)) x y).1), some (Value.int (rFast (rR (mw m)) x y).2)) = _
    rw [e]
    try rfl
  · rw [e]
    exact ⟨⟨rfl, rfl⟩, h⟩
theorem sp6_evenIn (c : CSt) (x : Int32) (hx : xOk c.2.2.2.2.1) : ∃ P, S_X6_evenIn (xw c) [.ref 0, .int x] = (P, some (xw (cEven c x).1), some (.int (cEven c x).2)) ∧ P := ⟨_, rfl, ⟨rfl, rfl⟩, hx⟩
theorem sp7_evenIn (m : RSt) (x : Int32) (h : r7Ok m) : ∃ P, S_X7_evenIn (mw m) [.ref 0, .int x] = (P, some (mw (rEven m x).1), some (.int (rEven m x).2)) ∧ P := by
  have e := rR_mw m
  refine ⟨(mw m = mw (rR (mw m)) ∧ [Value.ref 0, .int x] = [.ref 0, .int x]) ∧ r7Ok (rR (mw m)), ?_, ?_⟩
  · show (_, some (mw (rEven (rR (mw m)) x).1), some (Value.int (rEven (rR (mw m)) x).2)) = _
    rw [e]
    try rfl
  · rw [e]
    exact ⟨⟨rfl, rfl⟩, h⟩
theorem sp6_undo (c : CSt) (hx : xOk c.2.2.2.2.1) : ∃ P, S_X6_undo (xw c) [.ref 0] = (P, some (xw (cUndo c).1), some (.int (cUndo c).2)) ∧ P := ⟨_, rfl, ⟨rfl, rfl⟩, hx⟩
theorem sp7_undo (m : RSt) (h : r7Ok m) : ∃ P, S_X7_undo (mw m) [.ref 0] = (P, some (mw (rUndo m).1), some (.int (rUndo m).2)) ∧ P := by
  have e := rR_mw m
  refine ⟨(mw m = mw (rR (mw m)) ∧ [Value.ref 0] = [.ref 0]) ∧ r7Ok (rR (mw m)), ?_, ?_⟩
  · show (_, some (mw (rUndo (rR (mw m))).1), some (Value.int (rUndo (rR (mw m))).2)) = _
    rw [e]
    try rfl
  · rw [e]
    exact ⟨⟨rfl, rfl⟩, h⟩
theorem sp6_save (c : CSt) (hx : xOk c.2.2.2.2.1) : ∃ P, S_X6_save (xw c) [.ref 0] = (P, some (xw (cSave c).1), some (.int (cSave c).2)) ∧ P := ⟨_, rfl, ⟨rfl, rfl⟩, hx⟩
theorem sp7_save (m : RSt) (h : r7Ok m) : ∃ P, S_X7_save (mw m) [.ref 0] = (P, some (mw (rSave m).1), some (.int (rSave m).2)) ∧ P := by
  have e := rR_mw m
  refine ⟨(mw m = mw (rR (mw m)) ∧ [Value.ref 0] = [.ref 0]) ∧ r7Ok (rR (mw m)), ?_, ?_⟩
  · show (_, some (mw (rSave (rR (mw m))).1), some (Value.int (rSave (rR (mw m))).2)) = _
    rw [e]
    try rfl
  · rw [e]
    exact ⟨⟨rfl, rfl⟩, h⟩
theorem sp6_restore (c : CSt) (hx : xOk c.2.2.2.2.1) : ∃ P, S_X6_restore (xw c) [.ref 0] = (P, some (xw (cRestore c).1), some (.int (cRestore c).2)) ∧ P := ⟨_, rfl, ⟨rfl, rfl⟩, hx⟩
theorem sp7_restore (m : RSt) (h : r7Ok m) : ∃ P, S_X7_restore (mw m) [.ref 0] = (P, some (mw (rRestore m).1), some (.int (rRestore m).2)) ∧ P := by
  have e := rR_mw m
  refine ⟨(mw m = mw (rR (mw m)) ∧ [Value.ref 0] = [.ref 0]) ∧ r7Ok (rR (mw m)), ?_, ?_⟩
  · show (_, some (mw (rRestore (rR (mw m))).1), some (Value.int (rRestore (rR (mw m))).2)) = _
    rw [e]
    try rfl
  · rw [e]
    exact ⟨⟨rfl, rfl⟩, h⟩
set_option maxHeartbeats 4000000 in
set_option maxRecDepth 100000 in
theorem lc_begin {n : Nat} {f : Nat → Int32} {R : mjM → Option Value → Nat × Nat → Prop} {T : Nat → mjL → List Value → mjM → Nat × Nat → Prop} (hT : mjC G_L_law (some (n, f)) R T) {i : Nat} (hi : i + 2 < n) (hn : n ≤ 1536) {c : CSt} {m : RSt} (hx : xOk c.2.2.2.2.1) (h3 : hOk2 (cF (cBegin c (f (i + 1))).1)) (h7 : r7Ok m) (he : (cBegin c (f (i + 1))).2 = (rBegin m (f (i + 1))).2) (k : T 717 (lwL i) [] (LW (cBegin c (f (i + 1))).1 (rBegin m (f (i + 1))).1) (55, 2945)) : T 140 (lwL i) [] (LW c m) (55, 2945) := by
  obtain ⟨P6, e6, p6⟩ := sp6_begin c (f (i + 1)) hx
  obtain ⟨P7, e7, p7⟩ := sp7_begin m (f (i + 1)) h7
  have s4 : T 158 (lwL i) [.int (rBegin m (f (i + 1))).2, .int (cBegin c (f (i + 1))).2] (LW (cBegin c (f (i + 1))).1 (rBegin m (f (i + 1))).1) (55, 2945) := by
    refine hT.1 (fun pc => Nat.beq pc 717) 60 _ _ _ _ _ ?_
    exact And.intro (fun _ => k) (fun h => absurd he h)
  have s3 : T 155 (lwL i) [.int (f (i + 1)), .ref 47, .int (cBegin c (f (i + 1))).2] (LW (cBegin c (f (i + 1))).1 m) (55, 2945) := lcall7_1 hT rfl rfl rfl rfl e7 p7 (fun _ => rfl) s4
  have s2 : T 149 (lwL i) [.int (cBegin c (f (i + 1))).2] (LW (cBegin c (f (i + 1))).1 m) (55, 2945) := by
    refine hT.1 (fun pc => Nat.beq pc 155) 60 _ _ _ _ _ ?_
    exact mjix_e (i + 1) (nI_1 i) (by omega) (by omega) (s3)
  have s1 : T 146 (lwL i) [.int (f (i + 1)), .ref 0] (LW c m) (55, 2945) := lcall6_1 hT rfl rfl rfl rfl e6 p6 hx.1 h3 (fun _ => rfl) s2
  refine hT.1 (fun pc => Nat.beq pc 146) 60 _ _ _ _ _ ?_
  exact mjix_e (i + 1) (nI_1 i) (by omega) (by omega) (s1)
set_option maxHeartbeats 4000000 in
set_option maxRecDepth 100000 in
theorem lc_aim {n : Nat} {f : Nat → Int32} {R : mjM → Option Value → Nat × Nat → Prop} {T : Nat → mjL → List Value → mjM → Nat × Nat → Prop} (hT : mjC G_L_law (some (n, f)) R T) {i : Nat} (hi : i + 2 < n) (hn : n ≤ 1536) {c : CSt} {m : RSt} (hx : xOk c.2.2.2.2.1) (h3 : hOk2 (cF (cAim c (f (i + 1)) (f (i + 2))).1)) (h7 : r7Ok m) (he : (cAim c (f (i + 1)) (f (i + 2))).2 = (rAim m (f (i + 1)) (f (i + 2))).2) (k : T 717 (lwL i) [] (LW (cAim c (f (i + 1)) (f (i + 2))).1 (rAim m (f (i + 1)) (f (i + 2))).1) (55, 2945)) : T 163 (lwL i) [] (LW c m) (55, 2945) := by
  obtain ⟨P6, e6, p6⟩ := sp6_aim c (f (i + 1)) (f (i + 2)) hx
  obtain ⟨P7, e7, p7⟩ := sp7_aim m (f (i + 1)) (f (i + 2)) h7
  have s4 : T 191 (lwL i) [.int (rAim m (f (i + 1)) (f (i + 2))).2, .int (cAim c (f (i + 1)) (f (i + 2))).2] (LW (cAim c (f (i + 1)) (f (i + 2))).1 (rAim m (f (i + 1)) (f (i + 2))).1) (55, 2945) := by
    refine hT.1 (fun pc => Nat.beq pc 717) 60 _ _ _ _ _ ?_
    exact And.intro (fun _ => k) (fun h => absurd he h)
  have s3 : T 188 (lwL i) [.int (f (i + 2)), .int (f (i + 1)), .ref 47, .int (cAim c (f (i + 1)) (f (i + 2))).2] (LW (cAim c (f (i + 1)) (f (i + 2))).1 m) (55, 2945) := lcall7_2 hT rfl rfl rfl rfl e7 p7 (fun _ => rfl) s4
  have s2 : T 177 (lwL i) [.int (cAim c (f (i + 1)) (f (i + 2))).2] (LW (cAim c (f (i + 1)) (f (i + 2))).1 m) (55, 2945) := by
    refine hT.1 (fun pc => Nat.beq pc 188) 60 _ _ _ _ _ ?_
    exact mjix_e (i + 1) (nI_1 i) (by omega) (by omega) (mjix_e (i + 2) (nI_add i 2) (by omega) (by omega) (s3))
  have s1 : T 174 (lwL i) [.int (f (i + 2)), .int (f (i + 1)), .ref 0] (LW c m) (55, 2945) := lcall6_2 hT rfl rfl rfl rfl e6 p6 hx.1 h3 (fun _ => rfl) s2
  refine hT.1 (fun pc => Nat.beq pc 174) 60 _ _ _ _ _ ?_
  exact mjix_e (i + 1) (nI_1 i) (by omega) (by omega) (mjix_e (i + 2) (nI_add i 2) (by omega) (by omega) (s1))
set_option maxHeartbeats 4000000 in
set_option maxRecDepth 100000 in
theorem lc_pass {n : Nat} {f : Nat → Int32} {R : mjM → Option Value → Nat × Nat → Prop} {T : Nat → mjL → List Value → mjM → Nat × Nat → Prop} (hT : mjC G_L_law (some (n, f)) R T) {i : Nat} (hi : i + 2 < n) (hn : n ≤ 1536) {c : CSt} {m : RSt} (hx : xOk c.2.2.2.2.1) (h3 : hOk2 (cF (cPass c (f (i + 1))).1)) (h7 : r7Ok m) (he : (cPass c (f (i + 1))).2 = (rPass m (f (i + 1))).2) (k : T 717 (lwL i) [] (LW (cPass c (f (i + 1))).1 (rPass m (f (i + 1))).1) (55, 2945)) : T 196 (lwL i) [] (LW c m) (55, 2945) := by
  obtain ⟨P6, e6, p6⟩ := sp6_pass c (f (i + 1)) hx
  obtain ⟨P7, e7, p7⟩ := sp7_pass m (f (i + 1)) h7
  have s4 : T 214 (lwL i) [.int (rPass m (f (i + 1))).2, .int (cPass c (f (i + 1))).2] (LW (cPass c (f (i + 1))).1 (rPass m (f (i + 1))).1) (55, 2945) := by
    refine hT.1 (fun pc => Nat.beq pc 717) 60 _ _ _ _ _ ?_
    exact And.intro (fun _ => k) (fun h => absurd he h)
  have s3 : T 211 (lwL i) [.int (f (i + 1)), .ref 47, .int (cPass c (f (i + 1))).2] (LW (cPass c (f (i + 1))).1 m) (55, 2945) := lcall7_1 hT rfl rfl rfl rfl e7 p7 (fun _ => rfl) s4
  have s2 : T 205 (lwL i) [.int (cPass c (f (i + 1))).2] (LW (cPass c (f (i + 1))).1 m) (55, 2945) := by
    refine hT.1 (fun pc => Nat.beq pc 211) 60 _ _ _ _ _ ?_
    exact mjix_e (i + 1) (nI_1 i) (by omega) (by omega) (s3)
  have s1 : T 202 (lwL i) [.int (f (i + 1)), .ref 0] (LW c m) (55, 2945) := lcall6_1 hT rfl rfl rfl rfl e6 p6 hx.1 h3 (fun _ => rfl) s2
  refine hT.1 (fun pc => Nat.beq pc 202) 60 _ _ _ _ _ ?_
  exact mjix_e (i + 1) (nI_1 i) (by omega) (by omega) (s1)
set_option maxHeartbeats 4000000 in
set_option maxRecDepth 100000 in
theorem lc_scratch {n : Nat} {f : Nat → Int32} {R : mjM → Option Value → Nat × Nat → Prop} {T : Nat → mjL → List Value → mjM → Nat × Nat → Prop} (hT : mjC G_L_law (some (n, f)) R T) {i : Nat} (hi : i + 2 < n) (hn : n ≤ 1536) {c : CSt} {m : RSt} (hx : xOk c.2.2.2.2.1) (h3 : hOk2 (cF (cScratch c (f (i + 1)) (f (i + 2))).1)) (h7 : r7Ok m) (he : (cScratch c (f (i + 1)) (f (i + 2))).2 = (rScratch m (f (i + 1)) (f (i + 2))).2) (k : T 717 (lwL i) [] (LW (cScratch c (f (i + 1)) (f (i + 2))).1 (rScratch m (f (i + 1)) (f (i + 2))).1) (55, 2945)) : T 219 (lwL i) [] (LW c m) (55, 2945) := by
  obtain ⟨P6, e6, p6⟩ := sp6_scratch c (f (i + 1)) (f (i + 2)) hx
  obtain ⟨P7, e7, p7⟩ := sp7_scratch m (f (i + 1)) (f (i + 2)) h7
  have s4 : T 247 (lwL i) [.int (rScratch m (f (i + 1)) (f (i + 2))).2, .int (cScratch c (f (i + 1)) (f (i + 2))).2] (LW (cScratch c (f (i + 1)) (f (i + 2))).1 (rScratch m (f (i + 1)) (f (i + 2))).1) (55, 2945) := by
    refine hT.1 (fun pc => Nat.beq pc 717) 60 _ _ _ _ _ ?_
    exact And.intro (fun _ => k) (fun h => absurd he h)
  have s3 : T 244 (lwL i) [.int (f (i + 2)), .int (f (i + 1)), .ref 47, .int (cScratch c (f (i + 1)) (f (i + 2))).2] (LW (cScratch c (f (i + 1)) (f (i + 2))).1 m) (55, 2945) := lcall7_2 hT rfl rfl rfl rfl e7 p7 (fun _ => rfl) s4
  have s2 : T 233 (lwL i) [.int (cScratch c (f (i + 1)) (f (i + 2))).2] (LW (cScratch c (f (i + 1)) (f (i + 2))).1 m) (55, 2945) := by
    refine hT.1 (fun pc => Nat.beq pc 244) 60 _ _ _ _ _ ?_
    exact mjix_e (i + 1) (nI_1 i) (by omega) (by omega) (mjix_e (i + 2) (nI_add i 2) (by omega) (by omega) (s3))
  have s1 : T 230 (lwL i) [.int (f (i + 2)), .int (f (i + 1)), .ref 0] (LW c m) (55, 2945) := lcall6_2 hT rfl rfl rfl rfl e6 p6 hx.1 h3 (fun _ => rfl) s2
  refine hT.1 (fun pc => Nat.beq pc 230) 60 _ _ _ _ _ ?_
  exact mjix_e (i + 1) (nI_1 i) (by omega) (by omega) (mjix_e (i + 2) (nI_add i 2) (by omega) (by omega) (s1))
set_option maxHeartbeats 4000000 in
set_option maxRecDepth 100000 in
theorem lc_mend {n : Nat} {f : Nat → Int32} {R : mjM → Option Value → Nat × Nat → Prop} {T : Nat → mjL → List Value → mjM → Nat × Nat → Prop} (hT : mjC G_L_law (some (n, f)) R T) {i : Nat} (hi : i + 2 < n) (hn : n ≤ 1536) {c : CSt} {m : RSt} (hx : xOk c.2.2.2.2.1) (h3 : hOk2 (cF (cMend c (f (i + 1))).1)) (h7 : r7Ok m) (he : (cMend c (f (i + 1))).2 = (rMend m (f (i + 1))).2) (k : T 717 (lwL i) [] (LW (cMend c (f (i + 1))).1 (rMend m (f (i + 1))).1) (55, 2945)) : T 252 (lwL i) [] (LW c m) (55, 2945) := by
  obtain ⟨P6, e6, p6⟩ := sp6_mend c (f (i + 1)) hx
  obtain ⟨P7, e7, p7⟩ := sp7_mend m (f (i + 1)) h7
  have s4 : T 270 (lwL i) [.int (rMend m (f (i + 1))).2, .int (cMend c (f (i + 1))).2] (LW (cMend c (f (i + 1))).1 (rMend m (f (i + 1))).1) (55, 2945) := by
    refine hT.1 (fun pc => Nat.beq pc 717) 60 _ _ _ _ _ ?_
    exact And.intro (fun _ => k) (fun h => absurd he h)
  have s3 : T 267 (lwL i) [.int (f (i + 1)), .ref 47, .int (cMend c (f (i + 1))).2] (LW (cMend c (f (i + 1))).1 m) (55, 2945) := lcall7_1 hT rfl rfl rfl rfl e7 p7 (fun _ => rfl) s4
  have s2 : T 261 (lwL i) [.int (cMend c (f (i + 1))).2] (LW (cMend c (f (i + 1))).1 m) (55, 2945) := by
    refine hT.1 (fun pc => Nat.beq pc 267) 60 _ _ _ _ _ ?_
    exact mjix_e (i + 1) (nI_1 i) (by omega) (by omega) (s3)
  have s1 : T 258 (lwL i) [.int (f (i + 1)), .ref 0] (LW c m) (55, 2945) := lcall6_1 hT rfl rfl rfl rfl e6 p6 hx.1 h3 (fun _ => rfl) s2
  refine hT.1 (fun pc => Nat.beq pc 258) 60 _ _ _ _ _ ?_
  exact mjix_e (i + 1) (nI_1 i) (by omega) (by omega) (s1)
set_option maxHeartbeats 4000000 in
set_option maxRecDepth 100000 in
theorem lc_heat {n : Nat} {f : Nat → Int32} {R : mjM → Option Value → Nat × Nat → Prop} {T : Nat → mjL → List Value → mjM → Nat × Nat → Prop} (hT : mjC G_L_law (some (n, f)) R T) {i : Nat} (hi : i + 2 < n) (hn : n ≤ 1536) {c : CSt} {m : RSt} (hx : xOk c.2.2.2.2.1) (h3 : hOk2 (cF (cHeat c (f (i + 1)) (f (i + 2))).1)) (h7 : r7Ok m) (he : (cHeat c (f (i + 1)) (f (i + 2))).2 = (rHeat m (f (i + 1)) (f (i + 2))).2) (k : T 717 (lwL i) [] (LW (cHeat c (f (i + 1)) (f (i + 2))).1 (rHeat m (f (i + 1)) (f (i + 2))).1) (55, 2945)) : T 275 (lwL i) [] (LW c m) (55, 2945) := by
  obtain ⟨P6, e6, p6⟩ := sp6_heat c (f (i + 1)) (f (i + 2)) hx
  obtain ⟨P7, e7, p7⟩ := sp7_heat m (f (i + 1)) (f (i + 2)) h7
  have s4 : T 303 (lwL i) [.int (rHeat m (f (i + 1)) (f (i + 2))).2, .int (cHeat c (f (i + 1)) (f (i + 2))).2] (LW (cHeat c (f (i + 1)) (f (i + 2))).1 (rHeat m (f (i + 1)) (f (i + 2))).1) (55, 2945) := by
    refine hT.1 (fun pc => Nat.beq pc 717) 60 _ _ _ _ _ ?_
    exact And.intro (fun _ => k) (fun h => absurd he h)
  have s3 : T 300 (lwL i) [.int (f (i + 2)), .int (f (i + 1)), .ref 47, .int (cHeat c (f (i + 1)) (f (i + 2))).2] (LW (cHeat c (f (i + 1)) (f (i + 2))).1 m) (55, 2945) := lcall7_2 hT rfl rfl rfl rfl e7 p7 (fun _ => rfl) s4
  have s2 : T 289 (lwL i) [.int (cHeat c (f (i + 1)) (f (i + 2))).2] (LW (cHeat c (f (i + 1)) (f (i + 2))).1 m) (55, 2945) := by
    refine hT.1 (fun pc => Nat.beq pc 300) 60 _ _ _ _ _ ?_
    exact mjix_e (i + 1) (nI_1 i) (by omega) (by omega) (mjix_e (i + 2) (nI_add i 2) (by omega) (by omega) (s3))
  have s1 : T 286 (lwL i) [.int (f (i + 2)), .int (f (i + 1)), .ref 0] (LW c m) (55, 2945) := lcall6_2 hT rfl rfl rfl rfl e6 p6 hx.1 h3 (fun _ => rfl) s2
  refine hT.1 (fun pc => Nat.beq pc 286) 60 _ _ _ _ _ ?_
  exact mjix_e (i + 1) (nI_1 i) (by omega) (by omega) (mjix_e (i + 2) (nI_add i 2) (by omega) (by omega) (s1))
set_option maxHeartbeats 4000000 in
set_option maxRecDepth 100000 in
theorem lc_set {n : Nat} {f : Nat → Int32} {R : mjM → Option Value → Nat × Nat → Prop} {T : Nat → mjL → List Value → mjM → Nat × Nat → Prop} (hT : mjC G_L_law (some (n, f)) R T) {i : Nat} (hi : i + 2 < n) (hn : n ≤ 1536) {c : CSt} {m : RSt} (hx : xOk c.2.2.2.2.1) (h3 : hOk2 (cF (cSet c (f (i + 1)) (f (i + 2))).1)) (h7 : r7Ok m) (he : (cSet c (f (i + 1)) (f (i + 2))).2 = (rSet m (f (i + 1)) (f (i + 2))).2) (k : T 717 (lwL i) [] (LW (cSet c (f (i + 1)) (f (i + 2))).1 (rSet m (f (i + 1)) (f (i + 2))).1) (55, 2945)) : T 308 (lwL i) [] (LW c m) (55, 2945) := by
  obtain ⟨P6, e6, p6⟩ := sp6_set c (f (i + 1)) (f (i + 2)) hx
  obtain ⟨P7, e7, p7⟩ := sp7_set m (f (i + 1)) (f (i + 2)) h7
  have s4 : T 336 (lwL i) [.int (rSet m (f (i + 1)) (f (i + 2))).2, .int (cSet c (f (i + 1)) (f (i + 2))).2] (LW (cSet c (f (i + 1)) (f (i + 2))).1 (rSet m (f (i + 1)) (f (i + 2))).1) (55, 2945) := by
    refine hT.1 (fun pc => Nat.beq pc 717) 60 _ _ _ _ _ ?_
    exact And.intro (fun _ => k) (fun h => absurd he h)
  have s3 : T 333 (lwL i) [.int (f (i + 2)), .int (f (i + 1)), .ref 47, .int (cSet c (f (i + 1)) (f (i + 2))).2] (LW (cSet c (f (i + 1)) (f (i + 2))).1 m) (55, 2945) := lcall7_2 hT rfl rfl rfl rfl e7 p7 (fun _ => rfl) s4
  have s2 : T 322 (lwL i) [.int (cSet c (f (i + 1)) (f (i + 2))).2] (LW (cSet c (f (i + 1)) (f (i + 2))).1 m) (55, 2945) := by
    refine hT.1 (fun pc => Nat.beq pc 333) 60 _ _ _ _ _ ?_
    exact mjix_e (i + 1) (nI_1 i) (by omega) (by omega) (mjix_e (i + 2) (nI_add i 2) (by omega) (by omega) (s3))
  have s1 : T 319 (lwL i) [.int (f (i + 2)), .int (f (i + 1)), .ref 0] (LW c m) (55, 2945) := lcall6_2 hT rfl rfl rfl rfl e6 p6 hx.1 h3 (fun _ => rfl) s2
  refine hT.1 (fun pc => Nat.beq pc 319) 60 _ _ _ _ _ ?_
  exact mjix_e (i + 1) (nI_1 i) (by omega) (by omega) (mjix_e (i + 2) (nI_add i 2) (by omega) (by omega) (s1))
set_option maxHeartbeats 4000000 in
set_option maxRecDepth 100000 in
theorem lc_append {n : Nat} {f : Nat → Int32} {R : mjM → Option Value → Nat × Nat → Prop} {T : Nat → mjL → List Value → mjM → Nat × Nat → Prop} (hT : mjC G_L_law (some (n, f)) R T) {i : Nat} (hi : i + 2 < n) (hn : n ≤ 1536) {c : CSt} {m : RSt} (hx : xOk c.2.2.2.2.1) (h3 : hOk2 (cF (cAppend c (f (i + 1))).1)) (h7 : r7Ok m) (he : (cAppend c (f (i + 1))).2 = (rAppend m (f (i + 1))).2) (k : T 717 (lwL i) [] (LW (cAppend c (f (i + 1))).1 (rAppend m (f (i + 1))).1) (55, 2945)) : T 341 (lwL i) [] (LW c m) (55, 2945) := by
  obtain ⟨P6, e6, p6⟩ := sp6_append c (f (i + 1)) hx
  obtain ⟨P7, e7, p7⟩ := sp7_append m (f (i + 1)) h7
  have s4 : T 359 (lwL i) [.int (rAppend m (f (i + 1))).2, .int (cAppend c (f (i + 1))).2] (LW (cAppend c (f (i + 1))).1 (rAppend m (f (i + 1))).1) (55, 2945) := by
    refine hT.1 (fun pc => Nat.beq pc 717) 60 _ _ _ _ _ ?_
    exact And.intro (fun _ => k) (fun h => absurd he h)
  have s3 : T 356 (lwL i) [.int (f (i + 1)), .ref 47, .int (cAppend c (f (i + 1))).2] (LW (cAppend c (f (i + 1))).1 m) (55, 2945) := lcall7_1 hT rfl rfl rfl rfl e7 p7 (fun _ => rfl) s4
  have s2 : T 350 (lwL i) [.int (cAppend c (f (i + 1))).2] (LW (cAppend c (f (i + 1))).1 m) (55, 2945) := by
    refine hT.1 (fun pc => Nat.beq pc 356) 60 _ _ _ _ _ ?_
    exact mjix_e (i + 1) (nI_1 i) (by omega) (by omega) (s3)
  have s1 : T 347 (lwL i) [.int (f (i + 1)), .ref 0] (LW c m) (55, 2945) := lcall6_1 hT rfl rfl rfl rfl e6 p6 hx.1 h3 (fun _ => rfl) s2
  refine hT.1 (fun pc => Nat.beq pc 347) 60 _ _ _ _ _ ?_
  exact mjix_e (i + 1) (nI_1 i) (by omega) (by omega) (s1)
set_option maxHeartbeats 4000000 in
set_option maxRecDepth 100000 in
theorem lc_clear {n : Nat} {f : Nat → Int32} {R : mjM → Option Value → Nat × Nat → Prop} {T : Nat → mjL → List Value → mjM → Nat × Nat → Prop} (hT : mjC G_L_law (some (n, f)) R T) {i : Nat} (hi : i + 2 < n) (hn : n ≤ 1536) {c : CSt} {m : RSt} (hx : xOk c.2.2.2.2.1) (h3 : hOk2 (cF (cClear c).1)) (h7 : r7Ok m) (he : (cClear c).2 = (rClear m).2) (k : T 717 (lwL i) [] (LW (cClear c).1 (rClear m).1) (55, 2945)) : T 364 (lwL i) [] (LW c m) (55, 2945) := by
  obtain ⟨P6, e6, p6⟩ := sp6_clear c hx
  obtain ⟨P7, e7, p7⟩ := sp7_clear m h7
  have s4 : T 372 (lwL i) [.int (rClear m).2, .int (cClear c).2] (LW (cClear c).1 (rClear m).1) (55, 2945) := by
    refine hT.1 (fun pc => Nat.beq pc 717) 60 _ _ _ _ _ ?_
    exact And.intro (fun _ => k) (fun h => absurd he h)
  have s3 : T 369 (lwL i) [.ref 47, .int (cClear c).2] (LW (cClear c).1 m) (55, 2945) := lcall7_0 hT rfl rfl rfl rfl e7 p7 (fun _ => rfl) s4
  have s2 : T 368 (lwL i) [.int (cClear c).2] (LW (cClear c).1 m) (55, 2945) := by
    refine hT.1 (fun pc => Nat.beq pc 369) 60 _ _ _ _ _ ?_
    exact s3
  have s1 : T 365 (lwL i) [.ref 0] (LW c m) (55, 2945) := lcall6_0 hT rfl rfl rfl rfl e6 p6 hx.1 h3 (fun _ => rfl) s2
  refine hT.1 (fun pc => Nat.beq pc 365) 60 _ _ _ _ _ ?_
  exact s1
set_option maxHeartbeats 4000000 in
set_option maxRecDepth 100000 in
theorem lc_fault {n : Nat} {f : Nat → Int32} {R : mjM → Option Value → Nat × Nat → Prop} {T : Nat → mjL → List Value → mjM → Nat × Nat → Prop} (hT : mjC G_L_law (some (n, f)) R T) {i : Nat} (hi : i + 2 < n) (hn : n ≤ 1536) {c : CSt} {m : RSt} (hx : xOk c.2.2.2.2.1) (h3 : hOk2 (cF (cFault c).1)) (h7 : r7Ok m) (he : (cFault c).2 = (rFault m).2) (k : T 717 (lwL i) [] (LW (cFault c).1 (rFault m).1) (55, 2945)) : T 377 (lwL i) [] (LW c m) (55, 2945) := by
  obtain ⟨P6, e6, p6⟩ := sp6_fault c hx
  obtain ⟨P7, e7, p7⟩ := sp7_fault m h7
  have s4 : T 385 (lwL i) [.int (rFault m).2, .int (cFault c).2] (LW (cFault c).1 (rFault m).1) (55, 2945) := by
    refine hT.1 (fun pc => Nat.beq pc 717) 60 _ _ _ _ _ ?_
    exact And.intro (fun _ => k) (fun h => absurd he h)
  have s3 : T 382 (lwL i) [.ref 47, .int (cFault c).2] (LW (cFault c).1 m) (55, 2945) := lcall7_0 hT rfl rfl rfl rfl e7 p7 (fun _ => rfl) s4
  have s2 : T 381 (lwL i) [.int (cFault c).2] (LW (cFault c).1 m) (55, 2945) := by
    refine hT.1 (fun pc => Nat.beq pc 382) 60 _ _ _ _ _ ?_
    exact s3
  have s1 : T 378 (lwL i) [.ref 0] (LW c m) (55, 2945) := lcall6_0 hT rfl rfl rfl rfl e6 p6 hx.1 h3 (fun _ => rfl) s2
  refine hT.1 (fun pc => Nat.beq pc 378) 60 _ _ _ _ _ ?_
  exact s1
set_option maxHeartbeats 4000000 in
set_option maxRecDepth 100000 in
theorem lc_run {n : Nat} {f : Nat → Int32} {R : mjM → Option Value → Nat × Nat → Prop} {T : Nat → mjL → List Value → mjM → Nat × Nat → Prop} (hT : mjC G_L_law (some (n, f)) R T) {i : Nat} (hi : i + 2 < n) (hn : n ≤ 1536) {c : CSt} {m : RSt} (hx : xOk c.2.2.2.2.1) (h3 : hOk2 (cF (cRun c).1)) (hr : rOk (kFault c.2.2.2.2.2.1).1) (h7 : r7Ok m) (he : (cRun c).2 = (rRun m).2) (k : T 717 (lwL i) [] (LW (cRun c).1 (rRun m).1) (55, 2945)) : T 390 (lwL i) [] (LW c m) (55, 2945) := by
  obtain ⟨P6, e6, p6⟩ := sp6_run c hx hr
  obtain ⟨P7, e7, p7⟩ := sp7_run m h7
  have s4 : T 398 (lwL i) [.int (rRun m).2, .int (cRun c).2] (LW (cRun c).1 (rRun m).1) (55, 2945) := by
    refine hT.1 (fun pc => Nat.beq pc 717) 60 _ _ _ _ _ ?_
    exact And.intro (fun _ => k) (fun h => absurd he h)
  have s3 : T 395 (lwL i) [.ref 47, .int (cRun c).2] (LW (cRun c).1 m) (55, 2945) := lcall7_0 hT rfl rfl rfl rfl e7 p7 (fun _ => rfl) s4
  have s2 : T 394 (lwL i) [.int (cRun c).2] (LW (cRun c).1 m) (55, 2945) := by
    refine hT.1 (fun pc => Nat.beq pc 395) 60 _ _ _ _ _ ?_
    exact s3
  have s1 : T 391 (lwL i) [.ref 0] (LW c m) (55, 2945) := lcall6_0 hT rfl rfl rfl rfl e6 p6 hx.1 h3 (fun _ => rfl) s2
  refine hT.1 (fun pc => Nat.beq pc 391) 60 _ _ _ _ _ ?_
  exact s1
set_option maxHeartbeats 4000000 in
set_option maxRecDepth 100000 in
theorem lc_cell {n : Nat} {f : Nat → Int32} {R : mjM → Option Value → Nat × Nat → Prop} {T : Nat → mjL → List Value → mjM → Nat × Nat → Prop} (hT : mjC G_L_law (some (n, f)) R T) {i : Nat} (hi : i + 2 < n) (hn : n ≤ 1536) {c : CSt} {m : RSt} (hx : xOk c.2.2.2.2.1) (h3 : hOk2 (cF (cCell c (f (i + 1)) (f (i + 2))).1)) (h7 : aOk m) (he : (cCell c (f (i + 1)) (f (i + 2))).2 = (rCell m (f (i + 1)) (f (i + 2))).2) (k : T 717 (lwL i) [] (LW (cCell c (f (i + 1)) (f (i + 2))).1 (rCell m (f (i + 1)) (f (i + 2))).1) (55, 2945)) : T 403 (lwL i) [] (LW c m) (55, 2945) := by
  obtain ⟨P6, e6, p6⟩ := sp6_cell c (f (i + 1)) (f (i + 2)) hx
  obtain ⟨P7, e7, p7⟩ := sp7_cell m (f (i + 1)) (f (i + 2)) h7
  have s4 : T 431 (lwL i) [.int (rCell m (f (i + 1)) (f (i + 2))).2, .int (cCell c (f (i + 1)) (f (i + 2))).2] (LW (cCell c (f (i + 1)) (f (i + 2))).1 (rCell m (f (i + 1)) (f (i + 2))).1) (55, 2945) := by
    refine hT.1 (fun pc => Nat.beq pc 717) 60 _ _ _ _ _ ?_
    exact And.intro (fun _ => k) (fun h => absurd he h)
  have s3 : T 428 (lwL i) [.int (f (i + 2)), .int (f (i + 1)), .ref 47, .int (cCell c (f (i + 1)) (f (i + 2))).2] (LW (cCell c (f (i + 1)) (f (i + 2))).1 m) (55, 2945) := lcall7_2 hT rfl rfl rfl rfl e7 p7 (fun _ => rfl) s4
  have s2 : T 417 (lwL i) [.int (cCell c (f (i + 1)) (f (i + 2))).2] (LW (cCell c (f (i + 1)) (f (i + 2))).1 m) (55, 2945) := by
    refine hT.1 (fun pc => Nat.beq pc 428) 60 _ _ _ _ _ ?_
    exact mjix_e (i + 1) (nI_1 i) (by omega) (by omega) (mjix_e (i + 2) (nI_add i 2) (by omega) (by omega) (s3))
  have s1 : T 414 (lwL i) [.int (f (i + 2)), .int (f (i + 1)), .ref 0] (LW c m) (55, 2945) := lcall6_2 hT rfl rfl rfl rfl e6 p6 hx.1 h3 (fun _ => rfl) s2
  refine hT.1 (fun pc => Nat.beq pc 414) 60 _ _ _ _ _ ?_
  exact mjix_e (i + 1) (nI_1 i) (by omega) (by omega) (mjix_e (i + 2) (nI_add i 2) (by omega) (by omega) (s1))
set_option maxHeartbeats 4000000 in
set_option maxRecDepth 100000 in
theorem lc_joint {n : Nat} {f : Nat → Int32} {R : mjM → Option Value → Nat × Nat → Prop} {T : Nat → mjL → List Value → mjM → Nat × Nat → Prop} (hT : mjC G_L_law (some (n, f)) R T) {i : Nat} (hi : i + 2 < n) (hn : n ≤ 1536) {c : CSt} {m : RSt} (hx : xOk c.2.2.2.2.1) (h3 : hOk2 (cF (cJoint c (f (i + 1)) (f (i + 2))).1)) (h7 : aOk m) (he : (cJoint c (f (i + 1)) (f (i + 2))).2 = (rJoint m (f (i + 1)) (f (i + 2))).2) (k : T 717 (lwL i) [] (LW (cJoint c (f (i + 1)) (f (i + 2))).1 (rJoint m (f (i + 1)) (f (i + 2))).1) (55, 2945)) : T 436 (lwL i) [] (LW c m) (55, 2945) := by
  obtain ⟨P6, e6, p6⟩ := sp6_joint c (f (i + 1)) (f (i + 2)) hx
  obtain ⟨P7, e7, p7⟩ := sp7_joint m (f (i + 1)) (f (i + 2)) h7
  have s4 : T 464 (lwL i) [.int (rJoint m (f (i + 1)) (f (i + 2))).2, .int (cJoint c (f (i + 1)) (f (i + 2))).2] (LW (cJoint c (f (i + 1)) (f (i + 2))).1 (rJoint m (f (i + 1)) (f (i + 2))).1) (55, 2945) := by
    refine hT.1 (fun pc => Nat.beq pc 717) 60 _ _ _ _ _ ?_
    exact And.intro (fun _ => k) (fun h => absurd he h)
  have s3 : T 461 (lwL i) [.int (f (i + 2)), .int (f (i + 1)), .ref 47, .int (cJoint c (f (i + 1)) (f (i + 2))).2] (LW (cJoint c (f (i + 1)) (f (i + 2))).1 m) (55, 2945) := lcall7_2 hT rfl rfl rfl rfl e7 p7 (fun _ => rfl) s4
  have s2 : T 450 (lwL i) [.int (cJoint c (f (i + 1)) (f (i + 2))).2] (LW (cJoint c (f (i + 1)) (f (i + 2))).1 m) (55, 2945) := by
    refine hT.1 (fun pc => Nat.beq pc 461) 60 _ _ _ _ _ ?_
    exact mjix_e (i + 1) (nI_1 i) (by omega) (by omega) (mjix_e (i + 2) (nI_add i 2) (by omega) (by omega) (s3))
  have s1 : T 447 (lwL i) [.int (f (i + 2)), .int (f (i + 1)), .ref 0] (LW c m) (55, 2945) := lcall6_2 hT rfl rfl rfl rfl e6 p6 hx.1 h3 (fun _ => rfl) s2
  refine hT.1 (fun pc => Nat.beq pc 447) 60 _ _ _ _ _ ?_
  exact mjix_e (i + 1) (nI_1 i) (by omega) (by omega) (mjix_e (i + 2) (nI_add i 2) (by omega) (by omega) (s1))
set_option maxHeartbeats 4000000 in
set_option maxRecDepth 100000 in
theorem lc_strained {n : Nat} {f : Nat → Int32} {R : mjM → Option Value → Nat × Nat → Prop} {T : Nat → mjL → List Value → mjM → Nat × Nat → Prop} (hT : mjC G_L_law (some (n, f)) R T) {i : Nat} (hi : i + 2 < n) (hn : n ≤ 1536) {c : CSt} {m : RSt} (hx : xOk c.2.2.2.2.1) (h3 : hOk2 (cF (cStrained c (f (i + 1))).1)) (he : (cStrained c (f (i + 1))).2 = (rStrained m (f (i + 1))).2) (k : T 717 (lwL i) [] (LW (cStrained c (f (i + 1))).1 m) (55, 2945)) : T 469 (lwL i) [] (LW c m) (55, 2945) := by
  obtain ⟨P6, e6, p6⟩ := sp6_strained c (f (i + 1)) hx
  obtain ⟨P7, e7, p7⟩ := sp7_strained m (f (i + 1))
  have s4 : T 487 (lwL i) [.int (rStrained m (f (i + 1))).2, .int (cStrained c (f (i + 1))).2] (LW (cStrained c (f (i + 1))).1 m) (55, 2945) := by
    refine hT.1 (fun pc => Nat.beq pc 717) 60 _ _ _ _ _ ?_
    exact And.intro (fun _ => k) (fun h => absurd he h)
  have s3 : T 484 (lwL i) [.int (f (i + 1)), .ref 47, .int (cStrained c (f (i + 1))).2] (LW (cStrained c (f (i + 1))).1 m) (55, 2945) := lcall7_1n hT rfl rfl rfl rfl e7 p7 (fun _ => rfl) s4
  have s2 : T 478 (lwL i) [.int (cStrained c (f (i + 1))).2] (LW (cStrained c (f (i + 1))).1 m) (55, 2945) := by
    refine hT.1 (fun pc => Nat.beq pc 484) 60 _ _ _ _ _ ?_
    exact mjix_e (i + 1) (nI_1 i) (by omega) (by omega) (s3)
  have s1 : T 475 (lwL i) [.int (f (i + 1)), .ref 0] (LW c m) (55, 2945) := lcall6_1 hT rfl rfl rfl rfl e6 p6 hx.1 h3 (fun _ => rfl) s2
  refine hT.1 (fun pc => Nat.beq pc 475) 60 _ _ _ _ _ ?_
  exact mjix_e (i + 1) (nI_1 i) (by omega) (by omega) (s1)
set_option maxHeartbeats 4000000 in
set_option maxRecDepth 100000 in
theorem lc_pieces {n : Nat} {f : Nat → Int32} {R : mjM → Option Value → Nat × Nat → Prop} {T : Nat → mjL → List Value → mjM → Nat × Nat → Prop} (hT : mjC G_L_law (some (n, f)) R T) {i : Nat} (hi : i + 2 < n) (hn : n ≤ 1536) {c : CSt} {m : RSt} (hx : xOk c.2.2.2.2.1) (h3 : hOk2 (cF (cPieces c (f (i + 1))).1)) (h7 : aOk m) (he : (cPieces c (f (i + 1))).2 = (rPieces m (f (i + 1))).2) (k : T 717 (lwL i) [] (LW (cPieces c (f (i + 1))).1 (rPieces m (f (i + 1))).1) (55, 2945)) : T 492 (lwL i) [] (LW c m) (55, 2945) := by
  obtain ⟨P6, e6, p6⟩ := sp6_pieces c (f (i + 1)) hx
  obtain ⟨P7, e7, p7⟩ := sp7_pieces m (f (i + 1)) h7
  have s4 : T 510 (lwL i) [.int (rPieces m (f (i + 1))).2, .int (cPieces c (f (i + 1))).2] (LW (cPieces c (f (i + 1))).1 (rPieces m (f (i + 1))).1) (55, 2945) := by
    refine hT.1 (fun pc => Nat.beq pc 717) 60 _ _ _ _ _ ?_
    exact And.intro (fun _ => k) (fun h => absurd he h)
  have s3 : T 507 (lwL i) [.int (f (i + 1)), .ref 47, .int (cPieces c (f (i + 1))).2] (LW (cPieces c (f (i + 1))).1 m) (55, 2945) := lcall7_1 hT rfl rfl rfl rfl e7 p7 (fun _ => rfl) s4
  have s2 : T 501 (lwL i) [.int (cPieces c (f (i + 1))).2] (LW (cPieces c (f (i + 1))).1 m) (55, 2945) := by
    refine hT.1 (fun pc => Nat.beq pc 507) 60 _ _ _ _ _ ?_
    exact mjix_e (i + 1) (nI_1 i) (by omega) (by omega) (s3)
  have s1 : T 498 (lwL i) [.int (f (i + 1)), .ref 0] (LW c m) (55, 2945) := lcall6_1 hT rfl rfl rfl rfl e6 p6 hx.1 h3 (fun _ => rfl) s2
  refine hT.1 (fun pc => Nat.beq pc 498) 60 _ _ _ _ _ ?_
  exact mjix_e (i + 1) (nI_1 i) (by omega) (by omega) (s1)
set_option maxHeartbeats 4000000 in
set_option maxRecDepth 100000 in
theorem lc_count {n : Nat} {f : Nat → Int32} {R : mjM → Option Value → Nat × Nat → Prop} {T : Nat → mjL → List Value → mjM → Nat × Nat → Prop} (hT : mjC G_L_law (some (n, f)) R T) {i : Nat} (hi : i + 2 < n) (hn : n ≤ 1536) {c : CSt} {m : RSt} (hx : xOk c.2.2.2.2.1) (h3 : hOk2 (cF (cCount c (f (i + 1))).1)) (h7 : aOk m) (he : (cCount c (f (i + 1))).2 = (rCount m (f (i + 1))).2) (k : T 717 (lwL i) [] (LW (cCount c (f (i + 1))).1 (rCount m (f (i + 1))).1) (55, 2945)) : T 515 (lwL i) [] (LW c m) (55, 2945) := by
  obtain ⟨P6, e6, p6⟩ := sp6_count c (f (i + 1)) hx
  obtain ⟨P7, e7, p7⟩ := sp7_count m (f (i + 1)) h7
  have s4 : T 533 (lwL i) [.int (rCount m (f (i + 1))).2, .int (cCount c (f (i + 1))).2] (LW (cCount c (f (i + 1))).1 (rCount m (f (i + 1))).1) (55, 2945) := by
    refine hT.1 (fun pc => Nat.beq pc 717) 60 _ _ _ _ _ ?_
    exact And.intro (fun _ => k) (fun h => absurd he h)
  have s3 : T 530 (lwL i) [.int (f (i + 1)), .ref 47, .int (cCount c (f (i + 1))).2] (LW (cCount c (f (i + 1))).1 m) (55, 2945) := lcall7_1 hT rfl rfl rfl rfl e7 p7 (fun _ => rfl) s4
  have s2 : T 524 (lwL i) [.int (cCount c (f (i + 1))).2] (LW (cCount c (f (i + 1))).1 m) (55, 2945) := by
    refine hT.1 (fun pc => Nat.beq pc 530) 60 _ _ _ _ _ ?_
    exact mjix_e (i + 1) (nI_1 i) (by omega) (by omega) (s3)
  have s1 : T 521 (lwL i) [.int (f (i + 1)), .ref 0] (LW c m) (55, 2945) := lcall6_1 hT rfl rfl rfl rfl e6 p6 hx.1 h3 (fun _ => rfl) s2
  refine hT.1 (fun pc => Nat.beq pc 521) 60 _ _ _ _ _ ?_
  exact mjix_e (i + 1) (nI_1 i) (by omega) (by omega) (s1)
set_option maxHeartbeats 4000000 in
set_option maxRecDepth 100000 in
theorem lc_mean {n : Nat} {f : Nat → Int32} {R : mjM → Option Value → Nat × Nat → Prop} {T : Nat → mjL → List Value → mjM → Nat × Nat → Prop} (hT : mjC G_L_law (some (n, f)) R T) {i : Nat} (hi : i + 2 < n) (hn : n ≤ 1536) {c : CSt} {m : RSt} (hx : xOk c.2.2.2.2.1) (h3 : hOk2 (cF (cMean c (f (i + 1))).1)) (hm6 : ¬ gIsCell (f (i + 1)) = 0 → mOk (kGo c.1 c.2.2.2.2.2.2.1).1.1 (pH c.1) (gName (kGo c.1 c.2.2.2.2.2.2.1).1.1 (f (i + 1)))) (hm7 : ¬ gIsCell (f (i + 1)) = 0 → vf_n64 (uMeanV m.1 (lcN (vC m.1) m.2.2.2.2.2.2.1) (f (i + 1)))) (he : (cMean c (f (i + 1))).2 = (rMean m (f (i + 1))).2) (k : T 717 (lwL i) [] (LW (cMean c (f (i + 1))).1 (rMean m (f (i + 1))).1) (55, 2945)) : T 538 (lwL i) [] (LW c m) (55, 2945) := by
  obtain ⟨P6, e6, p6⟩ := sp6_mean c (f (i + 1)) hx hm6
  obtain ⟨P7, e7, p7⟩ := sp7_mean m (f (i + 1)) hm7
  generalize hp : (cMean c (f (i + 1))).2 = p at e6 he
  have he : p = (rMean m (f (i + 1))).2 := he
  rw [← he] at e7
  have s586 : T 586 [some (.ref 4095), some (.ref 0), some (.ref 47), some (.int (nI i)), some (.double p), none, some (.double p), none] [] (LW (cMean c (f (i + 1))).1 (rMean m (f (i + 1))).1) (55, 2945) := by
    refine hT.1 (fun pc => Nat.beq pc 717) 60 _ _ _ _ _ ?_
    exact hT.2 [true, true, true, true, false, false, false, false] _ _ _ _ _ k
  have s560 : T 560 [some (.ref 4095), some (.ref 0), some (.ref 47), some (.int (nI i)), some (.double p), none, some (.double p), none] [] (LW (cMean c (f (i + 1))).1 (rMean m (f (i + 1))).1) (55, 2945) := by
    refine hT.1 (fun pc => Nat.beq pc 586) 60 _ _ _ _ _ ?_
    exact And.intro (fun _ => s586) (fun h1 => And.intro (fun h2 => absurd h2 h1) (fun h2 => And.intro (fun _ => s586) (fun h3 => absurd h3 h1)))
  have s4 : T 558 [some (.ref 4095), some (.ref 0), some (.ref 47), some (.int (nI i)), some (.double p), none, none, none] [.double p] (LW (cMean c (f (i + 1))).1 (rMean m (f (i + 1))).1) (55, 2945) := by
    refine hT.1 (fun pc => Nat.beq pc 560) 60 _ _ _ _ _ ?_
    exact s560
  have s3 : T 555 [some (.ref 4095), some (.ref 0), some (.ref 47), some (.int (nI i)), some (.double p), none, none, none] [.int (f (i + 1)), .ref 47] (LW (cMean c (f (i + 1))).1 m) (55, 2945) := lcall7_1 hT rfl rfl rfl rfl e7 p7 (fun _ => rfl) s4
  have s2 : T 547 (lwL i) [.double p] (LW (cMean c (f (i + 1))).1 m) (55, 2945) := by
    refine hT.1 (fun pc => Nat.beq pc 555) 60 _ _ _ _ _ ?_
    exact mjix_e (i + 1) (nI_1 i) (by omega) (by omega) (s3)
  have s1 : T 544 (lwL i) [.int (f (i + 1)), .ref 0] (LW c m) (55, 2945) := lcall6_1 hT rfl rfl rfl rfl e6 p6 hx.1 h3 (fun _ => rfl) s2
  refine hT.1 (fun pc => Nat.beq pc 544) 60 _ _ _ _ _ ?_
  exact mjix_e (i + 1) (nI_1 i) (by omega) (by omega) (s1)
set_option maxHeartbeats 4000000 in
set_option maxRecDepth 100000 in
theorem lc_ifPassed {n : Nat} {f : Nat → Int32} {R : mjM → Option Value → Nat × Nat → Prop} {T : Nat → mjL → List Value → mjM → Nat × Nat → Prop} (hT : mjC G_L_law (some (n, f)) R T) {i : Nat} (hi : i + 2 < n) (hn : n ≤ 1536) {c : CSt} {m : RSt} (hx : xOk c.2.2.2.2.1) (h3 : hOk2 (cF (cIf c (f (i + 1)) (f (i + 2))).1)) (h7 : r7Ok m) (he : (cIf c (f (i + 1)) (f (i + 2))).2 = (rIf m (f (i + 1)) (f (i + 2))).2) (k : T 717 (lwL i) [] (LW (cIf c (f (i + 1)) (f (i + 2))).1 (rIf m (f (i + 1)) (f (i + 2))).1) (55, 2945)) : T 589 (lwL i) [] (LW c m) (55, 2945) := by
  obtain ⟨P6, e6, p6⟩ := sp6_ifPassed c (f (i + 1)) (f (i + 2)) hx
  obtain ⟨P7, e7, p7⟩ := sp7_ifPassed m (f (i + 1)) (f (i + 2)) h7
  have s4 : T 617 (lwL i) [.int (rIf m (f (i + 1)) (f (i + 2))).2, .int (cIf c (f (i + 1)) (f (i + 2))).2] (LW (cIf c (f (i + 1)) (f (i + 2))).1 (rIf m (f (i + 1)) (f (i + 2))).1) (55, 2945) := by
    refine hT.1 (fun pc => Nat.beq pc 717) 60 _ _ _ _ _ ?_
    exact And.intro (fun _ => k) (fun h => absurd he h)
  have s3 : T 614 (lwL i) [.int (f (i + 2)), .int (f (i + 1)), .ref 47, .int (cIf c (f (i + 1)) (f (i + 2))).2] (LW (cIf c (f (i + 1)) (f (i + 2))).1 m) (55, 2945) := lcall7_2 hT rfl rfl rfl rfl e7 p7 (fun _ => rfl) s4
  have s2 : T 603 (lwL i) [.int (cIf c (f (i + 1)) (f (i + 2))).2] (LW (cIf c (f (i + 1)) (f (i + 2))).1 m) (55, 2945) := by
    refine hT.1 (fun pc => Nat.beq pc 614) 60 _ _ _ _ _ ?_
    exact mjix_e (i + 1) (nI_1 i) (by omega) (by omega) (mjix_e (i + 2) (nI_add i 2) (by omega) (by omega) (s3))
  have s1 : T 600 (lwL i) [.int (f (i + 2)), .int (f (i + 1)), .ref 0] (LW c m) (55, 2945) := lcall6_2 hT rfl rfl rfl rfl e6 p6 hx.1 h3 (fun _ => rfl) s2
  refine hT.1 (fun pc => Nat.beq pc 600) 60 _ _ _ _ _ ?_
  exact mjix_e (i + 1) (nI_1 i) (by omega) (by omega) (mjix_e (i + 2) (nI_add i 2) (by omega) (by omega) (s1))
set_option maxHeartbeats 4000000 in
set_option maxRecDepth 100000 in
theorem lc_fastest {n : Nat} {f : Nat → Int32} {R : mjM → Option Value → Nat × Nat → Prop} {T : Nat → mjL → List Value → mjM → Nat × Nat → Prop} (hT : mjC G_L_law (some (n, f)) R T) {i : Nat} (hi : i + 2 < n) (hn : n ≤ 1536) {c : CSt} {m : RSt} (hx : xOk c.2.2.2.2.1) (h3 : hOk2 (cF (cFast c (f (i + 1)) (f (i + 2))).1)) (h7 : r7Ok m) (he : (cFast c (f (i + 1)) (f (i + 2))).2 = (rFast m (f (i + 1)) (f (i + 2))).2) (k : T 717 (lwL i) [] (LW (cFast c (f (i + 1)) (f (i + 2))).1 (rFast m (f (i + 1)) (f (i + 2))).1) (55, 2945)) : T 622 (lwL i) [] (LW c m) (55, 2945) := by
  obtain ⟨P6, e6, p6⟩ := sp6_fastest c (f (i + 1)) (f (i + 2)) hx
  obtain ⟨P7, e7, p7⟩ := sp7_fastest m (f (i + 1)) (f (i + 2)) h7
  have s4 : T 650 (lwL i) [.int (rFast m (f (i + 1)) (f (i + 2))).2, .int (cFast c (f (i + 1)) (f (i + 2))).2] (LW (cFast c (f (i + 1)) (f (i + 2))).1 (rFast m (f (i + 1)) (f (i + 2))).1) (55, 2945) := by
    refine hT.1 (fun pc => Nat.beq pc 717) 60 _ _ _ _ _ ?_
    exact And.intro (fun _ => k) (fun h => absurd he h)
  have s3 : T 647 (lwL i) [.int (f (i + 2)), .int (f (i + 1)), .ref 47, .int (cFast c (f (i + 1)) (f (i + 2))).2] (LW (cFast c (f (i + 1)) (f (i + 2))).1 m) (55, 2945) := lcall7_2 hT rfl rfl rfl rfl e7 p7 (fun _ => rfl) s4
  have s2 : T 636 (lwL i) [.int (cFast c (f (i + 1)) (f (i + 2))).2] (LW (cFast c (f (i + 1)) (f (i + 2))).1 m) (55, 2945) := by
    refine hT.1 (fun pc => Nat.beq pc 647) 60 _ _ _ _ _ ?_
    exact mjix_e (i + 1) (nI_1 i) (by omega) (by omega) (mjix_e (i + 2) (nI_add i 2) (by omega) (by omega) (s3))
  have s1 : T 633 (lwL i) [.int (f (i + 2)), .int (f (i + 1)), .ref 0] (LW c m) (55, 2945) := lcall6_2 hT rfl rfl rfl rfl e6 p6 hx.1 h3 (fun _ => rfl) s2
  refine hT.1 (fun pc => Nat.beq pc 633) 60 _ _ _ _ _ ?_
  exact mjix_e (i + 1) (nI_1 i) (by omega) (by omega) (mjix_e (i + 2) (nI_add i 2) (by omega) (by omega) (s1))
set_option maxHeartbeats 4000000 in
set_option maxRecDepth 100000 in
theorem lc_evenIn {n : Nat} {f : Nat → Int32} {R : mjM → Option Value → Nat × Nat → Prop} {T : Nat → mjL → List Value → mjM → Nat × Nat → Prop} (hT : mjC G_L_law (some (n, f)) R T) {i : Nat} (hi : i + 2 < n) (hn : n ≤ 1536) {c : CSt} {m : RSt} (hx : xOk c.2.2.2.2.1) (h3 : hOk2 (cF (cEven c (f (i + 1))).1)) (h7 : r7Ok m) (he : (cEven c (f (i + 1))).2 = (rEven m (f (i + 1))).2) (k : T 717 (lwL i) [] (LW (cEven c (f (i + 1))).1 (rEven m (f (i + 1))).1) (55, 2945)) : T 655 (lwL i) [] (LW c m) (55, 2945) := by
  obtain ⟨P6, e6, p6⟩ := sp6_evenIn c (f (i + 1)) hx
  obtain ⟨P7, e7, p7⟩ := sp7_evenIn m (f (i + 1)) h7
  have s4 : T 673 (lwL i) [.int (rEven m (f (i + 1))).2, .int (cEven c (f (i + 1))).2] (LW (cEven c (f (i + 1))).1 (rEven m (f (i + 1))).1) (55, 2945) := by
    refine hT.1 (fun pc => Nat.beq pc 717) 60 _ _ _ _ _ ?_
    exact And.intro (fun _ => k) (fun h => absurd he h)
  have s3 : T 670 (lwL i) [.int (f (i + 1)), .ref 47, .int (cEven c (f (i + 1))).2] (LW (cEven c (f (i + 1))).1 m) (55, 2945) := lcall7_1 hT rfl rfl rfl rfl e7 p7 (fun _ => rfl) s4
  have s2 : T 664 (lwL i) [.int (cEven c (f (i + 1))).2] (LW (cEven c (f (i + 1))).1 m) (55, 2945) := by
    refine hT.1 (fun pc => Nat.beq pc 670) 60 _ _ _ _ _ ?_
    exact mjix_e (i + 1) (nI_1 i) (by omega) (by omega) (s3)
  have s1 : T 661 (lwL i) [.int (f (i + 1)), .ref 0] (LW c m) (55, 2945) := lcall6_1 hT rfl rfl rfl rfl e6 p6 hx.1 h3 (fun _ => rfl) s2
  refine hT.1 (fun pc => Nat.beq pc 661) 60 _ _ _ _ _ ?_
  exact mjix_e (i + 1) (nI_1 i) (by omega) (by omega) (s1)
set_option maxHeartbeats 4000000 in
set_option maxRecDepth 100000 in
theorem lc_undo {n : Nat} {f : Nat → Int32} {R : mjM → Option Value → Nat × Nat → Prop} {T : Nat → mjL → List Value → mjM → Nat × Nat → Prop} (hT : mjC G_L_law (some (n, f)) R T) {i : Nat} (hi : i + 2 < n) (hn : n ≤ 1536) {c : CSt} {m : RSt} (hx : xOk c.2.2.2.2.1) (h3 : hOk2 (cF (cUndo c).1)) (h7 : r7Ok m) (he : (cUndo c).2 = (rUndo m).2) (k : T 717 (lwL i) [] (LW (cUndo c).1 (rUndo m).1) (55, 2945)) : T 678 (lwL i) [] (LW c m) (55, 2945) := by
  obtain ⟨P6, e6, p6⟩ := sp6_undo c hx
  obtain ⟨P7, e7, p7⟩ := sp7_undo m h7
  have s4 : T 686 (lwL i) [.int (rUndo m).2, .int (cUndo c).2] (LW (cUndo c).1 (rUndo m).1) (55, 2945) := by
    refine hT.1 (fun pc => Nat.beq pc 717) 60 _ _ _ _ _ ?_
    exact And.intro (fun _ => k) (fun h => absurd he h)
  have s3 : T 683 (lwL i) [.ref 47, .int (cUndo c).2] (LW (cUndo c).1 m) (55, 2945) := lcall7_0 hT rfl rfl rfl rfl e7 p7 (fun _ => rfl) s4
  have s2 : T 682 (lwL i) [.int (cUndo c).2] (LW (cUndo c).1 m) (55, 2945) := by
    refine hT.1 (fun pc => Nat.beq pc 683) 60 _ _ _ _ _ ?_
    exact s3
  have s1 : T 679 (lwL i) [.ref 0] (LW c m) (55, 2945) := lcall6_0 hT rfl rfl rfl rfl e6 p6 hx.1 h3 (fun _ => rfl) s2
  refine hT.1 (fun pc => Nat.beq pc 679) 60 _ _ _ _ _ ?_
  exact s1
set_option maxHeartbeats 4000000 in
set_option maxRecDepth 100000 in
theorem lc_save {n : Nat} {f : Nat → Int32} {R : mjM → Option Value → Nat × Nat → Prop} {T : Nat → mjL → List Value → mjM → Nat × Nat → Prop} (hT : mjC G_L_law (some (n, f)) R T) {i : Nat} (hi : i + 2 < n) (hn : n ≤ 1536) {c : CSt} {m : RSt} (hx : xOk c.2.2.2.2.1) (h3 : hOk2 (cF (cSave c).1)) (h7 : r7Ok m) (he : (cSave c).2 = (rSave m).2) (k : T 717 (lwL i) [] (LW (cSave c).1 (rSave m).1) (55, 2945)) : T 691 (lwL i) [] (LW c m) (55, 2945) := by
  obtain ⟨P6, e6, p6⟩ := sp6_save c hx
  obtain ⟨P7, e7, p7⟩ := sp7_save m h7
  have s4 : T 699 (lwL i) [.int (rSave m).2, .int (cSave c).2] (LW (cSave c).1 (rSave m).1) (55, 2945) := by
    refine hT.1 (fun pc => Nat.beq pc 717) 60 _ _ _ _ _ ?_
    exact And.intro (fun _ => k) (fun h => absurd he h)
  have s3 : T 696 (lwL i) [.ref 47, .int (cSave c).2] (LW (cSave c).1 m) (55, 2945) := lcall7_0 hT rfl rfl rfl rfl e7 p7 (fun _ => rfl) s4
  have s2 : T 695 (lwL i) [.int (cSave c).2] (LW (cSave c).1 m) (55, 2945) := by
    refine hT.1 (fun pc => Nat.beq pc 696) 60 _ _ _ _ _ ?_
    exact s3
  have s1 : T 692 (lwL i) [.ref 0] (LW c m) (55, 2945) := lcall6_0 hT rfl rfl rfl rfl e6 p6 hx.1 h3 (fun _ => rfl) s2
  refine hT.1 (fun pc => Nat.beq pc 692) 60 _ _ _ _ _ ?_
  exact s1
set_option maxHeartbeats 4000000 in
set_option maxRecDepth 100000 in
theorem lc_restore {n : Nat} {f : Nat → Int32} {R : mjM → Option Value → Nat × Nat → Prop} {T : Nat → mjL → List Value → mjM → Nat × Nat → Prop} (hT : mjC G_L_law (some (n, f)) R T) {i : Nat} (hi : i + 2 < n) (hn : n ≤ 1536) {c : CSt} {m : RSt} (hx : xOk c.2.2.2.2.1) (h3 : hOk2 (cF (cRestore c).1)) (h7 : r7Ok m) (he : (cRestore c).2 = (rRestore m).2) (k : T 717 (lwL i) [] (LW (cRestore c).1 (rRestore m).1) (55, 2945)) : T 704 (lwL i) [] (LW c m) (55, 2945) := by
  obtain ⟨P6, e6, p6⟩ := sp6_restore c hx
  obtain ⟨P7, e7, p7⟩ := sp7_restore m h7
  have s4 : T 712 (lwL i) [.int (rRestore m).2, .int (cRestore c).2] (LW (cRestore c).1 (rRestore m).1) (55, 2945) := by
    refine hT.1 (fun pc => Nat.beq pc 717) 60 _ _ _ _ _ ?_
    exact And.intro (fun _ => k) (fun h => absurd he h)
  have s3 : T 709 (lwL i) [.ref 47, .int (cRestore c).2] (LW (cRestore c).1 m) (55, 2945) := lcall7_0 hT rfl rfl rfl rfl e7 p7 (fun _ => rfl) s4
  have s2 : T 708 (lwL i) [.int (cRestore c).2] (LW (cRestore c).1 m) (55, 2945) := by
    refine hT.1 (fun pc => Nat.beq pc 709) 60 _ _ _ _ _ ?_
    exact s3
  have s1 : T 705 (lwL i) [.ref 0] (LW c m) (55, 2945) := lcall6_0 hT rfl rfl rfl rfl e6 p6 hx.1 h3 (fun _ => rfl) s2
  refine hT.1 (fun pc => Nat.beq pc 705) 60 _ _ _ _ _ ?_
  exact s1
