/-! the pad: a text, and its reader -/
/-- characters, aims, rates, minutes; length, segments, part, number -/
abbrev DSt : Type := (Nat → Int32) × (Nat → Int32) × (Nat → Int32) × (Nat → Int32) × Int32 × Int32 × Int32 × Int32
def dw (d : DSt) : mjM := match d with
  | (ch, am, rt, mn, ln, sg, pt, nu) => [.inr (2, [.ref 1, .int ln, .ref 2, .ref 3, .ref 4, .int sg, .int pt, .int nu]), .inl (1, (60, .inl ch)), .inl (0, (20, .inl am)), .inl (0, (20, .inl rt)), .inl (0, (20, .inl mn))]
def rCh (M : mjM) (i : Nat) : Nat → Int32 := match M[i]? with
  | some (.inl (_, (_, .inl f))) => f
  | _ => fun _ => 0
def rD (M : mjM) : DSt := (rA M 1, rA M 2, rA M 3, rA M 4, rF M 0 1, rF M 0 5, rF M 0 6, rF M 0 7)
def gIsSeg (k : Int32) : Int32 := if k < 0 then 0 else if 20 ≤ k then 0 else 1
def gSeg (f : Nat → Int32) (k e : Int32) : Int32 := if gIsSeg k = 0 then e else f k.toNatClampNeg
def dKeep (sg : Int32) (f : Nat → Int32) (v : Int32) : Nat → Int32 := if sg < 0 then f else if 20 ≤ sg then f else upd f sg.toNatClampNeg v
def dKeepR (d : DSt) (r : Nat) (v : Int32) : DSt := match d with
  | (ch, am, rt, mn, ln, sg, pt, nu) => bif Nat.beq r 2 then (ch, dKeep sg am v, rt, mn, ln, sg, pt, nu) else bif Nat.beq r 3 then (ch, am, dKeep sg rt v, mn, ln, sg, pt, nu) else (ch, am, rt, dKeep sg mn v, ln, sg, pt, nu)
def dEnd (d : DSt) : DSt := match d with
  | (ch, am, rt, mn, ln, sg, pt, nu) => if pt = 1 then (ch, dKeep sg am nu, rt, mn, ln, sg, 2, -1) else if pt = 2 then (ch, am, dKeep sg rt nu, mn, ln, sg, 3, -1) else (ch, am, rt, dKeep sg mn nu, ln, sg + 1, 0, -1)
def dMost (pt : Int32) : Int32 := if pt = 1 then 1000 else if pt = 2 then 100 else 99
def dLeast (pt : Int32) : Int32 := if pt = 1 then 0 else 1
def dEndC (pt : Int32) : Int32 := if pt = 1 then 47 else if pt = 2 then 120 else 59
def dPt (pt : Int32) : Int32 := if pt = 0 then 1 else pt
def dNu (nu x : Int32) : Int32 := if nu = -1 then x else 10 * nu + x
def dDigit (d : DSt) (x : Int32) : DSt × Int32 := match d with
  | (ch, am, rt, mn, ln, sg, pt, nu) => if nu = 0 then ((ch, am, rt, mn, ln, sg, dPt pt, nu), 0) else ((ch, am, rt, mn, ln, sg, dPt pt, dNu nu x), if dNu nu x < dLeast (dPt pt) then 0 else if dMost (dPt pt) < dNu nu x then 0 else 1)
def dHold (d : DSt) (x : Int32) : DSt × Int32 := match d with
  | (ch, am, rt, mn, ln, sg, pt, nu) => if x = 104 then ((ch, dKeep sg am (-1), rt, mn, ln, sg, 3, nu), 1) else (d, 0)
noncomputable def kDigit (d : DSt) (x : Int32) : DSt × Int32 := kseal (dDigit d x)
noncomputable def kHold (d : DSt) (x : Int32) : DSt × Int32 := kseal (dHold d x)
noncomputable def kEnd (d : DSt) : DSt := kseal (dEnd d)
def dPart (d : DSt) : Int32 := d.2.2.2.2.2.2.1
def dNum (d : DSt) : Int32 := d.2.2.2.2.2.2.2
noncomputable def dOther (d : DSt) (x : Int32) : DSt × Int32 := if dPart d = 0 then kHold d x else if dNum d = -1 then (d, 0) else if x = dEndC (dPart d) then (kEnd d, 1) else (d, 0)
noncomputable def dReads (d : DSt) (x : Int32) : DSt × Int32 := if x < 48 then dOther d x else if 57 < x then dOther d x else kDigit d (x - 48)
noncomputable def kReads (d : DSt) (x : Int32) : DSt × Int32 := kseal (dReads d x)
noncomputable def dFin (d : DSt) : DSt × Int32 := if dPart d = 3 then (if dNum d = -1 then (d, d.2.2.2.2.1) else (kEnd d, -4)) else (d, d.2.2.2.2.1)
noncomputable def dScan : Nat → Nat → DSt → DSt × Int32
  | 0, _, d => dFin d
  | k + 1, i, d => if d.2.2.2.2.1 ≤ nI i then dFin d else if (kReads d (d.1 i)).2 = 0 then ((kReads d (d.1 i)).1, nI i) else dScan k (i + 1) (kReads d (d.1 i)).1
noncomputable def dFault (d : DSt) : DSt × Int32 := match d with
  | (ch, am, rt, mn, ln, _, _, _) => dScan 60 0 (ch, am, rt, mn, ln, 0, 0, -1)
def dTake (d : DSt) (x : Int32) : DSt × Int32 := match d with
  | (ch, am, rt, mn, ln, sg, pt, nu) => if ln < 0 then (d, 0) else if ln < 60 then ((upd ch ln.toNatClampNeg (vp_nar .char x), am, rt, mn, ln + 1, sg, pt, nu), 1) else (d, 0)
theorem dDigit_b (d : DSt) (x : Int32) : (dDigit d x).2 = 0 ∨ (dDigit d x).2 = 1 := by
  obtain ⟨ch, am, rt, mn, ln, sg, pt, nu⟩ := d
  unfold dDigit
  dsimp only
  split
  · exact Or.inl rfl
  · split
    · exact Or.inl rfl
    · split
      · exact Or.inl rfl
      · exact Or.inr rfl
theorem dHold_b (d : DSt) (x : Int32) : (dHold d x).2 = 0 ∨ (dHold d x).2 = 1 := by
  obtain ⟨ch, am, rt, mn, ln, sg, pt, nu⟩ := d
  unfold dHold
  dsimp only
  split
  · exact Or.inr rfl
  · exact Or.inl rfl
theorem nar01 {x : Int32} (h : x = 0 ∨ x = 1) : narrow .boolean (.int x) = .int x := by
  rcases h with rfl | rfl <;> rfl
def S_X3_isSegment : mjSp := fun M as => (M = [] ∧ as = [.int (aI as 0)], none, some (.int (gIsSeg (aI as 0))))
def S_X3_aimOf : mjSp := fun M as => (M = dw (rD M) ∧ as = [.ref 0, .int (aI as 1)], none, some (.int (gSeg (rA M 2) (aI as 1) (-1))))
def S_X3_rateOf : mjSp := fun M as => (M = dw (rD M) ∧ as = [.ref 0, .int (aI as 1)], none, some (.int (gSeg (rA M 3) (aI as 1) 1)))
def S_X3_minutesOf : mjSp := fun M as => (M = dw (rD M) ∧ as = [.ref 0, .int (aI as 1)], none, some (.int (gSeg (rA M 4) (aI as 1) 0)))
def S_X3_mostOfPart : mjSp := fun M as => (M = dw (rD M) ∧ as = [.ref 0], none, some (.int (dMost (rF M 0 6))))
def S_X3_leastOfPart : mjSp := fun M as => (M = dw (rD M) ∧ as = [.ref 0], none, some (.int (dLeast (rF M 0 6))))
def S_X3_endOfPart : mjSp := fun M as => (M = dw (rD M) ∧ as = [.ref 0], none, some (.int (dEndC (rF M 0 6))))
def S_X3_keepIn : mjSp := fun M as => ((M = dw (rD M) ∧ as = [.ref 0, .ref (aR as 1), .int (aI as 2)]) ∧ (aR as 1 = 2 ∨ aR as 1 = 3 ∨ aR as 1 = 4), some (dw (dKeepR (rD M) (aR as 1) (aI as 2))), none)
noncomputable def S_X3_endNumber : mjSp := fun M as => (M = dw (rD M) ∧ as = [.ref 0], some (dw (kEnd (rD M))), none)
noncomputable def S_X3_readsDigit : mjSp := fun M as => (M = dw (rD M) ∧ as = [.ref 0, .int (aI as 1)], some (dw (kDigit (rD M) (aI as 1)).1), some (.int (kDigit (rD M) (aI as 1)).2))
noncomputable def S_X3_readsHold : mjSp := fun M as => (M = dw (rD M) ∧ as = [.ref 0, .int (aI as 1)], some (dw (kHold (rD M) (aI as 1)).1), some (.int (kHold (rD M) (aI as 1)).2))
noncomputable def S_X3_reads : mjSp := fun M as => (M = dw (rD M) ∧ as = [.ref 0, .int (aI as 1)], some (dw (kReads (rD M) (aI as 1)).1), some (.int (kReads (rD M) (aI as 1)).2))
noncomputable def S_X3_findFault : mjSp := fun M as => (M = dw (rD M) ∧ as = [.ref 0], some (dw (kseal (dFault (rD M))).1), some (.int (kseal (dFault (rD M))).2))
noncomputable def S_X3_take : mjSp := fun M as => (M = dw (rD M) ∧ as = [.ref 0, .int (aI as 1)], some (dw (kseal (dTake (rD M) (aI as 1))).1), some (.int (kseal (dTake (rD M) (aI as 1))).2))
theorem inD0 {M : mjM} {as : List Value} (h : M = dw (rD M) ∧ as = [.ref 0]) : ∃ z, M = dw z ∧ as = [.ref 0] := ⟨_, h⟩
theorem inD1 {M : mjM} {as : List Value} (h : M = dw (rD M) ∧ as = [.ref 0, .int (aI as 1)]) : ∃ z x, M = dw z ∧ as = [.ref 0, .int x] := ⟨_, _, h⟩
theorem gIsSeg_ne {k : Int32} (h : ¬ gIsSeg k = 0) : ¬ k < 0 ∧ ¬ 20 ≤ k := by
  unfold gIsSeg at h
  by_cases h1 : k < 0
  · rw [if_pos h1] at h; exact absurd rfl h
  · by_cases h2 : 20 ≤ k
    · rw [if_neg h1, if_pos h2] at h; exact absurd rfl h
    · exact ⟨h1, h2⟩
def rm_X3_isSegment : Room := { frames := 0, cells := 0, slots := 0, locals := 0 }
noncomputable def G_X3_isSegment : mjG := (I_X3_isSegment, F_X3, [], (fun pc => []), Y0, (fun _ => none), (fun _ => none), (some .boolean), 0, 0, false, [])
set_option maxHeartbeats 20000000 in
set_option maxRecDepth 100000 in
theorem ok_X3_isSegment : mjOK G_X3_isSegment 1 S_X3_isSegment := by
  intro M as hP T hT
  obtain ⟨x, rfl, rfl⟩ := in1 hP
  refine hT.1 (fun _ => false) 40 _ _ _ _ _ ?_
  refine And.intro (fun h => ⟨rfl, rfl, mjsi ?_⟩) (fun h => And.intro (fun h2 => ⟨rfl, rfl, mjsi ?_⟩) (fun h2 => ⟨rfl, rfl, mjsi ?_⟩)) <;> (show _ = gIsSeg x; simp only [gIsSeg, h, if_true, if_false]) <;> simp only [h2, if_true, if_false]
set_option maxRecDepth 10000 in
theorem ct_X3_isSegment (l : Launch) : mjCT l yX3_isSegment cX3_isSegment 1 (some .boolean) rm_X3_isSegment S_X3_isSegment :=
  mjCT_of (own := RX3) (G := G_X3_isSegment) (plainFor_of_name pn_X3) rfl ok_X3_isSegment (fun meth hm => ⟨fun pc row h => (I_X3_isSegment_ok pc row h).1, F_X3_ok, fun _ h => absurd h List.not_mem_nil, (fun _ _ _ h => by cases h), (fun _ _ h => by cases h), ⟨Nat.le_refl _, Nat.le_refl _⟩, (fun h => by cases h), (fun h => absurd h (by decide)), fun _ h => absurd h List.not_mem_nil⟩) rfl rfl rfl (fun pc row h => (I_X3_isSegment_ok pc row h).2)
def rm_X3_aimOf : Room := { frames := 1, cells := 0, slots := 0, locals := 20 }
noncomputable def G_X3_aimOf : mjG := (I_X3_aimOf, F_X3, [(67, 1, 0, 1, 0, 0, S_X3_isSegment)], (fun pc => []), Y0, (fun _ => none), (fun _ => none), (some .int), 0, 0, false, [])
set_option maxHeartbeats 20000000 in
set_option maxRecDepth 100000 in
theorem ok_X3_aimOf : mjOK G_X3_aimOf 2 S_X3_aimOf := by
  intro M as hP T hT
  obtain ⟨⟨ch, am, rt, mn, ln, sg, pt, nu⟩, k, rfl, rfl⟩ := inD1 hP
  refine hT.1 (fun _ => false) 40 _ _ _ _ _ ?_
  refine And.intro ⟨rfl, rfl⟩ (And.intro (fun (h1 : gIsSeg k = 0) => ⟨rfl, mjsi ?_⟩) (fun (h1 : ¬ gIsSeg k = 0) => mjix_of (gIsSeg_ne h1).1 (gIsSeg_ne h1).2 rfl (by decide) ⟨rfl, mjsi ?_⟩))
  · exact (if_pos h1).symm
  · exact (if_neg h1).symm
set_option maxRecDepth 10000 in
theorem ct_X3_aimOf (l : Launch) : mjCT l yX3_aimOf cX3_aimOf 2 (some .int) rm_X3_aimOf S_X3_aimOf :=
  mjCT_of (own := RX3) (G := G_X3_aimOf) (plainFor_of_name pn_X3) rfl ok_X3_aimOf (fun meth hm => ⟨fun pc row h => (I_X3_aimOf_ok pc row h).1, F_X3_ok, List.forall_mem_cons.mpr ⟨⟨yX3_isSegment, cX3_isSegment, 1, (some .boolean), rm_X3_isSegment, ct_X3_isSegment l, ⟨rfl, rfl⟩, ⟨by decide, by decide⟩, by decide, nk_X3_isSegment, ln_X3_67, st_X3_isSegment⟩, fun _ h => absurd h List.not_mem_nil⟩, (fun _ _ _ h => by cases h), (fun _ _ h => by cases h), ⟨Nat.le_refl _, Nat.le_refl _⟩, (fun h => by cases h), (fun h => absurd h (by decide)), fun _ h => absurd h List.not_mem_nil⟩) rfl rfl rfl (fun pc row h => (I_X3_aimOf_ok pc row h).2)
def rm_X3_rateOf : Room := { frames := 1, cells := 0, slots := 0, locals := 20 }
noncomputable def G_X3_rateOf : mjG := (I_X3_rateOf, F_X3, [(67, 1, 0, 1, 0, 0, S_X3_isSegment)], (fun pc => []), Y0, (fun _ => none), (fun _ => none), (some .int), 0, 0, false, [])
set_option maxHeartbeats 20000000 in
set_option maxRecDepth 100000 in
theorem ok_X3_rateOf : mjOK G_X3_rateOf 2 S_X3_rateOf := by
  intro M as hP T hT
  obtain ⟨⟨ch, am, rt, mn, ln, sg, pt, nu⟩, k, rfl, rfl⟩ := inD1 hP
  refine hT.1 (fun _ => false) 40 _ _ _ _ _ ?_
  refine And.intro ⟨rfl, rfl⟩ (And.intro (fun (h1 : gIsSeg k = 0) => ⟨rfl, mjsi ?_⟩) (fun (h1 : ¬ gIsSeg k = 0) => mjix_of (gIsSeg_ne h1).1 (gIsSeg_ne h1).2 rfl (by decide) ⟨rfl, mjsi ?_⟩))
  · exact (if_pos h1).symm
  · exact (if_neg h1).symm
set_option maxRecDepth 10000 in
theorem ct_X3_rateOf (l : Launch) : mjCT l yX3_rateOf cX3_rateOf 2 (some .int) rm_X3_rateOf S_X3_rateOf :=
  mjCT_of (own := RX3) (G := G_X3_rateOf) (plainFor_of_name pn_X3) rfl ok_X3_rateOf (fun meth hm => ⟨fun pc row h => (I_X3_rateOf_ok pc row h).1, F_X3_ok, List.forall_mem_cons.mpr ⟨⟨yX3_isSegment, cX3_isSegment, 1, (some .boolean), rm_X3_isSegment, ct_X3_isSegment l, ⟨rfl, rfl⟩, ⟨by decide, by decide⟩, by decide, nk_X3_isSegment, ln_X3_67, st_X3_isSegment⟩, fun _ h => absurd h List.not_mem_nil⟩, (fun _ _ _ h => by cases h), (fun _ _ h => by cases h), ⟨Nat.le_refl _, Nat.le_refl _⟩, (fun h => by cases h), (fun h => absurd h (by decide)), fun _ h => absurd h List.not_mem_nil⟩) rfl rfl rfl (fun pc row h => (I_X3_rateOf_ok pc row h).2)
def rm_X3_minutesOf : Room := { frames := 1, cells := 0, slots := 0, locals := 20 }
noncomputable def G_X3_minutesOf : mjG := (I_X3_minutesOf, F_X3, [(67, 1, 0, 1, 0, 0, S_X3_isSegment)], (fun pc => []), Y0, (fun _ => none), (fun _ => none), (some .int), 0, 0, false, [])
set_option maxHeartbeats 20000000 in
set_option maxRecDepth 100000 in
theorem ok_X3_minutesOf : mjOK G_X3_minutesOf 2 S_X3_minutesOf := by
  intro M as hP T hT
  obtain ⟨⟨ch, am, rt, mn, ln, sg, pt, nu⟩, k, rfl, rfl⟩ := inD1 hP
  refine hT.1 (fun _ => false) 40 _ _ _ _ _ ?_
  refine And.intro ⟨rfl, rfl⟩ (And.intro (fun (h1 : gIsSeg k = 0) => ⟨rfl, mjsi ?_⟩) (fun (h1 : ¬ gIsSeg k = 0) => mjix_of (gIsSeg_ne h1).1 (gIsSeg_ne h1).2 rfl (by decide) ⟨rfl, mjsi ?_⟩))
  · exact (if_pos h1).symm
  · exact (if_neg h1).symm
set_option maxRecDepth 10000 in
theorem ct_X3_minutesOf (l : Launch) : mjCT l yX3_minutesOf cX3_minutesOf 2 (some .int) rm_X3_minutesOf S_X3_minutesOf :=
  mjCT_of (own := RX3) (G := G_X3_minutesOf) (plainFor_of_name pn_X3) rfl ok_X3_minutesOf (fun meth hm => ⟨fun pc row h => (I_X3_minutesOf_ok pc row h).1, F_X3_ok, List.forall_mem_cons.mpr ⟨⟨yX3_isSegment, cX3_isSegment, 1, (some .boolean), rm_X3_isSegment, ct_X3_isSegment l, ⟨rfl, rfl⟩, ⟨by decide, by decide⟩, by decide, nk_X3_isSegment, ln_X3_67, st_X3_isSegment⟩, fun _ h => absurd h List.not_mem_nil⟩, (fun _ _ _ h => by cases h), (fun _ _ h => by cases h), ⟨Nat.le_refl _, Nat.le_refl _⟩, (fun h => by cases h), (fun h => absurd h (by decide)), fun _ h => absurd h List.not_mem_nil⟩) rfl rfl rfl (fun pc row h => (I_X3_minutesOf_ok pc row h).2)
def rm_X3_mostOfPart : Room := { frames := 0, cells := 0, slots := 0, locals := 0 }
noncomputable def G_X3_mostOfPart : mjG := (I_X3_mostOfPart, F_X3, [], (fun pc => []), Y0, (fun _ => none), (fun _ => none), (some .int), 0, 0, false, [])
set_option maxHeartbeats 20000000 in
set_option maxRecDepth 100000 in
theorem ok_X3_mostOfPart : mjOK G_X3_mostOfPart 1 S_X3_mostOfPart := by
  intro M as hP T hT
  obtain ⟨⟨ch, am, rt, mn, ln, sg, pt, nu⟩, rfl, rfl⟩ := inD0 hP
  refine hT.1 (fun _ => false) 40 _ _ _ _ _ ?_
  refine And.intro (fun (h1 : ¬ pt = 1) => And.intro (fun (h2 : ¬ pt = 2) => ⟨rfl, mjsi ?_⟩) (fun (h2 : pt = 2) => ⟨rfl, mjsi ?_⟩)) (fun (h1 : pt = 1) => ⟨rfl, mjsi ?_⟩)
  · exact ((if_neg h1).trans (if_neg h2)).symm
  · exact ((if_neg h1).trans (if_pos h2)).symm
  · exact (if_pos h1).symm
set_option maxRecDepth 10000 in
theorem ct_X3_mostOfPart (l : Launch) : mjCT l yX3_mostOfPart cX3_mostOfPart 1 (some .int) rm_X3_mostOfPart S_X3_mostOfPart :=
  mjCT_of (own := RX3) (G := G_X3_mostOfPart) (plainFor_of_name pn_X3) rfl ok_X3_mostOfPart (fun meth hm => ⟨fun pc row h => (I_X3_mostOfPart_ok pc row h).1, F_X3_ok, fun _ h => absurd h List.not_mem_nil, (fun _ _ _ h => by cases h), (fun _ _ h => by cases h), ⟨Nat.le_refl _, Nat.le_refl _⟩, (fun h => by cases h), (fun h => absurd h (by decide)), fun _ h => absurd h List.not_mem_nil⟩) rfl rfl rfl (fun pc row h => (I_X3_mostOfPart_ok pc row h).2)
def rm_X3_leastOfPart : Room := { frames := 0, cells := 0, slots := 0, locals := 0 }
noncomputable def G_X3_leastOfPart : mjG := (I_X3_leastOfPart, F_X3, [], (fun pc => []), Y0, (fun _ => none), (fun _ => none), (some .int), 0, 0, false, [])
set_option maxHeartbeats 20000000 in
set_option maxRecDepth 100000 in
theorem ok_X3_leastOfPart : mjOK G_X3_leastOfPart 1 S_X3_leastOfPart := by
  intro M as hP T hT
  obtain ⟨⟨ch, am, rt, mn, ln, sg, pt, nu⟩, rfl, rfl⟩ := inD0 hP
  refine hT.1 (fun _ => false) 40 _ _ _ _ _ ?_
  refine And.intro (fun (h1 : ¬ pt = 1) => ⟨rfl, mjsi ?_⟩) (fun (h1 : pt = 1) => ⟨rfl, mjsi ?_⟩)
  · exact (if_neg h1).symm
  · exact (if_pos h1).symm
set_option maxRecDepth 10000 in
theorem ct_X3_leastOfPart (l : Launch) : mjCT l yX3_leastOfPart cX3_leastOfPart 1 (some .int) rm_X3_leastOfPart S_X3_leastOfPart :=
  mjCT_of (own := RX3) (G := G_X3_leastOfPart) (plainFor_of_name pn_X3) rfl ok_X3_leastOfPart (fun meth hm => ⟨fun pc row h => (I_X3_leastOfPart_ok pc row h).1, F_X3_ok, fun _ h => absurd h List.not_mem_nil, (fun _ _ _ h => by cases h), (fun _ _ h => by cases h), ⟨Nat.le_refl _, Nat.le_refl _⟩, (fun h => by cases h), (fun h => absurd h (by decide)), fun _ h => absurd h List.not_mem_nil⟩) rfl rfl rfl (fun pc row h => (I_X3_leastOfPart_ok pc row h).2)
def rm_X3_endOfPart : Room := { frames := 0, cells := 0, slots := 0, locals := 0 }
noncomputable def G_X3_endOfPart : mjG := (I_X3_endOfPart, F_X3, [], (fun pc => []), Y0, (fun _ => none), (fun _ => none), (some .char), 0, 0, false, [])
set_option maxHeartbeats 20000000 in
set_option maxRecDepth 100000 in
theorem ok_X3_endOfPart : mjOK G_X3_endOfPart 1 S_X3_endOfPart := by
  intro M as hP T hT
  obtain ⟨⟨ch, am, rt, mn, ln, sg, pt, nu⟩, rfl, rfl⟩ := inD0 hP
  refine hT.1 (fun _ => false) 40 _ _ _ _ _ ?_
  refine And.intro (fun (h1 : ¬ pt = 1) => And.intro (fun (h2 : ¬ pt = 2) => ⟨rfl, rfl, mjsi ?_⟩) (fun (h2 : pt = 2) => ⟨rfl, rfl, mjsi ?_⟩)) (fun (h1 : pt = 1) => ⟨rfl, rfl, mjsi ?_⟩)
  · exact ((if_neg h1).trans (if_neg h2)).symm
  · exact ((if_neg h1).trans (if_pos h2)).symm
  · exact (if_pos h1).symm
set_option maxRecDepth 10000 in
theorem ct_X3_endOfPart (l : Launch) : mjCT l yX3_endOfPart cX3_endOfPart 1 (some .char) rm_X3_endOfPart S_X3_endOfPart :=
  mjCT_of (own := RX3) (G := G_X3_endOfPart) (plainFor_of_name pn_X3) rfl ok_X3_endOfPart (fun meth hm => ⟨fun pc row h => (I_X3_endOfPart_ok pc row h).1, F_X3_ok, fun _ h => absurd h List.not_mem_nil, (fun _ _ _ h => by cases h), (fun _ _ h => by cases h), ⟨Nat.le_refl _, Nat.le_refl _⟩, (fun h => by cases h), (fun h => absurd h (by decide)), fun _ h => absurd h List.not_mem_nil⟩) rfl rfl rfl (fun pc row h => (I_X3_endOfPart_ok pc row h).2)
def rm_X3_keepIn : Room := { frames := 0, cells := 0, slots := 0, locals := 0 }
noncomputable def G_X3_keepIn : mjG := (I_X3_keepIn, F_X3, [], (fun pc => []), Y0, (fun _ => none), (fun _ => none), none, 0, 0, false, [])
theorem dKeep_lt {sg : Int32} {f : Nat → Int32} {v : Int32} (h : sg < 0) : f = dKeep sg f v := (if_pos h).symm
theorem dKeep_ge {sg : Int32} {f : Nat → Int32} {v : Int32} (h : ¬ sg < 0) (h2 : 20 ≤ sg) : f = dKeep sg f v := ((if_neg h).trans (if_pos h2)).symm
theorem dKeep_in {sg : Int32} {f : Nat → Int32} {v : Int32} (h : ¬ sg < 0) (h2 : ¬ 20 ≤ sg) : upd f sg.toNatClampNeg v = dKeep sg f v := ((if_neg h).trans (if_neg h2)).symm
theorem dw2 {ch am rt mn am' : Nat → Int32} {r} (e : am = am') : dw (ch, am, rt, mn, r) = dw (ch, am', rt, mn, r) := by rw [e]
theorem dw3 {ch am rt mn rt' : Nat → Int32} {r} (e : rt = rt') : dw (ch, am, rt, mn, r) = dw (ch, am, rt', mn, r) := by rw [e]
theorem dw4 {ch am rt mn mn' : Nat → Int32} {r} (e : mn = mn') : dw (ch, am, rt, mn, r) = dw (ch, am, rt, mn', r) := by rw [e]
set_option maxHeartbeats 20000000 in
set_option maxRecDepth 100000 in
theorem ok_X3_keepIn : mjOK G_X3_keepIn 3 S_X3_keepIn := by
  intro M as hP T hT
  obtain ⟨⟨ch, am, rt, mn, ln, sg, pt, nu⟩, r, v, rfl, rfl, hr⟩ : ∃ z r v, M = dw z ∧ as = [.ref 0, .ref r, .int v] ∧ (r = 2 ∨ r = 3 ∨ r = 4) := ⟨_, _, _, hP.1.1, hP.1.2, hP.2⟩
  rcases hr with rfl | rfl | rfl
  · refine hT.1 (fun _ => false) 40 _ _ _ _ _ ?_
    exact And.intro (fun (h1 : sg < 0) => ⟨dw2 (dKeep_lt h1), rfl⟩) (fun (h1 : ¬ sg < 0) => And.intro (fun (h2 : 20 ≤ sg) => ⟨dw2 (dKeep_ge h1 h2), rfl⟩) (fun (h2 : ¬ 20 ≤ sg) => mjix_of h1 h2 rfl (by decide) ⟨(show dw (ch, upd am sg.toNatClampNeg v, rt, mn, ln, sg, pt, nu) = dw (ch, dKeep sg am v, rt, mn, ln, sg, pt, nu) from dw2 (dKeep_in h1 h2)), rfl⟩))
  · refine hT.1 (fun _ => false) 40 _ _ _ _ _ ?_
    exact And.intro (fun (h1 : sg < 0) => ⟨dw3 (dKeep_lt h1), rfl⟩) (fun (h1 : ¬ sg < 0) => And.intro (fun (h2 : 20 ≤ sg) => ⟨dw3 (dKeep_ge h1 h2), rfl⟩) (fun (h2 : ¬ 20 ≤ sg) => mjix_of h1 h2 rfl (by decide) ⟨(show dw (ch, am, upd rt sg.toNatClampNeg v, mn, ln, sg, pt, nu) = dw (ch, am, dKeep sg rt v, mn, ln, sg, pt, nu) from dw3 (dKeep_in h1 h2)), rfl⟩))
  · refine hT.1 (fun _ => false) 40 _ _ _ _ _ ?_
    exact And.intro (fun (h1 : sg < 0) => ⟨dw4 (dKeep_lt h1), rfl⟩) (fun (h1 : ¬ sg < 0) => And.intro (fun (h2 : 20 ≤ sg) => ⟨dw4 (dKeep_ge h1 h2), rfl⟩) (fun (h2 : ¬ 20 ≤ sg) => mjix_of h1 h2 rfl (by decide) ⟨(show dw (ch, am, rt, upd mn sg.toNatClampNeg v, ln, sg, pt, nu) = dw (ch, am, rt, dKeep sg mn v, ln, sg, pt, nu) from dw4 (dKeep_in h1 h2)), rfl⟩))
set_option maxRecDepth 10000 in
theorem ct_X3_keepIn (l : Launch) : mjCT l yX3_keepIn cX3_keepIn 3 none rm_X3_keepIn S_X3_keepIn :=
  mjCT_of (own := RX3) (G := G_X3_keepIn) (plainFor_of_name pn_X3) rfl ok_X3_keepIn (fun meth hm => ⟨fun pc row h => (I_X3_keepIn_ok pc row h).1, F_X3_ok, fun _ h => absurd h List.not_mem_nil, (fun _ _ _ h => by cases h), (fun _ _ h => by cases h), ⟨Nat.le_refl _, Nat.le_refl _⟩, (fun h => by cases h), (fun h => absurd h (by decide)), fun _ h => absurd h List.not_mem_nil⟩) rfl rfl rfl (fun pc row h => (I_X3_keepIn_ok pc row h).2)
def rm_X3_endNumber : Room := { frames := 1, cells := 0, slots := 0, locals := 22 }
noncomputable def G_X3_endNumber : mjG := (I_X3_endNumber, F_X3, [(56, 0, 2, 3, 0, 0, S_X3_keepIn)], (fun pc => [0, 1, 2, 3, 4]), Y0, (fun _ => none), (fun _ => none), none, 0, 0, false, [])
set_option maxHeartbeats 20000000 in
set_option maxRecDepth 100000 in
theorem ok_X3_endNumber : mjOK G_X3_endNumber 1 S_X3_endNumber := by
  intro M as hP T hT
  obtain ⟨⟨ch, am, rt, mn, ln, sg, pt, nu⟩, rfl, rfl⟩ := inD0 hP
  have fin : (S_X3_endNumber (dw (ch, am, rt, mn, ln, sg, pt, nu)) [.ref 0]).2.1 = some (dw (kseal (dEnd (ch, am, rt, mn, ln, sg, pt, nu)))) := rfl
  have fin2 : (S_X3_endNumber (dw (ch, am, rt, mn, ln, sg, pt, nu)) [.ref 0]).2.2 = none := rfl
  rw [kseal_eq] at fin
  generalize S_X3_endNumber (dw (ch, am, rt, mn, ln, sg, pt, nu)) [.ref 0] = SS at hT fin fin2
  have hz : dEnd (ch, am, rt, mn, ln, sg, pt, nu) = if pt = 1 then (ch, dKeep sg am nu, rt, mn, ln, sg, 2, -1) else if pt = 2 then (ch, am, dKeep sg rt nu, mn, ln, sg, 3, -1) else (ch, am, rt, dKeep sg mn nu, ln, sg + 1, 0, -1) := rfl
  refine hT.1 (fun _ => false) 60 _ _ _ _ _ ?_
  refine And.intro (fun (h1 : ¬ pt = 1) => And.intro (fun (h2 : ¬ pt = 2) => And.intro ⟨⟨rfl, rfl⟩, Or.inr (Or.inr rfl)⟩ ⟨?_, fin2.symm⟩) (fun (h2 : pt = 2) => And.intro ⟨⟨rfl, rfl⟩, Or.inr (Or.inl rfl)⟩ ⟨?_, fin2.symm⟩)) (fun (h1 : pt = 1) => And.intro ⟨⟨rfl, rfl⟩, Or.inl rfl⟩ ⟨?_, fin2.symm⟩)
  · rw [fin, hz, if_neg h1, if_neg h2]
    rfl
  · rw [fin, hz, if_neg h1, if_pos h2]
    rfl
  · rw [fin, hz, if_pos h1]
    rfl
set_option maxRecDepth 10000 in
theorem ct_X3_endNumber (l : Launch) : mjCT l yX3_endNumber cX3_endNumber 1 none rm_X3_endNumber S_X3_endNumber :=
  mjCT_of (own := RX3) (G := G_X3_endNumber) (plainFor_of_name pn_X3) rfl ok_X3_endNumber (fun meth hm => ⟨fun pc row h => (I_X3_endNumber_ok pc row h).1, F_X3_ok, List.forall_mem_cons.mpr ⟨⟨yX3_keepIn, cX3_keepIn, 3, none, rm_X3_keepIn, ct_X3_keepIn l, ⟨rfl, rfl⟩, ⟨by decide, by decide⟩, by decide, by decide, nk_X3_keepIn, ln_X3_56, im_X3_keepIn, se_X3_keepIn, rfl⟩, fun _ h => absurd h List.not_mem_nil⟩, (fun _ _ _ h => by cases h), (fun _ _ h => by cases h), ⟨Nat.le_refl _, Nat.le_refl _⟩, (fun h => by cases h), (fun h => absurd h (by decide)), fun _ h => absurd h List.not_mem_nil⟩) rfl rfl rfl (fun pc row h => (I_X3_endNumber_ok pc row h).2)
def rm_X3_readsHold : Room := { frames := 1, cells := 0, slots := 0, locals := 22 }
noncomputable def G_X3_readsHold : mjG := (I_X3_readsHold, F_X3, [(56, 0, 2, 3, 0, 0, S_X3_keepIn)], (fun pc => [0, 1, 2, 3, 4]), Y0, (fun _ => none), (fun _ => none), (some .boolean), 0, 0, false, [])
set_option maxHeartbeats 20000000 in
set_option maxRecDepth 100000 in
theorem ok_X3_readsHold : mjOK G_X3_readsHold 2 S_X3_readsHold := by
  intro M as hP T hT
  obtain ⟨⟨ch, am, rt, mn, ln, sg, pt, nu⟩, x, rfl, rfl⟩ := inD1 hP
  have fin : (S_X3_readsHold (dw (ch, am, rt, mn, ln, sg, pt, nu)) [.ref 0, .int x]).2.1 = some (dw (kseal (dHold (ch, am, rt, mn, ln, sg, pt, nu) x)).1) := rfl
  have fin2 : (S_X3_readsHold (dw (ch, am, rt, mn, ln, sg, pt, nu)) [.ref 0, .int x]).2.2 = some (.int (kseal (dHold (ch, am, rt, mn, ln, sg, pt, nu) x)).2) := rfl
  rw [kseal_eq] at fin fin2
  generalize S_X3_readsHold (dw (ch, am, rt, mn, ln, sg, pt, nu)) [.ref 0, .int x] = SS at hT fin fin2
  have hz : dHold (ch, am, rt, mn, ln, sg, pt, nu) x = if x = 104 then ((ch, dKeep sg am (-1), rt, mn, ln, sg, 3, nu), 1) else ((ch, am, rt, mn, ln, sg, pt, nu), 0) := rfl
  rw [hz] at fin fin2
  refine hT.1 (fun _ => false) 60 _ _ _ _ _ ?_
  refine And.intro (fun (h1 : x = 104) => And.intro ⟨⟨rfl, rfl⟩, Or.inl rfl⟩ ⟨rfl, ?_, ?_⟩) (fun (h1 : ¬ x = 104) => ⟨rfl, ?_, ?_⟩)
  · rw [fin, if_pos h1]; rfl
  · rw [fin2, if_pos h1]
  · rw [fin, if_neg h1]; rfl
  · rw [fin2, if_neg h1]
set_option maxRecDepth 10000 in
theorem ct_X3_readsHold (l : Launch) : mjCT l yX3_readsHold cX3_readsHold 2 (some .boolean) rm_X3_readsHold S_X3_readsHold :=
  mjCT_of (own := RX3) (G := G_X3_readsHold) (plainFor_of_name pn_X3) rfl ok_X3_readsHold (fun meth hm => ⟨fun pc row h => (I_X3_readsHold_ok pc row h).1, F_X3_ok, List.forall_mem_cons.mpr ⟨⟨yX3_keepIn, cX3_keepIn, 3, none, rm_X3_keepIn, ct_X3_keepIn l, ⟨rfl, rfl⟩, ⟨by decide, by decide⟩, by decide, by decide, nk_X3_keepIn, ln_X3_56, im_X3_keepIn, se_X3_keepIn, rfl⟩, fun _ h => absurd h List.not_mem_nil⟩, (fun _ _ _ h => by cases h), (fun _ _ h => by cases h), ⟨Nat.le_refl _, Nat.le_refl _⟩, (fun h => by cases h), (fun h => absurd h (by decide)), fun _ h => absurd h List.not_mem_nil⟩) rfl rfl rfl (fun pc row h => (I_X3_readsHold_ok pc row h).2)
def rm_X3_readsDigit : Room := { frames := 1, cells := 0, slots := 0, locals := 20 }
noncomputable def G_X3_readsDigit : mjG := (I_X3_readsDigit, F_X3, [(60, 0, 2, 1, 0, 0, S_X3_leastOfPart), (64, 0, 2, 1, 0, 0, S_X3_mostOfPart)], (fun pc => [0, 1, 2, 3, 4]), Y0, (fun _ => none), (fun _ => none), (some .boolean), 0, 0, false, [])
set_option maxHeartbeats 20000000 in
set_option maxRecDepth 100000 in
theorem ok_X3_readsDigit : mjOK G_X3_readsDigit 2 S_X3_readsDigit := by
  intro M as hP T hT
  obtain ⟨⟨ch, am, rt, mn, ln, sg, pt, nu⟩, x, rfl, rfl⟩ := inD1 hP
  have fin : (S_X3_readsDigit (dw (ch, am, rt, mn, ln, sg, pt, nu)) [.ref 0, .int x]).2.1 = some (dw (kseal (dDigit (ch, am, rt, mn, ln, sg, pt, nu) x)).1) := rfl
  have fin2 : (S_X3_readsDigit (dw (ch, am, rt, mn, ln, sg, pt, nu)) [.ref 0, .int x]).2.2 = some (.int (kseal (dDigit (ch, am, rt, mn, ln, sg, pt, nu) x)).2) := rfl
  rw [kseal_eq] at fin fin2
  generalize S_X3_readsDigit (dw (ch, am, rt, mn, ln, sg, pt, nu)) [.ref 0, .int x] = SS at hT fin fin2
  have hz : dDigit (ch, am, rt, mn, ln, sg, pt, nu) x = if nu = 0 then ((ch, am, rt, mn, ln, sg, dPt pt, nu), 0) else ((ch, am, rt, mn, ln, sg, dPt pt, dNu nu x), if dNu nu x < dLeast (dPt pt) then 0 else if dMost (dPt pt) < dNu nu x then 0 else 1) := rfl
  rw [hz] at fin fin2
  have s1 : ∀ p1, p1 = dPt pt → T 12 [some (.ref 0), some (.int x)] [] (dw (ch, am, rt, mn, ln, sg, p1, nu)) (0, 0) := by
    intro p1 hp1
    rw [← hp1] at fin fin2
    have s2 : ¬ nu = 0 → ∀ n1, n1 = dNu nu x → T 46 [some (.ref 0), some (.int x)] [] (dw (ch, am, rt, mn, ln, sg, p1, n1)) (0, 0) := by
      intro h0 n1 hn1
      rw [← hn1, if_neg h0] at fin fin2
      refine hT.1 (fun _ => false) 60 _ _ _ _ _ ?_
      refine And.intro ⟨rfl, rfl⟩ (And.intro (fun (h1 : n1 < dLeast p1) => ⟨rfl, ?_, ?_⟩) (fun (h1 : ¬ n1 < dLeast p1) => And.intro ⟨rfl, rfl⟩ (And.intro (fun (h2 : dMost p1 < n1) => ⟨rfl, ?_, ?_⟩) (fun (h2 : ¬ dMost p1 < n1) => ⟨rfl, ?_, ?_⟩))))
      · rw [fin]; rfl
      · rw [fin2, if_pos h1]
      · rw [fin]; rfl
      · rw [fin2, if_neg h1, if_pos h2]
      · rw [fin]; rfl
      · rw [fin2, if_neg h1, if_neg h2]
    refine hT.1 (fun pc => Nat.beq pc 46) 60 _ _ _ _ _ ?_
    refine And.intro (fun (h1 : ¬ nu = 0) => And.intro (fun (h2 : ¬ nu = -1) => s2 h1 _ ?_) (fun (h2 : nu = -1) => s2 h1 _ ?_)) (fun (h1 : nu = 0) => ⟨rfl, ?_, ?_⟩)
    · exact (if_neg h2).symm
    · exact (if_pos h2).symm
    · rw [fin, if_pos h1]; rfl
    · rw [fin2, if_pos h1]
  refine hT.1 (fun pc => Nat.beq pc 12) 60 _ _ _ _ _ ?_
  refine And.intro (fun (h1 : ¬ pt = 0) => s1 _ ?_) (fun (h1 : pt = 0) => s1 _ ?_)
  · exact (if_neg h1).symm
  · exact (if_pos h1).symm
set_option maxRecDepth 10000 in
theorem ct_X3_readsDigit (l : Launch) : mjCT l yX3_readsDigit cX3_readsDigit 2 (some .boolean) rm_X3_readsDigit S_X3_readsDigit :=
  mjCT_of (own := RX3) (G := G_X3_readsDigit) (plainFor_of_name pn_X3) rfl ok_X3_readsDigit (fun meth hm => ⟨fun pc row h => (I_X3_readsDigit_ok pc row h).1, F_X3_ok, List.forall_mem_cons.mpr ⟨⟨yX3_leastOfPart, cX3_leastOfPart, 1, (some .int), rm_X3_leastOfPart, ct_X3_leastOfPart l, ⟨rfl, rfl⟩, ⟨by decide, by decide⟩, by decide, by decide, nk_X3_leastOfPart, ln_X3_60, im_X3_leastOfPart, se_X3_leastOfPart, rfl⟩, List.forall_mem_cons.mpr ⟨⟨yX3_mostOfPart, cX3_mostOfPart, 1, (some .int), rm_X3_mostOfPart, ct_X3_mostOfPart l, ⟨rfl, rfl⟩, ⟨by decide, by decide⟩, by decide, by decide, nk_X3_mostOfPart, ln_X3_64, im_X3_mostOfPart, se_X3_mostOfPart, rfl⟩, fun _ h => absurd h List.not_mem_nil⟩⟩, (fun _ _ _ h => by cases h), (fun _ _ h => by cases h), ⟨Nat.le_refl _, Nat.le_refl _⟩, (fun h => by cases h), (fun h => absurd h (by decide)), fun _ h => absurd h List.not_mem_nil⟩) rfl rfl rfl (fun pc row h => (I_X3_readsDigit_ok pc row h).2)
def rm_X3_reads : Room := { frames := 2, cells := 0, slots := 0, locals := 43 }
noncomputable def G_X3_reads : mjG := (I_X3_reads, F_X3, [(45, 0, 2, 2, 0, 0, S_X3_readsDigit), (49, 0, 2, 2, 0, 0, S_X3_readsHold), (52, 0, 2, 1, 0, 0, S_X3_endOfPart), (42, 0, 2, 1, 0, 0, S_X3_endNumber)], (fun pc => [0, 1, 2, 3, 4]), Y0, (fun _ => none), (fun _ => none), (some .boolean), 0, 0, false, [])
set_option maxHeartbeats 20000000 in
set_option maxRecDepth 100000 in
theorem ok_X3_reads : mjOK G_X3_reads 2 S_X3_reads := by
  intro M as hP T hT
  obtain ⟨⟨ch, am, rt, mn, ln, sg, pt, nu⟩, x, rfl, rfl⟩ := inD1 hP
  have fin : (S_X3_reads (dw (ch, am, rt, mn, ln, sg, pt, nu)) [.ref 0, .int x]).2.1 = some (dw (kseal (dReads (ch, am, rt, mn, ln, sg, pt, nu) x)).1) := rfl
  have fin2 : (S_X3_reads (dw (ch, am, rt, mn, ln, sg, pt, nu)) [.ref 0, .int x]).2.2 = some (.int (kseal (dReads (ch, am, rt, mn, ln, sg, pt, nu) x)).2) := rfl
  rw [kseal_eq] at fin fin2
  generalize S_X3_reads (dw (ch, am, rt, mn, ln, sg, pt, nu)) [.ref 0, .int x] = SS at hT fin fin2
  have hz : dReads (ch, am, rt, mn, ln, sg, pt, nu) x = if x < 48 then dOther (ch, am, rt, mn, ln, sg, pt, nu) x else if 57 < x then dOther (ch, am, rt, mn, ln, sg, pt, nu) x else kDigit (ch, am, rt, mn, ln, sg, pt, nu) (x - 48) := rfl
  have hy : dOther (ch, am, rt, mn, ln, sg, pt, nu) x = if pt = 0 then kHold (ch, am, rt, mn, ln, sg, pt, nu) x else if nu = -1 then ((ch, am, rt, mn, ln, sg, pt, nu), 0) else if x = dEndC pt then (kEnd (ch, am, rt, mn, ln, sg, pt, nu), 1) else ((ch, am, rt, mn, ln, sg, pt, nu), 0) := rfl
  have s1 : dReads (ch, am, rt, mn, ln, sg, pt, nu) x = dOther (ch, am, rt, mn, ln, sg, pt, nu) x → T 21 [some (.ref 0), some (.int x)] [] (dw (ch, am, rt, mn, ln, sg, pt, nu)) (0, 0) := by
    intro he
    rw [he, hy] at fin fin2
    refine hT.1 (fun _ => false) 60 _ _ _ _ _ ?_
    refine And.intro (fun (h1 : ¬ pt = 0) => And.intro (fun (h2 : nu = -1) => ⟨rfl, ?_, ?_⟩) (fun (h2 : ¬ nu = -1) => And.intro ⟨rfl, rfl⟩ (And.intro (fun (h3 : x = dEndC pt) => And.intro ⟨rfl, rfl⟩ ⟨rfl, ?_, ?_⟩) (fun (h3 : ¬ x = dEndC pt) => ⟨rfl, ?_, ?_⟩)))) (fun (h1 : pt = 0) => And.intro ⟨rfl, rfl⟩ ⟨?_, ?_, ?_⟩)
    · rw [fin, if_neg h1, if_pos h2]; rfl
    · rw [fin2, if_neg h1, if_pos h2]
    · rw [fin, if_neg h1, if_neg h2, if_pos h3]; rfl
    · rw [fin2, if_neg h1, if_neg h2, if_pos h3]
    · rw [fin, if_neg h1, if_neg h2, if_neg h3]; rfl
    · rw [fin2, if_neg h1, if_neg h2, if_neg h3]
    · show narrow .boolean (.int (kHold (ch, am, rt, mn, ln, sg, pt, nu) x).2) = .int (kHold (ch, am, rt, mn, ln, sg, pt, nu) x).2
      rw [kHold, kseal_eq]
      exact nar01 (dHold_b _ _)
    · rw [fin, if_pos h1]; rfl
    · rw [fin2, if_pos h1]; rfl
  refine hT.1 (fun pc => Nat.beq pc 21) 60 _ _ _ _ _ ?_
  refine And.intro (fun (h1 : x < 48) => s1 ?_) (fun (h1 : ¬ x < 48) => And.intro (fun (h2 : 57 < x) => s1 ?_) (fun (h2 : ¬ 57 < x) => And.intro ⟨rfl, rfl⟩ ⟨?_, ?_, ?_⟩))
  · rw [hz, if_pos h1]
  · rw [hz, if_neg h1, if_pos h2]
  · show narrow .boolean (.int (kDigit (ch, am, rt, mn, ln, sg, pt, nu) (x - 48)).2) = .int (kDigit (ch, am, rt, mn, ln, sg, pt, nu) (x - 48)).2
    rw [kDigit, kseal_eq]
    exact nar01 (dDigit_b _ _)
  · rw [fin, hz, if_neg h1, if_neg h2]; rfl
  · rw [fin2, hz, if_neg h1, if_neg h2]; rfl
set_option maxRecDepth 10000 in
theorem ct_X3_reads (l : Launch) : mjCT l yX3_reads cX3_reads 2 (some .boolean) rm_X3_reads S_X3_reads :=
  mjCT_of (own := RX3) (G := G_X3_reads) (plainFor_of_name pn_X3) rfl ok_X3_reads (fun meth hm => ⟨fun pc row h => (I_X3_reads_ok pc row h).1, F_X3_ok, List.forall_mem_cons.mpr ⟨⟨yX3_readsDigit, cX3_readsDigit, 2, (some .boolean), rm_X3_readsDigit, ct_X3_readsDigit l, ⟨rfl, rfl⟩, ⟨by decide, by decide⟩, by decide, by decide, nk_X3_readsDigit, ln_X3_45, im_X3_readsDigit, se_X3_readsDigit, rfl⟩, List.forall_mem_cons.mpr ⟨⟨yX3_readsHold, cX3_readsHold, 2, (some .boolean), rm_X3_readsHold, ct_X3_readsHold l, ⟨rfl, rfl⟩, ⟨by decide, by decide⟩, by decide, by decide, nk_X3_readsHold, ln_X3_49, im_X3_readsHold, se_X3_readsHold, rfl⟩, List.forall_mem_cons.mpr ⟨⟨yX3_endOfPart, cX3_endOfPart, 1, (some .char), rm_X3_endOfPart, ct_X3_endOfPart l, ⟨rfl, rfl⟩, ⟨by decide, by decide⟩, by decide, by decide, nk_X3_endOfPart, ln_X3_52, im_X3_endOfPart, se_X3_endOfPart, rfl⟩, List.forall_mem_cons.mpr ⟨⟨yX3_endNumber, cX3_endNumber, 1, none, rm_X3_endNumber, ct_X3_endNumber l, ⟨rfl, rfl⟩, ⟨by decide, by decide⟩, by decide, by decide, nk_X3_endNumber, ln_X3_42, im_X3_endNumber, se_X3_endNumber, rfl⟩, fun _ h => absurd h List.not_mem_nil⟩⟩⟩⟩, (fun _ _ _ h => by cases h), (fun _ _ h => by cases h), ⟨Nat.le_refl _, Nat.le_refl _⟩, (fun h => by cases h), (fun h => absurd h (by decide)), fun _ h => absurd h List.not_mem_nil⟩) rfl rfl rfl (fun pc row h => (I_X3_reads_ok pc row h).2)
def rm_X3_findFault : Room := { frames := 3, cells := 0, slots := 0, locals := 64 }
noncomputable def G_X3_findFault : mjG := (I_X3_findFault, F_X3, [(38, 0, 2, 2, 0, 0, S_X3_reads), (42, 0, 2, 1, 0, 0, S_X3_endNumber)], (fun pc => [0, 1, 2, 3, 4]), Y0, (fun _ => none), (fun _ => none), (some .int), 0, 0, false, [])
theorem dScan_s (k i : Nat) (d : DSt) : dScan (k + 1) i d = if d.2.2.2.2.1 ≤ nI i then dFin d else if (kReads d (d.1 i)).2 = 0 then ((kReads d (d.1 i)).1, nI i) else dScan k (i + 1) (kReads d (d.1 i)).1 := rfl
set_option maxHeartbeats 20000000 in
set_option maxRecDepth 100000 in
theorem ok_X3_findFault : mjOK G_X3_findFault 2 S_X3_findFault := by
  intro M as hP T hT
  obtain ⟨⟨ch, am, rt, mn, ln, sg, pt, nu⟩, rfl, rfl⟩ := inD0 hP
  have fin : (S_X3_findFault (dw (ch, am, rt, mn, ln, sg, pt, nu)) [.ref 0]).2.1 = some (dw (kseal (dFault (ch, am, rt, mn, ln, sg, pt, nu))).1) := rfl
  have fin2 : (S_X3_findFault (dw (ch, am, rt, mn, ln, sg, pt, nu)) [.ref 0]).2.2 = some (.int (kseal (dFault (ch, am, rt, mn, ln, sg, pt, nu))).2) := rfl
  rw [kseal_eq] at fin fin2
  have hz : dFault (ch, am, rt, mn, ln, sg, pt, nu) = dScan 60 0 (ch, am, rt, mn, ln, 0, 0, -1) := rfl
  generalize dFault (ch, am, rt, mn, ln, sg, pt, nu) = DF at hz fin fin2
  generalize S_X3_findFault (dw (ch, am, rt, mn, ln, sg, pt, nu)) [.ref 0] = SS at hT fin fin2
  have s3 : ∀ (d : DSt) (i : Nat), DF = dFin d → T 52 [some (.ref 0), some (.int (nI i))] [] (dw d) (0, 0) := by
    intro d i hd
    obtain ⟨ch, am, rt, mn, ln, sg, pt, nu⟩ := d
    have hy : dFin (ch, am, rt, mn, ln, sg, pt, nu) = if pt = 3 then (if nu = -1 then ((ch, am, rt, mn, ln, sg, pt, nu), ln) else (kEnd (ch, am, rt, mn, ln, sg, pt, nu), -4)) else ((ch, am, rt, mn, ln, sg, pt, nu), ln) := rfl
    rw [hd, hy] at fin fin2
    refine hT.1 (fun _ => false) 60 _ _ _ _ _ ?_
    refine And.intro (fun (h1 : ¬ pt = 3) => ⟨?_, ?_⟩) (fun (h1 : pt = 3) => And.intro (fun (h2 : ¬ nu = -1) => And.intro ⟨rfl, rfl⟩ ⟨?_, ?_⟩) (fun (h2 : nu = -1) => ⟨?_, ?_⟩))
    · rw [fin, if_neg h1]; rfl
    · rw [fin2, if_neg h1]
    · rw [fin, if_pos h1, if_neg h2]; rfl
    · rw [fin2, if_pos h1, if_neg h2]
    · rw [fin, if_pos h1, if_pos h2]; rfl
    · rw [fin2, if_pos h1, if_pos h2]
  have s1 : ∀ (d : DSt), DF = dScan (60 - 0) 0 d → T 17 [some (.ref 0), some (.int (nI 0))] [] (dw d) (0, 0) := by
    refine mjloop0 60 (fun i => ∀ (d : DSt), DF = dScan (60 - i) i d → T 17 [some (.ref 0), some (.int (nI i))] [] (dw d) (0, 0)) (fun i hi ih d hd => ?_) (fun d hd => ?_)
    · rw [show 60 - i = (60 - (i + 1)) + 1 by omega, dScan_s] at hd
      rw [nI_succ] at ih
      obtain ⟨ch, am, rt, mn, ln, sg, pt, nu⟩ := d
      have s4 : ∀ z, z = kReads (ch, am, rt, mn, ln, sg, pt, nu) (ch i) → ¬ ln ≤ nI i → T 41 [some (.ref 0), some (.int (nI i))] [.int z.2] (dw z.1) (0, 0) := by
        intro z hz1 hl
        rw [if_neg hl] at hd
        dsimp only at hd
        rw [← hz1] at hd
        refine hT.1 (fun pc => Nat.beq pc 17) 60 _ _ _ _ _ ?_
        refine And.intro (fun (h1 : ¬ z.2 = 0) => ih z.1 ?_) (fun (h1 : z.2 = 0) => ⟨?_, ?_⟩)
        · rw [hd, if_neg h1]
        · rw [fin, hd, if_pos h1]; rfl
        · rw [fin2, hd, if_pos h1]
      refine hT.1 (fun pc => Nat.beq pc 17 || Nat.beq pc 41 || Nat.beq pc 52) 60 _ _ _ _ _ ?_
      refine And.intro (fun (h1 : ln ≤ nI i) => s3 (ch, am, rt, mn, ln, sg, pt, nu) i ?_) (fun (h1 : ¬ ln ≤ nI i) => And.intro (fun h => absurd h (nI_ge hi (by decide))) (fun _ => mjix_n hi (by decide) (And.intro ⟨rfl, rfl⟩ (s4 _ rfl h1))))
      rw [hd, if_pos h1]
    · refine hT.1 (fun pc => Nat.beq pc 17 || Nat.beq pc 52) 60 _ _ _ _ _ ?_
      obtain ⟨ch, am, rt, mn, ln, sg, pt, nu⟩ := d
      exact And.intro (fun _ => s3 (ch, am, rt, mn, ln, sg, pt, nu) 60 hd) (fun _ => And.intro (fun _ => s3 (ch, am, rt, mn, ln, sg, pt, nu) 60 hd) (fun h => absurd (nI_le (Nat.le_refl 60) (by decide)) h))
  refine hT.1 (fun pc => Nat.beq pc 17) 60 _ _ _ _ _ ?_
  exact s1 (ch, am, rt, mn, ln, 0, 0, -1) hz
set_option maxRecDepth 10000 in
theorem ct_X3_findFault (l : Launch) : mjCT l yX3_findFault cX3_findFault 2 (some .int) rm_X3_findFault S_X3_findFault :=
  mjCT_of (own := RX3) (G := G_X3_findFault) (plainFor_of_name pn_X3) rfl ok_X3_findFault (fun meth hm => ⟨fun pc row h => (I_X3_findFault_ok pc row h).1, F_X3_ok, List.forall_mem_cons.mpr ⟨⟨yX3_reads, cX3_reads, 2, (some .boolean), rm_X3_reads, ct_X3_reads l, ⟨rfl, rfl⟩, ⟨by decide, by decide⟩, by decide, by decide, nk_X3_reads, ln_X3_38, im_X3_reads, se_X3_reads, rfl⟩, List.forall_mem_cons.mpr ⟨⟨yX3_endNumber, cX3_endNumber, 1, none, rm_X3_endNumber, ct_X3_endNumber l, ⟨rfl, rfl⟩, ⟨by decide, by decide⟩, by decide, by decide, nk_X3_endNumber, ln_X3_42, im_X3_endNumber, se_X3_endNumber, rfl⟩, fun _ h => absurd h List.not_mem_nil⟩⟩, (fun _ _ _ h => by cases h), (fun _ _ h => by cases h), ⟨Nat.le_refl _, Nat.le_refl _⟩, (fun h => by cases h), (fun h => absurd h (by decide)), fun _ h => absurd h List.not_mem_nil⟩) rfl rfl rfl (fun pc row h => (I_X3_findFault_ok pc row h).2)
def rm_X3_take : Room := { frames := 0, cells := 0, slots := 0, locals := 0 }
noncomputable def G_X3_take : mjG := (I_X3_take, F_X3, [], (fun pc => []), Y0, (fun _ => none), (fun _ => none), (some .boolean), 0, 0, false, [])
set_option maxHeartbeats 20000000 in
set_option maxRecDepth 100000 in
theorem ok_X3_take : mjOK G_X3_take 2 S_X3_take := by
  intro M as hP T hT
  obtain ⟨⟨ch, am, rt, mn, ln, sg, pt, nu⟩, x, rfl, rfl⟩ := inD1 hP
  have fin : (S_X3_take (dw (ch, am, rt, mn, ln, sg, pt, nu)) [.ref 0, .int x]).2.1 = some (dw (kseal (dTake (ch, am, rt, mn, ln, sg, pt, nu) x)).1) := rfl
  have fin2 : (S_X3_take (dw (ch, am, rt, mn, ln, sg, pt, nu)) [.ref 0, .int x]).2.2 = some (.int (kseal (dTake (ch, am, rt, mn, ln, sg, pt, nu) x)).2) := rfl
  rw [kseal_eq] at fin fin2
  have hz : dTake (ch, am, rt, mn, ln, sg, pt, nu) x = if ln < 0 then ((ch, am, rt, mn, ln, sg, pt, nu), 0) else if ln < 60 then ((upd ch ln.toNatClampNeg (vp_nar .char x), am, rt, mn, ln + 1, sg, pt, nu), 1) else ((ch, am, rt, mn, ln, sg, pt, nu), 0) := rfl
  rw [hz] at fin fin2
  generalize S_X3_take (dw (ch, am, rt, mn, ln, sg, pt, nu)) [.ref 0, .int x] = SS at hT fin fin2
  refine hT.1 (fun _ => false) 60 _ _ _ _ _ ?_
  refine And.intro (fun (h1 : ln < 0) => ⟨rfl, ?_, ?_⟩) (fun (h1 : ¬ ln < 0) => And.intro (fun (h2 : ln < 60) => mjix_of h1 (Int32.not_le.mpr h2) rfl (by decide) ⟨rfl, ?_, ?_⟩) (fun (h2 : ¬ ln < 60) => ⟨rfl, ?_, ?_⟩))
  · rw [fin, if_pos h1]; rfl
  · rw [fin2, if_pos h1]
  · rw [fin, if_neg h1, if_pos h2]; rfl
  · rw [fin2, if_neg h1, if_pos h2]
  · rw [fin, if_neg h1, if_neg h2]; rfl
  · rw [fin2, if_neg h1, if_neg h2]
set_option maxRecDepth 10000 in
theorem ct_X3_take (l : Launch) : mjCT l yX3_take cX3_take 2 (some .boolean) rm_X3_take S_X3_take :=
  mjCT_of (own := RX3) (G := G_X3_take) (plainFor_of_name pn_X3) rfl ok_X3_take (fun meth hm => ⟨fun pc row h => (I_X3_take_ok pc row h).1, F_X3_ok, fun _ h => absurd h List.not_mem_nil, (fun _ _ _ h => by cases h), (fun _ _ h => by cases h), ⟨Nat.le_refl _, Nat.le_refl _⟩, (fun h => by cases h), (fun h => absurd h (by decide)), fun _ h => absurd h List.not_mem_nil⟩) rfl rfl rfl (fun pc row h => (I_X3_take_ok pc row h).2)
