/-! the pane: what its looks answer -/
def nf {α : Type} (F : Nat → α → α) (a : α) : Nat → α
  | 0 => a
  | n + 1 => F n (nf F a n)
/-- heats, gains, strengths, cracked in; furnace, aim, rate, lead, rim, minutes, loss, flames -/
abbrev PSt : Type := (Nat → Int32) × (Nat → Int32) × (Nat → Int32) × (Nat → Int32) × Int32 × Int32 × Int32 × Int32 × Int32 × Int32 × Int32 × Int32
def pw (p : PSt) : mjM := match p with
  | (h, g, s, c, fu, ai, ra, le, ri, mi, lo, fl) => [.inr (3, [.ref 1, .ref 2, .ref 3, .ref 4, .int fu, .int ai, .int ra, .int le, .int ri, .int mi, .int lo, .int fl]), .inl (0, (36, .inl h)), .inl (0, (36, .inl g)), .inl (0, (60, .inl s)), .inl (0, (60, .inl c))]
def rP (M : mjM) : PSt := (rA M 1, rA M 2, rA M 3, rA M 4, rF M 0 4, rF M 0 5, rF M 0 6, rF M 0 7, rF M 0 8, rF M 0 9, rF M 0 10, rF M 0 11)
def pH (p : PSt) : Nat → Int32 := p.1
def pS (p : PSt) : Nat → Int32 := p.2.2.1
def pC (p : PSt) : Nat → Int32 := p.2.2.2.1
theorem inP0 {M : mjM} {as : List Value} (h : M = pw (rP M) ∧ as = [.ref 0]) : ∃ p, M = pw p ∧ as = [.ref 0] := ⟨_, h⟩
theorem inP1 {M : mjM} {as : List Value} (h : M = pw (rP M) ∧ as = [.ref 0, .int (aI as 1)]) : ∃ p x, M = pw p ∧ as = [.ref 0, .int x] := ⟨_, _, h⟩
theorem inP2 {M : mjM} {as : List Value} (h : M = pw (rP M) ∧ as = [.ref 0, .int (aI as 1), .int (aI as 2)]) : ∃ p x y, M = pw p ∧ as = [.ref 0, .int x, .int y] := ⟨_, _, _, h⟩
def gWh (c : Nat → Int32) (j : Int32) : Int32 := if j < 0 then 0 else if 60 ≤ j then 0 else if c j.toNatClampNeg = 0 then 1 else 0
def gJt (s : Nat → Int32) (j : Int32) : Int32 := if gIsJoint j = 0 then 0 else s j.toNatClampNeg
def gStr (h : Nat → Int32) (j : Int32) : Int32 := gAbs (gAt 36 h (gFirst j) - gAt 36 h (gSecond j))
def gMar (h s : Nat → Int32) (j : Int32) : Int32 := gJt s j - gStr h j
theorem gIsJoint_ne {j : Int32} (h : ¬ gIsJoint j = 0) : ¬ j < 0 ∧ ¬ 60 ≤ j := by
  unfold gIsJoint at h
  by_cases h1 : j < 0
  · rw [if_pos h1] at h; exact absurd rfl h
  · by_cases h2 : 60 ≤ j
    · rw [if_neg h1, if_pos h2] at h; exact absurd rfl h
    · exact ⟨h1, h2⟩
theorem gIsCell_ne {j : Int32} (h : ¬ gIsCell j = 0) : ¬ j < 0 ∧ ¬ 36 ≤ j := by
  unfold gIsCell at h
  by_cases h1 : j < 0
  · rw [if_pos h1] at h; exact absurd rfl h
  · by_cases h2 : 36 ≤ j
    · rw [if_neg h1, if_pos h2] at h; exact absurd rfl h
    · exact ⟨h1, h2⟩
abbrev pm0 (V : PSt → Int32) : mjSp := fun M as => (M = pw (rP M) ∧ as = [.ref 0], none, some (.int (V (rP M))))
abbrev pm1 (V : PSt → Int32 → Int32) : mjSp := fun M as => (M = pw (rP M) ∧ as = [.ref 0, .int (aI as 1)], none, some (.int (V (rP M) (aI as 1))))
def S_X4_heatAt : mjSp := pm1 fun p j => gAt 36 (pH p) j
def S_X4_isWhole : mjSp := pm1 fun p j => gWh (pC p) j
def S_X4_crackedMinuteOf : mjSp := pm1 fun p j => gJt (pC p) j
def S_X4_strengthOf : mjSp := pm1 fun p j => gJt (pS p) j
def S_X4_stressOf : mjSp := pm1 fun p j => gStr (pH p) j
def S_X4_marginOf : mjSp := pm1 fun p j => gMar (pH p) (pS p) j
def gWholeOf (c : Nat → Int32) (k : Int32) : Int32 := nf (fun i a => if gWh c (gJointAt k (nI i)) = 0 then a else a + 1) 0 4
def gBeside (c : Nat → Int32) (j : Int32) : Int32 := nf (fun i a => if gWh c (nI i) = 0 then a else if gTouch (nI i) j = 0 then a else a + 1) 0 60
def gStrOf (h c : Nat → Int32) (k : Int32) : Int32 := nf (fun i a => if gWh c (gJointAt k (nI i)) = 0 then a else gMax a (gStr h (gJointAt k (nI i)))) (-4) 4
def gStrMax (h c : Nat → Int32) : Int32 := nf (fun i a => if gWh c (nI i) = 0 then a else gMax a (gStr h (nI i))) (-4) 60
/-- the most strained joint so far, and its margin -/
def gWorst (h s c : Nat → Int32) : Nat → Int32 × Int32 := nf (fun i a => if gWh c (nI i) = 0 then a else if a.1 = -1 then (nI i, gMar h s (nI i)) else if a.2 ≤ gMar h s (nI i) then a else (nI i, gMar h s (nI i))) (-1, 0)
def gLeastMar (h s c : Nat → Int32) : Int32 := if (gWorst h s c 60).1 = -1 then -4 else gMar h s (gWorst h s c 60).1
def gPlace (h s c : Nat → Int32) (j : Int32) : Int32 := nf (fun i a => if gWh c (nI i) = 0 then a else if gMar h s (nI i) < gMar h s j then a + 1 else if gMar h s (nI i) = gMar h s j then (if j ≤ nI i then a else a + 1) else a) 0 60
/-- the first joint from i on that is whole and at the place -/
def gFind (h s c : Nat → Int32) (x : Int32) : Nat → Nat → Int32
  | _, 0 => -4
  | i, d + 1 => if gWh c (nI i) = 0 then gFind h s c x (i + 1) d else if gPlace h s c (nI i) = x then nI i else gFind h s c x (i + 1) d
def gCracked (c : Nat → Int32) : Int32 := nf (fun i a => if gWh c (nI i) = 0 then a + 1 else a) 0 60
def gSum (h : Nat → Int32) : Int32 := nf (fun i a => a + h i) 0 36
def gHot (h : Nat → Int32) : Int32 := nf (fun i a => gMax a (h (i + 1))) (h 0) 35
def gCold (h : Nat → Int32) : Int32 := nf (fun i a => gMin a (h (i + 1))) (h 0) 35
noncomputable def S_X4_wholeJointsOf : mjSp := pm1 fun p k => kseal (gWholeOf (pC p) k)
noncomputable def S_X4_wholeJointsBeside : mjSp := pm1 fun p k => kseal (gBeside (pC p) k)
noncomputable def S_X4_greatestStressOf : mjSp := pm1 fun p k => kseal (gStrOf (pH p) (pC p) k)
noncomputable def S_X4_greatestStress : mjSp := pm0 fun p => kseal (gStrMax (pH p) (pC p))
noncomputable def S_X4_mostStrained : mjSp := pm0 fun p => kseal ((gWorst (pH p) (pS p) (pC p) 60).1)
noncomputable def S_X4_leastMargin : mjSp := pm0 fun p => kseal (gLeastMar (pH p) (pS p) (pC p))
noncomputable def S_X4_placeOf : mjSp := pm1 fun p j => kseal (gPlace (pH p) (pS p) (pC p) j)
noncomputable def S_X4_strainedAt : mjSp := pm1 fun p x => kseal (gFind (pH p) (pS p) (pC p) x 0 60)
noncomputable def S_X4_crackedJoints : mjSp := pm0 fun p => kseal (gCracked (pC p))
noncomputable def S_X4_sumOfHeats : mjSp := pm0 fun p => kseal (gSum (pH p))
noncomputable def S_X4_greatestHeat : mjSp := pm0 fun p => kseal (gHot (pH p))
noncomputable def S_X4_leastHeat : mjSp := pm0 fun p => kseal (gCold (pH p))
def rm_X4_heatAt : Room := { frames := 0, cells := 0, slots := 0, locals := 0 }
noncomputable def G_X4_heatAt : mjG := (I_X4_heatAt, F_X4, [], (fun pc => []), Y0, (fun _ => none), (fun _ => none), (some .int), 0, 0, false, [])
set_option maxHeartbeats 20000000 in
set_option maxRecDepth 100000 in
theorem ok_X4_heatAt : mjOK G_X4_heatAt 2 S_X4_heatAt := by
  intro M as hP T hT
  obtain ⟨⟨h, g, s, c, fu, ai, ra, le, ri, mi, lo, fl⟩, j, rfl, rfl⟩ := inP1 hP
  refine hT.1 (fun _ => false) 40 _ _ _ _ _ ?_
  refine And.intro (fun h1 => ⟨rfl, mjsi ?_⟩) (fun h1 => And.intro (fun h2 => ⟨rfl, mjsi ?_⟩) (fun h2 => mjix_of h1 h2 rfl (by decide) ⟨rfl, mjsi ?_⟩))
  · exact (if_pos h1).symm
  · exact ((if_neg h1).trans (if_pos h2)).symm
  · exact ((if_neg h1).trans (if_neg h2)).symm
set_option maxRecDepth 10000 in
theorem ct_X4_heatAt (l : Launch) : mjCT l yX4_heatAt cX4_heatAt 2 (some .int) rm_X4_heatAt S_X4_heatAt :=
  mjCT_of (own := RX4) (G := G_X4_heatAt) (plainFor_of_name pn_X4) rfl ok_X4_heatAt (fun meth hm => ⟨fun pc row h => (I_X4_heatAt_ok pc row h).1, F_X4_ok, fun _ h => absurd h List.not_mem_nil, (fun _ _ _ h => by cases h), (fun _ _ h => by cases h), ⟨Nat.le_refl _, Nat.le_refl _⟩, (fun h => by cases h), (fun h => absurd h (by decide)), fun _ h => absurd h List.not_mem_nil⟩) rfl rfl rfl (fun pc row h => (I_X4_heatAt_ok pc row h).2)
def rm_X4_isWhole : Room := { frames := 0, cells := 0, slots := 0, locals := 0 }
noncomputable def G_X4_isWhole : mjG := (I_X4_isWhole, F_X4, [], (fun pc => []), Y0, (fun _ => none), (fun _ => none), (some .boolean), 0, 0, false, [])
set_option maxHeartbeats 20000000 in
set_option maxRecDepth 100000 in
theorem ok_X4_isWhole : mjOK G_X4_isWhole 2 S_X4_isWhole := by
  intro M as hP T hT
  obtain ⟨⟨h, g, s, c, fu, ai, ra, le, ri, mi, lo, fl⟩, j, rfl, rfl⟩ := inP1 hP
  refine hT.1 (fun _ => false) 40 _ _ _ _ _ ?_
  refine And.intro (fun h1 => ⟨rfl, rfl, mjsi ?_⟩) (fun h1 => And.intro (fun h2 => ⟨rfl, rfl, mjsi ?_⟩) (fun h2 => mjix_of h1 h2 rfl (by decide) (And.intro (fun h3 => ⟨rfl, rfl, mjsi ?_⟩) (fun h3 => ⟨rfl, rfl, mjsi ?_⟩))))
  · exact (if_pos h1).symm
  · exact ((if_neg h1).trans (if_pos h2)).symm
  · exact ((if_neg h1).trans ((if_neg h2).trans (if_neg h3))).symm
  · exact ((if_neg h1).trans ((if_neg h2).trans (if_pos h3))).symm
set_option maxRecDepth 10000 in
theorem ct_X4_isWhole (l : Launch) : mjCT l yX4_isWhole cX4_isWhole 2 (some .boolean) rm_X4_isWhole S_X4_isWhole :=
  mjCT_of (own := RX4) (G := G_X4_isWhole) (plainFor_of_name pn_X4) rfl ok_X4_isWhole (fun meth hm => ⟨fun pc row h => (I_X4_isWhole_ok pc row h).1, F_X4_ok, fun _ h => absurd h List.not_mem_nil, (fun _ _ _ h => by cases h), (fun _ _ h => by cases h), ⟨Nat.le_refl _, Nat.le_refl _⟩, (fun h => by cases h), (fun h => absurd h (by decide)), fun _ h => absurd h List.not_mem_nil⟩) rfl rfl rfl (fun pc row h => (I_X4_isWhole_ok pc row h).2)
def rm_X4_crackedMinuteOf : Room := { frames := 1, cells := 0, slots := 0, locals := 20 }
noncomputable def G_X4_crackedMinuteOf : mjG := (I_X4_crackedMinuteOf, F_X4, [(130, 1, 0, 1, 0, 0, S_X1_isJoint)], (fun pc => []), Y0, (fun _ => none), (fun _ => none), (some .int), 0, 0, false, [])
set_option maxHeartbeats 20000000 in
set_option maxRecDepth 100000 in
theorem ok_X4_crackedMinuteOf : mjOK G_X4_crackedMinuteOf 2 S_X4_crackedMinuteOf := by
  intro M as hP T hT
  obtain ⟨⟨h, g, s, c, fu, ai, ra, le, ri, mi, lo, fl⟩, j, rfl, rfl⟩ := inP1 hP
  refine hT.1 (fun _ => false) 40 _ _ _ _ _ ?_
  refine And.intro ⟨rfl, rfl⟩ (And.intro (fun (h1 : gIsJoint j = 0) => ⟨rfl, mjsi ?_⟩) (fun (h1 : ¬ gIsJoint j = 0) => mjix_of (gIsJoint_ne h1).1 (gIsJoint_ne h1).2 rfl (by decide) ⟨rfl, mjsi ?_⟩))
  · exact (if_pos h1).symm
  · exact (if_neg h1).symm
set_option maxRecDepth 10000 in
theorem ct_X4_crackedMinuteOf (l : Launch) : mjCT l yX4_crackedMinuteOf cX4_crackedMinuteOf 2 (some .int) rm_X4_crackedMinuteOf S_X4_crackedMinuteOf :=
  mjCT_of (own := RX4) (G := G_X4_crackedMinuteOf) (plainFor_of_name pn_X4) rfl ok_X4_crackedMinuteOf (fun meth hm => ⟨fun pc row h => (I_X4_crackedMinuteOf_ok pc row h).1, F_X4_ok, List.forall_mem_cons.mpr ⟨⟨yX1_isJoint, cX1_isJoint, 1, (some .boolean), rm_X1_isJoint, ct_X1_isJoint l, ⟨rfl, rfl⟩, ⟨by decide, by decide⟩, by decide, nk_X1_isJoint, ln_X4_130, st_X1_isJoint⟩, fun _ h => absurd h List.not_mem_nil⟩, (fun _ _ _ h => by cases h), (fun _ _ h => by cases h), ⟨Nat.le_refl _, Nat.le_refl _⟩, (fun h => by cases h), (fun h => absurd h (by decide)), fun _ h => absurd h List.not_mem_nil⟩) rfl rfl rfl (fun pc row h => (I_X4_crackedMinuteOf_ok pc row h).2)
def rm_X4_strengthOf : Room := { frames := 1, cells := 0, slots := 0, locals := 20 }
noncomputable def G_X4_strengthOf : mjG := (I_X4_strengthOf, F_X4, [(130, 1, 0, 1, 0, 0, S_X1_isJoint)], (fun pc => []), Y0, (fun _ => none), (fun _ => none), (some .int), 0, 0, false, [])
set_option maxHeartbeats 20000000 in
set_option maxRecDepth 100000 in
theorem ok_X4_strengthOf : mjOK G_X4_strengthOf 2 S_X4_strengthOf := by
  intro M as hP T hT
  obtain ⟨⟨h, g, s, c, fu, ai, ra, le, ri, mi, lo, fl⟩, j, rfl, rfl⟩ := inP1 hP
  refine hT.1 (fun _ => false) 40 _ _ _ _ _ ?_
  refine And.intro ⟨rfl, rfl⟩ (And.intro (fun (h1 : gIsJoint j = 0) => ⟨rfl, mjsi ?_⟩) (fun (h1 : ¬ gIsJoint j = 0) => mjix_of (gIsJoint_ne h1).1 (gIsJoint_ne h1).2 rfl (by decide) ⟨rfl, mjsi ?_⟩))
  · exact (if_pos h1).symm
  · exact (if_neg h1).symm
set_option maxRecDepth 10000 in
theorem ct_X4_strengthOf (l : Launch) : mjCT l yX4_strengthOf cX4_strengthOf 2 (some .int) rm_X4_strengthOf S_X4_strengthOf :=
  mjCT_of (own := RX4) (G := G_X4_strengthOf) (plainFor_of_name pn_X4) rfl ok_X4_strengthOf (fun meth hm => ⟨fun pc row h => (I_X4_strengthOf_ok pc row h).1, F_X4_ok, List.forall_mem_cons.mpr ⟨⟨yX1_isJoint, cX1_isJoint, 1, (some .boolean), rm_X1_isJoint, ct_X1_isJoint l, ⟨rfl, rfl⟩, ⟨by decide, by decide⟩, by decide, nk_X1_isJoint, ln_X4_130, st_X1_isJoint⟩, fun _ h => absurd h List.not_mem_nil⟩, (fun _ _ _ h => by cases h), (fun _ _ h => by cases h), ⟨Nat.le_refl _, Nat.le_refl _⟩, (fun h => by cases h), (fun h => absurd h (by decide)), fun _ h => absurd h List.not_mem_nil⟩) rfl rfl rfl (fun pc row h => (I_X4_strengthOf_ok pc row h).2)
def rm_X4_stressOf : Room := { frames := 1, cells := 0, slots := 0, locals := 21 }
noncomputable def G_X4_stressOf : mjG := (I_X4_stressOf, F_X4, [(94, 1, 0, 1, 0, 0, S_X1_firstCell), (103, 0, 3, 2, 0, 0, S_X4_heatAt), (100, 1, 0, 1, 0, 0, S_X1_secondCell), (133, 1, 0, 1, 0, 0, S_J9_abs_0f7a4)], (fun pc => bif Nat.beq pc 13 then [0, 1, 2, 3, 4] else bif Nat.beq pc 5 then [0, 1, 2, 3, 4] else []), Y0, (fun _ => none), (fun _ => none), (some .int), 0, 0, false, [])
set_option maxHeartbeats 20000000 in
set_option maxRecDepth 100000 in
theorem ok_X4_stressOf : mjOK G_X4_stressOf 2 S_X4_stressOf := by
  intro M as hP T hT
  obtain ⟨⟨h, g, s, c, fu, ai, ra, le, ri, mi, lo, fl⟩, j, rfl, rfl⟩ := inP1 hP
  refine hT.1 (fun _ => false) 40 _ _ _ _ _ ?_
  exact And.intro ⟨rfl, rfl⟩ (And.intro ⟨rfl, rfl⟩ (And.intro ⟨rfl, rfl⟩ (And.intro ⟨rfl, rfl⟩ (And.intro ⟨rfl, rfl⟩ ⟨rfl, rfl⟩))))
set_option maxRecDepth 10000 in
theorem ct_X4_stressOf (l : Launch) : mjCT l yX4_stressOf cX4_stressOf 2 (some .int) rm_X4_stressOf S_X4_stressOf :=
  mjCT_of (own := RX4) (G := G_X4_stressOf) (plainFor_of_name pn_X4) rfl ok_X4_stressOf (fun meth hm => ⟨fun pc row h => (I_X4_stressOf_ok pc row h).1, F_X4_ok, List.forall_mem_cons.mpr ⟨⟨yX1_firstCell, cX1_firstCell, 1, (some .int), rm_X1_firstCell, ct_X1_firstCell l, ⟨rfl, rfl⟩, ⟨by decide, by decide⟩, by decide, nk_X1_firstCell, ln_X4_94, st_X1_firstCell⟩, List.forall_mem_cons.mpr ⟨⟨yX4_heatAt, cX4_heatAt, 2, (some .int), rm_X4_heatAt, ct_X4_heatAt l, ⟨rfl, rfl⟩, ⟨by decide, by decide⟩, by decide, by decide, nk_X4_heatAt, ln_X4_103, im_X4_heatAt, se_X4_heatAt, rfl⟩, List.forall_mem_cons.mpr ⟨⟨yX1_secondCell, cX1_secondCell, 1, (some .int), rm_X1_secondCell, ct_X1_secondCell l, ⟨rfl, rfl⟩, ⟨by decide, by decide⟩, by decide, nk_X1_secondCell, ln_X4_100, st_X1_secondCell⟩, List.forall_mem_cons.mpr ⟨⟨yJ9_abs_0f7a4, cJ9_abs_0f7a4, 1, (some .int), rm_J9_abs_0f7a4, ct_J9_abs_0f7a4 l, ⟨rfl, rfl⟩, ⟨by decide, by decide⟩, by decide, nk_J9_abs_0f7a4, ln_X4_133, st_J9_abs_0f7a4⟩, fun _ h => absurd h List.not_mem_nil⟩⟩⟩⟩, (fun _ _ _ h => by cases h), (fun _ _ h => by cases h), ⟨Nat.le_refl _, Nat.le_refl _⟩, (fun h => by cases h), (fun h => absurd h (by decide)), fun _ h => absurd h List.not_mem_nil⟩) rfl rfl rfl (fun pc row h => (I_X4_stressOf_ok pc row h).2)
def rm_X4_marginOf : Room := { frames := 2, cells := 0, slots := 0, locals := 42 }
noncomputable def G_X4_marginOf : mjG := (I_X4_marginOf, F_X4, [(136, 0, 3, 2, 0, 0, S_X4_strengthOf), (139, 0, 3, 2, 0, 0, S_X4_stressOf)], (fun pc => [0, 1, 2, 3, 4]), Y0, (fun _ => none), (fun _ => none), (some .int), 0, 0, false, [])
set_option maxHeartbeats 20000000 in
set_option maxRecDepth 100000 in
theorem ok_X4_marginOf : mjOK G_X4_marginOf 2 S_X4_marginOf := by
  intro M as hP T hT
  obtain ⟨⟨h, g, s, c, fu, ai, ra, le, ri, mi, lo, fl⟩, j, rfl, rfl⟩ := inP1 hP
  refine hT.1 (fun _ => false) 40 _ _ _ _ _ ?_
  exact And.intro ⟨rfl, rfl⟩ (And.intro ⟨rfl, rfl⟩ ⟨rfl, rfl⟩)
set_option maxRecDepth 10000 in
theorem ct_X4_marginOf (l : Launch) : mjCT l yX4_marginOf cX4_marginOf 2 (some .int) rm_X4_marginOf S_X4_marginOf :=
  mjCT_of (own := RX4) (G := G_X4_marginOf) (plainFor_of_name pn_X4) rfl ok_X4_marginOf (fun meth hm => ⟨fun pc row h => (I_X4_marginOf_ok pc row h).1, F_X4_ok, List.forall_mem_cons.mpr ⟨⟨yX4_strengthOf, cX4_strengthOf, 2, (some .int), rm_X4_strengthOf, ct_X4_strengthOf l, ⟨rfl, rfl⟩, ⟨by decide, by decide⟩, by decide, by decide, nk_X4_strengthOf, ln_X4_136, im_X4_strengthOf, se_X4_strengthOf, rfl⟩, List.forall_mem_cons.mpr ⟨⟨yX4_stressOf, cX4_stressOf, 2, (some .int), rm_X4_stressOf, ct_X4_stressOf l, ⟨rfl, rfl⟩, ⟨by decide, by decide⟩, by decide, by decide, nk_X4_stressOf, ln_X4_139, im_X4_stressOf, se_X4_stressOf, rfl⟩, fun _ h => absurd h List.not_mem_nil⟩⟩, (fun _ _ _ h => by cases h), (fun _ _ h => by cases h), ⟨Nat.le_refl _, Nat.le_refl _⟩, (fun h => by cases h), (fun h => absurd h (by decide)), fun _ h => absurd h List.not_mem_nil⟩) rfl rfl rfl (fun pc row h => (I_X4_marginOf_ok pc row h).2)
def rm_X4_wholeJointsOf : Room := { frames := 1, cells := 0, slots := 0, locals := 23 }
noncomputable def G_X4_wholeJointsOf : mjG := (I_X4_wholeJointsOf, F_X4, [(142, 1, 0, 2, 0, 0, S_X1_jointAt), (90, 0, 3, 2, 0, 0, S_X4_isWhole)], (fun pc => bif Nat.beq pc 15 then [0, 1, 2, 3, 4] else []), Y0, (fun _ => none), (fun _ => none), (some .int), 0, 0, false, [])
set_option maxHeartbeats 20000000 in
set_option maxRecDepth 100000 in
theorem ok_X4_wholeJointsOf : mjOK G_X4_wholeJointsOf 4 S_X4_wholeJointsOf := by
  intro M as hP T hT
  obtain ⟨⟨h, g, s, c, fu, ai, ra, le, ri, mi, lo, fl⟩, k, rfl, rfl⟩ := inP1 hP
  refine hT.1 (fun pc => Nat.beq pc 4) 40 _ _ _ _ _ ?_
  refine mjloop0 4 (fun i => ∀ x, x = nf (fun i a => if gWh c (gJointAt k (nI i)) = 0 then a else a + 1) 0 i → T 4 [some (.ref 0), some (.int k), some (.int x), some (.int (nI i))] [] (pw (h, g, s, c, fu, ai, ra, le, ri, mi, lo, fl)) (0, 0)) (fun i hi ih x hx => ?_) (fun x hx => ?_) 0 rfl
  · rw [nI_succ] at ih
    refine hT.1 (fun pc => Nat.beq pc 4) 40 _ _ _ _ _ ?_
    refine And.intro (fun h => absurd h (nI_ge hi (by decide))) (fun _ => And.intro ⟨rfl, rfl⟩ (And.intro ⟨rfl, rfl⟩ (And.intro (fun h1 => ih _ ?_) (fun h1 => ih _ ?_))))
    · rw [hx]; exact (if_pos h1).symm
    · rw [hx]; exact (if_neg h1).symm
  · refine hT.1 (fun pc => Nat.beq pc 4) 40 _ _ _ _ _ ?_
    exact And.intro (fun _ => ⟨rfl, ksi hx⟩) (fun h => absurd (nI_le (Nat.le_refl 4) (by decide)) h)
set_option maxRecDepth 10000 in
theorem ct_X4_wholeJointsOf (l : Launch) : mjCT l yX4_wholeJointsOf cX4_wholeJointsOf 4 (some .int) rm_X4_wholeJointsOf S_X4_wholeJointsOf :=
  mjCT_of (own := RX4) (G := G_X4_wholeJointsOf) (plainFor_of_name pn_X4) rfl ok_X4_wholeJointsOf (fun meth hm => ⟨fun pc row h => (I_X4_wholeJointsOf_ok pc row h).1, F_X4_ok, List.forall_mem_cons.mpr ⟨⟨yX1_jointAt, cX1_jointAt, 4, (some .int), rm_X1_jointAt, ct_X1_jointAt l, ⟨rfl, rfl⟩, ⟨by decide, by decide⟩, by decide, nk_X1_jointAt, ln_X4_142, st_X1_jointAt⟩, List.forall_mem_cons.mpr ⟨⟨yX4_isWhole, cX4_isWhole, 2, (some .boolean), rm_X4_isWhole, ct_X4_isWhole l, ⟨rfl, rfl⟩, ⟨by decide, by decide⟩, by decide, by decide, nk_X4_isWhole, ln_X4_90, im_X4_isWhole, se_X4_isWhole, rfl⟩, fun _ h => absurd h List.not_mem_nil⟩⟩, (fun _ _ _ h => by cases h), (fun _ _ h => by cases h), ⟨Nat.le_refl _, Nat.le_refl _⟩, (fun h => by cases h), (fun h => absurd h (by decide)), fun _ h => absurd h List.not_mem_nil⟩) rfl rfl rfl (fun pc row h => (I_X4_wholeJointsOf_ok pc row h).2)
def rm_X4_wholeJointsBeside : Room := { frames := 3, cells := 0, slots := 0, locals := 62 }
noncomputable def G_X4_wholeJointsBeside : mjG := (I_X4_wholeJointsBeside, F_X4, [(90, 0, 3, 2, 0, 0, S_X4_isWhole), (126, 1, 0, 2, 0, 0, S_X1_touch)], (fun pc => bif Nat.beq pc 20 then [] else [0, 1, 2, 3, 4]), Y0, (fun _ => none), (fun _ => none), (some .int), 0, 0, false, [])
set_option maxHeartbeats 20000000 in
set_option maxRecDepth 100000 in
theorem ok_X4_wholeJointsBeside : mjOK G_X4_wholeJointsBeside 4 S_X4_wholeJointsBeside := by
  intro M as hP T hT
  obtain ⟨⟨h, g, s, c, fu, ai, ra, le, ri, mi, lo, fl⟩, k, rfl, rfl⟩ := inP1 hP
  refine hT.1 (fun pc => Nat.beq pc 4) 40 _ _ _ _ _ ?_
  refine mjloop0 60 (fun i => ∀ x, x = nf (fun i a => if gWh c (nI i) = 0 then a else if gTouch (nI i) k = 0 then a else a + 1) 0 i → T 4 [some (.ref 0), some (.int k), some (.int x), some (.int (nI i))] [] (pw (h, g, s, c, fu, ai, ra, le, ri, mi, lo, fl)) (0, 0)) (fun i hi ih x hx => ?_) (fun x hx => ?_) 0 rfl
  · rw [nI_succ] at ih
    refine hT.1 (fun pc => Nat.beq pc 4) 40 _ _ _ _ _ ?_
    refine And.intro (fun h => absurd h (nI_ge hi (by decide))) (fun _ => And.intro ⟨rfl, rfl⟩ (And.intro (fun h1 => ih _ ?_) (fun h1 => And.intro ⟨rfl, rfl⟩ (And.intro (fun h2 => ih _ ?_) (fun h2 => ih _ ?_)))))
    · rw [hx]; exact (if_pos h1).symm
    · rw [hx]; exact ((if_neg h1).trans (if_pos h2)).symm
    · rw [hx]; exact ((if_neg h1).trans (if_neg h2)).symm
  · refine hT.1 (fun pc => Nat.beq pc 4) 40 _ _ _ _ _ ?_
    exact And.intro (fun _ => ⟨rfl, ksi hx⟩) (fun h => absurd (nI_le (Nat.le_refl 60) (by decide)) h)
set_option maxRecDepth 10000 in
theorem ct_X4_wholeJointsBeside (l : Launch) : mjCT l yX4_wholeJointsBeside cX4_wholeJointsBeside 4 (some .int) rm_X4_wholeJointsBeside S_X4_wholeJointsBeside :=
  mjCT_of (own := RX4) (G := G_X4_wholeJointsBeside) (plainFor_of_name pn_X4) rfl ok_X4_wholeJointsBeside (fun meth hm => ⟨fun pc row h => (I_X4_wholeJointsBeside_ok pc row h).1, F_X4_ok, List.forall_mem_cons.mpr ⟨⟨yX4_isWhole, cX4_isWhole, 2, (some .boolean), rm_X4_isWhole, ct_X4_isWhole l, ⟨rfl, rfl⟩, ⟨by decide, by decide⟩, by decide, by decide, nk_X4_isWhole, ln_X4_90, im_X4_isWhole, se_X4_isWhole, rfl⟩, List.forall_mem_cons.mpr ⟨⟨yX1_touch, cX1_touch, 2, (some .boolean), rm_X1_touch, ct_X1_touch l, ⟨rfl, rfl⟩, ⟨by decide, by decide⟩, by decide, nk_X1_touch, ln_X4_126, st_X1_touch⟩, fun _ h => absurd h List.not_mem_nil⟩⟩, (fun _ _ _ h => by cases h), (fun _ _ h => by cases h), ⟨Nat.le_refl _, Nat.le_refl _⟩, (fun h => by cases h), (fun h => absurd h (by decide)), fun _ h => absurd h List.not_mem_nil⟩) rfl rfl rfl (fun pc row h => (I_X4_wholeJointsBeside_ok pc row h).2)
def rm_X4_greatestStressOf : Room := { frames := 2, cells := 0, slots := 0, locals := 42 }
noncomputable def G_X4_greatestStressOf : mjG := (I_X4_greatestStressOf, F_X4, [(142, 1, 0, 2, 0, 0, S_X1_jointAt), (90, 0, 3, 2, 0, 0, S_X4_isWhole), (139, 0, 3, 2, 0, 0, S_X4_stressOf), (87, 1, 0, 2, 0, 0, S_J9_max_7cf53)], (fun pc => bif Nat.beq pc 30 then [0, 1, 2, 3, 4] else bif Nat.beq pc 20 then [0, 1, 2, 3, 4] else []), Y0, (fun _ => none), (fun _ => none), (some .int), 0, 0, false, [])
set_option maxHeartbeats 20000000 in
set_option maxRecDepth 100000 in
theorem ok_X4_greatestStressOf : mjOK G_X4_greatestStressOf 5 S_X4_greatestStressOf := by
  intro M as hP T hT
  obtain ⟨⟨h, g, s, c, fu, ai, ra, le, ri, mi, lo, fl⟩, k, rfl, rfl⟩ := inP1 hP
  refine hT.1 (fun pc => Nat.beq pc 5) 40 _ _ _ _ _ ?_
  refine mjloop0 4 (fun i => ∀ x, x = nf (fun i a => if gWh c (gJointAt k (nI i)) = 0 then a else gMax a (gStr h (gJointAt k (nI i)))) (-4) i → T 5 [some (.ref 0), some (.int k), some (.int x), some (.int (nI i)), none] [] (pw (h, g, s, c, fu, ai, ra, le, ri, mi, lo, fl)) (0, 0)) (fun i hi ih x hx => ?_) (fun x hx => ?_) (-4) rfl
  · rw [nI_succ] at ih
    refine hT.1 (fun pc => Nat.beq pc 5) 40 _ _ _ _ _ ?_
    refine And.intro (fun h => absurd h (nI_ge hi (by decide))) (fun _ => And.intro ⟨rfl, rfl⟩ (And.intro ⟨rfl, rfl⟩ (And.intro (fun h1 => hT.2 [true, true, true, true, false] _ _ _ _ _ (ih _ ?_)) (fun h1 => And.intro ⟨rfl, rfl⟩ (And.intro ⟨rfl, rfl⟩ (hT.2 [true, true, true, true, false] _ _ _ _ _ (ih _ ?_)))))))
    · rw [hx]; exact (if_pos h1).symm
    · rw [hx]; exact (if_neg h1).symm
  · refine hT.1 (fun pc => Nat.beq pc 5) 40 _ _ _ _ _ ?_
    exact And.intro (fun _ => ⟨rfl, ksi hx⟩) (fun h => absurd (nI_le (Nat.le_refl 4) (by decide)) h)
set_option maxRecDepth 10000 in
theorem ct_X4_greatestStressOf (l : Launch) : mjCT l yX4_greatestStressOf cX4_greatestStressOf 5 (some .int) rm_X4_greatestStressOf S_X4_greatestStressOf :=
  mjCT_of (own := RX4) (G := G_X4_greatestStressOf) (plainFor_of_name pn_X4) rfl ok_X4_greatestStressOf (fun meth hm => ⟨fun pc row h => (I_X4_greatestStressOf_ok pc row h).1, F_X4_ok, List.forall_mem_cons.mpr ⟨⟨yX1_jointAt, cX1_jointAt, 4, (some .int), rm_X1_jointAt, ct_X1_jointAt l, ⟨rfl, rfl⟩, ⟨by decide, by decide⟩, by decide, nk_X1_jointAt, ln_X4_142, st_X1_jointAt⟩, List.forall_mem_cons.mpr ⟨⟨yX4_isWhole, cX4_isWhole, 2, (some .boolean), rm_X4_isWhole, ct_X4_isWhole l, ⟨rfl, rfl⟩, ⟨by decide, by decide⟩, by decide, by decide, nk_X4_isWhole, ln_X4_90, im_X4_isWhole, se_X4_isWhole, rfl⟩, List.forall_mem_cons.mpr ⟨⟨yX4_stressOf, cX4_stressOf, 2, (some .int), rm_X4_stressOf, ct_X4_stressOf l, ⟨rfl, rfl⟩, ⟨by decide, by decide⟩, by decide, by decide, nk_X4_stressOf, ln_X4_139, im_X4_stressOf, se_X4_stressOf, rfl⟩, List.forall_mem_cons.mpr ⟨⟨yJ9_max_7cf53, cJ9_max_7cf53, 2, (some .int), rm_J9_max_7cf53, ct_J9_max_7cf53 l, ⟨rfl, rfl⟩, ⟨by decide, by decide⟩, by decide, nk_J9_max_7cf53, ln_X4_87, st_J9_max_7cf53⟩, fun _ h => absurd h List.not_mem_nil⟩⟩⟩⟩, (fun _ _ _ h => by cases h), (fun _ _ h => by cases h), ⟨Nat.le_refl _, Nat.le_refl _⟩, (fun h => by cases h), (fun h => absurd h (by decide)), fun _ h => absurd h List.not_mem_nil⟩) rfl rfl rfl (fun pc row h => (I_X4_greatestStressOf_ok pc row h).2)
def rm_X4_greatestStress : Room := { frames := 2, cells := 0, slots := 0, locals := 42 }
noncomputable def G_X4_greatestStress : mjG := (I_X4_greatestStress, F_X4, [(90, 0, 3, 2, 0, 0, S_X4_isWhole), (139, 0, 3, 2, 0, 0, S_X4_stressOf), (87, 1, 0, 2, 0, 0, S_J9_max_7cf53)], (fun pc => bif Nat.beq pc 25 then [] else [0, 1, 2, 3, 4]), Y0, (fun _ => none), (fun _ => none), (some .int), 0, 0, false, [])
set_option maxHeartbeats 20000000 in
set_option maxRecDepth 100000 in
theorem ok_X4_greatestStress : mjOK G_X4_greatestStress 3 S_X4_greatestStress := by
  intro M as hP T hT
  obtain ⟨⟨h, g, s, c, fu, ai, ra, le, ri, mi, lo, fl⟩, rfl, rfl⟩ := inP0 hP
  refine hT.1 (fun pc => Nat.beq pc 5) 40 _ _ _ _ _ ?_
  refine mjloop0 60 (fun i => ∀ x, x = nf (fun i a => if gWh c (nI i) = 0 then a else gMax a (gStr h (nI i))) (-4) i → T 5 [some (.ref 0), some (.int x), some (.int (nI i))] [] (pw (h, g, s, c, fu, ai, ra, le, ri, mi, lo, fl)) (0, 0)) (fun i hi ih x hx => ?_) (fun x hx => ?_) (-4) rfl
  · rw [nI_succ] at ih
    refine hT.1 (fun pc => Nat.beq pc 5) 40 _ _ _ _ _ ?_
    refine And.intro (fun h => absurd h (nI_ge hi (by decide))) (fun _ => And.intro ⟨rfl, rfl⟩ (And.intro (fun h1 => ih _ ?_) (fun h1 => And.intro ⟨rfl, rfl⟩ (And.intro ⟨rfl, rfl⟩ (ih _ ?_)))))
    · rw [hx]; exact (if_pos h1).symm
    · rw [hx]; exact (if_neg h1).symm
  · refine hT.1 (fun pc => Nat.beq pc 5) 40 _ _ _ _ _ ?_
    exact And.intro (fun _ => ⟨rfl, ksi hx⟩) (fun h => absurd (nI_le (Nat.le_refl 60) (by decide)) h)
set_option maxRecDepth 10000 in
theorem ct_X4_greatestStress (l : Launch) : mjCT l yX4_greatestStress cX4_greatestStress 3 (some .int) rm_X4_greatestStress S_X4_greatestStress :=
  mjCT_of (own := RX4) (G := G_X4_greatestStress) (plainFor_of_name pn_X4) rfl ok_X4_greatestStress (fun meth hm => ⟨fun pc row h => (I_X4_greatestStress_ok pc row h).1, F_X4_ok, List.forall_mem_cons.mpr ⟨⟨yX4_isWhole, cX4_isWhole, 2, (some .boolean), rm_X4_isWhole, ct_X4_isWhole l, ⟨rfl, rfl⟩, ⟨by decide, by decide⟩, by decide, by decide, nk_X4_isWhole, ln_X4_90, im_X4_isWhole, se_X4_isWhole, rfl⟩, List.forall_mem_cons.mpr ⟨⟨yX4_stressOf, cX4_stressOf, 2, (some .int), rm_X4_stressOf, ct_X4_stressOf l, ⟨rfl, rfl⟩, ⟨by decide, by decide⟩, by decide, by decide, nk_X4_stressOf, ln_X4_139, im_X4_stressOf, se_X4_stressOf, rfl⟩, List.forall_mem_cons.mpr ⟨⟨yJ9_max_7cf53, cJ9_max_7cf53, 2, (some .int), rm_J9_max_7cf53, ct_J9_max_7cf53 l, ⟨rfl, rfl⟩, ⟨by decide, by decide⟩, by decide, nk_J9_max_7cf53, ln_X4_87, st_J9_max_7cf53⟩, fun _ h => absurd h List.not_mem_nil⟩⟩⟩, (fun _ _ _ h => by cases h), (fun _ _ h => by cases h), ⟨Nat.le_refl _, Nat.le_refl _⟩, (fun h => by cases h), (fun h => absurd h (by decide)), fun _ h => absurd h List.not_mem_nil⟩) rfl rfl rfl (fun pc row h => (I_X4_greatestStress_ok pc row h).2)
def rm_X4_mostStrained : Room := { frames := 3, cells := 0, slots := 0, locals := 63 }
noncomputable def G_X4_mostStrained : mjG := (I_X4_mostStrained, F_X4, [(90, 0, 3, 2, 0, 0, S_X4_isWhole), (120, 0, 3, 2, 0, 0, S_X4_marginOf)], (fun pc => [0, 1, 2, 3, 4]), Y0, (fun _ => none), (fun _ => none), (some .int), 0, 0, false, [])
set_option maxHeartbeats 20000000 in
set_option maxRecDepth 100000 in
theorem ok_X4_mostStrained : mjOK G_X4_mostStrained 5 S_X4_mostStrained := by
  intro M as hP T hT
  obtain ⟨⟨h, g, s, c, fu, ai, ra, le, ri, mi, lo, fl⟩, rfl, rfl⟩ := inP0 hP
  refine hT.1 (fun pc => Nat.beq pc 6) 40 _ _ _ _ _ ?_
  refine hT.2 [true, true, true, true, false] _ _ _ _ _ ?_
  refine mjloop0 60 (fun i => ∀ x y, (x, y) = gWorst h s c i → T 6 [some (.ref 0), some (.int x), some (.int y), some (.int (nI i)), none] [] (pw (h, g, s, c, fu, ai, ra, le, ri, mi, lo, fl)) (0, 0)) (fun i hi ih x y hx => ?_) (fun x y hx => ?_) (-1) 0 rfl
  · have hs : gWorst h s c (i + 1) = (fun (a : Int32 × Int32) => if gWh c (nI i) = 0 then a else if a.1 = -1 then (nI i, gMar h s (nI i)) else if a.2 ≤ gMar h s (nI i) then a else (nI i, gMar h s (nI i))) (gWorst h s c i) := rfl
    rw [← hx] at hs
    rw [nI_succ, hs] at ih
    refine hT.1 (fun pc => Nat.beq pc 6) 40 _ _ _ _ _ ?_
    refine And.intro (fun h => absurd h (nI_ge hi (by decide))) (fun _ => And.intro ⟨rfl, rfl⟩ (And.intro (fun h1 => hT.2 [true, true, true, true, false] _ _ _ _ _ (ih _ _ ?_)) (fun h1 => And.intro ⟨rfl, rfl⟩ (And.intro (fun h2 => hT.2 [true, true, true, true, false] _ _ _ _ _ (ih _ _ ?_)) (fun h2 => And.intro (fun (h3 : y ≤ gMar h s (nI i)) => hT.2 [true, true, true, true, false] _ _ _ _ _ (ih _ _ ?_)) (fun (h3 : ¬ y ≤ gMar h s (nI i)) => hT.2 [true, true, true, true, false] _ _ _ _ _ (ih _ _ ?_)))))))
    · exact (if_pos h1).symm
    · exact ((if_neg h1).trans (if_pos h2)).symm
    · exact ((if_neg h1).trans ((if_neg h2).trans (if_pos h3))).symm
    · exact ((if_neg h1).trans ((if_neg h2).trans (if_neg h3))).symm
  · refine hT.1 (fun pc => Nat.beq pc 6) 40 _ _ _ _ _ ?_
    exact And.intro (fun _ => ⟨rfl, ksi (congrArg Prod.fst hx)⟩) (fun h => absurd (nI_le (Nat.le_refl 60) (by decide)) h)
set_option maxRecDepth 10000 in
theorem ct_X4_mostStrained (l : Launch) : mjCT l yX4_mostStrained cX4_mostStrained 5 (some .int) rm_X4_mostStrained S_X4_mostStrained :=
  mjCT_of (own := RX4) (G := G_X4_mostStrained) (plainFor_of_name pn_X4) rfl ok_X4_mostStrained (fun meth hm => ⟨fun pc row h => (I_X4_mostStrained_ok pc row h).1, F_X4_ok, List.forall_mem_cons.mpr ⟨⟨yX4_isWhole, cX4_isWhole, 2, (some .boolean), rm_X4_isWhole, ct_X4_isWhole l, ⟨rfl, rfl⟩, ⟨by decide, by decide⟩, by decide, by decide, nk_X4_isWhole, ln_X4_90, im_X4_isWhole, se_X4_isWhole, rfl⟩, List.forall_mem_cons.mpr ⟨⟨yX4_marginOf, cX4_marginOf, 2, (some .int), rm_X4_marginOf, ct_X4_marginOf l, ⟨rfl, rfl⟩, ⟨by decide, by decide⟩, by decide, by decide, nk_X4_marginOf, ln_X4_120, im_X4_marginOf, se_X4_marginOf, rfl⟩, fun _ h => absurd h List.not_mem_nil⟩⟩, (fun _ _ _ h => by cases h), (fun _ _ h => by cases h), ⟨Nat.le_refl _, Nat.le_refl _⟩, (fun h => by cases h), (fun h => absurd h (by decide)), fun _ h => absurd h List.not_mem_nil⟩) rfl rfl rfl (fun pc row h => (I_X4_mostStrained_ok pc row h).2)
def rm_X4_leastMargin : Room := { frames := 4, cells := 0, slots := 0, locals := 87 }
noncomputable def G_X4_leastMargin : mjG := (I_X4_leastMargin, F_X4, [(116, 0, 3, 1, 0, 0, S_X4_mostStrained), (120, 0, 3, 2, 0, 0, S_X4_marginOf)], (fun pc => [0, 1, 2, 3, 4]), Y0, (fun _ => none), (fun _ => none), (some .int), 0, 0, false, [])
set_option maxHeartbeats 20000000 in
set_option maxRecDepth 100000 in
theorem ok_X4_leastMargin : mjOK G_X4_leastMargin 2 S_X4_leastMargin := by
  intro M as hP T hT
  obtain ⟨⟨h, g, s, c, fu, ai, ra, le, ri, mi, lo, fl⟩, rfl, rfl⟩ := inP0 hP
  have s1 : ∀ w, w = (gWorst h s c 60).1 → T 4 [some (.ref 0), none] [.int w] (pw (h, g, s, c, fu, ai, ra, le, ri, mi, lo, fl)) (0, 0) := by
    intro w hw
    have hv : gLeastMar h s c = if w = -1 then -4 else gMar h s w := by rw [hw]; rfl
    refine hT.1 (fun _ => false) 40 _ _ _ _ _ ?_
    refine And.intro (fun h1 => And.intro ⟨rfl, rfl⟩ ⟨rfl, ksi ?_⟩) (fun h1 => ⟨rfl, ksi ?_⟩)
    · exact (hv.trans (if_neg h1)).symm
    · exact (hv.trans (if_pos h1)).symm
  refine hT.1 (fun pc => Nat.beq pc 4) 40 _ _ _ _ _ ?_
  exact And.intro ⟨rfl, rfl⟩ (s1 _ (kseal_eq _))
set_option maxRecDepth 10000 in
theorem ct_X4_leastMargin (l : Launch) : mjCT l yX4_leastMargin cX4_leastMargin 2 (some .int) rm_X4_leastMargin S_X4_leastMargin :=
  mjCT_of (own := RX4) (G := G_X4_leastMargin) (plainFor_of_name pn_X4) rfl ok_X4_leastMargin (fun meth hm => ⟨fun pc row h => (I_X4_leastMargin_ok pc row h).1, F_X4_ok, List.forall_mem_cons.mpr ⟨⟨yX4_mostStrained, cX4_mostStrained, 5, (some .int), rm_X4_mostStrained, ct_X4_mostStrained l, ⟨rfl, rfl⟩, ⟨by decide, by decide⟩, by decide, by decide, nk_X4_mostStrained, ln_X4_116, im_X4_mostStrained, se_X4_mostStrained, rfl⟩, List.forall_mem_cons.mpr ⟨⟨yX4_marginOf, cX4_marginOf, 2, (some .int), rm_X4_marginOf, ct_X4_marginOf l, ⟨rfl, rfl⟩, ⟨by decide, by decide⟩, by decide, by decide, nk_X4_marginOf, ln_X4_120, im_X4_marginOf, se_X4_marginOf, rfl⟩, fun _ h => absurd h List.not_mem_nil⟩⟩, (fun _ _ _ h => by cases h), (fun _ _ h => by cases h), ⟨Nat.le_refl _, Nat.le_refl _⟩, (fun h => by cases h), (fun h => absurd h (by decide)), fun _ h => absurd h List.not_mem_nil⟩) rfl rfl rfl (fun pc row h => (I_X4_leastMargin_ok pc row h).2)
def rm_X4_placeOf : Room := { frames := 3, cells := 0, slots := 0, locals := 63 }
noncomputable def G_X4_placeOf : mjG := (I_X4_placeOf, F_X4, [(120, 0, 3, 2, 0, 0, S_X4_marginOf), (90, 0, 3, 2, 0, 0, S_X4_isWhole)], (fun pc => [0, 1, 2, 3, 4]), Y0, (fun _ => none), (fun _ => none), (some .int), 0, 0, false, [])
set_option maxHeartbeats 20000000 in
set_option maxRecDepth 100000 in
theorem ok_X4_placeOf : mjOK G_X4_placeOf 6 S_X4_placeOf := by
  intro M as hP T hT
  obtain ⟨⟨h, g, s, c, fu, ai, ra, le, ri, mi, lo, fl⟩, j, rfl, rfl⟩ := inP1 hP
  refine hT.1 (fun pc => Nat.beq pc 11) 40 _ _ _ _ _ ?_
  refine And.intro ⟨rfl, rfl⟩ ?_
  refine hT.2 [true, true, true, true, true, false] _ _ _ _ _ ?_
  refine mjloop0 60 (fun i => ∀ x, x = nf (fun i a => if gWh c (nI i) = 0 then a else if gMar h s (nI i) < gMar h s j then a + 1 else if gMar h s (nI i) = gMar h s j then (if j ≤ nI i then a else a + 1) else a) 0 i → T 11 [some (.ref 0), some (.int j), some (.int (gMar h s j)), some (.int x), some (.int (nI i)), none] [] (pw (h, g, s, c, fu, ai, ra, le, ri, mi, lo, fl)) (0, 0)) (fun i hi ih x hx => ?_) (fun x hx => ?_) 0 rfl
  · rw [nI_succ] at ih
    have ih2 : ∀ x', x' = _ → ∀ z, T 11 [some (.ref 0), some (.int j), some (.int (gMar h s j)), some (.int x'), some (.int (nI i + 1)), z] [] (pw (h, g, s, c, fu, ai, ra, le, ri, mi, lo, fl)) (0, 0) := fun x' hx' z => hT.2 [true, true, true, true, true, false] _ _ _ _ _ (ih x' hx')
    refine hT.1 (fun pc => Nat.beq pc 11) 40 _ _ _ _ _ ?_
    refine And.intro (fun h => absurd h (nI_ge hi (by decide))) (fun _ => And.intro ⟨rfl, rfl⟩ (And.intro (fun h1 => ih2 _ ?_ _) (fun h1 => And.intro ⟨rfl, rfl⟩ (And.intro (fun (h2 : gMar h s (nI i) < gMar h s j) => ih2 _ ?_ _) (fun (h2 : ¬ gMar h s (nI i) < gMar h s j) => And.intro (fun (h3 : ¬ gMar h s (nI i) = gMar h s j) => ih2 _ ?_ _) (fun (h3 : gMar h s (nI i) = gMar h s j) => And.intro (fun h4 => ih2 _ ?_ _) (fun h4 => ih2 _ ?_ _)))))))
    · rw [hx]; exact (if_pos h1).symm
    · rw [hx]; exact ((if_neg h1).trans (if_pos h2)).symm
    · rw [hx]; exact ((if_neg h1).trans ((if_neg h2).trans (if_neg h3))).symm
    · rw [hx]; exact ((if_neg h1).trans ((if_neg h2).trans ((if_pos h3).trans (if_pos h4)))).symm
    · rw [hx]; exact ((if_neg h1).trans ((if_neg h2).trans ((if_pos h3).trans (if_neg h4)))).symm
  · refine hT.1 (fun pc => Nat.beq pc 11) 40 _ _ _ _ _ ?_
    exact And.intro (fun _ => ⟨rfl, ksi hx⟩) (fun h => absurd (nI_le (Nat.le_refl 60) (by decide)) h)
set_option maxRecDepth 10000 in
theorem ct_X4_placeOf (l : Launch) : mjCT l yX4_placeOf cX4_placeOf 6 (some .int) rm_X4_placeOf S_X4_placeOf :=
  mjCT_of (own := RX4) (G := G_X4_placeOf) (plainFor_of_name pn_X4) rfl ok_X4_placeOf (fun meth hm => ⟨fun pc row h => (I_X4_placeOf_ok pc row h).1, F_X4_ok, List.forall_mem_cons.mpr ⟨⟨yX4_marginOf, cX4_marginOf, 2, (some .int), rm_X4_marginOf, ct_X4_marginOf l, ⟨rfl, rfl⟩, ⟨by decide, by decide⟩, by decide, by decide, nk_X4_marginOf, ln_X4_120, im_X4_marginOf, se_X4_marginOf, rfl⟩, List.forall_mem_cons.mpr ⟨⟨yX4_isWhole, cX4_isWhole, 2, (some .boolean), rm_X4_isWhole, ct_X4_isWhole l, ⟨rfl, rfl⟩, ⟨by decide, by decide⟩, by decide, by decide, nk_X4_isWhole, ln_X4_90, im_X4_isWhole, se_X4_isWhole, rfl⟩, fun _ h => absurd h List.not_mem_nil⟩⟩, (fun _ _ _ h => by cases h), (fun _ _ h => by cases h), ⟨Nat.le_refl _, Nat.le_refl _⟩, (fun h => by cases h), (fun h => absurd h (by decide)), fun _ h => absurd h List.not_mem_nil⟩) rfl rfl rfl (fun pc row h => (I_X4_placeOf_ok pc row h).2)
def rm_X4_strainedAt : Room := { frames := 4, cells := 0, slots := 0, locals := 88 }
noncomputable def G_X4_strainedAt : mjG := (I_X4_strainedAt, F_X4, [(90, 0, 3, 2, 0, 0, S_X4_isWhole), (145, 0, 3, 2, 0, 0, S_X4_placeOf)], (fun pc => [0, 1, 2, 3, 4]), Y0, (fun _ => none), (fun _ => none), (some .int), 0, 0, false, [])
set_option maxHeartbeats 20000000 in
set_option maxRecDepth 100000 in
theorem ok_X4_strainedAt : mjOK G_X4_strainedAt 3 S_X4_strainedAt := by
  intro M as hP T hT
  obtain ⟨⟨h, g, s, c, fu, ai, ra, le, ri, mi, lo, fl⟩, x, rfl, rfl⟩ := inP1 hP
  refine hT.1 (fun pc => Nat.beq pc 2) 40 _ _ _ _ _ ?_
  refine mjloop0 60 (fun i => gFind h s c x i (60 - i) = gFind h s c x 0 60 → T 2 [some (.ref 0), some (.int x), some (.int (nI i))] [] (pw (h, g, s, c, fu, ai, ra, le, ri, mi, lo, fl)) (0, 0)) (fun i hi ih hx => ?_) (fun hx => ?_) rfl
  · rw [nI_succ] at ih
    have hs : gFind h s c x i (60 - i) = if gWh c (nI i) = 0 then gFind h s c x (i + 1) (60 - (i + 1)) else if gPlace h s c (nI i) = x then nI i else gFind h s c x (i + 1) (60 - (i + 1)) := by
      rw [show 60 - i = (60 - (i + 1)) + 1 by omega]
      rfl
    rw [hs] at hx
    refine hT.1 (fun pc => Nat.beq pc 2) 40 _ _ _ _ _ ?_
    refine And.intro (fun h => absurd h (nI_ge hi (by decide))) (fun _ => And.intro ⟨rfl, rfl⟩ (And.intro (fun h1 => ih ?_) (fun h1 => And.intro ⟨rfl, rfl⟩ (And.intro (fun (h2 : ¬ kseal (gPlace h s c (nI i)) = x) => ih ?_) (fun (h2 : kseal (gPlace h s c (nI i)) = x) => ⟨rfl, ksi ?_⟩)))))
    · rw [← hx]; exact (if_pos h1).symm
    · rw [kseal_eq] at h2
      rw [← hx]; exact ((if_neg h1).trans (if_neg h2)).symm
    · rw [kseal_eq] at h2
      show nI i = gFind h s c x 0 60
      rw [← hx]; exact ((if_neg h1).trans (if_pos h2)).symm
  · refine hT.1 (fun pc => Nat.beq pc 2) 40 _ _ _ _ _ ?_
    exact And.intro (fun _ => ⟨rfl, ksi hx⟩) (fun h => absurd (nI_le (Nat.le_refl 60) (by decide)) h)
set_option maxRecDepth 10000 in
theorem ct_X4_strainedAt (l : Launch) : mjCT l yX4_strainedAt cX4_strainedAt 3 (some .int) rm_X4_strainedAt S_X4_strainedAt :=
  mjCT_of (own := RX4) (G := G_X4_strainedAt) (plainFor_of_name pn_X4) rfl ok_X4_strainedAt (fun meth hm => ⟨fun pc row h => (I_X4_strainedAt_ok pc row h).1, F_X4_ok, List.forall_mem_cons.mpr ⟨⟨yX4_isWhole, cX4_isWhole, 2, (some .boolean), rm_X4_isWhole, ct_X4_isWhole l, ⟨rfl, rfl⟩, ⟨by decide, by decide⟩, by decide, by decide, nk_X4_isWhole, ln_X4_90, im_X4_isWhole, se_X4_isWhole, rfl⟩, List.forall_mem_cons.mpr ⟨⟨yX4_placeOf, cX4_placeOf, 6, (some .int), rm_X4_placeOf, ct_X4_placeOf l, ⟨rfl, rfl⟩, ⟨by decide, by decide⟩, by decide, by decide, nk_X4_placeOf, ln_X4_145, im_X4_placeOf, se_X4_placeOf, rfl⟩, fun _ h => absurd h List.not_mem_nil⟩⟩, (fun _ _ _ h => by cases h), (fun _ _ h => by cases h), ⟨Nat.le_refl _, Nat.le_refl _⟩, (fun h => by cases h), (fun h => absurd h (by decide)), fun _ h => absurd h List.not_mem_nil⟩) rfl rfl rfl (fun pc row h => (I_X4_strainedAt_ok pc row h).2)
def rm_X4_crackedJoints : Room := { frames := 1, cells := 0, slots := 0, locals := 21 }
noncomputable def G_X4_crackedJoints : mjG := (I_X4_crackedJoints, F_X4, [(90, 0, 3, 2, 0, 0, S_X4_isWhole)], (fun pc => [0, 1, 2, 3, 4]), Y0, (fun _ => none), (fun _ => none), (some .int), 0, 0, false, [])
set_option maxHeartbeats 20000000 in
set_option maxRecDepth 100000 in
theorem ok_X4_crackedJoints : mjOK G_X4_crackedJoints 3 S_X4_crackedJoints := by
  intro M as hP T hT
  obtain ⟨⟨h, g, s, c, fu, ai, ra, le, ri, mi, lo, fl⟩, rfl, rfl⟩ := inP0 hP
  refine hT.1 (fun pc => Nat.beq pc 4) 40 _ _ _ _ _ ?_
  refine mjloop0 60 (fun i => ∀ x, x = nf (fun i a => if gWh c (nI i) = 0 then a + 1 else a) 0 i → T 4 [some (.ref 0), some (.int x), some (.int (nI i))] [] (pw (h, g, s, c, fu, ai, ra, le, ri, mi, lo, fl)) (0, 0)) (fun i hi ih x hx => ?_) (fun x hx => ?_) 0 rfl
  · rw [nI_succ] at ih
    refine hT.1 (fun pc => Nat.beq pc 4) 40 _ _ _ _ _ ?_
    refine And.intro (fun h => absurd h (nI_ge hi (by decide))) (fun _ => And.intro ⟨rfl, rfl⟩ (And.intro (fun h1 => ih _ ?_) (fun h1 => ih _ ?_)))
    · rw [hx]; exact (if_neg h1).symm
    · rw [hx]; exact (if_pos h1).symm
  · refine hT.1 (fun pc => Nat.beq pc 4) 40 _ _ _ _ _ ?_
    exact And.intro (fun _ => ⟨rfl, ksi hx⟩) (fun h => absurd (nI_le (Nat.le_refl 60) (by decide)) h)
set_option maxRecDepth 10000 in
theorem ct_X4_crackedJoints (l : Launch) : mjCT l yX4_crackedJoints cX4_crackedJoints 3 (some .int) rm_X4_crackedJoints S_X4_crackedJoints :=
  mjCT_of (own := RX4) (G := G_X4_crackedJoints) (plainFor_of_name pn_X4) rfl ok_X4_crackedJoints (fun meth hm => ⟨fun pc row h => (I_X4_crackedJoints_ok pc row h).1, F_X4_ok, List.forall_mem_cons.mpr ⟨⟨yX4_isWhole, cX4_isWhole, 2, (some .boolean), rm_X4_isWhole, ct_X4_isWhole l, ⟨rfl, rfl⟩, ⟨by decide, by decide⟩, by decide, by decide, nk_X4_isWhole, ln_X4_90, im_X4_isWhole, se_X4_isWhole, rfl⟩, fun _ h => absurd h List.not_mem_nil⟩, (fun _ _ _ h => by cases h), (fun _ _ h => by cases h), ⟨Nat.le_refl _, Nat.le_refl _⟩, (fun h => by cases h), (fun h => absurd h (by decide)), fun _ h => absurd h List.not_mem_nil⟩) rfl rfl rfl (fun pc row h => (I_X4_crackedJoints_ok pc row h).2)
def rm_X4_sumOfHeats : Room := { frames := 0, cells := 0, slots := 0, locals := 0 }
noncomputable def G_X4_sumOfHeats : mjG := (I_X4_sumOfHeats, F_X4, [], (fun pc => []), Y0, (fun _ => none), (fun _ => none), (some .int), 0, 0, false, [])
set_option maxHeartbeats 20000000 in
set_option maxRecDepth 100000 in
theorem ok_X4_sumOfHeats : mjOK G_X4_sumOfHeats 3 S_X4_sumOfHeats := by
  intro M as hP T hT
  obtain ⟨⟨h, g, s, c, fu, ai, ra, le, ri, mi, lo, fl⟩, rfl, rfl⟩ := inP0 hP
  refine hT.1 (fun pc => Nat.beq pc 4) 40 _ _ _ _ _ ?_
  refine mjloop0 36 (fun i => ∀ x, x = nf (fun i a => a + h i) 0 i → T 4 [some (.ref 0), some (.int x), some (.int (nI i))] [] (pw (h, g, s, c, fu, ai, ra, le, ri, mi, lo, fl)) (0, 0)) (fun i hi ih x hx => ?_) (fun x hx => ?_) 0 rfl
  · rw [nI_succ] at ih
    refine hT.1 (fun pc => Nat.beq pc 4) 40 _ _ _ _ _ ?_
    refine And.intro (fun h => absurd h (nI_ge hi (by decide))) (fun _ => mjix_n hi (by decide) (ih _ ?_))
    rw [hx]
    rfl
  · refine hT.1 (fun pc => Nat.beq pc 4) 40 _ _ _ _ _ ?_
    exact And.intro (fun _ => ⟨rfl, ksi hx⟩) (fun h => absurd (nI_le (Nat.le_refl 36) (by decide)) h)
set_option maxRecDepth 10000 in
theorem ct_X4_sumOfHeats (l : Launch) : mjCT l yX4_sumOfHeats cX4_sumOfHeats 3 (some .int) rm_X4_sumOfHeats S_X4_sumOfHeats :=
  mjCT_of (own := RX4) (G := G_X4_sumOfHeats) (plainFor_of_name pn_X4) rfl ok_X4_sumOfHeats (fun meth hm => ⟨fun pc row h => (I_X4_sumOfHeats_ok pc row h).1, F_X4_ok, fun _ h => absurd h List.not_mem_nil, (fun _ _ _ h => by cases h), (fun _ _ h => by cases h), ⟨Nat.le_refl _, Nat.le_refl _⟩, (fun h => by cases h), (fun h => absurd h (by decide)), fun _ h => absurd h List.not_mem_nil⟩) rfl rfl rfl (fun pc row h => (I_X4_sumOfHeats_ok pc row h).2)
def rm_X4_greatestHeat : Room := { frames := 1, cells := 0, slots := 0, locals := 21 }
noncomputable def G_X4_greatestHeat : mjG := (I_X4_greatestHeat, F_X4, [(87, 1, 0, 2, 0, 0, S_J9_max_7cf53)], (fun pc => []), Y0, (fun _ => none), (fun _ => none), (some .int), 0, 0, false, [])
set_option maxHeartbeats 20000000 in
set_option maxRecDepth 100000 in
theorem ok_X4_greatestHeat : mjOK G_X4_greatestHeat 3 S_X4_greatestHeat := by
  intro M as hP T hT
  obtain ⟨⟨h, g, s, c, fu, ai, ra, le, ri, mi, lo, fl⟩, rfl, rfl⟩ := inP0 hP
  refine hT.1 (fun pc => Nat.beq pc 9) 40 _ _ _ _ _ ?_
  refine mjix_e 0 rfl (by decide) (by decide) ?_
  refine mjloop0 35 (fun i => ∀ x, x = nf (fun i a => gMax a (h (i + 1))) (h 0) i → T 9 [some (.ref 0), some (.int x), some (.int (nI (i + 1)))] [] (pw (h, g, s, c, fu, ai, ra, le, ri, mi, lo, fl)) (0, 0)) (fun i hi ih x hx => ?_) (fun x hx => ?_) (h 0) rfl
  · rw [nI_succ (i + 1)] at ih
    refine hT.1 (fun pc => Nat.beq pc 9) 40 _ _ _ _ _ ?_
    refine And.intro (fun h => absurd h (nI_ge (by omega : i + 1 < 36) (by decide))) (fun _ => mjix_n (by omega) (by decide) (And.intro ⟨rfl, rfl⟩ (ih _ ?_)))
    rw [hx]
    rfl
  · refine hT.1 (fun pc => Nat.beq pc 9) 40 _ _ _ _ _ ?_
    exact And.intro (fun _ => ⟨rfl, ksi hx⟩) (fun h => absurd (nI_le (Nat.le_refl 36) (by decide)) h)
set_option maxRecDepth 10000 in
theorem ct_X4_greatestHeat (l : Launch) : mjCT l yX4_greatestHeat cX4_greatestHeat 3 (some .int) rm_X4_greatestHeat S_X4_greatestHeat :=
  mjCT_of (own := RX4) (G := G_X4_greatestHeat) (plainFor_of_name pn_X4) rfl ok_X4_greatestHeat (fun meth hm => ⟨fun pc row h => (I_X4_greatestHeat_ok pc row h).1, F_X4_ok, List.forall_mem_cons.mpr ⟨⟨yJ9_max_7cf53, cJ9_max_7cf53, 2, (some .int), rm_J9_max_7cf53, ct_J9_max_7cf53 l, ⟨rfl, rfl⟩, ⟨by decide, by decide⟩, by decide, nk_J9_max_7cf53, ln_X4_87, st_J9_max_7cf53⟩, fun _ h => absurd h List.not_mem_nil⟩, (fun _ _ _ h => by cases h), (fun _ _ h => by cases h), ⟨Nat.le_refl _, Nat.le_refl _⟩, (fun h => by cases h), (fun h => absurd h (by decide)), fun _ h => absurd h List.not_mem_nil⟩) rfl rfl rfl (fun pc row h => (I_X4_greatestHeat_ok pc row h).2)
def rm_X4_leastHeat : Room := { frames := 1, cells := 0, slots := 0, locals := 21 }
noncomputable def G_X4_leastHeat : mjG := (I_X4_leastHeat, F_X4, [(81, 1, 0, 2, 0, 0, S_J9_min_7cf53)], (fun pc => []), Y0, (fun _ => none), (fun _ => none), (some .int), 0, 0, false, [])
set_option maxHeartbeats 20000000 in
set_option maxRecDepth 100000 in
theorem ok_X4_leastHeat : mjOK G_X4_leastHeat 3 S_X4_leastHeat := by
  intro M as hP T hT
  obtain ⟨⟨h, g, s, c, fu, ai, ra, le, ri, mi, lo, fl⟩, rfl, rfl⟩ := inP0 hP
  refine hT.1 (fun pc => Nat.beq pc 9) 40 _ _ _ _ _ ?_
  refine mjix_e 0 rfl (by decide) (by decide) ?_
  refine mjloop0 35 (fun i => ∀ x, x = nf (fun i a => gMin a (h (i + 1))) (h 0) i → T 9 [some (.ref 0), some (.int x), some (.int (nI (i + 1)))] [] (pw (h, g, s, c, fu, ai, ra, le, ri, mi, lo, fl)) (0, 0)) (fun i hi ih x hx => ?_) (fun x hx => ?_) (h 0) rfl
  · rw [nI_succ (i + 1)] at ih
    refine hT.1 (fun pc => Nat.beq pc 9) 40 _ _ _ _ _ ?_
    refine And.intro (fun h => absurd h (nI_ge (by omega : i + 1 < 36) (by decide))) (fun _ => mjix_n (by omega) (by decide) (And.intro ⟨rfl, rfl⟩ (ih _ ?_)))
    rw [hx]
    rfl
  · refine hT.1 (fun pc => Nat.beq pc 9) 40 _ _ _ _ _ ?_
    exact And.intro (fun _ => ⟨rfl, ksi hx⟩) (fun h => absurd (nI_le (Nat.le_refl 36) (by decide)) h)
set_option maxRecDepth 10000 in
theorem ct_X4_leastHeat (l : Launch) : mjCT l yX4_leastHeat cX4_leastHeat 3 (some .int) rm_X4_leastHeat S_X4_leastHeat :=
  mjCT_of (own := RX4) (G := G_X4_leastHeat) (plainFor_of_name pn_X4) rfl ok_X4_leastHeat (fun meth hm => ⟨fun pc row h => (I_X4_leastHeat_ok pc row h).1, F_X4_ok, List.forall_mem_cons.mpr ⟨⟨yJ9_min_7cf53, cJ9_min_7cf53, 2, (some .int), rm_J9_min_7cf53, ct_J9_min_7cf53 l, ⟨rfl, rfl⟩, ⟨by decide, by decide⟩, by decide, nk_J9_min_7cf53, ln_X4_81, st_J9_min_7cf53⟩, fun _ h => absurd h List.not_mem_nil⟩, (fun _ _ _ h => by cases h), (fun _ _ h => by cases h), ⟨Nat.le_refl _, Nat.le_refl _⟩, (fun h => by cases h), (fun h => absurd h (by decide)), fun _ h => absurd h List.not_mem_nil⟩) rfl rfl rfl (fun pc row h => (I_X4_leastHeat_ok pc row h).2)
