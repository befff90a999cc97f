/-! Math, Arrays, the grid: what the methods do -/
def S_J9_abs_0f7a4 : mjSp := fun M as => (M = [] ∧ as = [.int (aI as 0)], none, some (.int (gAbs (aI as 0))))
def S_J9_max_7cf53 : mjSp := fun M as => (M = [] ∧ as = [.int (aI as 0), .int (aI as 1)], none, some (.int (gMax (aI as 0) (aI as 1))))
def S_J9_min_7cf53 : mjSp := fun M as => (M = [] ∧ as = [.int (aI as 0), .int (aI as 1)], none, some (.int (gMin (aI as 0) (aI as 1))))
def S_X1_isCell : mjSp := fun M as => (M = [] ∧ as = [.int (aI as 0)], none, some (.int (gIsCell (aI as 0))))
def S_X1_isJoint : mjSp := fun M as => (M = [] ∧ as = [.int (aI as 0)], none, some (.int (gIsJoint (aI as 0))))
def S_X1_firstCell : mjSp := fun M as => (M = [] ∧ as = [.int (aI as 0)], none, some (.int (gFirst (aI as 0))))
def S_X1_secondCell : mjSp := fun M as => (M = [] ∧ as = [.int (aI as 0)], none, some (.int (gSecond (aI as 0))))
def S_X1_otherCell : mjSp := fun M as => (M = [] ∧ as = [.int (aI as 0), .int (aI as 1)], none, some (.int (gOther (aI as 0) (aI as 1))))
def S_X1_jointAt : mjSp := fun M as => (M = [] ∧ as = [.int (aI as 0), .int (aI as 1)], none, some (.int (gJointAt (aI as 0) (aI as 1))))
def S_X1_rimSides : mjSp := fun M as => (M = [] ∧ as = [.int (aI as 0)], none, some (.int (gRim (aI as 0))))
def S_X1_isEnd : mjSp := fun M as => (M = [] ∧ as = [.int (aI as 0), .int (aI as 1)], none, some (.int (gIsEnd (aI as 0) (aI as 1))))
def S_X1_touch : mjSp := fun M as => (M = [] ∧ as = [.int (aI as 0), .int (aI as 1)], none, some (.int (gTouch (aI as 0) (aI as 1))))
def S_X6_isOutside : mjSp := fun M as => (M = [] ∧ as = [.int (aI as 0), .int (aI as 1), .int (aI as 2)], none, some (.int (gOut (aI as 0) (aI as 1) (aI as 2))))
theorem in1 {M : mjM} {as : List Value} (h : M = [] ∧ as = [.int (aI as 0)]) : ∃ x, M = [] ∧ as = [.int x] := ⟨_, h⟩
theorem in2 {M : mjM} {as : List Value} (h : M = [] ∧ as = [.int (aI as 0), .int (aI as 1)]) : ∃ x y, M = [] ∧ as = [.int x, .int y] := ⟨_, _, h⟩
theorem in3 {M : mjM} {as : List Value} (h : M = [] ∧ as = [.int (aI as 0), .int (aI as 1), .int (aI as 2)]) : ∃ x y z, M = [] ∧ as = [.int x, .int y, .int z] := ⟨_, _, _, h⟩
def rm_J9_abs_0f7a4 : Room := { frames := 0, cells := 0, slots := 0, locals := 0 }
noncomputable def G_J9_abs_0f7a4 : mjG := (I_J9_abs_0f7a4, (fun _ => none), [], (fun pc => []), Y0, (fun _ => none), (fun _ => none), (some .int), 0, 0, false, [])
set_option maxHeartbeats 20000000 in
set_option maxRecDepth 100000 in
theorem ok_J9_abs_0f7a4 : mjOK G_J9_abs_0f7a4 1 S_J9_abs_0f7a4 := by
  intro M as hP T hT
  obtain ⟨x, rfl, rfl⟩ := in1 hP
  refine hT.1 (fun _ => false) 40 _ _ _ _ _ ?_
  refine And.intro (fun h => ⟨rfl, mjsi ?_⟩) (fun h => ⟨rfl, mjsi ?_⟩)
  · exact (if_pos h).symm
  · exact (if_neg h).symm
set_option maxRecDepth 10000 in
theorem ct_J9_abs_0f7a4 (l : Launch) : mjCT l yJ9_abs_0f7a4 cJ9_abs_0f7a4 1 (some .int) rm_J9_abs_0f7a4 S_J9_abs_0f7a4 :=
  mjCT_of (own := RJ9) (G := G_J9_abs_0f7a4) pf_J9_abs_0f7a4 rfl ok_J9_abs_0f7a4 (fun meth hm => ⟨fun pc row h => (I_J9_abs_0f7a4_ok pc row h).1, (fun _ _ _ _ h => by cases h), fun _ h => absurd h List.not_mem_nil, (fun _ _ _ h => by cases h), (fun _ _ h => by cases h), ⟨Nat.le_refl _, Nat.le_refl _⟩, (fun h => by cases h), (fun h => absurd h (by decide)), fun _ h => absurd h List.not_mem_nil⟩) rfl rfl rfl (fun pc row h => (I_J9_abs_0f7a4_ok pc row h).2)
def rm_J9_max_7cf53 : Room := { frames := 0, cells := 0, slots := 0, locals := 0 }
noncomputable def G_J9_max_7cf53 : mjG := (I_J9_max_7cf53, (fun _ => none), [], (fun pc => []), Y0, (fun _ => none), (fun _ => none), (some .int), 0, 0, false, [])
set_option maxHeartbeats 20000000 in
set_option maxRecDepth 100000 in
theorem ok_J9_max_7cf53 : mjOK G_J9_max_7cf53 2 S_J9_max_7cf53 := by
  intro M as hP T hT
  obtain ⟨x, y, rfl, rfl⟩ := in2 hP
  refine hT.1 (fun _ => false) 40 _ _ _ _ _ ?_
  refine And.intro (fun h => ⟨rfl, mjsi ?_⟩) (fun h => ⟨rfl, mjsi ?_⟩)
  · exact (if_pos h).symm
  · exact (if_neg h).symm
set_option maxRecDepth 10000 in
theorem ct_J9_max_7cf53 (l : Launch) : mjCT l yJ9_max_7cf53 cJ9_max_7cf53 2 (some .int) rm_J9_max_7cf53 S_J9_max_7cf53 :=
  mjCT_of (own := RJ9) (G := G_J9_max_7cf53) pf_J9_max_7cf53 rfl ok_J9_max_7cf53 (fun meth hm => ⟨fun pc row h => (I_J9_max_7cf53_ok pc row h).1, (fun _ _ _ _ h => by cases h), fun _ h => absurd h List.not_mem_nil, (fun _ _ _ h => by cases h), (fun _ _ h => by cases h), ⟨Nat.le_refl _, Nat.le_refl _⟩, (fun h => by cases h), (fun h => absurd h (by decide)), fun _ h => absurd h List.not_mem_nil⟩) rfl rfl rfl (fun pc row h => (I_J9_max_7cf53_ok pc row h).2)
def rm_J9_min_7cf53 : Room := { frames := 0, cells := 0, slots := 0, locals := 0 }
noncomputable def G_J9_min_7cf53 : mjG := (I_J9_min_7cf53, (fun _ => none), [], (fun pc => []), Y0, (fun _ => none), (fun _ => none), (some .int), 0, 0, false, [])
set_option maxHeartbeats 20000000 in
set_option maxRecDepth 100000 in
theorem ok_J9_min_7cf53 : mjOK G_J9_min_7cf53 2 S_J9_min_7cf53 := by
  intro M as hP T hT
  obtain ⟨x, y, rfl, rfl⟩ := in2 hP
  refine hT.1 (fun _ => false) 40 _ _ _ _ _ ?_
  refine And.intro (fun h => ⟨rfl, mjsi ?_⟩) (fun h => ⟨rfl, mjsi ?_⟩)
  · exact (if_pos h).symm
  · exact (if_neg h).symm
set_option maxRecDepth 10000 in
theorem ct_J9_min_7cf53 (l : Launch) : mjCT l yJ9_min_7cf53 cJ9_min_7cf53 2 (some .int) rm_J9_min_7cf53 S_J9_min_7cf53 :=
  mjCT_of (own := RJ9) (G := G_J9_min_7cf53) pf_J9_min_7cf53 rfl ok_J9_min_7cf53 (fun meth hm => ⟨fun pc row h => (I_J9_min_7cf53_ok pc row h).1, (fun _ _ _ _ h => by cases h), fun _ h => absurd h List.not_mem_nil, (fun _ _ _ h => by cases h), (fun _ _ h => by cases h), ⟨Nat.le_refl _, Nat.le_refl _⟩, (fun h => by cases h), (fun h => absurd h (by decide)), fun _ h => absurd h List.not_mem_nil⟩) rfl rfl rfl (fun pc row h => (I_J9_min_7cf53_ok pc row h).2)
def rm_X1_isCell : Room := { frames := 0, cells := 0, slots := 0, locals := 0 }
noncomputable def G_X1_isCell : mjG := (I_X1_isCell, (fun _ => none), [], (fun pc => []), Y0, (fun _ => none), (fun _ => none), (some .boolean), 0, 0, false, [])
set_option maxHeartbeats 20000000 in
set_option maxRecDepth 100000 in
theorem ok_X1_isCell : mjOK G_X1_isCell 1 S_X1_isCell := by
  intro M as hP T hT
  obtain ⟨x, rfl, rfl⟩ := in1 hP
  refine hT.1 (fun _ => false) 40 _ _ _ _ _ ?_
  refine And.intro (fun h => ⟨rfl, rfl, mjsi ?_⟩) (fun h => And.intro (fun h2 => ⟨rfl, rfl, mjsi ?_⟩) (fun h2 => ⟨rfl, rfl, mjsi ?_⟩)) <;> (show _ = gIsCell x; simp only [gIsCell, h, if_true, if_false]) <;> simp only [h2, if_true, if_false]
set_option maxRecDepth 10000 in
theorem ct_X1_isCell (l : Launch) : mjCT l yX1_isCell cX1_isCell 1 (some .boolean) rm_X1_isCell S_X1_isCell :=
  mjCT_of (own := RX1) (G := G_X1_isCell) (plainFor_of_name pn_X1) rfl ok_X1_isCell (fun meth hm => ⟨fun pc row h => (I_X1_isCell_ok pc row h).1, (fun _ _ _ _ h => by cases h), fun _ h => absurd h List.not_mem_nil, (fun _ _ _ h => by cases h), (fun _ _ h => by cases h), ⟨Nat.le_refl _, Nat.le_refl _⟩, (fun h => by cases h), (fun h => absurd h (by decide)), fun _ h => absurd h List.not_mem_nil⟩) rfl rfl rfl (fun pc row h => (I_X1_isCell_ok pc row h).2)
def rm_X1_isJoint : Room := { frames := 0, cells := 0, slots := 0, locals := 0 }
noncomputable def G_X1_isJoint : mjG := (I_X1_isJoint, (fun _ => none), [], (fun pc => []), Y0, (fun _ => none), (fun _ => none), (some .boolean), 0, 0, false, [])
set_option maxHeartbeats 20000000 in
set_option maxRecDepth 100000 in
theorem ok_X1_isJoint : mjOK G_X1_isJoint 1 S_X1_isJoint := by
  intro M as hP T hT
  obtain ⟨x, rfl, rfl⟩ := in1 hP
  refine hT.1 (fun _ => false) 40 _ _ _ _ _ ?_
  refine And.intro (fun h => ⟨rfl, rfl, mjsi ?_⟩) (fun h => And.intro (fun h2 => ⟨rfl, rfl, mjsi ?_⟩) (fun h2 => ⟨rfl, rfl, mjsi ?_⟩)) <;> (show _ = gIsJoint x; simp only [gIsJoint, h, if_true, if_false]) <;> simp only [h2, if_true, if_false]
set_option maxRecDepth 10000 in
theorem ct_X1_isJoint (l : Launch) : mjCT l yX1_isJoint cX1_isJoint 1 (some .boolean) rm_X1_isJoint S_X1_isJoint :=
  mjCT_of (own := RX1) (G := G_X1_isJoint) (plainFor_of_name pn_X1) rfl ok_X1_isJoint (fun meth hm => ⟨fun pc row h => (I_X1_isJoint_ok pc row h).1, (fun _ _ _ _ h => by cases h), fun _ h => absurd h List.not_mem_nil, (fun _ _ _ h => by cases h), (fun _ _ h => by cases h), ⟨Nat.le_refl _, Nat.le_refl _⟩, (fun h => by cases h), (fun h => absurd h (by decide)), fun _ h => absurd h List.not_mem_nil⟩) rfl rfl rfl (fun pc row h => (I_X1_isJoint_ok pc row h).2)
def rm_X1_firstCell : Room := { frames := 0, cells := 0, slots := 0, locals := 0 }
noncomputable def G_X1_firstCell : mjG := (I_X1_firstCell, (fun _ => none), [], (fun pc => []), Y0, (fun _ => none), (fun _ => none), (some .int), 0, 0, false, [])
set_option maxHeartbeats 20000000 in
set_option maxRecDepth 100000 in
theorem ok_X1_firstCell : mjOK G_X1_firstCell 1 S_X1_firstCell := by
  intro M as hP T hT
  obtain ⟨x, rfl, rfl⟩ := in1 hP
  refine hT.1 (fun _ => false) 40 _ _ _ _ _ ?_
  refine And.intro (fun h => ⟨rfl, mjsi ?_⟩) (fun h => ⟨rfl, mjsi ?_⟩)
  · exact (if_pos h).symm
  · exact (if_neg h).symm
set_option maxRecDepth 10000 in
theorem ct_X1_firstCell (l : Launch) : mjCT l yX1_firstCell cX1_firstCell 1 (some .int) rm_X1_firstCell S_X1_firstCell :=
  mjCT_of (own := RX1) (G := G_X1_firstCell) (plainFor_of_name pn_X1) rfl ok_X1_firstCell (fun meth hm => ⟨fun pc row h => (I_X1_firstCell_ok pc row h).1, (fun _ _ _ _ h => by cases h), fun _ h => absurd h List.not_mem_nil, (fun _ _ _ h => by cases h), (fun _ _ h => by cases h), ⟨Nat.le_refl _, Nat.le_refl _⟩, (fun h => by cases h), (fun h => absurd h (by decide)), fun _ h => absurd h List.not_mem_nil⟩) rfl rfl rfl (fun pc row h => (I_X1_firstCell_ok pc row h).2)
def rm_X1_secondCell : Room := { frames := 0, cells := 0, slots := 0, locals := 0 }
noncomputable def G_X1_secondCell : mjG := (I_X1_secondCell, (fun _ => none), [], (fun pc => []), Y0, (fun _ => none), (fun _ => none), (some .int), 0, 0, false, [])
set_option maxHeartbeats 20000000 in
set_option maxRecDepth 100000 in
theorem ok_X1_secondCell : mjOK G_X1_secondCell 1 S_X1_secondCell := by
  intro M as hP T hT
  obtain ⟨x, rfl, rfl⟩ := in1 hP
  refine hT.1 (fun _ => false) 40 _ _ _ _ _ ?_
  refine And.intro (fun h => ⟨rfl, mjsi ?_⟩) (fun h => ⟨rfl, mjsi ?_⟩)
  · exact (if_pos h).symm
  · exact (if_neg h).symm
set_option maxRecDepth 10000 in
theorem ct_X1_secondCell (l : Launch) : mjCT l yX1_secondCell cX1_secondCell 1 (some .int) rm_X1_secondCell S_X1_secondCell :=
  mjCT_of (own := RX1) (G := G_X1_secondCell) (plainFor_of_name pn_X1) rfl ok_X1_secondCell (fun meth hm => ⟨fun pc row h => (I_X1_secondCell_ok pc row h).1, (fun _ _ _ _ h => by cases h), fun _ h => absurd h List.not_mem_nil, (fun _ _ _ h => by cases h), (fun _ _ h => by cases h), ⟨Nat.le_refl _, Nat.le_refl _⟩, (fun h => by cases h), (fun h => absurd h (by decide)), fun _ h => absurd h List.not_mem_nil⟩) rfl rfl rfl (fun pc row h => (I_X1_secondCell_ok pc row h).2)
def rm_X1_otherCell : Room := { frames := 1, cells := 0, slots := 0, locals := 20 }
noncomputable def G_X1_otherCell : mjG := (I_X1_otherCell, (fun _ => none), [(9, 1, 0, 1, 0, 0, S_X1_firstCell), (15, 1, 0, 1, 0, 0, S_X1_secondCell)], (fun pc => []), Y0, (fun _ => none), (fun _ => none), (some .int), 0, 0, false, [])
set_option maxHeartbeats 20000000 in
set_option maxRecDepth 100000 in
theorem ok_X1_otherCell : mjOK G_X1_otherCell 2 S_X1_otherCell := by
  intro M as hP T hT
  obtain ⟨x, y, rfl, rfl⟩ := in2 hP
  refine hT.1 (fun _ => false) 40 _ _ _ _ _ ?_
  refine And.intro ⟨rfl, rfl⟩ (And.intro (fun h => And.intro ⟨rfl, rfl⟩ ⟨rfl, mjsi ?_⟩) (fun h => And.intro ⟨rfl, rfl⟩ ⟨rfl, mjsi ?_⟩))
  · exact (if_neg h).symm
  · exact (if_pos h).symm
set_option maxRecDepth 10000 in
theorem ct_X1_otherCell (l : Launch) : mjCT l yX1_otherCell cX1_otherCell 2 (some .int) rm_X1_otherCell S_X1_otherCell :=
  mjCT_of (own := RX1) (G := G_X1_otherCell) (plainFor_of_name pn_X1) rfl ok_X1_otherCell (fun meth hm => ⟨fun pc row h => (I_X1_otherCell_ok pc row h).1, (fun _ _ _ _ h => by cases h), List.forall_mem_cons.mpr ⟨⟨yX1_firstCell, cX1_firstCell, 1, (some .int), rm_X1_firstCell, ct_X1_firstCell l, ⟨rfl, rfl⟩, ⟨by decide, by decide⟩, by decide, nk_X1_firstCell, ln_X1_9, st_X1_firstCell⟩, List.forall_mem_cons.mpr ⟨⟨yX1_secondCell, cX1_secondCell, 1, (some .int), rm_X1_secondCell, ct_X1_secondCell l, ⟨rfl, rfl⟩, ⟨by decide, by decide⟩, by decide, nk_X1_secondCell, ln_X1_15, st_X1_secondCell⟩, fun _ h => absurd h List.not_mem_nil⟩⟩, (fun _ _ _ h => by cases h), (fun _ _ h => by cases h), ⟨Nat.le_refl _, Nat.le_refl _⟩, (fun h => by cases h), (fun h => absurd h (by decide)), fun _ h => absurd h List.not_mem_nil⟩) rfl rfl rfl (fun pc row h => (I_X1_otherCell_ok pc row h).2)
def rm_X1_jointAt : Room := { frames := 0, cells := 0, slots := 0, locals := 0 }
noncomputable def G_X1_jointAt : mjG := (I_X1_jointAt, (fun _ => none), [], (fun pc => []), Y_X1_jointAt, (fun _ => none), (fun _ => none), (some .int), 0, 0, false, [])
set_option maxHeartbeats 20000000 in
set_option maxRecDepth 100000 in
theorem ok_X1_jointAt : mjOK G_X1_jointAt 4 S_X1_jointAt := by
  intro M as hP T hT
  obtain ⟨x, y, rfl, rfl⟩ := in2 hP
  refine hT.1 (fun _ => false) 60 _ _ _ _ _ ?_
  refine And.intro (fun h => And.intro (fun h2 => ⟨rfl, mjsi ?_⟩) (fun h2 => ⟨rfl, mjsi ?_⟩)) (fun h => And.intro (fun h1 => And.intro (fun h2 => ⟨rfl, mjsi ?_⟩) (fun h2 => ⟨rfl, mjsi ?_⟩)) (fun h1 => And.intro (fun h3 => And.intro (fun h2 => ⟨rfl, mjsi ?_⟩) (fun h2 => ⟨rfl, mjsi ?_⟩)) (fun h3 => And.intro (fun h2 => ⟨rfl, mjsi ?_⟩) (fun h2 => ⟨rfl, mjsi ?_⟩))))
  all_goals (show _ = gJointAt x y; unfold gJointAt)
  · rw [if_pos h, if_pos h2]
  · rw [if_pos h, if_neg h2]
  · rw [if_neg h, if_pos h1, if_pos h2]
  · rw [if_neg h, if_pos h1, if_neg h2]
  · rw [if_neg h, if_neg h1, if_pos h3, if_pos h2]
  · rw [if_neg h, if_neg h1, if_pos h3, if_neg h2]
  · rw [if_neg h, if_neg h1, if_neg h3, if_pos h2]
  · rw [if_neg h, if_neg h1, if_neg h3, if_neg h2]
set_option maxRecDepth 10000 in
theorem ct_X1_jointAt (l : Launch) : mjCT l yX1_jointAt cX1_jointAt 4 (some .int) rm_X1_jointAt S_X1_jointAt :=
  mjCT_of (own := RX1) (G := G_X1_jointAt) (plainFor_of_name pn_X1) rfl ok_X1_jointAt (fun meth hm => ⟨fun pc row h => (I_X1_jointAt_ok pc row h).1, (fun _ _ _ _ h => by cases h), fun _ h => absurd h List.not_mem_nil, (fun _ _ _ h => by cases h), (fun _ _ h => by cases h), ⟨Nat.le_refl _, Nat.le_refl _⟩, (fun h => by cases h), (fun h => absurd h (by decide)), fun _ h => absurd h List.not_mem_nil⟩) rfl rfl rfl (fun pc row h => (I_X1_jointAt_ok pc row h).2)
def rm_X1_rimSides : Room := { frames := 0, cells := 0, slots := 0, locals := 0 }
noncomputable def G_X1_rimSides : mjG := (I_X1_rimSides, (fun _ => none), [], (fun pc => []), Y0, (fun _ => none), (fun _ => none), (some .int), 0, 0, false, [])
set_option maxHeartbeats 20000000 in
set_option maxRecDepth 100000 in
theorem ok_X1_rimSides : mjOK G_X1_rimSides 5 S_X1_rimSides := by
  intro M as hP T hT
  obtain ⟨x, rfl, rfl⟩ := in1 hP
  have tail : ∀ (z : Int32), z = (if x / 6 = 0 then 1 else if x / 6 = 5 then 1 else 0) → T 25 [some (.int x), some (.int (x / 6)), some (.int (x - x / 6 * 6)), some (.int z), none] [] [] (0, 0) := by
    intro z hz
    refine hT.1 (fun _ => false) 40 _ _ _ _ _ ?_
    refine And.intro (fun h => ⟨rfl, mjsi ?_⟩) (fun h => And.intro (fun h2 => ⟨rfl, mjsi ?_⟩) (fun h2 => ⟨rfl, mjsi ?_⟩)) <;> (show _ = gRim x; unfold gRim; rw [hz])
    · rw [if_pos h]
    · rw [if_neg h, if_neg h2]
    · rw [if_neg h, if_pos h2]
  refine hT.1 (fun pc => Nat.beq pc 25) 40 _ _ _ _ _ ?_
  refine And.intro (fun h => tail _ ?_) (fun h => And.intro (fun h2 => tail _ ?_) (fun h2 => tail _ ?_))
  · rw [if_pos h]
  · rw [if_neg h, if_neg h2]
  · rw [if_neg h, if_pos h2]
set_option maxRecDepth 10000 in
theorem ct_X1_rimSides (l : Launch) : mjCT l yX1_rimSides cX1_rimSides 5 (some .int) rm_X1_rimSides S_X1_rimSides :=
  mjCT_of (own := RX1) (G := G_X1_rimSides) (plainFor_of_name pn_X1) rfl ok_X1_rimSides (fun meth hm => ⟨fun pc row h => (I_X1_rimSides_ok pc row h).1, (fun _ _ _ _ h => by cases h), fun _ h => absurd h List.not_mem_nil, (fun _ _ _ h => by cases h), (fun _ _ h => by cases h), ⟨Nat.le_refl _, Nat.le_refl _⟩, (fun h => by cases h), (fun h => absurd h (by decide)), fun _ h => absurd h List.not_mem_nil⟩) rfl rfl rfl (fun pc row h => (I_X1_rimSides_ok pc row h).2)
def rm_X1_isEnd : Room := { frames := 1, cells := 0, slots := 0, locals := 20 }
noncomputable def G_X1_isEnd : mjG := (I_X1_isEnd, (fun _ => none), [(9, 1, 0, 1, 0, 0, S_X1_firstCell), (15, 1, 0, 1, 0, 0, S_X1_secondCell)], (fun pc => []), Y0, (fun _ => none), (fun _ => none), (some .boolean), 0, 0, false, [])
set_option maxHeartbeats 20000000 in
set_option maxRecDepth 100000 in
theorem ok_X1_isEnd : mjOK G_X1_isEnd 2 S_X1_isEnd := by
  intro M as hP T hT
  obtain ⟨x, y, rfl, rfl⟩ := in2 hP
  refine hT.1 (fun _ => false) 40 _ _ _ _ _ ?_
  refine And.intro ⟨rfl, rfl⟩ (And.intro (fun (h : gFirst y = x) => ⟨rfl, rfl, mjsi ?_⟩) (fun (h : ¬ gFirst y = x) => And.intro ⟨rfl, rfl⟩ (And.intro (fun (h2 : ¬ gSecond y = x) => ⟨rfl, rfl, mjsi ?_⟩) (fun (h2 : gSecond y = x) => ⟨rfl, rfl, mjsi ?_⟩)))) <;> (show _ = gIsEnd x y; unfold gIsEnd)
  · rw [if_pos h]
  · rw [if_neg h, if_neg h2]
  · rw [if_neg h, if_pos h2]
set_option maxRecDepth 10000 in
theorem ct_X1_isEnd (l : Launch) : mjCT l yX1_isEnd cX1_isEnd 2 (some .boolean) rm_X1_isEnd S_X1_isEnd :=
  mjCT_of (own := RX1) (G := G_X1_isEnd) (plainFor_of_name pn_X1) rfl ok_X1_isEnd (fun meth hm => ⟨fun pc row h => (I_X1_isEnd_ok pc row h).1, (fun _ _ _ _ h => by cases h), List.forall_mem_cons.mpr ⟨⟨yX1_firstCell, cX1_firstCell, 1, (some .int), rm_X1_firstCell, ct_X1_firstCell l, ⟨rfl, rfl⟩, ⟨by decide, by decide⟩, by decide, nk_X1_firstCell, ln_X1_9, st_X1_firstCell⟩, List.forall_mem_cons.mpr ⟨⟨yX1_secondCell, cX1_secondCell, 1, (some .int), rm_X1_secondCell, ct_X1_secondCell l, ⟨rfl, rfl⟩, ⟨by decide, by decide⟩, by decide, nk_X1_secondCell, ln_X1_15, st_X1_secondCell⟩, fun _ h => absurd h List.not_mem_nil⟩⟩, (fun _ _ _ h => by cases h), (fun _ _ h => by cases h), ⟨Nat.le_refl _, Nat.le_refl _⟩, (fun h => by cases h), (fun h => absurd h (by decide)), fun _ h => absurd h List.not_mem_nil⟩) rfl rfl rfl (fun pc row h => (I_X1_isEnd_ok pc row h).2)
def rm_X1_touch : Room := { frames := 2, cells := 0, slots := 0, locals := 41 }
noncomputable def G_X1_touch : mjG := (I_X1_touch, (fun _ => none), [(9, 1, 0, 1, 0, 0, S_X1_firstCell), (18, 1, 0, 2, 0, 0, S_X1_isEnd), (15, 1, 0, 1, 0, 0, S_X1_secondCell)], (fun pc => []), Y0, (fun _ => none), (fun _ => none), (some .boolean), 0, 0, false, [])
set_option maxHeartbeats 20000000 in
set_option maxRecDepth 100000 in
theorem ok_X1_touch : mjOK G_X1_touch 2 S_X1_touch := by
  intro M as hP T hT
  obtain ⟨x, y, rfl, rfl⟩ := in2 hP
  refine hT.1 (fun _ => false) 40 _ _ _ _ _ ?_
  refine And.intro (fun h => ⟨rfl, rfl, mjsi ?_⟩) (fun h => And.intro ⟨rfl, rfl⟩ (And.intro ⟨rfl, rfl⟩ (And.intro (fun (h2 : ¬ gIsEnd (gFirst x) y = 0) => ⟨rfl, rfl, mjsi ?_⟩) (fun (h2 : gIsEnd (gFirst x) y = 0) => And.intro ⟨rfl, rfl⟩ (And.intro ⟨rfl, rfl⟩ (And.intro (fun (h3 : gIsEnd (gSecond x) y = 0) => ⟨rfl, rfl, mjsi ?_⟩) (fun (h3 : ¬ gIsEnd (gSecond x) y = 0) => ⟨rfl, rfl, mjsi ?_⟩))))))) <;> (show _ = gTouch x y; unfold gTouch)
  · rw [if_pos h]
  · rw [if_neg h, if_neg h2]
  · rw [if_neg h, if_pos h2, if_pos h3]
  · rw [if_neg h, if_pos h2, if_neg h3]
set_option maxRecDepth 10000 in
theorem ct_X1_touch (l : Launch) : mjCT l yX1_touch cX1_touch 2 (some .boolean) rm_X1_touch S_X1_touch :=
  mjCT_of (own := RX1) (G := G_X1_touch) (plainFor_of_name pn_X1) rfl ok_X1_touch (fun meth hm => ⟨fun pc row h => (I_X1_touch_ok pc row h).1, (fun _ _ _ _ h => by cases h), List.forall_mem_cons.mpr ⟨⟨yX1_firstCell, cX1_firstCell, 1, (some .int), rm_X1_firstCell, ct_X1_firstCell l, ⟨rfl, rfl⟩, ⟨by decide, by decide⟩, by decide, nk_X1_firstCell, ln_X1_9, st_X1_firstCell⟩, List.forall_mem_cons.mpr ⟨⟨yX1_isEnd, cX1_isEnd, 2, (some .boolean), rm_X1_isEnd, ct_X1_isEnd l, ⟨rfl, rfl⟩, ⟨by decide, by decide⟩, by decide, nk_X1_isEnd, ln_X1_18, st_X1_isEnd⟩, List.forall_mem_cons.mpr ⟨⟨yX1_secondCell, cX1_secondCell, 1, (some .int), rm_X1_secondCell, ct_X1_secondCell l, ⟨rfl, rfl⟩, ⟨by decide, by decide⟩, by decide, nk_X1_secondCell, ln_X1_15, st_X1_secondCell⟩, fun _ h => absurd h List.not_mem_nil⟩⟩⟩, (fun _ _ _ h => by cases h), (fun _ _ h => by cases h), ⟨Nat.le_refl _, Nat.le_refl _⟩, (fun h => by cases h), (fun h => absurd h (by decide)), fun _ h => absurd h List.not_mem_nil⟩) rfl rfl rfl (fun pc row h => (I_X1_touch_ok pc row h).2)
def rm_X6_isOutside : Room := { frames := 0, cells := 0, slots := 0, locals := 0 }
noncomputable def G_X6_isOutside : mjG := (I_X6_isOutside, F_X6, [], (fun pc => []), Y0, (fun _ => none), (fun _ => none), (some .boolean), 0, 0, false, [])
set_option maxHeartbeats 20000000 in
set_option maxRecDepth 100000 in
theorem ok_X6_isOutside : mjOK G_X6_isOutside 3 S_X6_isOutside := by
  intro M as hP T hT
  obtain ⟨x, y, z, rfl, rfl⟩ := in3 hP
  refine hT.1 (fun _ => false) 40 _ _ _ _ _ ?_
  refine And.intro (fun h => ⟨rfl, rfl, mjsi ?_⟩) (fun h => And.intro (fun h2 => ⟨rfl, rfl, mjsi ?_⟩) (fun h2 => ⟨rfl, rfl, mjsi ?_⟩)) <;> (show _ = gOut x y z; unfold gOut)
  · rw [if_pos h]
  · rw [if_neg h, if_pos h2]
  · rw [if_neg h, if_neg h2]
set_option maxRecDepth 10000 in
theorem ct_X6_isOutside (l : Launch) : mjCT l yX6_isOutside cX6_isOutside 3 (some .boolean) rm_X6_isOutside S_X6_isOutside :=
  mjCT_of (own := RX6) (G := G_X6_isOutside) (plainFor_of_name pn_X6) rfl ok_X6_isOutside (fun meth hm => ⟨fun pc row h => (I_X6_isOutside_ok pc row h).1, F_X6_ok, fun _ h => absurd h List.not_mem_nil, (fun _ _ _ h => by cases h), (fun _ _ h => by cases h), ⟨Nat.le_refl _, Nat.le_refl _⟩, (fun h => by cases h), (fun h => absurd h (by decide)), fun _ h => absurd h List.not_mem_nil⟩) rfl rfl rfl (fun pc row h => (I_X6_isOutside_ok pc row h).2)
/-- fill: all of the row -/
def fillA (n : Nat) (f : Nat → Int32) (v : Int32) : Nat → Int32 := fun k => if k < n then v else f k
def rN (M : mjM) (i : Nat) : Nat := match M[i]? with
  | some (.inl (_, (n, _))) => n
  | _ => 0
def S_J7_fill_53178 : mjSp := fun M as => ((M = [.inl (0, (rN M 0, .inl (rA M 0)))] ∧ rN M 0 < 2147483647) ∧ as = [.ref 0, .int (aI as 1)], some [.inl (0, (rN M 0, .inl (fillA (rN M 0) (rA M 0) (aI as 1))))], none)
def rm_J7_fill_53178 : Room := { frames := 0, cells := 0, slots := 0, locals := 0 }
noncomputable def G_J7_fill_53178 : mjG := (I_J7_fill_53178, (fun _ => none), [], (fun pc => []), Y0, (fun _ => none), (fun _ => none), none, 0, 0, false, [])
set_option maxHeartbeats 20000000 in
set_option maxRecDepth 100000 in
theorem ok_J7_fill_53178 : mjOK G_J7_fill_53178 4 S_J7_fill_53178 := by
  intro M as hP T hT
  obtain ⟨⟨hM, hn⟩, ha⟩ := hP
  obtain ⟨n, f, v, rfl, rfl, hn⟩ : ∃ n f v, M = [.inl (0, (n, .inl f))] ∧ as = [.ref 0, .int v] ∧ n < 2147483647 := ⟨_, _, _, hM, ha, hn⟩
  have loop : ∀ (F : Nat → Int32), (∀ k, F k = fillA 0 f v k) → T 5 [some (.ref 0), some (.int v), some (.int (nI 0)), some (.int (nI n))] [] [.inl (0, (n, .inl F))] (0, 0) := by
    refine mjloop0 n (fun i => ∀ (F : Nat → Int32), (∀ k, F k = fillA i f v k) → T 5 [some (.ref 0), some (.int v), some (.int (nI i)), some (.int (nI n))] [] [.inl (0, (n, .inl F))] (0, 0)) (fun i hi ih F hF => ?_) (fun F hF => ?_)
    · refine hT.1 (fun pc => Nat.beq pc 5) 40 _ _ _ _ _ ?_
      refine And.intro (fun h => absurd h (nI_ge hi (by omega))) (fun _ => mjix_n hi (by omega) ?_)
      have := ih (upd F i v) (fun k => by
        unfold upd fillA
        by_cases hk : k = i
        · subst hk; simp
        · rw [if_neg hk, hF k]
          unfold fillA
          by_cases h2 : k < i
          · rw [if_pos h2, if_pos (by omega)]
          · rw [if_neg h2, if_neg (by omega)])
      rw [nI_succ] at this
      exact this
    · refine hT.1 (fun pc => Nat.beq pc 5) 40 _ _ _ _ _ ?_
      refine And.intro (fun h => ⟨?_, rfl⟩) (fun h => absurd (nI_le (Nat.le_refl n) (by omega)) h)
      rw [show F = fillA n f v from funext hF]
      rfl
  refine hT.1 (fun pc => Nat.beq pc 5) 40 _ _ _ _ _ ?_
  exact loop f (fun k => by simp [fillA])
set_option maxRecDepth 10000 in
theorem ct_J7_fill_53178 (l : Launch) : mjCT l yJ7_fill_53178 cJ7_fill_53178 4 none rm_J7_fill_53178 S_J7_fill_53178 :=
  mjCT_of (own := RJ7) (G := G_J7_fill_53178) pf_J7_fill_53178 rfl ok_J7_fill_53178 (fun meth hm => ⟨fun pc row h => (I_J7_fill_53178_ok pc row h).1, (fun _ _ _ _ h => by cases h), fun _ h => absurd h List.not_mem_nil, (fun _ _ _ h => by cases h), (fun _ _ h => by cases h), ⟨Nat.le_refl _, Nat.le_refl _⟩, (fun h => by cases h), (fun h => absurd h (by decide)), fun _ h => absurd h List.not_mem_nil⟩) rfl rfl rfl (fun pc row h => (I_J7_fill_53178_ok pc row h).2)
