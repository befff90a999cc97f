/-! the pane: what changes it -/
def gFur (fu ai ra : Int32) : Int32 := if ai ≤ fu then gMax ai (fu - ra) else gMin ai (fu + ra)
def gGain (g : Nat → Int32) (k x : Int32) : Nat → Int32 := if gIsCell k = 0 then g else upd g k.toNatClampNeg (g k.toNatClampNeg + x)
def gPut (f : Nat → Int32) (j x : Int32) : Nat → Int32 := if gIsJoint j = 0 then f else upd f j.toNatClampNeg x
def gFx (h : Nat → Int32) (le j : Int32) : Int32 := (gAt 36 h (gFirst j) - gAt 36 h (gSecond j)) * le / 100
def gJo (h c : Nat → Int32) (le : Int32) (g : Nat → Int32) : Nat → Nat → Int32 := nf (fun i g => if gWh c (nI i) = 0 then g else gGain (gGain g (gFirst (nI i)) (-(gFx h le (nI i)))) (gSecond (nI i)) (gFx h le (nI i))) g
def gFr (h : Nat → Int32) (fu ri : Int32) (i : Nat) : Int32 := (h i - fu) * ri / 100 * gRim (nI i)
def gRi (h : Nat → Int32) (fu ri : Int32) (a : (Nat → Int32) × Int32) : Nat → (Nat → Int32) × Int32 := nf (fun i a => (upd a.1 i (a.1 i - gFr h fu ri i), a.2 + gFr h fu ri i)) a
def gHe (g : Nat → Int32) (h : Nat → Int32) : Nat → Nat → Int32 := nf (fun i h => upd h i (h i + g i)) h
/-- the heats' step -/
noncomputable def pFlow (p : PSt) : PSt := match p with
  | (h, g, s, c, fu, ai, ra, le, ri, mi, lo, fl) =>
    (kseal (gHe (kseal (gRi h (gFur fu ai ra) ri (kseal (gJo h c le (fillA 36 g 0) 60), lo) 36)).1 h 36), (kseal (gRi h (gFur fu ai ra) ri (kseal (gJo h c le (fillA 36 g 0) 60), lo) 36)).1, s, c, gFur fu ai ra, ai, ra, le, ri, mi + 1, (kseal (gRi h (gFur fu ai ra) ri (kseal (gJo h c le (fillA 36 g 0) 60), lo) 36)).2, fl)
def gWeak (c : Nat → Int32) (w : Int32) (s : Nat → Int32) : Nat → Nat → Int32 := nf (fun i s => if gWh c (nI i) = 0 then s else if gTouch (nI i) w = 0 then s else upd s i (gMax 1 (s i * 9 / 10))) s
/-- the crack's step; 1: one cracked -/
def pCrack (p : PSt) : PSt × Int32 := match p with
  | (h, g, s, c, fu, ai, ra, le, ri, mi, lo, fl) =>
    if gWh c (gWorst h s c 60).1 = 0 then (p, 0) else if gMar h s (gWorst h s c 60).1 < 0 then
      ((h, g, gWeak (upd c (gWorst h s c 60).1.toNatClampNeg mi) (gWorst h s c 60).1 s 60, upd c (gWorst h s c 60).1.toNatClampNeg mi, fu, ai, ra, le, ri, mi, lo, fl), 1) else (p, 0)
noncomputable def pMin (p : PSt) : PSt × Int32 := kseal (pCrack (pFlow p))
noncomputable def pPass (p : PSt) : Nat → PSt × Int32 := nf (fun _ a => ((pMin a.1).1, if (pMin a.1).2 = 0 then a.2 else a.2 + 1)) (p, 0)
noncomputable def pStay : PSt → Nat → PSt × Int32
  | p, 0 => (p, 1)
  | p, k + 1 => if (pMin p).2 = 0 then pStay (pMin p).1 k else ((pMin p).1, 0)
def pNew (p : PSt) (x : Int32) : PSt := match p with
  | (h, g, s, c, _, _, ra, le, ri, _, _, _) => (fillA 36 h x, g, fillA 60 s 100, fillA 60 c 0, x, x, ra, le, ri, 0, 0, 0)
def cpyA (n : Nat) (f g : Nat → Int32) : Nat → Int32 := fun k => if k < n then f k else g k
theorem va_cpyA (n : Nat) (f g : Nat → Int32) : va_cpy f g 0 0 n = cpyA n f g := by
  funext k
  simp [va_cpy, cpyA]
def pCopy (p q : PSt) : PSt := match p, q with
  | (h, g, s, c, _), (h', _, s', c', r) => (cpyA 36 h' h, g, cpyA 60 s' s, cpyA 60 c' c, r)
def pFlame (p : PSt) (k x : Int32) : PSt := match p with
  | (h, g, s, c, fu, ai, ra, le, ri, mi, lo, fl) => (if gIsCell k = 0 then h else upd h k.toNatClampNeg (gMax 0 (gAt 36 h k + x)), g, s, c, fu, ai, ra, le, ri, mi, lo, fl + (gMax 0 (gAt 36 h k + x) - gAt 36 h k))
def pwb (b : Nat) (p : PSt) : mjM := match p with
  | (h, g, s, c, fu, ai, ra, le, ri, mi, lo, fl) => [.inr (3, [.ref (b + 1), .ref (b + 2), .ref (b + 3), .ref (b + 4), .int fu, .int ai, .int ra, .int le, .int ri, .int mi, .int lo, .int fl]), .inl (0, (36, .inl h)), .inl (0, (36, .inl g)), .inl (0, (60, .inl s)), .inl (0, (60, .inl c))]
def rPb (b : Nat) (M : mjM) : PSt := (rA M (b + 1), rA M (b + 2), rA M (b + 3), rA M (b + 4), rF M b 4, rF M b 5, rF M b 6, rF M b 7, rF M b 8, rF M b 9, rF M b 10, rF M b 11)
def S_X4_moveFurnace : mjSp := fun M as => (M = pw (rP M) ∧ as = [.ref 0], some (pw (match rP M with
  | (h, g, s, c, fu, ai, ra, r) => (h, g, s, c, gFur fu ai ra, ai, ra, r))), none)
def S_X4_gain : mjSp := fun M as => (M = pw (rP M) ∧ as = [.ref 0, .int (aI as 1), .int (aI as 2)], some (pw (match rP M with
  | (h, g, r) => (h, gGain g (aI as 1) (aI as 2), r))), none)
noncomputable def S_X4_flowOverJoints : mjSp := fun M as => (M = pw (rP M) ∧ as = [.ref 0], some (pw (match rP M with
  | (h, g, s, c, fu, ai, ra, le, r) => (h, kseal (gJo h c le g 60), s, c, fu, ai, ra, le, r))), none)
noncomputable def S_X4_flowAtRim : mjSp := fun M as => (M = pw (rP M) ∧ as = [.ref 0], some (pw (match rP M with
  | (h, g, s, c, fu, ai, ra, le, ri, mi, lo, fl) => (h, (kseal (gRi h fu ri (g, lo) 36)).1, s, c, fu, ai, ra, le, ri, mi, (kseal (gRi h fu ri (g, lo) 36)).2, fl))), none)
noncomputable def S_X4_letHeatFlow : mjSp := fun M as => (M = pw (rP M) ∧ as = [.ref 0], some (pw (pFlow (rP M))), none)
noncomputable def S_X4_weakenBeside : mjSp := fun M as => (M = pw (rP M) ∧ as = [.ref 0, .int (aI as 1)], some (pw (match rP M with
  | (h, g, s, c, r) => (h, g, kseal (gWeak c (aI as 1) s 60), c, r))), none)
noncomputable def S_X4_crackWorst : mjSp := fun M as => (M = pw (rP M) ∧ as = [.ref 0], some (pw (kseal (pCrack (rP M))).1), some (.int (kseal (pCrack (rP M))).2))
noncomputable def S_X4_passMinutes : mjSp := fun M as => ((M = pw (rP M) ∧ as = [.ref 0, .int (aI as 1)]) ∧ ¬ aI as 1 < 0, some (pw (kseal (pPass (rP M) (aI as 1).toNatClampNeg)).1), some (.int (kseal (pPass (rP M) (aI as 1).toNatClampNeg)).2))
noncomputable def S_X4_staysWhole : mjSp := fun M as => ((M = pw (rP M) ∧ as = [.ref 0, .int (aI as 1)]) ∧ ¬ aI as 1 < 0, some (pw (kseal (pStay (rP M) (aI as 1).toNatClampNeg)).1), some (.int (kseal (pStay (rP M) (aI as 1).toNatClampNeg)).2))
def S_X4_renew : mjSp := fun M as => (M = pw (rP M) ∧ as = [.ref 0, .int (aI as 1)], some (pw (pNew (rP M) (aI as 1))), none)
def S_X4_copyFrom : mjSp := fun M as => (M = pw (rP M) ++ pwb 5 (rPb 5 M) ∧ as = [.ref 0, .ref 5], some (pw (pCopy (rP M) (rPb 5 M)) ++ pwb 5 (rPb 5 M)), none)
def S_X4_holdFlame : mjSp := fun M as => (M = pw (rP M) ∧ as = [.ref 0, .int (aI as 1), .int (aI as 2)], some (pw (pFlame (rP M) (aI as 1) (aI as 2))), some (.int (gMax 0 (gAt 36 (pH (rP M)) (aI as 1) + aI as 2))))
def S_X4_makeWhole : mjSp := fun M as => (M = pw (rP M) ∧ as = [.ref 0, .int (aI as 1)], some (pw (match rP M with
  | (h, g, s, c, r) => (h, g, s, gPut c (aI as 1) 0, r))), none)
def S_X4_strengthen : mjSp := fun M as => (M = pw (rP M) ∧ as = [.ref 0, .int (aI as 1), .int (aI as 2)], some (pw (match rP M with
  | (h, g, s, c, r) => (h, g, gPut s (aI as 1) (aI as 2), c, r))), none)
theorem pwg {h g g' s c : Nat → Int32} {r} (e : g = g') : pw (h, g, s, c, r) = pw (h, g', s, c, r) := by rw [e]
theorem pws {h g s s' c : Nat → Int32} {r} (e : s = s') : pw (h, g, s, c, r) = pw (h, g, s', c, r) := by rw [e]
theorem pwc {h g s c c' : Nat → Int32} {r} (e : c = c') : pw (h, g, s, c, r) = pw (h, g, s, c', r) := by rw [e]
def rm_X4_moveFurnace : Room := { frames := 1, cells := 0, slots := 0, locals := 21 }
noncomputable def G_X4_moveFurnace : mjG := (I_X4_moveFurnace, F_X4, [(81, 1, 0, 2, 0, 0, S_J9_min_7cf53), (87, 1, 0, 2, 0, 0, S_J9_max_7cf53)], (fun pc => []), Y0, (fun _ => none), (fun _ => none), none, 0, 0, false, [])
set_option maxHeartbeats 20000000 in
set_option maxRecDepth 100000 in
theorem ok_X4_moveFurnace : mjOK G_X4_moveFurnace 1 S_X4_moveFurnace := by
  intro M as hP T hT
  obtain ⟨⟨h, g, s, c, fu, ai, ra, le, ri, mi, lo, fl⟩, rfl, rfl⟩ := inP0 hP
  refine hT.1 (fun _ => false) 60 _ _ _ _ _ ?_
  refine And.intro (fun h1 => And.intro ⟨rfl, rfl⟩ ⟨?_, rfl⟩) (fun h1 => And.intro ⟨rfl, rfl⟩ ⟨?_, rfl⟩)
  · show pw (h, g, s, c, gMax ai (fu - ra), ai, ra, le, ri, mi, lo, fl) = pw (h, g, s, c, gFur fu ai ra, ai, ra, le, ri, mi, lo, fl)
    rw [show gFur fu ai ra = _ from if_pos h1]
  · show pw (h, g, s, c, gMin ai (fu + ra), ai, ra, le, ri, mi, lo, fl) = pw (h, g, s, c, gFur fu ai ra, ai, ra, le, ri, mi, lo, fl)
    rw [show gFur fu ai ra = _ from if_neg h1]
set_option maxRecDepth 10000 in
theorem ct_X4_moveFurnace (l : Launch) : mjCT l yX4_moveFurnace cX4_moveFurnace 1 none rm_X4_moveFurnace S_X4_moveFurnace :=
  mjCT_of (own := RX4) (G := G_X4_moveFurnace) (plainFor_of_name pn_X4) rfl ok_X4_moveFurnace (fun meth hm => ⟨fun pc row h => (I_X4_moveFurnace_ok pc row h).1, F_X4_ok, List.forall_mem_cons.mpr ⟨⟨yJ9_min_7cf53, cJ9_min_7cf53, 2, (some .int), rm_J9_min_7cf53, ct_J9_min_7cf53 l, ⟨rfl, rfl⟩, ⟨by decide, by decide⟩, by decide, nk_J9_min_7cf53, ln_X4_81, st_J9_min_7cf53⟩, List.forall_mem_cons.mpr ⟨⟨yJ9_max_7cf53, cJ9_max_7cf53, 2, (some .int), rm_J9_max_7cf53, ct_J9_max_7cf53 l, ⟨rfl, rfl⟩, ⟨by decide, by decide⟩, by decide, nk_J9_max_7cf53, ln_X4_87, st_J9_max_7cf53⟩, fun _ h => absurd h List.not_mem_nil⟩⟩, (fun _ _ _ h => by cases h), (fun _ _ h => by cases h), ⟨Nat.le_refl _, Nat.le_refl _⟩, (fun h => by cases h), (fun h => absurd h (by decide)), fun _ h => absurd h List.not_mem_nil⟩) rfl rfl rfl (fun pc row h => (I_X4_moveFurnace_ok pc row h).2)
def rm_X4_gain : Room := { frames := 1, cells := 0, slots := 0, locals := 20 }
noncomputable def G_X4_gain : mjG := (I_X4_gain, F_X4, [(113, 1, 0, 1, 0, 0, S_X1_isCell)], (fun pc => []), Y0, (fun _ => none), (fun _ => none), none, 0, 0, false, [])
set_option maxHeartbeats 20000000 in
set_option maxRecDepth 100000 in
theorem ok_X4_gain : mjOK G_X4_gain 3 S_X4_gain := by
  intro M as hP T hT
  obtain ⟨⟨h, g, s, c, fu, ai, ra, le, ri, mi, lo, fl⟩, k, x, rfl, rfl⟩ := inP2 hP
  refine hT.1 (fun _ => false) 60 _ _ _ _ _ ?_
  refine And.intro ⟨rfl, rfl⟩ (And.intro (fun (h1 : gIsCell k = 0) => ⟨?_, rfl⟩) (fun (h1 : ¬ gIsCell k = 0) => mjix_of (gIsCell_ne h1).1 (gIsCell_ne h1).2 rfl (by decide) (mjix_of (gIsCell_ne h1).1 (gIsCell_ne h1).2 rfl (by decide) ⟨?_, rfl⟩)))
  · exact pwg (if_pos h1).symm
  · show pw (h, upd g k.toNatClampNeg (g k.toNatClampNeg + x), s, c, fu, ai, ra, le, ri, mi, lo, fl) = _
    exact pwg (if_neg h1).symm
set_option maxRecDepth 10000 in
theorem ct_X4_gain (l : Launch) : mjCT l yX4_gain cX4_gain 3 none rm_X4_gain S_X4_gain :=
  mjCT_of (own := RX4) (G := G_X4_gain) (plainFor_of_name pn_X4) rfl ok_X4_gain (fun meth hm => ⟨fun pc row h => (I_X4_gain_ok pc row h).1, F_X4_ok, List.forall_mem_cons.mpr ⟨⟨yX1_isCell, cX1_isCell, 1, (some .boolean), rm_X1_isCell, ct_X1_isCell l, ⟨rfl, rfl⟩, ⟨by decide, by decide⟩, by decide, nk_X1_isCell, ln_X4_113, st_X1_isCell⟩, fun _ h => absurd h List.not_mem_nil⟩, (fun _ _ _ h => by cases h), (fun _ _ h => by cases h), ⟨Nat.le_refl _, Nat.le_refl _⟩, (fun h => by cases h), (fun h => absurd h (by decide)), fun _ h => absurd h List.not_mem_nil⟩) rfl rfl rfl (fun pc row h => (I_X4_gain_ok pc row h).2)
def rm_X4_makeWhole : Room := { frames := 1, cells := 0, slots := 0, locals := 20 }
noncomputable def G_X4_makeWhole : mjG := (I_X4_makeWhole, F_X4, [(130, 1, 0, 1, 0, 0, S_X1_isJoint)], (fun pc => []), Y0, (fun _ => none), (fun _ => none), none, 0, 0, false, [])
set_option maxHeartbeats 20000000 in
set_option maxRecDepth 100000 in
theorem ok_X4_makeWhole : mjOK G_X4_makeWhole 2 S_X4_makeWhole := by
  intro M as hP T hT
  obtain ⟨⟨h, g, s, c, fu, ai, ra, le, ri, mi, lo, fl⟩, k, rfl, rfl⟩ := inP1 hP
  refine hT.1 (fun _ => false) 60 _ _ _ _ _ ?_
  refine And.intro ⟨rfl, rfl⟩ (And.intro (fun (h1 : gIsJoint k = 0) => ⟨?_, rfl⟩) (fun (h1 : ¬ gIsJoint k = 0) => mjix_of (gIsJoint_ne h1).1 (gIsJoint_ne h1).2 rfl (by decide) ⟨?_, rfl⟩))
  · exact pwc (if_pos h1).symm
  · show pw (h, g, s, upd c k.toNatClampNeg 0, fu, ai, ra, le, ri, mi, lo, fl) = _
    exact pwc (if_neg h1).symm
set_option maxRecDepth 10000 in
theorem ct_X4_makeWhole (l : Launch) : mjCT l yX4_makeWhole cX4_makeWhole 2 none rm_X4_makeWhole S_X4_makeWhole :=
  mjCT_of (own := RX4) (G := G_X4_makeWhole) (plainFor_of_name pn_X4) rfl ok_X4_makeWhole (fun meth hm => ⟨fun pc row h => (I_X4_makeWhole_ok pc row h).1, F_X4_ok, List.forall_mem_cons.mpr ⟨⟨yX1_isJoint, cX1_isJoint, 1, (some .boolean), rm_X1_isJoint, ct_X1_isJoint l, ⟨rfl, rfl⟩, ⟨by decide, by decide⟩, by decide, nk_X1_isJoint, ln_X4_130, st_X1_isJoint⟩, fun _ h => absurd h List.not_mem_nil⟩, (fun _ _ _ h => by cases h), (fun _ _ h => by cases h), ⟨Nat.le_refl _, Nat.le_refl _⟩, (fun h => by cases h), (fun h => absurd h (by decide)), fun _ h => absurd h List.not_mem_nil⟩) rfl rfl rfl (fun pc row h => (I_X4_makeWhole_ok pc row h).2)
def rm_X4_strengthen : Room := { frames := 1, cells := 0, slots := 0, locals := 20 }
noncomputable def G_X4_strengthen : mjG := (I_X4_strengthen, F_X4, [(130, 1, 0, 1, 0, 0, S_X1_isJoint)], (fun pc => []), Y0, (fun _ => none), (fun _ => none), none, 0, 0, false, [])
set_option maxHeartbeats 20000000 in
set_option maxRecDepth 100000 in
theorem ok_X4_strengthen : mjOK G_X4_strengthen 3 S_X4_strengthen := by
  intro M as hP T hT
  obtain ⟨⟨h, g, s, c, fu, ai, ra, le, ri, mi, lo, fl⟩, k, x, rfl, rfl⟩ := inP2 hP
  refine hT.1 (fun _ => false) 60 _ _ _ _ _ ?_
  refine And.intro ⟨rfl, rfl⟩ (And.intro (fun (h1 : gIsJoint k = 0) => ⟨?_, rfl⟩) (fun (h1 : ¬ gIsJoint k = 0) => mjix_of (gIsJoint_ne h1).1 (gIsJoint_ne h1).2 rfl (by decide) ⟨?_, rfl⟩))
  · exact pws (if_pos h1).symm
  · show pw (h, g, upd s k.toNatClampNeg x, c, fu, ai, ra, le, ri, mi, lo, fl) = _
    exact pws (if_neg h1).symm
set_option maxRecDepth 10000 in
theorem ct_X4_strengthen (l : Launch) : mjCT l yX4_strengthen cX4_strengthen 3 none rm_X4_strengthen S_X4_strengthen :=
  mjCT_of (own := RX4) (G := G_X4_strengthen) (plainFor_of_name pn_X4) rfl ok_X4_strengthen (fun meth hm => ⟨fun pc row h => (I_X4_strengthen_ok pc row h).1, F_X4_ok, List.forall_mem_cons.mpr ⟨⟨yX1_isJoint, cX1_isJoint, 1, (some .boolean), rm_X1_isJoint, ct_X1_isJoint l, ⟨rfl, rfl⟩, ⟨by decide, by decide⟩, by decide, nk_X1_isJoint, ln_X4_130, st_X1_isJoint⟩, fun _ h => absurd h List.not_mem_nil⟩, (fun _ _ _ h => by cases h), (fun _ _ h => by cases h), ⟨Nat.le_refl _, Nat.le_refl _⟩, (fun h => by cases h), (fun h => absurd h (by decide)), fun _ h => absurd h List.not_mem_nil⟩) rfl rfl rfl (fun pc row h => (I_X4_strengthen_ok pc row h).2)
def rm_X4_flowOverJoints : Room := { frames := 2, cells := 0, slots := 0, locals := 42 }
noncomputable def G_X4_flowOverJoints : mjG := (I_X4_flowOverJoints, F_X4, [(90, 0, 3, 2, 0, 0, S_X4_isWhole), (94, 1, 0, 1, 0, 0, S_X1_firstCell), (100, 1, 0, 1, 0, 0, S_X1_secondCell), (103, 0, 3, 2, 0, 0, S_X4_heatAt), (106, 0, 3, 3, 0, 0, S_X4_gain)], (fun pc => bif Nat.beq pc 22 then [] else bif Nat.beq pc 17 then [] else [0, 1, 2, 3, 4]), Y0, (fun _ => none), (fun _ => none), none, 0, 0, false, [])
set_option maxHeartbeats 20000000 in
set_option maxRecDepth 100000 in
theorem ok_X4_flowOverJoints : mjOK G_X4_flowOverJoints 5 S_X4_flowOverJoints := by
  intro M as hP T hT
  obtain ⟨⟨h, g, s, c, fu, ai, ra, le, ri, mi, lo, fl⟩, rfl, rfl⟩ := inP0 hP
  refine hT.1 (fun pc => Nat.beq pc 2) 60 _ _ _ _ _ ?_
  refine hT.2 [true, true, false, false, false] _ _ _ _ _ ?_
  refine mjloop0 60 (fun i => ∀ g', g' = gJo h c le g i → T 2 [some (.ref 0), some (.int (nI i)), none, none, none] [] (pw (h, g', s, c, fu, ai, ra, le, ri, mi, lo, fl)) (0, 0)) (fun i hi ih g' hg => ?_) (fun g' hg => ?_) g rfl
  · rw [nI_succ] at ih
    refine hT.1 (fun pc => Nat.beq pc 2) 60 _ _ _ _ _ ?_
    refine And.intro (fun h => absurd h (nI_ge hi (by decide))) (fun _ => And.intro ⟨rfl, rfl⟩ (And.intro (fun h1 => hT.2 [true, true, false, false, false] _ _ _ _ _ (ih _ ?_)) (fun h1 => And.intro ⟨rfl, rfl⟩ (And.intro ⟨rfl, rfl⟩ (And.intro ⟨rfl, rfl⟩ (And.intro ⟨rfl, rfl⟩ (And.intro ⟨rfl, rfl⟩ (And.intro ⟨rfl, rfl⟩ (hT.2 [true, true, false, false, false] _ _ _ _ _ (ih _ ?_))))))))))
    · rw [hg]; exact (if_pos h1).symm
    · rw [hg]; exact (if_neg h1).symm
  · refine hT.1 (fun pc => Nat.beq pc 2) 60 _ _ _ _ _ ?_
    exact And.intro (fun _ => ⟨pwg (hg.trans (kseal_eq _).symm), rfl⟩) (fun h => absurd (nI_le (Nat.le_refl 60) (by decide)) h)
set_option maxRecDepth 10000 in
theorem ct_X4_flowOverJoints (l : Launch) : mjCT l yX4_flowOverJoints cX4_flowOverJoints 5 none rm_X4_flowOverJoints S_X4_flowOverJoints :=
  mjCT_of (own := RX4) (G := G_X4_flowOverJoints) (plainFor_of_name pn_X4) rfl ok_X4_flowOverJoints (fun meth hm => ⟨fun pc row h => (I_X4_flowOverJoints_ok pc row h).1, F_X4_ok, List.forall_mem_cons.mpr ⟨⟨yX4_isWhole, cX4_isWhole, 2, (some .boolean), rm_X4_isWhole, ct_X4_isWhole l, ⟨rfl, rfl⟩, ⟨by decide, by decide⟩, by decide, by decide, nk_X4_isWhole, ln_X4_90, im_X4_isWhole, se_X4_isWhole, rfl⟩, List.forall_mem_cons.mpr ⟨⟨yX1_firstCell, cX1_firstCell, 1, (some .int), rm_X1_firstCell, ct_X1_firstCell l, ⟨rfl, rfl⟩, ⟨by decide, by decide⟩, by decide, nk_X1_firstCell, ln_X4_94, st_X1_firstCell⟩, List.forall_mem_cons.mpr ⟨⟨yX1_secondCell, cX1_secondCell, 1, (some .int), rm_X1_secondCell, ct_X1_secondCell l, ⟨rfl, rfl⟩, ⟨by decide, by decide⟩, by decide, nk_X1_secondCell, ln_X4_100, st_X1_secondCell⟩, List.forall_mem_cons.mpr ⟨⟨yX4_heatAt, cX4_heatAt, 2, (some .int), rm_X4_heatAt, ct_X4_heatAt l, ⟨rfl, rfl⟩, ⟨by decide, by decide⟩, by decide, by decide, nk_X4_heatAt, ln_X4_103, im_X4_heatAt, se_X4_heatAt, rfl⟩, List.forall_mem_cons.mpr ⟨⟨yX4_gain, cX4_gain, 3, none, rm_X4_gain, ct_X4_gain l, ⟨rfl, rfl⟩, ⟨by decide, by decide⟩, by decide, by decide, nk_X4_gain, ln_X4_106, im_X4_gain, se_X4_gain, rfl⟩, fun _ h => absurd h List.not_mem_nil⟩⟩⟩⟩⟩, (fun _ _ _ h => by cases h), (fun _ _ h => by cases h), ⟨Nat.le_refl _, Nat.le_refl _⟩, (fun h => by cases h), (fun h => absurd h (by decide)), fun _ h => absurd h List.not_mem_nil⟩) rfl rfl rfl (fun pc row h => (I_X4_flowOverJoints_ok pc row h).2)
def rm_X4_flowAtRim : Room := { frames := 1, cells := 0, slots := 0, locals := 24 }
noncomputable def G_X4_flowAtRim : mjG := (I_X4_flowAtRim, F_X4, [(110, 1, 0, 1, 0, 0, S_X1_rimSides)], (fun pc => []), Y0, (fun _ => none), (fun _ => none), none, 0, 0, false, [])
set_option maxHeartbeats 20000000 in
set_option maxRecDepth 100000 in
theorem ok_X4_flowAtRim : mjOK G_X4_flowAtRim 3 S_X4_flowAtRim := by
  intro M as hP T hT
  obtain ⟨⟨h, g, s, c, fu, ai, ra, le, ri, mi, lo, fl⟩, rfl, rfl⟩ := inP0 hP
  refine hT.1 (fun pc => Nat.beq pc 2) 60 _ _ _ _ _ ?_
  refine hT.2 [true, true, false] _ _ _ _ _ ?_
  refine mjloop0 36 (fun i => ∀ g' lo', (g', lo') = gRi h fu ri (g, lo) i → T 2 [some (.ref 0), some (.int (nI i)), none] [] (pw (h, g', s, c, fu, ai, ra, le, ri, mi, lo', fl)) (0, 0)) (fun i hi ih g' lo' hg => ?_) (fun g' lo' hg => ?_) g lo rfl
  · have hs : gRi h fu ri (g, lo) (i + 1) = (fun (a : (Nat → Int32) × Int32) => (upd a.1 i (a.1 i - gFr h fu ri i), a.2 + gFr h fu ri i)) (gRi h fu ri (g, lo) i) := rfl
    rw [← hg] at hs
    rw [nI_succ, hs] at ih
    refine hT.1 (fun pc => Nat.beq pc 2) 60 _ _ _ _ _ ?_
    refine And.intro (fun h => absurd h (nI_ge hi (by decide))) (fun _ => mjix_n hi (by decide) (And.intro ⟨rfl, rfl⟩ (mjix_n hi (by decide) (mjix_n hi (by decide) (hT.2 [true, true, false] _ _ _ _ _ (ih _ _ rfl))))))
  · refine hT.1 (fun pc => Nat.beq pc 2) 60 _ _ _ _ _ ?_
    refine And.intro (fun _ => ⟨?_, rfl⟩) (fun h => absurd (nI_le (Nat.le_refl 36) (by decide)) h)
    show pw (h, g', s, c, fu, ai, ra, le, ri, mi, lo', fl) = pw (h, (kseal (gRi h fu ri (g, lo) 36)).1, s, c, fu, ai, ra, le, ri, mi, (kseal (gRi h fu ri (g, lo) 36)).2, fl)
    rw [kseal_eq, ← hg]
set_option maxRecDepth 10000 in
theorem ct_X4_flowAtRim (l : Launch) : mjCT l yX4_flowAtRim cX4_flowAtRim 3 none rm_X4_flowAtRim S_X4_flowAtRim :=
  mjCT_of (own := RX4) (G := G_X4_flowAtRim) (plainFor_of_name pn_X4) rfl ok_X4_flowAtRim (fun meth hm => ⟨fun pc row h => (I_X4_flowAtRim_ok pc row h).1, F_X4_ok, List.forall_mem_cons.mpr ⟨⟨yX1_rimSides, cX1_rimSides, 5, (some .int), rm_X1_rimSides, ct_X1_rimSides l, ⟨rfl, rfl⟩, ⟨by decide, by decide⟩, by decide, nk_X1_rimSides, ln_X4_110, st_X1_rimSides⟩, fun _ h => absurd h List.not_mem_nil⟩, (fun _ _ _ h => by cases h), (fun _ _ h => by cases h), ⟨Nat.le_refl _, Nat.le_refl _⟩, (fun h => by cases h), (fun h => absurd h (by decide)), fun _ h => absurd h List.not_mem_nil⟩) rfl rfl rfl (fun pc row h => (I_X4_flowAtRim_ok pc row h).2)
def rm_X4_letHeatFlow : Room := { frames := 3, cells := 0, slots := 0, locals := 66 }
noncomputable def G_X4_letHeatFlow : mjG := (I_X4_letHeatFlow, F_X4, [(72, 0, 3, 1, 0, 0, S_X4_moveFurnace), (38, 1, 0, 2, 0, 0, S_J7_fill_53178), (75, 0, 3, 1, 0, 0, S_X4_flowOverJoints), (78, 0, 3, 1, 0, 0, S_X4_flowAtRim)], (fun pc => bif Nat.beq pc 19 then [2] else [0, 1, 2, 3, 4]), Y0, (fun _ => none), (fun _ => none), none, 0, 0, false, [])
set_option maxHeartbeats 20000000 in
set_option maxRecDepth 100000 in
theorem ok_X4_letHeatFlow : mjOK G_X4_letHeatFlow 2 S_X4_letHeatFlow := by
  intro M as hP T hT
  obtain ⟨⟨h, g, s, c, fu, ai, ra, le, ri, mi, lo, fl⟩, rfl, rfl⟩ := inP0 hP
  have s4 : ∀ g2 fu2 mi2 lo2, pw (kseal (gHe g2 h 36), g2, s, c, fu2, ai, ra, le, ri, mi2, lo2, fl) = pw (pFlow (h, g, s, c, fu, ai, ra, le, ri, mi, lo, fl)) → T 32 [some (.ref 0), some (.int (nI 0))] [] (pw (h, g2, s, c, fu2, ai, ra, le, ri, mi2, lo2, fl)) (0, 0) := by
    intro g2 fu2 mi2 lo2 he
    refine mjloop0 36 (fun i => ∀ h', h' = gHe g2 h i → T 32 [some (.ref 0), some (.int (nI i))] [] (pw (h', g2, s, c, fu2, ai, ra, le, ri, mi2, lo2, fl)) (0, 0)) (fun i hi ih h' hh => ?_) (fun h' hh => ?_) h rfl
    · rw [nI_succ] at ih
      refine hT.1 (fun pc => Nat.beq pc 32) 60 _ _ _ _ _ ?_
      refine And.intro (fun h => absurd h (nI_ge hi (by decide))) (fun _ => mjix_n hi (by decide) (mjix_n hi (by decide) (mjix_n hi (by decide) (ih _ ?_))))
      rw [hh]
      rfl
    · refine hT.1 (fun pc => Nat.beq pc 32) 60 _ _ _ _ _ ?_
      refine And.intro (fun _ => ⟨?_, rfl⟩) (fun h => absurd (nI_le (Nat.le_refl 36) (by decide)) h)
      rw [hh, ← kseal_eq (gHe g2 h 36)]
      exact he
  have s3 : ∀ g1 fu2 mi2, pw (kseal (gHe (kseal (gRi h fu2 ri (g1, lo) 36)).1 h 36), (kseal (gRi h fu2 ri (g1, lo) 36)).1, s, c, fu2, ai, ra, le, ri, mi2, (kseal (gRi h fu2 ri (g1, lo) 36)).2, fl) = pw (pFlow (h, g, s, c, fu, ai, ra, le, ri, mi, lo, fl)) → T 26 [some (.ref 0), none] [] (pw (h, g1, s, c, fu2, ai, ra, le, ri, mi2, lo, fl)) (0, 0) := by
    intro g1 fu2 mi2 he
    refine hT.1 (fun pc => Nat.beq pc 32) 60 _ _ _ _ _ ?_
    exact And.intro ⟨rfl, rfl⟩ (s4 _ _ _ _ he)
  have s2 : ∀ g1 fu2 mi2, pw (kseal (gHe (kseal (gRi h fu2 ri (kseal (gJo h c le g1 60), lo) 36)).1 h 36), (kseal (gRi h fu2 ri (kseal (gJo h c le g1 60), lo) 36)).1, s, c, fu2, ai, ra, le, ri, mi2, (kseal (gRi h fu2 ri (kseal (gJo h c le g1 60), lo) 36)).2, fl) = pw (pFlow (h, g, s, c, fu, ai, ra, le, ri, mi, lo, fl)) → T 22 [some (.ref 0), none] [] (pw (h, g1, s, c, fu2, ai, ra, le, ri, mi2, lo, fl)) (0, 0) := by
    intro g1 fu2 mi2 he
    refine hT.1 (fun pc => Nat.beq pc 26) 60 _ _ _ _ _ ?_
    exact And.intro ⟨rfl, rfl⟩ (s3 _ _ _ he)
  have s1 : ∀ fu2 mi2, pw (kseal (gHe (kseal (gRi h fu2 ri (kseal (gJo h c le (fillA 36 g 0) 60), lo) 36)).1 h 36), (kseal (gRi h fu2 ri (kseal (gJo h c le (fillA 36 g 0) 60), lo) 36)).1, s, c, fu2, ai, ra, le, ri, mi2, (kseal (gRi h fu2 ri (kseal (gJo h c le (fillA 36 g 0) 60), lo) 36)).2, fl) = pw (pFlow (h, g, s, c, fu, ai, ra, le, ri, mi, lo, fl)) → T 14 [some (.ref 0), none] [] (pw (h, g, s, c, fu2, ai, ra, le, ri, mi2, lo, fl)) (0, 0) := by
    intro fu2 mi2 he
    refine hT.1 (fun pc => Nat.beq pc 22) 60 _ _ _ _ _ ?_
    exact And.intro ⟨⟨rfl, show (36 : Nat) < 2147483647 by decide⟩, rfl⟩ (s2 _ _ _ he)
  refine hT.1 (fun pc => Nat.beq pc 14) 60 _ _ _ _ _ ?_
  exact And.intro ⟨rfl, rfl⟩ (s1 _ _ rfl)
set_option maxRecDepth 10000 in
theorem ct_X4_letHeatFlow (l : Launch) : mjCT l yX4_letHeatFlow cX4_letHeatFlow 2 none rm_X4_letHeatFlow S_X4_letHeatFlow :=
  mjCT_of (own := RX4) (G := G_X4_letHeatFlow) (plainFor_of_name pn_X4) rfl ok_X4_letHeatFlow (fun meth hm => ⟨fun pc row h => (I_X4_letHeatFlow_ok pc row h).1, F_X4_ok, List.forall_mem_cons.mpr ⟨⟨yX4_moveFurnace, cX4_moveFurnace, 1, none, rm_X4_moveFurnace, ct_X4_moveFurnace l, ⟨rfl, rfl⟩, ⟨by decide, by decide⟩, by decide, by decide, nk_X4_moveFurnace, ln_X4_72, im_X4_moveFurnace, se_X4_moveFurnace, rfl⟩, List.forall_mem_cons.mpr ⟨⟨yJ7_fill_53178, cJ7_fill_53178, 4, none, rm_J7_fill_53178, ct_J7_fill_53178 l, ⟨rfl, rfl⟩, ⟨by decide, by decide⟩, by decide, nk_J7_fill_53178, ln_X4_38, st_J7_fill_53178⟩, List.forall_mem_cons.mpr ⟨⟨yX4_flowOverJoints, cX4_flowOverJoints, 5, none, rm_X4_flowOverJoints, ct_X4_flowOverJoints l, ⟨rfl, rfl⟩, ⟨by decide, by decide⟩, by decide, by decide, nk_X4_flowOverJoints, ln_X4_75, im_X4_flowOverJoints, se_X4_flowOverJoints, rfl⟩, List.forall_mem_cons.mpr ⟨⟨yX4_flowAtRim, cX4_flowAtRim, 3, none, rm_X4_flowAtRim, ct_X4_flowAtRim l, ⟨rfl, rfl⟩, ⟨by decide, by decide⟩, by decide, by decide, nk_X4_flowAtRim, ln_X4_78, im_X4_flowAtRim, se_X4_flowAtRim, rfl⟩, fun _ h => absurd h List.not_mem_nil⟩⟩⟩⟩, (fun _ _ _ h => by cases h), (fun _ _ h => by cases h), ⟨Nat.le_refl _, Nat.le_refl _⟩, (fun h => by cases h), (fun h => absurd h (by decide)), fun _ h => absurd h List.not_mem_nil⟩) rfl rfl rfl (fun pc row h => (I_X4_letHeatFlow_ok pc row h).2)
def rm_X4_weakenBeside : Room := { frames := 3, cells := 0, slots := 0, locals := 62 }
noncomputable def G_X4_weakenBeside : mjG := (I_X4_weakenBeside, F_X4, [(90, 0, 3, 2, 0, 0, S_X4_isWhole), (126, 1, 0, 2, 0, 0, S_X1_touch), (87, 1, 0, 2, 0, 0, S_J9_max_7cf53)], (fun pc => bif Nat.beq pc 10 then [0, 1, 2, 3, 4] else []), Y0, (fun _ => none), (fun _ => none), none, 0, 0, false, [])
set_option maxHeartbeats 20000000 in
set_option maxRecDepth 100000 in
theorem ok_X4_weakenBeside : mjOK G_X4_weakenBeside 3 S_X4_weakenBeside := by
  intro M as hP T hT
  obtain ⟨⟨h, g, s, c, fu, ai, ra, le, ri, mi, lo, fl⟩, w, rfl, rfl⟩ := inP1 hP
  refine hT.1 (fun pc => Nat.beq pc 2) 60 _ _ _ _ _ ?_
  refine mjloop0 60 (fun i => ∀ s', s' = gWeak c w s i → T 2 [some (.ref 0), some (.int w), some (.int (nI i))] [] (pw (h, g, s', c, fu, ai, ra, le, ri, mi, lo, fl)) (0, 0)) (fun i hi ih s' hs => ?_) (fun s' hs => ?_) s rfl
  · rw [nI_succ] at ih
    refine hT.1 (fun pc => Nat.beq pc 2) 60 _ _ _ _ _ ?_
    refine And.intro (fun h => absurd h (nI_ge hi (by decide))) (fun _ => And.intro ⟨rfl, rfl⟩ (And.intro (fun h1 => ih _ ?_) (fun h1 => And.intro ⟨rfl, rfl⟩ (And.intro (fun h2 => ih _ ?_) (fun h2 => mjix_n hi (by decide) (And.intro ⟨rfl, rfl⟩ (mjix_n hi (by decide) (ih _ ?_))))))))
    · rw [hs]; exact (if_pos h1).symm
    · rw [hs]; exact ((if_neg h1).trans (if_pos h2)).symm
    · rw [hs]; exact ((if_neg h1).trans (if_neg h2)).symm
  · refine hT.1 (fun pc => Nat.beq pc 2) 60 _ _ _ _ _ ?_
    exact And.intro (fun _ => ⟨pws (hs.trans (kseal_eq _).symm), rfl⟩) (fun h => absurd (nI_le (Nat.le_refl 60) (by decide)) h)
set_option maxRecDepth 10000 in
theorem ct_X4_weakenBeside (l : Launch) : mjCT l yX4_weakenBeside cX4_weakenBeside 3 none rm_X4_weakenBeside S_X4_weakenBeside :=
  mjCT_of (own := RX4) (G := G_X4_weakenBeside) (plainFor_of_name pn_X4) rfl ok_X4_weakenBeside (fun meth hm => ⟨fun pc row h => (I_X4_weakenBeside_ok pc row h).1, F_X4_ok, List.forall_mem_cons.mpr ⟨⟨yX4_isWhole, cX4_isWhole, 2, (some .boolean), rm_X4_isWhole, ct_X4_isWhole l, ⟨rfl, rfl⟩, ⟨by decide, by decide⟩, by decide, by decide, nk_X4_isWhole, ln_X4_90, im_X4_isWhole, se_X4_isWhole, rfl⟩, List.forall_mem_cons.mpr ⟨⟨yX1_touch, cX1_touch, 2, (some .boolean), rm_X1_touch, ct_X1_touch l, ⟨rfl, rfl⟩, ⟨by decide, by decide⟩, by decide, nk_X1_touch, ln_X4_126, st_X1_touch⟩, List.forall_mem_cons.mpr ⟨⟨yJ9_max_7cf53, cJ9_max_7cf53, 2, (some .int), rm_J9_max_7cf53, ct_J9_max_7cf53 l, ⟨rfl, rfl⟩, ⟨by decide, by decide⟩, by decide, nk_J9_max_7cf53, ln_X4_87, st_J9_max_7cf53⟩, fun _ h => absurd h List.not_mem_nil⟩⟩⟩, (fun _ _ _ h => by cases h), (fun _ _ h => by cases h), ⟨Nat.le_refl _, Nat.le_refl _⟩, (fun h => by cases h), (fun h => absurd h (by decide)), fun _ h => absurd h List.not_mem_nil⟩) rfl rfl rfl (fun pc row h => (I_X4_weakenBeside_ok pc row h).2)
theorem gWh_ne {c : Nat → Int32} {j : Int32} (h : ¬ gWh c j = 0) : ¬ j < 0 ∧ ¬ 60 ≤ j ∧ c j.toNatClampNeg = 0 := by
  unfold gWh at h
  by_cases h1 : j < 0
  · rw [if_pos h1] at h; exact absurd rfl h
  · by_cases h2 : 60 ≤ j
    · rw [if_neg h1, if_pos h2] at h; exact absurd rfl h
    · by_cases h3 : c j.toNatClampNeg = 0
      · exact ⟨h1, h2, h3⟩
      · rw [if_neg h1, if_neg h2, if_neg h3] at h; exact absurd rfl h
def rm_X4_crackWorst : Room := { frames := 4, cells := 0, slots := 0, locals := 87 }
noncomputable def G_X4_crackWorst : mjG := (I_X4_crackWorst, F_X4, [(116, 0, 3, 1, 0, 0, S_X4_mostStrained), (90, 0, 3, 2, 0, 0, S_X4_isWhole), (120, 0, 3, 2, 0, 0, S_X4_marginOf), (123, 0, 3, 2, 0, 0, S_X4_weakenBeside)], (fun pc => [0, 1, 2, 3, 4]), Y0, (fun _ => none), (fun _ => none), (some .boolean), 0, 0, false, [])
set_option maxHeartbeats 20000000 in
set_option maxRecDepth 100000 in
theorem ok_X4_crackWorst : mjOK G_X4_crackWorst 2 S_X4_crackWorst := by
  intro M as hP T hT
  obtain ⟨⟨h, g, s, c, fu, ai, ra, le, ri, mi, lo, fl⟩, rfl, rfl⟩ := inP0 hP
  have hz : pCrack (h, g, s, c, fu, ai, ra, le, ri, mi, lo, fl) = if gWh c (gWorst h s c 60).1 = 0 then ((h, g, s, c, fu, ai, ra, le, ri, mi, lo, fl), 0) else if gMar h s (gWorst h s c 60).1 < 0 then
      ((h, g, gWeak (upd c (gWorst h s c 60).1.toNatClampNeg mi) (gWorst h s c 60).1 s 60, upd c (gWorst h s c 60).1.toNatClampNeg mi, fu, ai, ra, le, ri, mi, lo, fl), 1) else ((h, g, s, c, fu, ai, ra, le, ri, mi, lo, fl), 0) := rfl
  have fin : ∀ (q : PSt) (r : Int32), pCrack (h, g, s, c, fu, ai, ra, le, ri, mi, lo, fl) = (q, r) → pw q = (S_X4_crackWorst (pw (h, g, s, c, fu, ai, ra, le, ri, mi, lo, fl)) [.ref 0]).2.1.getD (pw (h, g, s, c, fu, ai, ra, le, ri, mi, lo, fl)) ∧ some (Value.int r) = (S_X4_crackWorst (pw (h, g, s, c, fu, ai, ra, le, ri, mi, lo, fl)) [.ref 0]).2.2 := by
    intro q r hq
    show pw q = pw (kseal (pCrack (h, g, s, c, fu, ai, ra, le, ri, mi, lo, fl))).1 ∧ some (Value.int r) = some (Value.int (kseal (pCrack (h, g, s, c, fu, ai, ra, le, ri, mi, lo, fl))).2)
    rw [kseal_eq, hq]
    exact ⟨rfl, rfl⟩
  generalize S_X4_crackWorst (pw (h, g, s, c, fu, ai, ra, le, ri, mi, lo, fl)) [.ref 0] = SS at hT fin
  have s1 : ∀ w : Int32, w = (gWorst h s c 60).1 → T 4 [some (.ref 0), none] [.int w] (pw (h, g, s, c, fu, ai, ra, le, ri, mi, lo, fl)) (0, 0) := by
    intro w hw
    rw [← hw] at hz
    generalize pCrack (h, g, s, c, fu, ai, ra, le, ri, mi, lo, fl) = PC at hz fin
    have s2 : ¬ gWh c w = 0 → gMar h s w < 0 → ∀ (q : PSt), q = (h, g, gWeak (upd c w.toNatClampNeg mi) w s 60, upd c w.toNatClampNeg mi, fu, ai, ra, le, ri, mi, lo, fl) → T 38 [some (.ref 0), none] [] (pw q) (0, 0) := by
      intro h1 h2 q hq
      refine hT.1 (fun _ => false) 60 _ _ _ _ _ ?_
      exact ⟨rfl, fin q 1 (by rw [hz, if_neg h1, if_pos h2, hq])⟩
    refine hT.1 (fun pc => Nat.beq pc 38) 60 _ _ _ _ _ ?_
    refine And.intro ⟨rfl, rfl⟩ (And.intro (fun (h1 : gWh c w = 0) => ⟨rfl, ?_⟩) (fun (h1 : ¬ gWh c w = 0) => And.intro ⟨rfl, rfl⟩ (And.intro (fun (h2 : gMar h s w < 0) => ?_) (fun (h2 : ¬ gMar h s w < 0) => ⟨rfl, ?_⟩))))
    · exact fin _ 0 (by rw [hz, if_pos h1])
    · obtain ⟨g1, g2, g3⟩ := gWh_ne h1
      refine mjix_of g1 g2 rfl (by decide) ?_
      refine And.intro ⟨rfl, rfl⟩ ?_
      refine hT.2 [true, false] _ _ _ _ _ (s2 h1 h2 (h, g, kseal (gWeak (upd c w.toNatClampNeg mi) w s 60), upd c w.toNatClampNeg mi, fu, ai, ra, le, ri, mi, lo, fl) ?_)
      rw [kseal_eq]
    · exact fin _ 0 (by rw [hz, if_neg h1, if_neg h2])
  refine hT.1 (fun pc => Nat.beq pc 4) 60 _ _ _ _ _ ?_
  exact And.intro ⟨rfl, rfl⟩ (s1 _ (kseal_eq _))
set_option maxRecDepth 10000 in
theorem ct_X4_crackWorst (l : Launch) : mjCT l yX4_crackWorst cX4_crackWorst 2 (some .boolean) rm_X4_crackWorst S_X4_crackWorst :=
  mjCT_of (own := RX4) (G := G_X4_crackWorst) (plainFor_of_name pn_X4) rfl ok_X4_crackWorst (fun meth hm => ⟨fun pc row h => (I_X4_crackWorst_ok pc row h).1, F_X4_ok, List.forall_mem_cons.mpr ⟨⟨yX4_mostStrained, cX4_mostStrained, 5, (some .int), rm_X4_mostStrained, ct_X4_mostStrained l, ⟨rfl, rfl⟩, ⟨by decide, by decide⟩, by decide, by decide, nk_X4_mostStrained, ln_X4_116, im_X4_mostStrained, se_X4_mostStrained, rfl⟩, List.forall_mem_cons.mpr ⟨⟨yX4_isWhole, cX4_isWhole, 2, (some .boolean), rm_X4_isWhole, ct_X4_isWhole l, ⟨rfl, rfl⟩, ⟨by decide, by decide⟩, by decide, by decide, nk_X4_isWhole, ln_X4_90, im_X4_isWhole, se_X4_isWhole, rfl⟩, List.forall_mem_cons.mpr ⟨⟨yX4_marginOf, cX4_marginOf, 2, (some .int), rm_X4_marginOf, ct_X4_marginOf l, ⟨rfl, rfl⟩, ⟨by decide, by decide⟩, by decide, by decide, nk_X4_marginOf, ln_X4_120, im_X4_marginOf, se_X4_marginOf, rfl⟩, List.forall_mem_cons.mpr ⟨⟨yX4_weakenBeside, cX4_weakenBeside, 3, none, rm_X4_weakenBeside, ct_X4_weakenBeside l, ⟨rfl, rfl⟩, ⟨by decide, by decide⟩, by decide, by decide, nk_X4_weakenBeside, ln_X4_123, im_X4_weakenBeside, se_X4_weakenBeside, rfl⟩, fun _ h => absurd h List.not_mem_nil⟩⟩⟩⟩, (fun _ _ _ h => by cases h), (fun _ _ h => by cases h), ⟨Nat.le_refl _, Nat.le_refl _⟩, (fun h => by cases h), (fun h => absurd h (by decide)), fun _ h => absurd h List.not_mem_nil⟩) rfl rfl rfl (fun pc row h => (I_X4_crackWorst_ok pc row h).2)
theorem pPass_s (p : PSt) (i : Nat) : pPass p (i + 1) = ((pMin (pPass p i).1).1, if (pMin (pPass p i).1).2 = 0 then (pPass p i).2 else (pPass p i).2 + 1) := rfl
theorem pMin_e (p : PSt) : pMin p = kseal (pCrack (pFlow p)) := rfl
def rm_X4_passMinutes : Room := { frames := 5, cells := 0, slots := 0, locals := 108 }
noncomputable def G_X4_passMinutes : mjG := (I_X4_passMinutes, F_X4, [(65, 0, 3, 1, 0, 0, S_X4_letHeatFlow), (68, 0, 3, 1, 0, 0, S_X4_crackWorst)], (fun pc => [0, 1, 2, 3, 4]), Y0, (fun _ => none), (fun _ => none), (some .int), 0, 0, false, [])
set_option maxHeartbeats 20000000 in
set_option maxRecDepth 100000 in
theorem ok_X4_passMinutes : mjOK G_X4_passMinutes 4 S_X4_passMinutes := by
  intro M as hP T hT
  obtain ⟨hP, hn⟩ := hP
  obtain ⟨p, n, rfl, rfl, hn⟩ : ∃ p n, M = pw p ∧ as = [.ref 0, .int n] ∧ ¬ n < 0 := ⟨_, _, hP.1, hP.2, hn⟩
  obtain ⟨k, hk, rfl⟩ := nI_of hn
  have fin : pw (pPass p k).1 = (S_X4_passMinutes (pw p) [.ref 0, .int (nI k)]).2.1.getD (pw p) ∧ some (Value.int (pPass p k).2) = (S_X4_passMinutes (pw p) [.ref 0, .int (nI k)]).2.2 := by
    show pw (pPass p k).1 = pw (kseal (pPass p (nI k).toNatClampNeg)).1 ∧ some (Value.int (pPass p k).2) = some (Value.int (kseal (pPass p (nI k).toNatClampNeg)).2)
    rw [kseal_eq, nI_clamp hk]
    exact ⟨rfl, rfl⟩
  generalize S_X4_passMinutes (pw p) [.ref 0, .int (nI k)] = SS at hT fin
  refine hT.1 (fun pc => Nat.beq pc 4) 60 _ _ _ _ _ ?_
  refine mjloop0 k (fun i => ∀ (q : PSt) (x : Int32), (q, x) = pPass p i → T 4 [some (.ref 0), some (.int (nI k)), some (.int x), some (.int (nI i))] [] (pw q) (0, 0)) (fun i hi ih q x hq => ?_) (fun q x hq => ?_) p 0 rfl
  · have hs := pPass_s p i
    rw [← hq] at hs
    rw [nI_succ, hs] at ih
    have s2 : ∀ (z : PSt × Int32), z = pMin q → T 17 [some (.ref 0), some (.int (nI k)), some (.int x), some (.int (nI i))] [.int z.2] (pw z.1) (0, 0) := by
      intro z hz
      dsimp only at ih
      rw [← hz] at ih
      refine hT.1 (fun pc => Nat.beq pc 4) 60 _ _ _ _ _ ?_
      refine And.intro (fun h1 => ih z.1 _ ?_) (fun h1 => ih z.1 _ ?_)
      · rw [if_pos h1]
      · rw [if_neg h1]
    have s1 : ∀ q', q' = pFlow q → T 13 [some (.ref 0), some (.int (nI k)), some (.int x), some (.int (nI i))] [] (pw q') (0, 0) := by
      intro q' hq'
      refine hT.1 (fun pc => Nat.beq pc 17) 60 _ _ _ _ _ ?_
      exact And.intro ⟨rfl, rfl⟩ (s2 (kseal (pCrack q')) (by rw [hq']; rfl))
    refine hT.1 (fun pc => Nat.beq pc 13) 60 _ _ _ _ _ ?_
    exact And.intro (fun h => absurd h (nI_ge hi hk)) (fun _ => And.intro ⟨rfl, rfl⟩ (s1 _ rfl))
  · refine hT.1 (fun pc => Nat.beq pc 4) 60 _ _ _ _ _ ?_
    refine And.intro (fun _ => ?_) (fun h => absurd (nI_le (Nat.le_refl k) hk) h)
    rw [← hq] at fin
    exact fin
set_option maxRecDepth 10000 in
theorem ct_X4_passMinutes (l : Launch) : mjCT l yX4_passMinutes cX4_passMinutes 4 (some .int) rm_X4_passMinutes S_X4_passMinutes :=
  mjCT_of (own := RX4) (G := G_X4_passMinutes) (plainFor_of_name pn_X4) rfl ok_X4_passMinutes (fun meth hm => ⟨fun pc row h => (I_X4_passMinutes_ok pc row h).1, F_X4_ok, List.forall_mem_cons.mpr ⟨⟨yX4_letHeatFlow, cX4_letHeatFlow, 2, none, rm_X4_letHeatFlow, ct_X4_letHeatFlow l, ⟨rfl, rfl⟩, ⟨by decide, by decide⟩, by decide, by decide, nk_X4_letHeatFlow, ln_X4_65, im_X4_letHeatFlow, se_X4_letHeatFlow, rfl⟩, List.forall_mem_cons.mpr ⟨⟨yX4_crackWorst, cX4_crackWorst, 2, (some .boolean), rm_X4_crackWorst, ct_X4_crackWorst l, ⟨rfl, rfl⟩, ⟨by decide, by decide⟩, by decide, by decide, nk_X4_crackWorst, ln_X4_68, im_X4_crackWorst, se_X4_crackWorst, rfl⟩, fun _ h => absurd h List.not_mem_nil⟩⟩, (fun _ _ _ h => by cases h), (fun _ _ h => by cases h), ⟨Nat.le_refl _, Nat.le_refl _⟩, (fun h => by cases h), (fun h => absurd h (by decide)), fun _ h => absurd h List.not_mem_nil⟩) rfl rfl rfl (fun pc row h => (I_X4_passMinutes_ok pc row h).2)
theorem pStay_s (p : PSt) (k : Nat) : pStay p (k + 1) = if (pMin p).2 = 0 then pStay (pMin p).1 k else ((pMin p).1, 0) := rfl
def rm_X4_staysWhole : Room := { frames := 5, cells := 0, slots := 0, locals := 108 }
noncomputable def G_X4_staysWhole : mjG := (I_X4_staysWhole, F_X4, [(65, 0, 3, 1, 0, 0, S_X4_letHeatFlow), (68, 0, 3, 1, 0, 0, S_X4_crackWorst)], (fun pc => [0, 1, 2, 3, 4]), Y0, (fun _ => none), (fun _ => none), (some .boolean), 0, 0, false, [])
set_option maxHeartbeats 20000000 in
set_option maxRecDepth 100000 in
theorem ok_X4_staysWhole : mjOK G_X4_staysWhole 3 S_X4_staysWhole := by
  intro M as hP T hT
  obtain ⟨hP, hn⟩ := hP
  obtain ⟨p, n, rfl, rfl, hn⟩ : ∃ p n, M = pw p ∧ as = [.ref 0, .int n] ∧ ¬ n < 0 := ⟨_, _, hP.1, hP.2, hn⟩
  obtain ⟨k, hk, rfl⟩ := nI_of hn
  have fin : pw (pStay p k).1 = (S_X4_staysWhole (pw p) [.ref 0, .int (nI k)]).2.1.getD (pw p) ∧ some (Value.int (pStay p k).2) = (S_X4_staysWhole (pw p) [.ref 0, .int (nI k)]).2.2 := by
    show pw (pStay p k).1 = pw (kseal (pStay p (nI k).toNatClampNeg)).1 ∧ some (Value.int (pStay p k).2) = some (Value.int (kseal (pStay p (nI k).toNatClampNeg)).2)
    rw [kseal_eq, nI_clamp hk]
    exact ⟨rfl, rfl⟩
  generalize S_X4_staysWhole (pw p) [.ref 0, .int (nI k)] = SS at hT fin
  refine hT.1 (fun pc => Nat.beq pc 2) 60 _ _ _ _ _ ?_
  refine mjloop0 k (fun i => ∀ (q : PSt), pStay p k = pStay q (k - i) → T 2 [some (.ref 0), some (.int (nI k)), some (.int (nI i))] [] (pw q) (0, 0)) (fun i hi ih q hq => ?_) (fun q hq => ?_) p rfl
  · rw [nI_succ] at ih
    rw [show k - i = (k - (i + 1)) + 1 by omega, pStay_s] at hq
    have s2 : ∀ (z : PSt × Int32), z = pMin q → T 15 [some (.ref 0), some (.int (nI k)), some (.int (nI i))] [.int z.2] (pw z.1) (0, 0) := by
      intro z hz
      rw [← hz] at hq
      refine hT.1 (fun pc => Nat.beq pc 2) 60 _ _ _ _ _ ?_
      refine And.intro (fun h1 => ih z.1 ?_) (fun h1 => ⟨rfl, ?_⟩)
      · rw [hq, if_pos h1]
      · rw [hq, if_neg h1] at fin
        exact fin
    have s1 : ∀ q', q' = pFlow q → T 11 [some (.ref 0), some (.int (nI k)), some (.int (nI i))] [] (pw q') (0, 0) := by
      intro q' hq'
      refine hT.1 (fun pc => Nat.beq pc 15) 60 _ _ _ _ _ ?_
      exact And.intro ⟨rfl, rfl⟩ (s2 (kseal (pCrack q')) (by rw [hq']; rfl))
    refine hT.1 (fun pc => Nat.beq pc 11) 60 _ _ _ _ _ ?_
    exact And.intro (fun h => absurd h (nI_ge hi hk)) (fun _ => And.intro ⟨rfl, rfl⟩ (s1 _ rfl))
  · refine hT.1 (fun pc => Nat.beq pc 2) 60 _ _ _ _ _ ?_
    refine And.intro (fun _ => ⟨rfl, ?_⟩) (fun h => absurd (nI_le (Nat.le_refl k) hk) h)
    rw [hq, Nat.sub_self] at fin
    exact fin
set_option maxRecDepth 10000 in
theorem ct_X4_staysWhole (l : Launch) : mjCT l yX4_staysWhole cX4_staysWhole 3 (some .boolean) rm_X4_staysWhole S_X4_staysWhole :=
  mjCT_of (own := RX4) (G := G_X4_staysWhole) (plainFor_of_name pn_X4) rfl ok_X4_staysWhole (fun meth hm => ⟨fun pc row h => (I_X4_staysWhole_ok pc row h).1, F_X4_ok, List.forall_mem_cons.mpr ⟨⟨yX4_letHeatFlow, cX4_letHeatFlow, 2, none, rm_X4_letHeatFlow, ct_X4_letHeatFlow l, ⟨rfl, rfl⟩, ⟨by decide, by decide⟩, by decide, by decide, nk_X4_letHeatFlow, ln_X4_65, im_X4_letHeatFlow, se_X4_letHeatFlow, rfl⟩, List.forall_mem_cons.mpr ⟨⟨yX4_crackWorst, cX4_crackWorst, 2, (some .boolean), rm_X4_crackWorst, ct_X4_crackWorst l, ⟨rfl, rfl⟩, ⟨by decide, by decide⟩, by decide, by decide, nk_X4_crackWorst, ln_X4_68, im_X4_crackWorst, se_X4_crackWorst, rfl⟩, fun _ h => absurd h List.not_mem_nil⟩⟩, (fun _ _ _ h => by cases h), (fun _ _ h => by cases h), ⟨Nat.le_refl _, Nat.le_refl _⟩, (fun h => by cases h), (fun h => absurd h (by decide)), fun _ h => absurd h List.not_mem_nil⟩) rfl rfl rfl (fun pc row h => (I_X4_staysWhole_ok pc row h).2)
def rm_X4_renew : Room := { frames := 1, cells := 0, slots := 0, locals := 23 }
noncomputable def G_X4_renew : mjG := (I_X4_renew, F_X4, [(38, 1, 0, 2, 0, 0, S_J7_fill_53178)], (fun pc => bif Nat.beq pc 22 then [4] else bif Nat.beq pc 14 then [3] else [1]), Y0, (fun _ => none), (fun _ => none), none, 0, 0, false, [])
set_option maxHeartbeats 20000000 in
set_option maxRecDepth 100000 in
theorem ok_X4_renew : mjOK G_X4_renew 2 S_X4_renew := by
  intro M as hP T hT
  obtain ⟨⟨h, g, s, c, fu, ai, ra, le, ri, mi, lo, fl⟩, x, rfl, rfl⟩ := inP1 hP
  have s2 : T 25 [some (.ref 0), some (.int x)] [] (pw (fillA 36 h x, g, fillA 60 s 100, fillA 60 c 0, fu, ai, ra, le, ri, mi, lo, fl)) (0, 0) := by
    refine hT.1 (fun _ => false) 60 _ _ _ _ _ ?_
    exact ⟨rfl, rfl⟩
  have s1 : T 17 [some (.ref 0), some (.int x)] [] (pw (fillA 36 h x, g, fillA 60 s 100, c, fu, ai, ra, le, ri, mi, lo, fl)) (0, 0) := by
    refine hT.1 (fun pc => Nat.beq pc 25) 60 _ _ _ _ _ ?_
    exact And.intro ⟨⟨rfl, show (60 : Nat) < 2147483647 by decide⟩, rfl⟩ s2
  have s0 : T 8 [some (.ref 0), some (.int x)] [] (pw (fillA 36 h x, g, s, c, fu, ai, ra, le, ri, mi, lo, fl)) (0, 0) := by
    refine hT.1 (fun pc => Nat.beq pc 17) 60 _ _ _ _ _ ?_
    exact And.intro ⟨⟨rfl, show (60 : Nat) < 2147483647 by decide⟩, rfl⟩ s1
  refine hT.1 (fun pc => Nat.beq pc 8) 60 _ _ _ _ _ ?_
  exact And.intro ⟨⟨rfl, show (36 : Nat) < 2147483647 by decide⟩, rfl⟩ s0
set_option maxRecDepth 10000 in
theorem ct_X4_renew (l : Launch) : mjCT l yX4_renew cX4_renew 2 none rm_X4_renew S_X4_renew :=
  mjCT_of (own := RX4) (G := G_X4_renew) (plainFor_of_name pn_X4) rfl ok_X4_renew (fun meth hm => ⟨fun pc row h => (I_X4_renew_ok pc row h).1, F_X4_ok, List.forall_mem_cons.mpr ⟨⟨yJ7_fill_53178, cJ7_fill_53178, 4, none, rm_J7_fill_53178, ct_J7_fill_53178 l, ⟨rfl, rfl⟩, ⟨by decide, by decide⟩, by decide, nk_J7_fill_53178, ln_X4_38, st_J7_fill_53178⟩, fun _ h => absurd h List.not_mem_nil⟩, (fun _ _ _ h => by cases h), (fun _ _ h => by cases h), ⟨Nat.le_refl _, Nat.le_refl _⟩, (fun h => by cases h), (fun h => absurd h (by decide)), fun _ h => absurd h List.not_mem_nil⟩) rfl rfl rfl (fun pc row h => (I_X4_renew_ok pc row h).2)
def rm_X4_copyFrom : Room := { frames := 1, cells := 0, slots := 0, locals := 43 }
noncomputable def G_X4_copyFrom : mjG := (I_X4_copyFrom, F_X4, [(59, 4, 0, 5, 0, 0, S_none)], (fun pc => []), Y0, (fun _ => none), (fun _ => none), none, 0, 0, false, [])
set_option maxHeartbeats 20000000 in
set_option maxRecDepth 100000 in
theorem ok_X4_copyFrom : mjOK G_X4_copyFrom 2 S_X4_copyFrom := by
  intro M as hP T hT
  obtain ⟨p, q, rfl, rfl⟩ : ∃ p q, M = pw p ++ pwb 5 q ∧ as = [.ref 0, .ref 5] := ⟨_, _, hP.1, hP.2⟩
  obtain ⟨h, g, s, c, fu, ai, ra, le, ri, mi, lo, fl⟩ := p
  obtain ⟨h', g', s', c', fu', ai', ra', le', ri', mi', lo', fl'⟩ := q
  have s3 : T 45 [some (.ref 0), some (.ref 5)] [] (pw (cpyA 36 h' h, g, cpyA 60 s' s, cpyA 60 c' c, fu, ai, ra, le, ri, mi, lo, fl) ++ pwb 5 (h', g', s', c', fu', ai', ra', le', ri', mi', lo', fl')) (0, 0) := by
    refine hT.1 (fun _ => false) 60 _ _ _ _ _ ?_
    exact ⟨rfl, rfl⟩
  have s2 : T 30 [some (.ref 0), some (.ref 5)] [] (pw (cpyA 36 h' h, g, cpyA 60 s' s, c, fu, ai, ra, le, ri, mi, lo, fl) ++ pwb 5 (h', g', s', c', fu', ai', ra', le', ri', mi', lo', fl')) (0, 0) := by
    refine hT.1 (fun pc => Nat.beq pc 45) 60 _ _ _ _ _ ?_
    refine And.intro ⟨by decide, by decide, by decide, by decide, by decide⟩ ?_
    rw [← va_cpyA 60 c'] at s3
    exact s3
  have s1 : T 15 [some (.ref 0), some (.ref 5)] [] (pw (cpyA 36 h' h, g, s, c, fu, ai, ra, le, ri, mi, lo, fl) ++ pwb 5 (h', g', s', c', fu', ai', ra', le', ri', mi', lo', fl')) (0, 0) := by
    refine hT.1 (fun pc => Nat.beq pc 30) 60 _ _ _ _ _ ?_
    refine And.intro ⟨by decide, by decide, by decide, by decide, by decide⟩ ?_
    rw [← va_cpyA 60 s'] at s2
    exact s2
  refine hT.1 (fun pc => Nat.beq pc 15) 60 _ _ _ _ _ ?_
  refine And.intro ⟨by decide, by decide, by decide, by decide, by decide⟩ ?_
  rw [← va_cpyA 36 h'] at s1
  exact s1
set_option maxRecDepth 10000 in
theorem ct_X4_copyFrom (l : Launch) : mjCT l yX4_copyFrom cX4_copyFrom 2 none rm_X4_copyFrom S_X4_copyFrom :=
  mjCT_of (own := RX4) (G := G_X4_copyFrom) (plainFor_of_name pn_X4) rfl ok_X4_copyFrom (fun meth hm => ⟨fun pc row h => (I_X4_copyFrom_ok pc row h).1, F_X4_ok, List.forall_mem_cons.mpr ⟨⟨ln_X4_59, cp_nat, cp_st, cp_ini, by decide, by decide⟩, fun _ h => absurd h List.not_mem_nil⟩, (fun _ _ _ h => by cases h), (fun _ _ h => by cases h), ⟨Nat.le_refl _, Nat.le_refl _⟩, (fun h => by cases h), (fun h => absurd h (by decide)), fun _ h => absurd h List.not_mem_nil⟩) rfl rfl rfl (fun pc row h => (I_X4_copyFrom_ok pc row h).2)
def rm_X4_holdFlame : Room := { frames := 1, cells := 0, slots := 0, locals := 21 }
noncomputable def G_X4_holdFlame : mjG := (I_X4_holdFlame, F_X4, [(103, 0, 3, 2, 0, 0, S_X4_heatAt), (87, 1, 0, 2, 0, 0, S_J9_max_7cf53), (113, 1, 0, 1, 0, 0, S_X1_isCell)], (fun pc => bif Nat.beq pc 2 then [0, 1, 2, 3, 4] else []), Y0, (fun _ => none), (fun _ => none), (some .int), 0, 0, false, [])
set_option maxHeartbeats 20000000 in
set_option maxRecDepth 100000 in
theorem ok_X4_holdFlame : mjOK G_X4_holdFlame 5 S_X4_holdFlame := by
  intro M as hP T hT
  obtain ⟨⟨h, g, s, c, fu, ai, ra, le, ri, mi, lo, fl⟩, k, x, rfl, rfl⟩ := inP2 hP
  refine hT.1 (fun _ => false) 60 _ _ _ _ _ ?_
  refine And.intro ⟨rfl, rfl⟩ (And.intro ⟨rfl, rfl⟩ (And.intro ⟨rfl, rfl⟩ (And.intro (fun (h1 : gIsCell k = 0) => ⟨?_, rfl⟩) (fun (h1 : ¬ gIsCell k = 0) => mjix_of (gIsCell_ne h1).1 (gIsCell_ne h1).2 rfl (by decide) ⟨?_, rfl⟩))))
  · show pw (h, g, s, c, fu, ai, ra, le, ri, mi, lo, fl + (gMax 0 (gAt 36 h k + x) - gAt 36 h k)) = pw (if gIsCell k = 0 then h else upd h k.toNatClampNeg (gMax 0 (gAt 36 h k + x)), g, s, c, fu, ai, ra, le, ri, mi, lo, fl + (gMax 0 (gAt 36 h k + x) - gAt 36 h k))
    rw [if_pos h1]
  · show pw (upd h k.toNatClampNeg (gMax 0 (gAt 36 h k + x)), g, s, c, fu, ai, ra, le, ri, mi, lo, fl + (gMax 0 (gAt 36 h k + x) - gAt 36 h k)) = pw (if gIsCell k = 0 then h else upd h k.toNatClampNeg (gMax 0 (gAt 36 h k + x)), g, s, c, fu, ai, ra, le, ri, mi, lo, fl + (gMax 0 (gAt 36 h k + x) - gAt 36 h k))
    rw [if_neg h1]
set_option maxRecDepth 10000 in
theorem ct_X4_holdFlame (l : Launch) : mjCT l yX4_holdFlame cX4_holdFlame 5 (some .int) rm_X4_holdFlame S_X4_holdFlame :=
  mjCT_of (own := RX4) (G := G_X4_holdFlame) (plainFor_of_name pn_X4) rfl ok_X4_holdFlame (fun meth hm => ⟨fun pc row h => (I_X4_holdFlame_ok pc row h).1, F_X4_ok, List.forall_mem_cons.mpr ⟨⟨yX4_heatAt, cX4_heatAt, 2, (some .int), rm_X4_heatAt, ct_X4_heatAt l, ⟨rfl, rfl⟩, ⟨by decide, by decide⟩, by decide, by decide, nk_X4_heatAt, ln_X4_103, im_X4_heatAt, se_X4_heatAt, rfl⟩, List.forall_mem_cons.mpr ⟨⟨yJ9_max_7cf53, cJ9_max_7cf53, 2, (some .int), rm_J9_max_7cf53, ct_J9_max_7cf53 l, ⟨rfl, rfl⟩, ⟨by decide, by decide⟩, by decide, nk_J9_max_7cf53, ln_X4_87, st_J9_max_7cf53⟩, List.forall_mem_cons.mpr ⟨⟨yX1_isCell, cX1_isCell, 1, (some .boolean), rm_X1_isCell, ct_X1_isCell l, ⟨rfl, rfl⟩, ⟨by decide, by decide⟩, by decide, nk_X1_isCell, ln_X4_113, st_X1_isCell⟩, fun _ h => absurd h List.not_mem_nil⟩⟩⟩, (fun _ _ _ h => by cases h), (fun _ _ h => by cases h), ⟨Nat.le_refl _, Nat.le_refl _⟩, (fun h => by cases h), (fun h => absurd h (by decide)), fun _ h => absurd h List.not_mem_nil⟩) rfl rfl rfl (fun pc row h => (I_X4_holdFlame_ok pc row h).2)
