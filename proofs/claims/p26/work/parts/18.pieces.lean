/-! the pieces -/
/-- names, reached cells, how many -/
abbrev ZSt : Type := (Nat → Int32) × (Nat → Int32) × Int32
def zw (z : ZSt) : mjM := match z with
  | (nm, rd, rc) => [.inr (4, [.ref 1, .ref 2, .int rc]), .inl (0, (36, .inl nm)), .inl (0, (36, .inl rd))]
def rZ (M : mjM) : ZSt := (rA M 1, rA M 2, rF M 0 2)
def gName (nm : Nat → Int32) (k : Int32) : Int32 := if gIsCell k = 0 then -1 else nm k.toNatClampNeg
def zReach (z : ZSt) (k x : Int32) : ZSt := match z with
  | (nm, rd, rc) => if ¬ gName nm k = -1 then (nm, rd, rc) else if gIsCell k = 0 then (nm, rd, rc) else if gIsCell rc = 0 then (nm, rd, rc) else (upd nm k.toNatClampNeg x, upd rd rc.toNatClampNeg k, rc + 1)
noncomputable def kReach (z : ZSt) (k x : Int32) : ZSt := kseal (zReach z k x)
noncomputable def zIn (c : Nat → Int32) (st k : Int32) : ZSt → Nat → ZSt := nf (fun i z => if gWh c (gJointAt k (nI i)) = 0 then z else kReach z (gOther (gJointAt k (nI i)) k) st)
noncomputable def zSpread (c : Nat → Int32) (st : Int32) : Nat → Nat → ZSt → ZSt
  | 0, _, z => z
  | d + 1, i, z => if z.2.2 ≤ nI i then z else zSpread c st d (i + 1) (zIn c st (z.2.1 i) z 4)
noncomputable def zFrom (c : Nat → Int32) (st : Int32) (z : ZSt) : ZSt := zSpread c st 36 0 (kReach (z.1, z.2.1, 0) st st)
noncomputable def zGo (c : Nat → Int32) (z : ZSt) : Nat → ZSt × Int32 := nf (fun i a => if a.1.1 i = -1 then (kseal (zFrom c (nI i) a.1), a.2 + 1) else a) ((fillA 36 z.1 (-1), z.2.1, z.2.2), 0)
def zJoin1 (nm : Nat → Int32) (a b : Int32) : Nat → Nat → Int32 := nf (fun i nm => if nm i = b then upd nm i a else nm) nm
def zIds (nm : Nat → Int32) : Nat → Nat → Int32 := nf (fun i nm => upd nm i (nI i)) nm
noncomputable def zJoin (c : Nat → Int32) (nm : Nat → Int32) : Nat → (Nat → Int32) × Int32 := nf (fun j a => if gWh c (nI j) = 0 then a else
  (kseal (zJoin1 a.1 (gMin (gName a.1 (gFirst (nI j))) (gName a.1 (gSecond (nI j)))) (gMax (gName a.1 (gFirst (nI j))) (gName a.1 (gSecond (nI j)))) 36), if gMin (gName a.1 (gFirst (nI j))) (gName a.1 (gSecond (nI j))) = gMax (gName a.1 (gFirst (nI j))) (gName a.1 (gSecond (nI j))) then a.2 else a.2 + (-1))) (kseal (zIds nm 36), 36)
def gSize (nm : Nat → Int32) (x : Int32) : Int32 := nf (fun i a => if nm i = x then a + 1 else a) 0 36
noncomputable def gSizeMax (nm : Nat → Int32) : Int32 := nf (fun i a => gMax a (kseal (gSize nm (nI i)))) 0 36
def mSum (nm h : Nat → Int32) (x : Int32) : Nat → UInt64 := nf (fun i a => if nm i = x then FP.dadd a (FP.i2d (gAt 36 h (nI i))) else a) FP.dconst0
theorem zwn {nm nm' : Nat → Int32} {r} (e : nm = nm') : zw (nm, r) = zw (nm', r) := by rw [e]
def S_X5_nameOf : mjSp := fun M as => (M = zw (rZ M) ∧ as = [.ref 0, .int (aI as 1)], none, some (.int (gName (rA M 1) (aI as 1))))
noncomputable def S_X5_reach : mjSp := fun M as => (M = zw (rZ M) ∧ as = [.ref 0, .int (aI as 1), .int (aI as 2)], some (zw (kReach (rZ M) (aI as 1) (aI as 2))), none)
noncomputable def S_X5_spreadFrom : mjSp := fun M as => (M = zw (rZ M) ++ pwb 3 (rPb 3 M) ∧ as = [.ref 0, .ref 3, .int (aI as 2)], some (zw (kseal (zFrom (rA M 7) (aI as 2) (rZ M))) ++ pwb 3 (rPb 3 M)), none)
noncomputable def S_X5_tellByGoing : mjSp := fun M as => (M = zw (rZ M) ++ pwb 3 (rPb 3 M) ∧ as = [.ref 0, .ref 3], some (zw (kseal (zGo (rA M 7) (rZ M) 36)).1 ++ pwb 3 (rPb 3 M)), some (.int (kseal (zGo (rA M 7) (rZ M) 36)).2))
noncomputable def S_X5_join : mjSp := fun M as => (M = zw (rZ M) ∧ as = [.ref 0, .int (aI as 1), .int (aI as 2)], some (zw (kseal (zJoin1 (rA M 1) (gMin (aI as 1) (aI as 2)) (gMax (aI as 1) (aI as 2)) 36), (rZ M).2)), some (.int (if gMin (aI as 1) (aI as 2) = gMax (aI as 1) (aI as 2) then 0 else 1)))
noncomputable def S_X5_tellByJoining : mjSp := fun M as => (M = zw (rZ M) ++ pwb 3 (rPb 3 M) ∧ as = [.ref 0, .ref 3], some (zw ((kseal (zJoin (rA M 7) (rA M 1) 60)).1, (rZ M).2) ++ pwb 3 (rPb 3 M)), some (.int (kseal (zJoin (rA M 7) (rA M 1) 60)).2))
noncomputable def S_X5_sizeOf : mjSp := fun M as => (M = zw (rZ M) ∧ as = [.ref 0, .int (aI as 1)], none, some (.int (kseal (gSize (rA M 1) (aI as 1)))))
noncomputable def S_X5_greatestSize : mjSp := fun M as => (M = zw (rZ M) ∧ as = [.ref 0], none, some (.int (kseal (gSizeMax (rA M 1)))))
def mOk (nm h : Nat → Int32) (x : Int32) : Prop := (∀ i, i < 36 → nm i = x → vf_n64 (FP.dadd (mSum nm h x i) (FP.i2d (gAt 36 h (nI i))))) ∧ vf_n64 (FP.ddiv (mSum nm h x 36) (FP.i2d (gSize nm x)))
noncomputable def S_X5_meanHeat : mjSp := fun M as => ((M = zw (rZ M) ++ pwb 3 (rPb 3 M) ∧ as = [.ref 0, .ref 3, .int (aI as 2)]) ∧ mOk (rA M 1) (rA M 4) (aI as 2), none, some (.double (kseal (if gSize (rA M 1) (aI as 2) = 0 then 13830554455654793216 else FP.ddiv (mSum (rA M 1) (rA M 4) (aI as 2) 36) (FP.i2d (gSize (rA M 1) (aI as 2)))))))
theorem inZ1 {M : mjM} {as : List Value} (h : M = zw (rZ M) ∧ as = [.ref 0, .int (aI as 1)]) : ∃ z x, M = zw z ∧ as = [.ref 0, .int x] := ⟨_, _, h⟩
theorem inZ2 {M : mjM} {as : List Value} (h : M = zw (rZ M) ∧ as = [.ref 0, .int (aI as 1), .int (aI as 2)]) : ∃ z x y, M = zw z ∧ as = [.ref 0, .int x, .int y] := ⟨_, _, _, h⟩
def rm_X5_nameOf : Room := { frames := 1, cells := 0, slots := 0, locals := 20 }
noncomputable def G_X5_nameOf : mjG := (I_X5_nameOf, F_X5, [(55, 1, 0, 1, 0, 0, S_X1_isCell)], (fun pc => []), Y0, (fun _ => none), (fun _ => none), (some .int), 0, 0, false, [])
set_option maxHeartbeats 20000000 in
set_option maxRecDepth 100000 in
theorem ok_X5_nameOf : mjOK G_X5_nameOf 2 S_X5_nameOf := by
  intro M as hP T hT
  obtain ⟨⟨nm, rd, rc⟩, k, rfl, rfl⟩ := inZ1 hP
  refine hT.1 (fun _ => false) 40 _ _ _ _ _ ?_
  refine And.intro ⟨rfl, rfl⟩ (And.intro (fun (h1 : gIsCell k = 0) => ⟨rfl, mjsi ?_⟩) (fun (h1 : ¬ gIsCell k = 0) => mjix_of (gIsCell_ne h1).1 (gIsCell_ne h1).2 rfl (by decide) ⟨rfl, mjsi ?_⟩))
  · exact (if_pos h1).symm
  · exact (if_neg h1).symm
set_option maxRecDepth 10000 in
theorem ct_X5_nameOf (l : Launch) : mjCT l yX5_nameOf cX5_nameOf 2 (some .int) rm_X5_nameOf S_X5_nameOf :=
  mjCT_of (own := RX5) (G := G_X5_nameOf) (plainFor_of_name pn_X5) rfl ok_X5_nameOf (fun meth hm => ⟨fun pc row h => (I_X5_nameOf_ok pc row h).1, F_X5_ok, List.forall_mem_cons.mpr ⟨⟨yX1_isCell, cX1_isCell, 1, (some .boolean), rm_X1_isCell, ct_X1_isCell l, ⟨rfl, rfl⟩, ⟨by decide, by decide⟩, by decide, nk_X1_isCell, ln_X5_55, st_X1_isCell⟩, fun _ h => absurd h List.not_mem_nil⟩, (fun _ _ _ h => by cases h), (fun _ _ h => by cases h), ⟨Nat.le_refl _, Nat.le_refl _⟩, (fun h => by cases h), (fun h => absurd h (by decide)), fun _ h => absurd h List.not_mem_nil⟩) rfl rfl rfl (fun pc row h => (I_X5_nameOf_ok pc row h).2)
def rm_X5_reach : Room := { frames := 2, cells := 0, slots := 0, locals := 41 }
noncomputable def G_X5_reach : mjG := (I_X5_reach, F_X5, [(51, 0, 4, 2, 0, 0, S_X5_nameOf), (55, 1, 0, 1, 0, 0, S_X1_isCell)], (fun pc => bif Nat.beq pc 2 then [0, 1, 2] else []), Y0, (fun _ => none), (fun _ => none), none, 0, 0, false, [])
set_option maxHeartbeats 20000000 in
set_option maxRecDepth 100000 in
theorem ok_X5_reach : mjOK G_X5_reach 3 S_X5_reach := by
  intro M as hP T hT
  obtain ⟨⟨nm, rd, rc⟩, k, x, rfl, rfl⟩ := inZ2 hP
  have fin : (S_X5_reach (zw (nm, rd, rc)) [.ref 0, .int k, .int x]).2.1 = some (zw (kseal (zReach (nm, rd, rc) k x))) := rfl
  have fin2 : (S_X5_reach (zw (nm, rd, rc)) [.ref 0, .int k, .int x]).2.2 = none := rfl
  rw [kseal_eq] at fin
  generalize S_X5_reach (zw (nm, rd, rc)) [.ref 0, .int k, .int x] = SS at hT fin fin2
  have hz : zReach (nm, rd, rc) k x = if ¬ gName nm k = -1 then (nm, rd, rc) else if gIsCell k = 0 then (nm, rd, rc) else if gIsCell rc = 0 then (nm, rd, rc) else (upd nm k.toNatClampNeg x, upd rd rc.toNatClampNeg k, rc + 1) := rfl
  refine hT.1 (fun _ => false) 60 _ _ _ _ _ ?_
  refine And.intro ⟨rfl, rfl⟩ (And.intro (fun (h1 : ¬ gName nm k = -1) => ⟨?_, fin2.symm⟩) (fun (h1 : gName nm k = -1) => And.intro ⟨rfl, rfl⟩ (And.intro (fun (h2 : gIsCell k = 0) => ⟨?_, fin2.symm⟩) (fun (h2 : ¬ gIsCell k = 0) => And.intro ⟨rfl, rfl⟩ (And.intro (fun (h3 : gIsCell rc = 0) => ⟨?_, fin2.symm⟩) (fun (h3 : ¬ gIsCell rc = 0) => mjix_of (gIsCell_ne h2).1 (gIsCell_ne h2).2 rfl (by decide) (mjix_of (gIsCell_ne h3).1 (gIsCell_ne h3).2 rfl (by decide) ⟨?_, fin2.symm⟩)))))))
  · rw [fin, hz, if_pos h1]
    rfl
  · rw [fin, hz, if_neg (fun z => z h1), if_pos h2]
    rfl
  · rw [fin, hz, if_neg (fun z => z h1), if_neg h2, if_pos h3]
    rfl
  · rw [fin, hz, if_neg (fun z => z h1), if_neg h2, if_neg h3]
    rfl
set_option maxRecDepth 10000 in
theorem ct_X5_reach (l : Launch) : mjCT l yX5_reach cX5_reach 3 none rm_X5_reach S_X5_reach :=
  mjCT_of (own := RX5) (G := G_X5_reach) (plainFor_of_name pn_X5) rfl ok_X5_reach (fun meth hm => ⟨fun pc row h => (I_X5_reach_ok pc row h).1, F_X5_ok, List.forall_mem_cons.mpr ⟨⟨yX5_nameOf, cX5_nameOf, 2, (some .int), rm_X5_nameOf, ct_X5_nameOf l, ⟨rfl, rfl⟩, ⟨by decide, by decide⟩, by decide, by decide, nk_X5_nameOf, ln_X5_51, im_X5_nameOf, se_X5_nameOf, rfl⟩, List.forall_mem_cons.mpr ⟨⟨yX1_isCell, cX1_isCell, 1, (some .boolean), rm_X1_isCell, ct_X1_isCell l, ⟨rfl, rfl⟩, ⟨by decide, by decide⟩, by decide, nk_X1_isCell, ln_X5_55, st_X1_isCell⟩, fun _ h => absurd h List.not_mem_nil⟩⟩, (fun _ _ _ h => by cases h), (fun _ _ h => by cases h), ⟨Nat.le_refl _, Nat.le_refl _⟩, (fun h => by cases h), (fun h => absurd h (by decide)), fun _ h => absurd h List.not_mem_nil⟩) rfl rfl rfl (fun pc row h => (I_X5_reach_ok pc row h).2)
def rm_X5_spreadFrom : Room := { frames := 3, cells := 0, slots := 0, locals := 63 }
noncomputable def G_X5_spreadFrom : mjG := (I_X5_spreadFrom, F_X5, [(32, 0, 4, 3, 0, 0, S_X5_reach), (36, 1, 0, 2, 0, 0, S_X1_jointAt), (42, 0, 3, 2, 0, 0, S_X4_isWhole), (48, 1, 0, 2, 0, 0, S_X1_otherCell)], (fun pc => bif Nat.beq pc 67 then [] else bif Nat.beq pc 56 then [3, 4, 5, 6, 7] else bif Nat.beq pc 48 then [] else [0, 1, 2]), Y0, (fun _ => none), (fun _ => none), none, 0, 0, false, [])
theorem zIn_s (c : Nat → Int32) (st k : Int32) (z : ZSt) (i : Nat) : zIn c st k z (i + 1) = if gWh c (gJointAt k (nI i)) = 0 then zIn c st k z i else kReach (zIn c st k z i) (gOther (gJointAt k (nI i)) k) st := rfl
theorem zSpread_s (c : Nat → Int32) (st : Int32) (d i : Nat) (z : ZSt) : zSpread c st (d + 1) i z = if z.2.2 ≤ nI i then z else zSpread c st d (i + 1) (zIn c st (z.2.1 i) z 4) := rfl
set_option maxHeartbeats 20000000 in
set_option maxRecDepth 100000 in
theorem ok_X5_spreadFrom : mjOK G_X5_spreadFrom 7 S_X5_spreadFrom := by
  intro M as hP T hT
  obtain ⟨⟨nm, rd, rc⟩, ⟨h, g, s, c, fu, ai, ra, le, ri, mi, lo, fl⟩, st, rfl, rfl⟩ : ∃ z p st, M = zw z ++ pwb 3 p ∧ as = [.ref 0, .ref 3, .int st] := ⟨_, _, _, hP.1, hP.2⟩
  have fin : (S_X5_spreadFrom (zw (nm, rd, rc) ++ pwb 3 (h, g, s, c, fu, ai, ra, le, ri, mi, lo, fl)) [.ref 0, .ref 3, .int st]).2.1 = some (zw (kseal (zFrom c st (nm, rd, rc))) ++ pwb 3 (h, g, s, c, fu, ai, ra, le, ri, mi, lo, fl)) := rfl
  have fin2 : (S_X5_spreadFrom (zw (nm, rd, rc) ++ pwb 3 (h, g, s, c, fu, ai, ra, le, ri, mi, lo, fl)) [.ref 0, .ref 3, .int st]).2.2 = none := rfl
  rw [kseal_eq] at fin
  generalize S_X5_spreadFrom (zw (nm, rd, rc) ++ pwb 3 (h, g, s, c, fu, ai, ra, le, ri, mi, lo, fl)) [.ref 0, .ref 3, .int st] = SS at hT fin fin2
  have outer : ∀ (z : ZSt), zSpread c st (36 - 0) 0 z = zFrom c st (nm, rd, rc) → T 13 [some (.ref 0), some (.ref 3), some (.int st), some (.int (nI 0)), none, none, none] [] (zw z ++ pwb 3 (h, g, s, c, fu, ai, ra, le, ri, mi, lo, fl)) (0, 0) := by
    refine mjloop0 36 (fun i => ∀ (z : ZSt), zSpread c st (36 - i) i z = zFrom c st (nm, rd, rc) → T 13 [some (.ref 0), some (.ref 3), some (.int st), some (.int (nI i)), none, none, none] [] (zw z ++ pwb 3 (h, g, s, c, fu, ai, ra, le, ri, mi, lo, fl)) (0, 0)) (fun i hi ih z hz => ?_) (fun z hz => ?_)
    · obtain ⟨nm1, rd1, rc1⟩ := z
      rw [show 36 - i = (36 - (i + 1)) + 1 by omega, zSpread_s] at hz
      rw [nI_succ] at ih
      refine hT.1 (fun pc => Nat.beq pc 38) 60 _ _ _ _ _ ?_
      refine And.intro (fun (h1 : rc1 ≤ nI i) => ⟨?_, fin2.symm⟩) (fun (h1 : ¬ rc1 ≤ nI i) => And.intro (fun h2 => absurd h2 (nI_ge hi (by decide))) (fun _ => mjix_n hi (by decide) ?_))
      · rw [fin, ← hz, if_pos h1]
        rfl
      · rw [if_neg h1] at hz
        refine hT.2 [true, true, true, true, true, true, false] _ _ _ _ _ ?_
        have hz : zSpread c st (36 - (i + 1)) (i + 1) (zIn c st (rd1 i) (nm1, rd1, rc1) 4) = zFrom c st (nm, rd, rc) := hz
        generalize rd1 i = k at hz ⊢
        refine mjloop0 4 (fun j => ∀ (z : ZSt), z = zIn c st k (nm1, rd1, rc1) j → T 38 [some (.ref 0), some (.ref 3), some (.int st), some (.int (nI i)), some (.int k), some (.int (nI j)), none] [] (zw z ++ pwb 3 (h, g, s, c, fu, ai, ra, le, ri, mi, lo, fl)) (0, 0)) (fun j hj ih2 z hz2 => ?_) (fun z hz2 => ?_) (nm1, rd1, rc1) rfl
        · rw [nI_succ, zIn_s, ← hz2] at ih2
          refine hT.1 (fun pc => Nat.beq pc 38) 60 _ _ _ _ _ ?_
          refine And.intro (fun h => absurd h (nI_ge hj (by decide))) (fun _ => And.intro ⟨rfl, rfl⟩ (And.intro ⟨rfl, rfl⟩ (And.intro (fun (h1 : gWh c (gJointAt k (nI j)) = 0) => hT.2 [true, true, true, true, true, true, false] _ _ _ _ _ (ih2 z ?_)) (fun (h1 : ¬ gWh c (gJointAt k (nI j)) = 0) => And.intro ⟨rfl, rfl⟩ (And.intro ⟨rfl, rfl⟩ (hT.2 [true, true, true, true, true, true, false] _ _ _ _ _ (ih2 (kReach z (gOther (gJointAt k (nI j)) k) st) ?_)))))))
          · rw [if_pos h1]
          · rw [if_neg h1]
        · refine hT.1 (fun pc => Nat.beq pc 13) 60 _ _ _ _ _ ?_
          refine And.intro (fun _ => ?_) (fun h => absurd (nI_le (Nat.le_refl 4) (by decide)) h)
          refine hT.2 [true, true, true, true, false, false, false] _ _ _ _ _ (ih z ?_)
          rw [hz2]
          exact hz
    · refine hT.1 (fun pc => Nat.beq pc 38) 60 _ _ _ _ _ ?_
      refine And.intro (fun h1 => ⟨?_, fin2.symm⟩) (fun h1 => And.intro (fun _ => ⟨?_, fin2.symm⟩) (fun h => absurd (nI_le (Nat.le_refl 36) (by decide)) h))
      · rw [fin, ← hz]
        rfl
      · rw [fin, ← hz]
        rfl
  refine hT.1 (fun pc => Nat.beq pc 13) 60 _ _ _ _ _ ?_
  refine And.intro ⟨rfl, rfl⟩ ?_
  exact outer (kReach (nm, rd, 0) st st) rfl
set_option maxRecDepth 10000 in
theorem ct_X5_spreadFrom (l : Launch) : mjCT l yX5_spreadFrom cX5_spreadFrom 7 none rm_X5_spreadFrom S_X5_spreadFrom :=
  mjCT_of (own := RX5) (G := G_X5_spreadFrom) (plainFor_of_name pn_X5) rfl ok_X5_spreadFrom (fun meth hm => ⟨fun pc row h => (I_X5_spreadFrom_ok pc row h).1, F_X5_ok, List.forall_mem_cons.mpr ⟨⟨yX5_reach, cX5_reach, 3, none, rm_X5_reach, ct_X5_reach l, ⟨rfl, rfl⟩, ⟨by decide, by decide⟩, by decide, by decide, nk_X5_reach, ln_X5_32, im_X5_reach, se_X5_reach, rfl⟩, List.forall_mem_cons.mpr ⟨⟨yX1_jointAt, cX1_jointAt, 4, (some .int), rm_X1_jointAt, ct_X1_jointAt l, ⟨rfl, rfl⟩, ⟨by decide, by decide⟩, by decide, nk_X1_jointAt, ln_X5_36, st_X1_jointAt⟩, List.forall_mem_cons.mpr ⟨⟨yX4_isWhole, cX4_isWhole, 2, (some .boolean), rm_X4_isWhole, ct_X4_isWhole l, ⟨rfl, rfl⟩, ⟨by decide, by decide⟩, by decide, by decide, nk_X4_isWhole, ln_X5_42, im_X4_isWhole, se_X4_isWhole, rfl⟩, List.forall_mem_cons.mpr ⟨⟨yX1_otherCell, cX1_otherCell, 2, (some .int), rm_X1_otherCell, ct_X1_otherCell l, ⟨rfl, rfl⟩, ⟨by decide, by decide⟩, by decide, nk_X1_otherCell, ln_X5_48, st_X1_otherCell⟩, fun _ h => absurd h List.not_mem_nil⟩⟩⟩⟩, (fun _ _ _ h => by cases h), (fun _ _ h => by cases h), ⟨Nat.le_refl _, Nat.le_refl _⟩, (fun h => by cases h), (fun h => absurd h (by decide)), fun _ h => absurd h List.not_mem_nil⟩) rfl rfl rfl (fun pc row h => (I_X5_spreadFrom_ok pc row h).2)
def rm_X5_tellByGoing : Room := { frames := 4, cells := 0, slots := 0, locals := 89 }
noncomputable def G_X5_tellByGoing : mjG := (I_X5_tellByGoing, F_X5, [(22, 1, 0, 2, 0, 0, S_J7_fill_53178), (28, 0, 4, 3, 0, 0, S_X5_spreadFrom)], (fun pc => bif Nat.beq pc 31 then [0, 1, 2, 3, 4, 5, 6, 7] else [1]), Y0, (fun _ => none), (fun _ => none), (some .int), 0, 0, false, [])
theorem zGo_s (c : Nat → Int32) (z : ZSt) (i : Nat) : zGo c z (i + 1) = if (zGo c z i).1.1 i = -1 then (kseal (zFrom c (nI i) (zGo c z i).1), (zGo c z i).2 + 1) else zGo c z i := rfl
set_option maxHeartbeats 20000000 in
set_option maxRecDepth 100000 in
theorem ok_X5_tellByGoing : mjOK G_X5_tellByGoing 4 S_X5_tellByGoing := by
  intro M as hP T hT
  obtain ⟨⟨nm, rd, rc⟩, ⟨h, g, s, c, fu, ai, ra, le, ri, mi, lo, fl⟩, rfl, rfl⟩ : ∃ z p, M = zw z ++ pwb 3 p ∧ as = [.ref 0, .ref 3] := ⟨_, _, hP.1, hP.2⟩
  have fin : (S_X5_tellByGoing (zw (nm, rd, rc) ++ pwb 3 (h, g, s, c, fu, ai, ra, le, ri, mi, lo, fl)) [.ref 0, .ref 3]).2.1 = some (zw (kseal (zGo c (nm, rd, rc) 36)).1 ++ pwb 3 (h, g, s, c, fu, ai, ra, le, ri, mi, lo, fl)) := rfl
  have fin2 : (S_X5_tellByGoing (zw (nm, rd, rc) ++ pwb 3 (h, g, s, c, fu, ai, ra, le, ri, mi, lo, fl)) [.ref 0, .ref 3]).2.2 = some (.int (kseal (zGo c (nm, rd, rc) 36)).2) := rfl
  rw [kseal_eq] at fin fin2
  generalize S_X5_tellByGoing (zw (nm, rd, rc) ++ pwb 3 (h, g, s, c, fu, ai, ra, le, ri, mi, lo, fl)) [.ref 0, .ref 3] = SS at hT fin fin2
  have s1 : ∀ (z : ZSt) (x : Int32), (z, x) = zGo c (nm, rd, rc) 0 → T 12 [some (.ref 0), some (.ref 3), some (.int x), some (.int (nI 0))] [] (zw z ++ pwb 3 (h, g, s, c, fu, ai, ra, le, ri, mi, lo, fl)) (0, 0) := by
    refine mjloop0 36 (fun i => ∀ (z : ZSt) (x : Int32), (z, x) = zGo c (nm, rd, rc) i → T 12 [some (.ref 0), some (.ref 3), some (.int x), some (.int (nI i))] [] (zw z ++ pwb 3 (h, g, s, c, fu, ai, ra, le, ri, mi, lo, fl)) (0, 0)) (fun i hi ih z x hz => ?_) (fun z x hz => ?_)
    · rw [nI_succ, zGo_s, ← hz] at ih
      obtain ⟨nm1, rd1, rc1⟩ := z
      refine hT.1 (fun pc => Nat.beq pc 12) 60 _ _ _ _ _ ?_
      refine And.intro (fun h => absurd h (nI_ge hi (by decide))) (fun _ => mjix_n hi (by decide) (And.intro (fun (h1 : ¬ nm1 i = -1) => ih _ _ ?_) (fun (h1 : nm1 i = -1) => And.intro ⟨rfl, rfl⟩ (ih _ _ ?_))))
      · exact (if_neg h1).symm
      · exact (if_pos h1).symm
    · refine hT.1 (fun pc => Nat.beq pc 12) 60 _ _ _ _ _ ?_
      refine And.intro (fun _ => ⟨?_, ?_⟩) (fun h => absurd (nI_le (Nat.le_refl 36) (by decide)) h)
      · rw [fin, ← hz]
        rfl
      · rw [fin2, ← hz]
  refine hT.1 (fun pc => Nat.beq pc 12) 60 _ _ _ _ _ ?_
  exact And.intro ⟨⟨rfl, show (36 : Nat) < 2147483647 by decide⟩, rfl⟩ (s1 _ _ rfl)
set_option maxRecDepth 10000 in
theorem ct_X5_tellByGoing (l : Launch) : mjCT l yX5_tellByGoing cX5_tellByGoing 4 (some .int) rm_X5_tellByGoing S_X5_tellByGoing :=
  mjCT_of (own := RX5) (G := G_X5_tellByGoing) (plainFor_of_name pn_X5) rfl ok_X5_tellByGoing (fun meth hm => ⟨fun pc row h => (I_X5_tellByGoing_ok pc row h).1, F_X5_ok, List.forall_mem_cons.mpr ⟨⟨yJ7_fill_53178, cJ7_fill_53178, 4, none, rm_J7_fill_53178, ct_J7_fill_53178 l, ⟨rfl, rfl⟩, ⟨by decide, by decide⟩, by decide, nk_J7_fill_53178, ln_X5_22, st_J7_fill_53178⟩, List.forall_mem_cons.mpr ⟨⟨yX5_spreadFrom, cX5_spreadFrom, 7, none, rm_X5_spreadFrom, ct_X5_spreadFrom l, ⟨rfl, rfl⟩, ⟨by decide, by decide⟩, by decide, by decide, nk_X5_spreadFrom, ln_X5_28, im_X5_spreadFrom, se_X5_spreadFrom, rfl⟩, fun _ h => absurd h List.not_mem_nil⟩⟩, (fun _ _ _ h => by cases h), (fun _ _ h => by cases h), ⟨Nat.le_refl _, Nat.le_refl _⟩, (fun h => by cases h), (fun h => absurd h (by decide)), fun _ h => absurd h List.not_mem_nil⟩) rfl rfl rfl (fun pc row h => (I_X5_tellByGoing_ok pc row h).2)
