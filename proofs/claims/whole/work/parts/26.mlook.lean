/-! ColdPanesModel: the looks -/
abbrev mm0 (V : RSt → Int32) : mjSp := fun M as => (M = mw (rR M) ∧ as = [.ref 0], none, some (.int (V (rR M))))
abbrev mm1 (C : Int32 → Prop) (V : RSt → Int32 → Int32) : mjSp := fun M as => ((M = mw (rR M) ∧ as = [.ref 0, .int (aI as 1)]) ∧ C (aI as 1), none, some (.int (V (rR M) (aI as 1))))
abbrev mm2 (C : Int32 → Prop) (V : RSt → Int32 → Int32 → Int32) : mjSp := fun M as => ((M = mw (rR M) ∧ as = [.ref 0, .int (aI as 1), .int (aI as 2)]) ∧ C (aI as 1) ∧ C (aI as 2), none, some (.int (V (rR M) (aI as 1) (aI as 2))))
theorem inM0 {M : mjM} {as : List Value} (h : M = mw (rR M) ∧ as = [.ref 0]) : ∃ m, M = mw m ∧ as = [.ref 0] := ⟨_, h.1, h.2⟩
theorem inM1 {C : Int32 → Prop} {M : mjM} {as : List Value} (h : (M = mw (rR M) ∧ as = [.ref 0, .int (aI as 1)]) ∧ C (aI as 1)) : ∃ m x, M = mw m ∧ as = [.ref 0, .int x] ∧ C x := ⟨_, _, h.1.1, h.1.2, h.2⟩
theorem inM2 {C : Int32 → Prop} {M : mjM} {as : List Value} (h : (M = mw (rR M) ∧ as = [.ref 0, .int (aI as 1), .int (aI as 2)]) ∧ C (aI as 1) ∧ C (aI as 2)) : ∃ m x y, M = mw m ∧ as = [.ref 0, .int x, .int y] ∧ C x ∧ C y := ⟨_, _, _, h.1.1, h.1.2, h.2⟩
abbrev inA (_ : Int32) : Prop := True
theorem gMax_le {a y : Int32} (h : y ≤ a) : gMax a y = a := if_neg (Int32.not_lt.mpr h)
theorem gMax_nle {a y : Int32} (h : ¬ y ≤ a) : gMax a y = y := if_pos (Int32.not_le.mp h)
theorem gMin_ge {a y : Int32} (h : a ≤ y) : gMin a y = a := if_neg (Int32.not_lt.mpr h)
theorem gMin_nge {a y : Int32} (h : ¬ a ≤ y) : gMin a y = y := if_pos (Int32.not_le.mp h)
theorem i_add0 {a : Int32} : a + 0 = a := Int32.add_zero a
def mWorst1 (h s c : Nat → Int32) (i : Nat) (a : Int32) : Int32 := if gWh c (nI i) = 0 then a else if 0 ≤ gMar h s (nI i) then a else if a = -4 then nI i else if gMar h s a ≤ gMar h s (nI i) then a else nI i
def mWorst (h s c : Nat → Int32) : Nat → Int32 := nf (fun i a => mWorst1 h s c i a) (-4)
def mWhole1 (c : Nat → Int32) (k : Int32) : Nat → Int32 := nf (fun i a => if gWh c (nI i) = 0 then a else if gIsEnd k (nI i) = 0 then a else a + 1) 0
def mStress1 (h c : Nat → Int32) (k : Int32) : Nat → Int32 := nf (fun i a => if gWh c (nI i) = 0 then a else if gIsEnd k (nI i) = 0 then a else gMax a (gStr h (nI i))) (-4)
def mTouch1 (c : Nat → Int32) (j : Int32) : Nat → Int32 := nf (fun i a => if gWh c (nI i) = 0 then a else if gTouch j (nI i) = 0 then a else a + 1) 0
def gAhead (h s : Nat → Int32) (j k : Int32) : Int32 := if gMar h s j < gMar h s k then 1 else if gMar h s j = gMar h s k then (if k ≤ j then 0 else 1) else 0
def mPlace (h s c : Nat → Int32) (j : Int32) : Nat → Int32 := nf (fun i a => if gWh c (nI i) = 0 then a else if gAhead h s (nI i) j = 0 then a else a + 1) 0
noncomputable def kPlace (h s c : Nat → Int32) (j : Int32) : Int32 := kseal (mPlace h s c j 60)
noncomputable def mFound (h s c : Nat → Int32) (x : Int32) : Nat → Int32 := nf (fun i a => if gWh c (nI i) = 0 then a else if kPlace h s c (nI i) = x then nI i else a) (-4)
noncomputable def kFound (h s c : Nat → Int32) (x : Int32) : Int32 := kseal (mFound h s c x 60)
theorem mFound_in (h s c : Nat → Int32) (x : Int32) : ∀ i, i ≤ 60 → mFound h s c x i = -4 ∨ inJ (mFound h s c x i) := by
  intro i
  induction i with
  | zero => intro _; exact Or.inl rfl
  | succ i ih =>
    intro hi
    have e : mFound h s c x (i + 1) = if gWh c (nI i) = 0 then mFound h s c x i else if kPlace h s c (nI i) = x then nI i else mFound h s c x i := rfl
    rw [e]
    split
    · exact ih (by omega)
    · split
      · exact Or.inr (inJ_n (by omega))
      · exact ih (by omega)
theorem kFound_in (h s c : Nat → Int32) (x : Int32) (h0 : 0 ≤ kFound h s c x) : inJ (kFound h s c x) := by
  unfold kFound at h0 ⊢
  rw [kseal_eq] at h0 ⊢
  rcases mFound_in h s c x 60 (Nat.le_refl _) with e | e
  · rw [e] at h0
    exact absurd h0 (by decide)
  · exact e
def S_X7_isWhole : mjSp := mm1 inJ fun m j => gWh (vC m.1) j
def S_X7_stressOf : mjSp := mm1 inJ fun m j => gStr (vH m.1) j
def S_X7_marginOf : mjSp := mm1 inJ fun m j => gMar (vH m.1) (vS m.1) j
def S_X7_isAhead : mjSp := mm2 inJ fun m j k => gAhead (vH m.1) (vS m.1) j k
noncomputable def S_X7_greatestStress : mjSp := mm0 fun m => kseal (gStrMax (vH m.1) (vC m.1))
noncomputable def S_X7_worst : mjSp := mm0 fun m => kseal (mWorst (vH m.1) (vS m.1) (vC m.1) 60)
noncomputable def S_X7_cracked : mjSp := mm0 fun m => kseal (gCracked (vC m.1))
noncomputable def S_X7_sumOfHeats : mjSp := mm0 fun m => kseal (gSum (vH m.1))
noncomputable def S_X7_heatMost : mjSp := mm1 inA fun m b => kseal (if b = 0 then gCold (vH m.1) else gHot (vH m.1))
noncomputable def S_X7_wholeOf : mjSp := mm1 inA fun m k => kseal (mWhole1 (vC m.1) k 60)
noncomputable def S_X7_stressAt : mjSp := mm1 inA fun m k => kseal (mStress1 (vH m.1) (vC m.1) k 60)
noncomputable def S_X7_touching : mjSp := mm1 inA fun m j => kseal (mTouch1 (vC m.1) j 60)
noncomputable def S_X7_strained : mjSp := mm1 inA fun m x => if 0 ≤ x then kFound (vH m.1) (vS m.1) (vC m.1) x else -1
noncomputable def mLeastMar (h s c : Nat → Int32) : Int32 := if 0 ≤ kFound h s c 0 then gMar h s (kFound h s c 0) else -4
noncomputable def S_X7_leastMargin : mjSp := mm0 fun m => mLeastMar (vH m.1) (vS m.1) (vC m.1)
noncomputable def S_X7_cellsOf : mjSp := mm1 inA fun m x => kseal (gSize m.2.2.2.2.2.2.1 x)
def rm_X7_isWhole : Room := { frames := 0, cells := 0, slots := 0, locals := 0 }
noncomputable def G_X7_isWhole : mjG := (I_X7_isWhole, F_X7, [], (fun pc => []), Y0, (fun _ => none), (fun _ => none), (some .boolean), 0, 0, false)
set_option maxHeartbeats 20000000 in
set_option maxRecDepth 100000 in
theorem ok_X7_isWhole : mjOK G_X7_isWhole 2 S_X7_isWhole := by
  intro M as hP T hT
  obtain ⟨⟨s, ad, pa, ke, pd, fl, nm, kn, ik, ln, sg, sp, fo, ho, ta, tR, tm⟩, x, rfl, rfl, hc⟩ := inM1 hP
  obtain ⟨i, hi, rfl⟩ := inJ_of hc
  refine hT.1 (fun _ => false) 40 _ _ _ _ _ ?_
  refine mjix_e (44 + i) (nI_add 44 i) (by omega) (by decide) (And.intro (fun (h : ¬ s (44 + i) = 0) => ⟨rfl, rfl, mjsi ?_⟩) (fun (h : s (44 + i) = 0) => ⟨rfl, rfl, mjsi ?_⟩))
  · exact ((gWh_v hi).trans (if_neg h)).symm
  · exact ((gWh_v hi).trans (if_pos h)).symm
set_option maxRecDepth 10000 in
theorem ct_X7_isWhole (l : Launch) : mjCT l yX7_isWhole cX7_isWhole 2 (some .boolean) rm_X7_isWhole S_X7_isWhole :=
  mjCT_of (own := RX7) (G := G_X7_isWhole) (plainFor_of_name pn_X7) rfl ok_X7_isWhole (fun meth hm => ⟨fun pc row h => (I_X7_isWhole_ok pc row h).1, F_X7_ok, fun _ h => absurd h List.not_mem_nil, (fun _ _ _ h => by cases h), (fun _ _ h => by cases h), ⟨Nat.le_refl _, Nat.le_refl _⟩, (fun h => by cases h), (fun h => absurd h (by decide))⟩) rfl rfl rfl (fun pc row h => (I_X7_isWhole_ok pc row h).2)
def rm_X7_stressOf : Room := { frames := 2, cells := 0, slots := 0, locals := 40 }
noncomputable def G_X7_stressOf : mjG := (I_X7_stressOf, F_X7, [(47, 1, 0, 1, 0, 0, S_X7_firstOf), (50, 1, 0, 1, 0, 0, S_X7_secondOf), (53, 1, 0, 1, 0, 0, S_X7_size)], (fun pc => []), Y0, (fun _ => none), (fun _ => none), (some .int), 0, 0, false)
set_option maxHeartbeats 20000000 in
set_option maxRecDepth 100000 in
theorem ok_X7_stressOf : mjOK G_X7_stressOf 2 S_X7_stressOf := by
  intro M as hP T hT
  obtain ⟨⟨s, ad, pa, ke, pd, fl, nm, kn, ik, ln, sg, sp, fo, ho, ta, tR, tm⟩, x, rfl, rfl, hc⟩ := inM1 hP
  obtain ⟨i, hi, rfl⟩ := inJ_of hc
  have e1 : 8 + gFirst (nI i) = nI (8 + nF i) := by rw [gFirst_n hi]; exact nI_add 8 _
  have e2 : 8 + gSecond (nI i) = nI (8 + nS i) := by rw [gSecond_n hi]; exact nI_add 8 _
  have l1 := nF_lt hi
  have l2 := nS_lt hi
  refine hT.1 (fun _ => false) 40 _ _ _ _ _ ?_
  refine And.intro ⟨rfl, rfl⟩ (mjix_e (8 + nF i) e1 (by omega) (by decide) (And.intro ⟨rfl, rfl⟩ (mjix_e (8 + nS i) e2 (by omega) (by decide) (And.intro ⟨rfl, rfl⟩ ⟨rfl, mjsi ?_⟩))))
  exact (gStr_v hi).symm
set_option maxRecDepth 10000 in
theorem ct_X7_stressOf (l : Launch) : mjCT l yX7_stressOf cX7_stressOf 2 (some .int) rm_X7_stressOf S_X7_stressOf :=
  mjCT_of (own := RX7) (G := G_X7_stressOf) (plainFor_of_name pn_X7) rfl ok_X7_stressOf (fun meth hm => ⟨fun pc row h => (I_X7_stressOf_ok pc row h).1, F_X7_ok, List.forall_mem_cons.mpr ⟨⟨yX7_firstOf, cX7_firstOf, 1, (some .int), rm_X7_firstOf, ct_X7_firstOf l, ⟨rfl, rfl⟩, ⟨by decide, by decide⟩, by decide, nk_X7_firstOf, ln_X7_47, st_X7_firstOf⟩, List.forall_mem_cons.mpr ⟨⟨yX7_secondOf, cX7_secondOf, 1, (some .int), rm_X7_secondOf, ct_X7_secondOf l, ⟨rfl, rfl⟩, ⟨by decide, by decide⟩, by decide, nk_X7_secondOf, ln_X7_50, st_X7_secondOf⟩, List.forall_mem_cons.mpr ⟨⟨yX7_size, cX7_size, 1, (some .int), rm_X7_size, ct_X7_size l, ⟨rfl, rfl⟩, ⟨by decide, by decide⟩, by decide, nk_X7_size, ln_X7_53, st_X7_size⟩, fun _ h => absurd h List.not_mem_nil⟩⟩⟩, (fun _ _ _ h => by cases h), (fun _ _ h => by cases h), ⟨Nat.le_refl _, Nat.le_refl _⟩, (fun h => by cases h), (fun h => absurd h (by decide))⟩) rfl rfl rfl (fun pc row h => (I_X7_stressOf_ok pc row h).2)
def rm_X7_marginOf : Room := { frames := 3, cells := 0, slots := 0, locals := 61 }
noncomputable def G_X7_marginOf : mjG := (I_X7_marginOf, F_X7, [(56, 0, 6, 2, 0, 0, S_X7_stressOf)], (fun pc => [0, 1, 2, 3, 4, 5, 6, 7]), Y0, (fun _ => none), (fun _ => none), (some .int), 0, 0, false)
set_option maxHeartbeats 20000000 in
set_option maxRecDepth 100000 in
theorem ok_X7_marginOf : mjOK G_X7_marginOf 2 S_X7_marginOf := by
  intro M as hP T hT
  obtain ⟨⟨s, ad, pa, ke, pd, fl, nm, kn, ik, ln, sg, sp, fo, ho, ta, tR, tm⟩, x, rfl, rfl, hc⟩ := inM1 hP
  obtain ⟨i, hi, rfl⟩ := inJ_of hc
  refine hT.1 (fun _ => false) 40 _ _ _ _ _ ?_
  refine mjix_e (104 + i) (nI_add 104 i) (by omega) (by decide) (And.intro ⟨⟨rfl, rfl⟩, inJ_n hi⟩ ⟨rfl, mjsi ?_⟩)
  exact (gMar_v hi).symm
set_option maxRecDepth 10000 in
theorem ct_X7_marginOf (l : Launch) : mjCT l yX7_marginOf cX7_marginOf 2 (some .int) rm_X7_marginOf S_X7_marginOf :=
  mjCT_of (own := RX7) (G := G_X7_marginOf) (plainFor_of_name pn_X7) rfl ok_X7_marginOf (fun meth hm => ⟨fun pc row h => (I_X7_marginOf_ok pc row h).1, F_X7_ok, List.forall_mem_cons.mpr ⟨⟨yX7_stressOf, cX7_stressOf, 2, (some .int), rm_X7_stressOf, ct_X7_stressOf l, ⟨rfl, rfl⟩, ⟨by decide, by decide⟩, by decide, by decide, nk_X7_stressOf, ln_X7_56, im_X7_stressOf, se_X7_stressOf, rfl⟩, fun _ h => absurd h List.not_mem_nil⟩, (fun _ _ _ h => by cases h), (fun _ _ h => by cases h), ⟨Nat.le_refl _, Nat.le_refl _⟩, (fun h => by cases h), (fun h => absurd h (by decide))⟩) rfl rfl rfl (fun pc row h => (I_X7_marginOf_ok pc row h).2)
def rm_X7_isAhead : Room := { frames := 4, cells := 0, slots := 0, locals := 82 }
noncomputable def G_X7_isAhead : mjG := (I_X7_isAhead, F_X7, [(70, 0, 6, 2, 0, 0, S_X7_marginOf)], (fun pc => [0, 1, 2, 3, 4, 5, 6, 7]), Y0, (fun _ => none), (fun _ => none), (some .boolean), 0, 0, false)
set_option maxHeartbeats 20000000 in
set_option maxRecDepth 100000 in
theorem ok_X7_isAhead : mjOK G_X7_isAhead 3 S_X7_isAhead := by
  intro M as hP T hT
  obtain ⟨⟨s, ad, pa, ke, pd, fl, nm, kn, ik, ln, sg, sp, fo, ho, ta, tR, tm⟩, x, y, rfl, rfl, hc, hd⟩ := inM2 hP
  have hz : gAhead (vH s) (vS s) x y = if gMar (vH s) (vS s) x < gMar (vH s) (vS s) y then 1 else if gMar (vH s) (vS s) x = gMar (vH s) (vS s) y then (if y ≤ x then 0 else 1) else 0 := rfl
  have hv : (S_X7_isAhead (mw (s, ad, pa, ke, pd, fl, nm, kn, ik, ln, sg, sp, fo, ho, ta, tR, tm)) [.ref 0, .int x, .int y]).2.2 = some (.int (gAhead (vH s) (vS s) x y)) := rfl
  have hm : (S_X7_isAhead (mw (s, ad, pa, ke, pd, fl, nm, kn, ik, ln, sg, sp, fo, ho, ta, tR, tm)) [.ref 0, .int x, .int y]).2.1 = none := rfl
  rw [hz] at hv
  generalize S_X7_isAhead (mw (s, ad, pa, ke, pd, fl, nm, kn, ik, ln, sg, sp, fo, ho, ta, tR, tm)) [.ref 0, .int x, .int y] = SS at hT hv hm
  refine hT.1 (fun _ => false) 60 _ _ _ _ _ ?_
  refine And.intro ⟨⟨rfl, rfl⟩, hc⟩ (And.intro ⟨⟨rfl, rfl⟩, hd⟩ (And.intro (fun (h1 : gMar (vH s) (vS s) x < gMar (vH s) (vS s) y) => ⟨rfl, ?_, ?_⟩) (fun (h1 : ¬ gMar (vH s) (vS s) x < gMar (vH s) (vS s) y) => And.intro ⟨⟨rfl, rfl⟩, hc⟩ (And.intro ⟨⟨rfl, rfl⟩, hd⟩ (And.intro (fun (h2 : ¬ gMar (vH s) (vS s) x = gMar (vH s) (vS s) y) => ⟨rfl, ?_, ?_⟩) (fun (h2 : gMar (vH s) (vS s) x = gMar (vH s) (vS s) y) => And.intro (fun (h3 : y ≤ x) => ⟨rfl, ?_, ?_⟩) (fun (h3 : ¬ y ≤ x) => ⟨rfl, ?_, ?_⟩)))))))
  · rw [hm]; rfl
  · rw [hv, if_pos h1]
  · rw [hm]; rfl
  · rw [hv, if_neg h1, if_neg h2]
  · rw [hm]; rfl
  · rw [hv, if_neg h1, if_pos h2, if_pos h3]
  · rw [hm]; rfl
  · rw [hv, if_neg h1, if_pos h2, if_neg h3]
set_option maxRecDepth 10000 in
theorem ct_X7_isAhead (l : Launch) : mjCT l yX7_isAhead cX7_isAhead 3 (some .boolean) rm_X7_isAhead S_X7_isAhead :=
  mjCT_of (own := RX7) (G := G_X7_isAhead) (plainFor_of_name pn_X7) rfl ok_X7_isAhead (fun meth hm => ⟨fun pc row h => (I_X7_isAhead_ok pc row h).1, F_X7_ok, List.forall_mem_cons.mpr ⟨⟨yX7_marginOf, cX7_marginOf, 2, (some .int), rm_X7_marginOf, ct_X7_marginOf l, ⟨rfl, rfl⟩, ⟨by decide, by decide⟩, by decide, by decide, nk_X7_marginOf, ln_X7_70, im_X7_marginOf, se_X7_marginOf, rfl⟩, fun _ h => absurd h List.not_mem_nil⟩, (fun _ _ _ h => by cases h), (fun _ _ h => by cases h), ⟨Nat.le_refl _, Nat.le_refl _⟩, (fun h => by cases h), (fun h => absurd h (by decide))⟩) rfl rfl rfl (fun pc row h => (I_X7_isAhead_ok pc row h).2)
def rm_X7_greatestStress : Room := { frames := 3, cells := 0, slots := 0, locals := 61 }
noncomputable def G_X7_greatestStress : mjG := (I_X7_greatestStress, F_X7, [(63, 0, 6, 2, 0, 0, S_X7_isWhole), (56, 0, 6, 2, 0, 0, S_X7_stressOf)], (fun pc => [0, 1, 2, 3, 4, 5, 6, 7]), Y0, (fun _ => none), (fun _ => none), (some .int), 0, 0, false)
set_option maxHeartbeats 20000000 in
set_option maxRecDepth 100000 in
theorem ok_X7_greatestStress : mjOK G_X7_greatestStress 3 S_X7_greatestStress := by
  intro M as hP T hT
  obtain ⟨⟨s, ad, pa, ke, pd, fl, nm, kn, ik, ln, sg, sp, fo, ho, ta, tR, tm⟩, rfl, rfl⟩ := inM0 hP
  refine hT.1 (fun pc => Nat.beq pc 5) 60 _ _ _ _ _ ?_
  refine mjloop0 60 (fun i => ∀ a : Int32, a = nf (fun i a => if gWh (vC s) (nI i) = 0 then a else gMax a (gStr (vH s) (nI i))) (-4 : Int32) i → T 5 [some (.ref 0), some (.int a), some (.int (nI i))] [] (mw (s, ad, pa, ke, pd, fl, nm, kn, ik, ln, sg, sp, fo, ho, ta, tR, tm)) (0, 0)) (fun i hi ih a ha => ?_) (fun a ha => ?_) (-4) rfl
  · rw [nI_succ] at ih
    refine hT.1 (fun pc => Nat.beq pc 5) 60 _ _ _ _ _ ?_
    refine And.intro (fun h => absurd h (nI_ge hi (by decide))) (fun _ => And.intro ⟨⟨rfl, rfl⟩, inJ_n hi⟩ (And.intro (fun (h1 : gWh (vC s) (nI i) = 0) => ih _ ?_) (fun (h1 : ¬ gWh (vC s) (nI i) = 0) => And.intro ⟨⟨rfl, rfl⟩, inJ_n hi⟩ (And.intro (fun (h2 : gStr (vH s) (nI i) ≤ a) => ih _ ?_) (fun (h2 : ¬ gStr (vH s) (nI i) ≤ a) => And.intro ⟨⟨rfl, rfl⟩, inJ_n hi⟩ (ih _ ?_))))))
    · rw [ha]; exact (if_pos h1).symm
    · rw [ha] at h2 ⊢; exact ((if_neg h1).trans (gMax_le h2)).symm
    · rw [ha] at h2; exact ((if_neg h1).trans (gMax_nle h2)).symm
  · refine hT.1 (fun pc => Nat.beq pc 5) 60 _ _ _ _ _ ?_
    exact And.intro (fun _ => ⟨rfl, ksi ha⟩) (fun h => absurd (nI_le (Nat.le_refl 60) (by decide)) h)
set_option maxRecDepth 10000 in
theorem ct_X7_greatestStress (l : Launch) : mjCT l yX7_greatestStress cX7_greatestStress 3 (some .int) rm_X7_greatestStress S_X7_greatestStress :=
  mjCT_of (own := RX7) (G := G_X7_greatestStress) (plainFor_of_name pn_X7) rfl ok_X7_greatestStress (fun meth hm => ⟨fun pc row h => (I_X7_greatestStress_ok pc row h).1, F_X7_ok, List.forall_mem_cons.mpr ⟨⟨yX7_isWhole, cX7_isWhole, 2, (some .boolean), rm_X7_isWhole, ct_X7_isWhole l, ⟨rfl, rfl⟩, ⟨by decide, by decide⟩, by decide, by decide, nk_X7_isWhole, ln_X7_63, im_X7_isWhole, se_X7_isWhole, rfl⟩, List.forall_mem_cons.mpr ⟨⟨yX7_stressOf, cX7_stressOf, 2, (some .int), rm_X7_stressOf, ct_X7_stressOf l, ⟨rfl, rfl⟩, ⟨by decide, by decide⟩, by decide, by decide, nk_X7_stressOf, ln_X7_56, im_X7_stressOf, se_X7_stressOf, rfl⟩, fun _ h => absurd h List.not_mem_nil⟩⟩, (fun _ _ _ h => by cases h), (fun _ _ h => by cases h), ⟨Nat.le_refl _, Nat.le_refl _⟩, (fun h => by cases h), (fun h => absurd h (by decide))⟩) rfl rfl rfl (fun pc row h => (I_X7_greatestStress_ok pc row h).2)
def rm_X7_cracked : Room := { frames := 1, cells := 0, slots := 0, locals := 21 }
noncomputable def G_X7_cracked : mjG := (I_X7_cracked, F_X7, [(63, 0, 6, 2, 0, 0, S_X7_isWhole)], (fun pc => [0, 1, 2, 3, 4, 5, 6, 7]), Y0, (fun _ => none), (fun _ => none), (some .int), 0, 0, false)
set_option maxHeartbeats 20000000 in
set_option maxRecDepth 100000 in
theorem ok_X7_cracked : mjOK G_X7_cracked 3 S_X7_cracked := by
  intro M as hP T hT
  obtain ⟨⟨s, ad, pa, ke, pd, fl, nm, kn, ik, ln, sg, sp, fo, ho, ta, tR, tm⟩, rfl, rfl⟩ := inM0 hP
  refine hT.1 (fun pc => Nat.beq pc 4) 60 _ _ _ _ _ ?_
  refine mjloop0 60 (fun i => ∀ a : Int32, a = nf (fun i a => if gWh (vC s) (nI i) = 0 then a + 1 else a) (0 : Int32) i → T 4 [some (.ref 0), some (.int a), some (.int (nI i))] [] (mw (s, ad, pa, ke, pd, fl, nm, kn, ik, ln, sg, sp, fo, ho, ta, tR, tm)) (0, 0)) (fun i hi ih a ha => ?_) (fun a ha => ?_) 0 rfl
  · rw [nI_succ] at ih
    refine hT.1 (fun pc => Nat.beq pc 4) 60 _ _ _ _ _ ?_
    refine And.intro (fun h => absurd h (nI_ge hi (by decide))) (fun _ => And.intro ⟨⟨rfl, rfl⟩, inJ_n hi⟩ (And.intro (fun (h1 : gWh (vC s) (nI i) = 0) => ih _ ?_) (fun (h1 : ¬ gWh (vC s) (nI i) = 0) => ih _ ?_)))
    · rw [ha]; exact (if_pos h1).symm
    · rw [ha, i_add0]; exact (if_neg h1).symm
  · refine hT.1 (fun pc => Nat.beq pc 4) 60 _ _ _ _ _ ?_
    exact And.intro (fun _ => ⟨rfl, ksi ha⟩) (fun h => absurd (nI_le (Nat.le_refl 60) (by decide)) h)
set_option maxRecDepth 10000 in
theorem ct_X7_cracked (l : Launch) : mjCT l yX7_cracked cX7_cracked 3 (some .int) rm_X7_cracked S_X7_cracked :=
  mjCT_of (own := RX7) (G := G_X7_cracked) (plainFor_of_name pn_X7) rfl ok_X7_cracked (fun meth hm => ⟨fun pc row h => (I_X7_cracked_ok pc row h).1, F_X7_ok, List.forall_mem_cons.mpr ⟨⟨yX7_isWhole, cX7_isWhole, 2, (some .boolean), rm_X7_isWhole, ct_X7_isWhole l, ⟨rfl, rfl⟩, ⟨by decide, by decide⟩, by decide, by decide, nk_X7_isWhole, ln_X7_63, im_X7_isWhole, se_X7_isWhole, rfl⟩, fun _ h => absurd h List.not_mem_nil⟩, (fun _ _ _ h => by cases h), (fun _ _ h => by cases h), ⟨Nat.le_refl _, Nat.le_refl _⟩, (fun h => by cases h), (fun h => absurd h (by decide))⟩) rfl rfl rfl (fun pc row h => (I_X7_cracked_ok pc row h).2)
def rm_X7_sumOfHeats : Room := { frames := 0, cells := 0, slots := 0, locals := 0 }
noncomputable def G_X7_sumOfHeats : mjG := (I_X7_sumOfHeats, F_X7, [], (fun pc => []), Y0, (fun _ => none), (fun _ => none), (some .int), 0, 0, false)
set_option maxHeartbeats 20000000 in
set_option maxRecDepth 100000 in
theorem ok_X7_sumOfHeats : mjOK G_X7_sumOfHeats 3 S_X7_sumOfHeats := by
  intro M as hP T hT
  obtain ⟨⟨s, ad, pa, ke, pd, fl, nm, kn, ik, ln, sg, sp, fo, ho, ta, tR, tm⟩, rfl, rfl⟩ := inM0 hP
  refine hT.1 (fun pc => Nat.beq pc 4) 60 _ _ _ _ _ ?_
  refine mjloop0 36 (fun i => ∀ a : Int32, a = nf (fun i a => a + vH s i) (0 : Int32) i → T 4 [some (.ref 0), some (.int a), some (.int (nI i))] [] (mw (s, ad, pa, ke, pd, fl, nm, kn, ik, ln, sg, sp, fo, ho, ta, tR, tm)) (0, 0)) (fun i hi ih a ha => ?_) (fun a ha => ?_) 0 rfl
  · rw [nI_succ] at ih
    refine hT.1 (fun pc => Nat.beq pc 4) 60 _ _ _ _ _ ?_
    refine And.intro (fun h => absurd h (nI_ge hi (by decide))) (fun _ => mjix_e (8 + i) (nI_add 8 i) (by omega) (by decide) (ih _ ?_))
    have e : vH s i = s (8 + i) := if_pos hi
    rw [ha]
    show nf (fun i a => a + vH s i) (0 : Int32) i + s (8 + i) = nf (fun i a => a + vH s i) (0 : Int32) i + vH s i
    rw [e]
  · refine hT.1 (fun pc => Nat.beq pc 4) 60 _ _ _ _ _ ?_
    exact And.intro (fun _ => ⟨rfl, ksi ha⟩) (fun h => absurd (nI_le (Nat.le_refl 36) (by decide)) h)
set_option maxRecDepth 10000 in
theorem ct_X7_sumOfHeats (l : Launch) : mjCT l yX7_sumOfHeats cX7_sumOfHeats 3 (some .int) rm_X7_sumOfHeats S_X7_sumOfHeats :=
  mjCT_of (own := RX7) (G := G_X7_sumOfHeats) (plainFor_of_name pn_X7) rfl ok_X7_sumOfHeats (fun meth hm => ⟨fun pc row h => (I_X7_sumOfHeats_ok pc row h).1, F_X7_ok, fun _ h => absurd h List.not_mem_nil, (fun _ _ _ h => by cases h), (fun _ _ h => by cases h), ⟨Nat.le_refl _, Nat.le_refl _⟩, (fun h => by cases h), (fun h => absurd h (by decide))⟩) rfl rfl rfl (fun pc row h => (I_X7_sumOfHeats_ok pc row h).2)
def rm_X7_wholeOf : Room := { frames := 3, cells := 0, slots := 0, locals := 61 }
noncomputable def G_X7_wholeOf : mjG := (I_X7_wholeOf, F_X7, [(63, 0, 6, 2, 0, 0, S_X7_isWhole), (59, 1, 0, 2, 0, 0, S_X7_has)], (fun pc => bif Nat.beq pc 21 then [] else [0, 1, 2, 3, 4, 5, 6, 7]), Y0, (fun _ => none), (fun _ => none), (some .int), 0, 0, false)
set_option maxHeartbeats 20000000 in
set_option maxRecDepth 100000 in
theorem ok_X7_wholeOf : mjOK G_X7_wholeOf 4 S_X7_wholeOf := by
  intro M as hP T hT
  obtain ⟨⟨s, ad, pa, ke, pd, fl, nm, kn, ik, ln, sg, sp, fo, ho, ta, tR, tm⟩, x, rfl, rfl, hc⟩ := inM1 hP
  refine hT.1 (fun pc => Nat.beq pc 4) 60 _ _ _ _ _ ?_
  refine mjloop0 60 (fun i => ∀ a : Int32, a = mWhole1 (vC s) x i → T 4 [some (.ref 0), some (.int x), some (.int a), some (.int (nI i))] [] (mw (s, ad, pa, ke, pd, fl, nm, kn, ik, ln, sg, sp, fo, ho, ta, tR, tm)) (0, 0)) (fun i hi ih a ha => ?_) (fun a ha => ?_) 0 rfl
  · rw [nI_succ] at ih
    refine hT.1 (fun pc => Nat.beq pc 4) 60 _ _ _ _ _ ?_
    refine And.intro (fun h => absurd h (nI_ge hi (by decide))) (fun _ => And.intro ⟨⟨rfl, rfl⟩, inJ_n hi⟩ (And.intro (fun (h1 : gWh (vC s) (nI i) = 0) => ih _ ?_) (fun (h1 : ¬ gWh (vC s) (nI i) = 0) => And.intro ⟨rfl, rfl⟩ (And.intro (fun (h2 : gIsEnd x (nI i) = 0) => ih _ ?_) (fun (h2 : ¬ gIsEnd x (nI i) = 0) => ih _ ?_)))))
    · rw [ha, i_add0]; exact (if_pos h1).symm
    · rw [ha, i_add0]; exact ((if_neg h1).trans (if_pos h2)).symm
    · rw [ha]; exact ((if_neg h1).trans (if_neg h2)).symm
  · refine hT.1 (fun pc => Nat.beq pc 4) 60 _ _ _ _ _ ?_
    exact And.intro (fun _ => ⟨rfl, ksi ha⟩) (fun h => absurd (nI_le (Nat.le_refl 60) (by decide)) h)
set_option maxRecDepth 10000 in
theorem ct_X7_wholeOf (l : Launch) : mjCT l yX7_wholeOf cX7_wholeOf 4 (some .int) rm_X7_wholeOf S_X7_wholeOf :=
  mjCT_of (own := RX7) (G := G_X7_wholeOf) (plainFor_of_name pn_X7) rfl ok_X7_wholeOf (fun meth hm => ⟨fun pc row h => (I_X7_wholeOf_ok pc row h).1, F_X7_ok, List.forall_mem_cons.mpr ⟨⟨yX7_isWhole, cX7_isWhole, 2, (some .boolean), rm_X7_isWhole, ct_X7_isWhole l, ⟨rfl, rfl⟩, ⟨by decide, by decide⟩, by decide, by decide, nk_X7_isWhole, ln_X7_63, im_X7_isWhole, se_X7_isWhole, rfl⟩, List.forall_mem_cons.mpr ⟨⟨yX7_has, cX7_has, 2, (some .boolean), rm_X7_has, ct_X7_has l, ⟨rfl, rfl⟩, ⟨by decide, by decide⟩, by decide, nk_X7_has, ln_X7_59, st_X7_has⟩, fun _ h => absurd h List.not_mem_nil⟩⟩, (fun _ _ _ h => by cases h), (fun _ _ h => by cases h), ⟨Nat.le_refl _, Nat.le_refl _⟩, (fun h => by cases h), (fun h => absurd h (by decide))⟩) rfl rfl rfl (fun pc row h => (I_X7_wholeOf_ok pc row h).2)
def rm_X7_touching : Room := { frames := 4, cells := 0, slots := 0, locals := 82 }
noncomputable def G_X7_touching : mjG := (I_X7_touching, F_X7, [(63, 0, 6, 2, 0, 0, S_X7_isWhole), (86, 1, 0, 2, 0, 0, S_X7_touch)], (fun pc => bif Nat.beq pc 21 then [] else [0, 1, 2, 3, 4, 5, 6, 7]), Y0, (fun _ => none), (fun _ => none), (some .int), 0, 0, false)
set_option maxHeartbeats 20000000 in
set_option maxRecDepth 100000 in
theorem ok_X7_touching : mjOK G_X7_touching 4 S_X7_touching := by
  intro M as hP T hT
  obtain ⟨⟨s, ad, pa, ke, pd, fl, nm, kn, ik, ln, sg, sp, fo, ho, ta, tR, tm⟩, x, rfl, rfl, hc⟩ := inM1 hP
  refine hT.1 (fun pc => Nat.beq pc 4) 60 _ _ _ _ _ ?_
  refine mjloop0 60 (fun i => ∀ a : Int32, a = mTouch1 (vC s) x i → T 4 [some (.ref 0), some (.int x), some (.int a), some (.int (nI i))] [] (mw (s, ad, pa, ke, pd, fl, nm, kn, ik, ln, sg, sp, fo, ho, ta, tR, tm)) (0, 0)) (fun i hi ih a ha => ?_) (fun a ha => ?_) 0 rfl
  · rw [nI_succ] at ih
    refine hT.1 (fun pc => Nat.beq pc 4) 60 _ _ _ _ _ ?_
    refine And.intro (fun h => absurd h (nI_ge hi (by decide))) (fun _ => And.intro ⟨⟨rfl, rfl⟩, inJ_n hi⟩ (And.intro (fun (h1 : gWh (vC s) (nI i) = 0) => ih _ ?_) (fun (h1 : ¬ gWh (vC s) (nI i) = 0) => And.intro ⟨rfl, rfl⟩ (And.intro (fun (h2 : gTouch x (nI i) = 0) => ih _ ?_) (fun (h2 : ¬ gTouch x (nI i) = 0) => ih _ ?_)))))
    · rw [ha, i_add0]; exact (if_pos h1).symm
    · rw [ha, i_add0]; exact ((if_neg h1).trans (if_pos h2)).symm
    · rw [ha]; exact ((if_neg h1).trans (if_neg h2)).symm
  · refine hT.1 (fun pc => Nat.beq pc 4) 60 _ _ _ _ _ ?_
    exact And.intro (fun _ => ⟨rfl, ksi ha⟩) (fun h => absurd (nI_le (Nat.le_refl 60) (by decide)) h)
set_option maxRecDepth 10000 in
theorem ct_X7_touching (l : Launch) : mjCT l yX7_touching cX7_touching 4 (some .int) rm_X7_touching S_X7_touching :=
  mjCT_of (own := RX7) (G := G_X7_touching) (plainFor_of_name pn_X7) rfl ok_X7_touching (fun meth hm => ⟨fun pc row h => (I_X7_touching_ok pc row h).1, F_X7_ok, List.forall_mem_cons.mpr ⟨⟨yX7_isWhole, cX7_isWhole, 2, (some .boolean), rm_X7_isWhole, ct_X7_isWhole l, ⟨rfl, rfl⟩, ⟨by decide, by decide⟩, by decide, by decide, nk_X7_isWhole, ln_X7_63, im_X7_isWhole, se_X7_isWhole, rfl⟩, List.forall_mem_cons.mpr ⟨⟨yX7_touch, cX7_touch, 2, (some .boolean), rm_X7_touch, ct_X7_touch l, ⟨rfl, rfl⟩, ⟨by decide, by decide⟩, by decide, nk_X7_touch, ln_X7_86, st_X7_touch⟩, fun _ h => absurd h List.not_mem_nil⟩⟩, (fun _ _ _ h => by cases h), (fun _ _ h => by cases h), ⟨Nat.le_refl _, Nat.le_refl _⟩, (fun h => by cases h), (fun h => absurd h (by decide))⟩) rfl rfl rfl (fun pc row h => (I_X7_touching_ok pc row h).2)
def rm_X7_stressAt : Room := { frames := 3, cells := 0, slots := 0, locals := 61 }
noncomputable def G_X7_stressAt : mjG := (I_X7_stressAt, F_X7, [(63, 0, 6, 2, 0, 0, S_X7_isWhole), (59, 1, 0, 2, 0, 0, S_X7_has), (56, 0, 6, 2, 0, 0, S_X7_stressOf)], (fun pc => bif Nat.beq pc 21 then [] else [0, 1, 2, 3, 4, 5, 6, 7]), Y0, (fun _ => none), (fun _ => none), (some .int), 0, 0, false)
set_option maxHeartbeats 20000000 in
set_option maxRecDepth 100000 in
theorem ok_X7_stressAt : mjOK G_X7_stressAt 4 S_X7_stressAt := by
  intro M as hP T hT
  obtain ⟨⟨s, ad, pa, ke, pd, fl, nm, kn, ik, ln, sg, sp, fo, ho, ta, tR, tm⟩, x, rfl, rfl, hc⟩ := inM1 hP
  refine hT.1 (fun pc => Nat.beq pc 5) 60 _ _ _ _ _ ?_
  refine mjloop0 60 (fun i => ∀ a : Int32, a = mStress1 (vH s) (vC s) x i → T 5 [some (.ref 0), some (.int x), some (.int a), some (.int (nI i))] [] (mw (s, ad, pa, ke, pd, fl, nm, kn, ik, ln, sg, sp, fo, ho, ta, tR, tm)) (0, 0)) (fun i hi ih a ha => ?_) (fun a ha => ?_) (-4) rfl
  · rw [nI_succ] at ih
    refine hT.1 (fun pc => Nat.beq pc 5) 60 _ _ _ _ _ ?_
    refine And.intro (fun h => absurd h (nI_ge hi (by decide))) (fun _ => And.intro ⟨⟨rfl, rfl⟩, inJ_n hi⟩ (And.intro (fun (h1 : gWh (vC s) (nI i) = 0) => ih _ ?_) (fun (h1 : ¬ gWh (vC s) (nI i) = 0) => And.intro ⟨rfl, rfl⟩ (And.intro (fun (h2 : gIsEnd x (nI i) = 0) => ih _ ?_) (fun (h2 : ¬ gIsEnd x (nI i) = 0) => And.intro ⟨⟨rfl, rfl⟩, inJ_n hi⟩ (And.intro (fun (h3 : gStr (vH s) (nI i) ≤ a) => ih _ ?_) (fun (h3 : ¬ gStr (vH s) (nI i) ≤ a) => And.intro ⟨⟨rfl, rfl⟩, inJ_n hi⟩ (ih _ ?_))))))))
    · rw [ha]; exact (if_pos h1).symm
    · rw [ha]; exact ((if_neg h1).trans (if_pos h2)).symm
    · rw [ha] at h3 ⊢; exact (((if_neg h1).trans (if_neg h2)).trans (gMax_le h3)).symm
    · rw [ha] at h3; exact (((if_neg h1).trans (if_neg h2)).trans (gMax_nle h3)).symm
  · refine hT.1 (fun pc => Nat.beq pc 5) 60 _ _ _ _ _ ?_
    exact And.intro (fun _ => ⟨rfl, ksi ha⟩) (fun h => absurd (nI_le (Nat.le_refl 60) (by decide)) h)
set_option maxRecDepth 10000 in
theorem ct_X7_stressAt (l : Launch) : mjCT l yX7_stressAt cX7_stressAt 4 (some .int) rm_X7_stressAt S_X7_stressAt :=
  mjCT_of (own := RX7) (G := G_X7_stressAt) (plainFor_of_name pn_X7) rfl ok_X7_stressAt (fun meth hm => ⟨fun pc row h => (I_X7_stressAt_ok pc row h).1, F_X7_ok, List.forall_mem_cons.mpr ⟨⟨yX7_isWhole, cX7_isWhole, 2, (some .boolean), rm_X7_isWhole, ct_X7_isWhole l, ⟨rfl, rfl⟩, ⟨by decide, by decide⟩, by decide, by decide, nk_X7_isWhole, ln_X7_63, im_X7_isWhole, se_X7_isWhole, rfl⟩, List.forall_mem_cons.mpr ⟨⟨yX7_has, cX7_has, 2, (some .boolean), rm_X7_has, ct_X7_has l, ⟨rfl, rfl⟩, ⟨by decide, by decide⟩, by decide, nk_X7_has, ln_X7_59, st_X7_has⟩, List.forall_mem_cons.mpr ⟨⟨yX7_stressOf, cX7_stressOf, 2, (some .int), rm_X7_stressOf, ct_X7_stressOf l, ⟨rfl, rfl⟩, ⟨by decide, by decide⟩, by decide, by decide, nk_X7_stressOf, ln_X7_56, im_X7_stressOf, se_X7_stressOf, rfl⟩, fun _ h => absurd h List.not_mem_nil⟩⟩⟩, (fun _ _ _ h => by cases h), (fun _ _ h => by cases h), ⟨Nat.le_refl _, Nat.le_refl _⟩, (fun h => by cases h), (fun h => absurd h (by decide))⟩) rfl rfl rfl (fun pc row h => (I_X7_stressAt_ok pc row h).2)
def rm_X7_cellsOf : Room := { frames := 0, cells := 0, slots := 0, locals := 0 }
noncomputable def G_X7_cellsOf : mjG := (I_X7_cellsOf, F_X7, [], (fun pc => []), Y0, (fun _ => none), (fun _ => none), (some .int), 0, 0, false)
set_option maxHeartbeats 20000000 in
set_option maxRecDepth 100000 in
theorem ok_X7_cellsOf : mjOK G_X7_cellsOf 4 S_X7_cellsOf := by
  intro M as hP T hT
  obtain ⟨⟨s, ad, pa, ke, pd, fl, nm, kn, ik, ln, sg, sp, fo, ho, ta, tR, tm⟩, x, rfl, rfl, hc⟩ := inM1 hP
  refine hT.1 (fun pc => Nat.beq pc 4) 60 _ _ _ _ _ ?_
  refine mjloop0 36 (fun i => ∀ a : Int32, a = nf (fun i a => if nm i = x then a + 1 else a) (0 : Int32) i → T 4 [some (.ref 0), some (.int x), some (.int a), some (.int (nI i))] [] (mw (s, ad, pa, ke, pd, fl, nm, kn, ik, ln, sg, sp, fo, ho, ta, tR, tm)) (0, 0)) (fun i hi ih a ha => ?_) (fun a ha => ?_) 0 rfl
  · rw [nI_succ] at ih
    refine hT.1 (fun pc => Nat.beq pc 4) 60 _ _ _ _ _ ?_
    refine And.intro (fun h => absurd h (nI_ge hi (by decide))) (fun _ => mjix_n hi (by decide) (And.intro (fun (h1 : ¬ nm i = x) => ih _ ?_) (fun (h1 : nm i = x) => ih _ ?_)))
    · rw [ha, i_add0]; exact (if_neg h1).symm
    · rw [ha]; exact (if_pos h1).symm
  · refine hT.1 (fun pc => Nat.beq pc 4) 60 _ _ _ _ _ ?_
    exact And.intro (fun _ => ⟨rfl, ksi ha⟩) (fun h => absurd (nI_le (Nat.le_refl 36) (by decide)) h)
set_option maxRecDepth 10000 in
theorem ct_X7_cellsOf (l : Launch) : mjCT l yX7_cellsOf cX7_cellsOf 4 (some .int) rm_X7_cellsOf S_X7_cellsOf :=
  mjCT_of (own := RX7) (G := G_X7_cellsOf) (plainFor_of_name pn_X7) rfl ok_X7_cellsOf (fun meth hm => ⟨fun pc row h => (I_X7_cellsOf_ok pc row h).1, F_X7_ok, fun _ h => absurd h List.not_mem_nil, (fun _ _ _ h => by cases h), (fun _ _ h => by cases h), ⟨Nat.le_refl _, Nat.le_refl _⟩, (fun h => by cases h), (fun h => absurd h (by decide))⟩) rfl rfl rfl (fun pc row h => (I_X7_cellsOf_ok pc row h).2)
def rm_X7_worst : Room := { frames := 4, cells := 0, slots := 0, locals := 82 }
noncomputable def G_X7_worst : mjG := (I_X7_worst, F_X7, [(63, 0, 6, 2, 0, 0, S_X7_isWhole), (70, 0, 6, 2, 0, 0, S_X7_marginOf)], (fun pc => [0, 1, 2, 3, 4, 5, 6, 7]), Y0, (fun _ => none), (fun _ => none), (some .int), 0, 0, false)
set_option maxHeartbeats 20000000 in
set_option maxRecDepth 100000 in
theorem ok_X7_worst : mjOK G_X7_worst 4 S_X7_worst := by
  intro M as hP T hT
  obtain ⟨⟨s, ad, pa, ke, pd, fl, nm, kn, ik, ln, sg, sp, fo, ho, ta, tR, tm⟩, rfl, rfl⟩ := inM0 hP
  have hs : ∀ i, mWorst (vH s) (vS s) (vC s) (i + 1) = if gWh (vC s) (nI i) = 0 then mWorst (vH s) (vS s) (vC s) i else if 0 ≤ gMar (vH s) (vS s) (nI i) then mWorst (vH s) (vS s) (vC s) i else if mWorst (vH s) (vS s) (vC s) i = -4 then nI i else if gMar (vH s) (vS s) (mWorst (vH s) (vS s) (vC s) i) ≤ gMar (vH s) (vS s) (nI i) then mWorst (vH s) (vS s) (vC s) i else nI i := fun _ => rfl
  refine hT.1 (fun pc => Nat.beq pc 5) 60 _ _ _ _ _ ?_
  refine hT.2 [true, true, true, false] _ _ _ _ _ ?_
  refine mjloop0 60 (fun i => ∀ a : Int32, (a = -4 ∨ inJ a) → a = mWorst (vH s) (vS s) (vC s) i → T 5 [some (.ref 0), some (.int a), some (.int (nI i)), none] [] (mw (s, ad, pa, ke, pd, fl, nm, kn, ik, ln, sg, sp, fo, ho, ta, tR, tm)) (0, 0)) (fun i hi ih a hj ha => ?_) (fun a hj ha => ?_) (-4) (Or.inl rfl) rfl
  · have e := hs i
    rw [← ha] at e
    rw [nI_succ] at ih
    have ih : ∀ a v : Int32, (a = -4 ∨ inJ a) → a = mWorst (vH s) (vS s) (vC s) (i + 1) → T 5 [some (.ref 0), some (.int a), some (.int (nI i + 1)), some (.int v)] [] (mw (s, ad, pa, ke, pd, fl, nm, kn, ik, ln, sg, sp, fo, ho, ta, tR, tm)) (0, 0) := fun a v h1 h2 => hT.2 [true, true, true, false] _ _ _ _ _ (ih a h1 h2)
    refine hT.1 (fun pc => Nat.beq pc 5) 60 _ _ _ _ _ ?_
    refine And.intro (fun h => absurd h (nI_ge hi (by decide))) (fun _ => And.intro (⟨⟨rfl, rfl⟩, inJ_n hi⟩) (And.intro (fun (h1 : gWh (vC s) (nI i) = 0) => And.intro (fun _ => ih _ _ hj ?_) (fun h => absurd rfl h)) (fun (h1 : ¬ gWh (vC s) (nI i) = 0) => And.intro (⟨⟨rfl, rfl⟩, inJ_n hi⟩) (And.intro (fun (h2 : 0 ≤ gMar (vH s) (vS s) (nI i)) => And.intro (fun _ => ih _ _ hj ?_) (fun h => absurd rfl h)) (fun (h2 : ¬ 0 ≤ gMar (vH s) (vS s) (nI i)) => And.intro (fun (h3 : a = -4) => And.intro (fun h => absurd h (by decide)) (fun _ => ih _ _ (Or.inr (inJ_n hi)) ?_)) (fun (h3 : ¬ a = -4) => And.intro (⟨⟨rfl, rfl⟩, inJ_n hi⟩) (And.intro (⟨⟨rfl, rfl⟩, hj.resolve_left h3⟩) (And.intro (fun (h4 : gMar (vH s) (vS s) a ≤ gMar (vH s) (vS s) (nI i)) => And.intro (fun _ => ih _ _ hj ?_) (fun h => absurd rfl h)) (fun (h4 : ¬ gMar (vH s) (vS s) a ≤ gMar (vH s) (vS s) (nI i)) => And.intro (fun h => absurd h (by decide)) (fun _ => ih _ _ (Or.inr (inJ_n hi)) ?_))))))))))
    · rw [e, if_pos h1]
    · rw [e, if_neg h1, if_pos h2]
    · rw [e, if_neg h1, if_neg h2, if_pos h3]
    · rw [e, if_neg h1, if_neg h2, if_neg h3, if_pos h4]
    · rw [e, if_neg h1, if_neg h2, if_neg h3, if_neg h4]
  · refine hT.1 (fun pc => Nat.beq pc 5) 60 _ _ _ _ _ ?_
    exact And.intro (fun _ => ⟨rfl, ksi ha⟩) (fun h => absurd (nI_le (Nat.le_refl 60) (by decide)) h)
set_option maxRecDepth 10000 in
theorem ct_X7_worst (l : Launch) : mjCT l yX7_worst cX7_worst 4 (some .int) rm_X7_worst S_X7_worst :=
  mjCT_of (own := RX7) (G := G_X7_worst) (plainFor_of_name pn_X7) rfl ok_X7_worst (fun meth hm => ⟨fun pc row h => (I_X7_worst_ok pc row h).1, F_X7_ok, List.forall_mem_cons.mpr ⟨⟨yX7_isWhole, cX7_isWhole, 2, (some .boolean), rm_X7_isWhole, ct_X7_isWhole l, ⟨rfl, rfl⟩, ⟨by decide, by decide⟩, by decide, by decide, nk_X7_isWhole, ln_X7_63, im_X7_isWhole, se_X7_isWhole, rfl⟩, List.forall_mem_cons.mpr ⟨⟨yX7_marginOf, cX7_marginOf, 2, (some .int), rm_X7_marginOf, ct_X7_marginOf l, ⟨rfl, rfl⟩, ⟨by decide, by decide⟩, by decide, by decide, nk_X7_marginOf, ln_X7_70, im_X7_marginOf, se_X7_marginOf, rfl⟩, fun _ h => absurd h List.not_mem_nil⟩⟩, (fun _ _ _ h => by cases h), (fun _ _ h => by cases h), ⟨Nat.le_refl _, Nat.le_refl _⟩, (fun h => by cases h), (fun h => absurd h (by decide))⟩) rfl rfl rfl (fun pc row h => (I_X7_worst_ok pc row h).2)
def rm_X7_heatMost : Room := { frames := 0, cells := 0, slots := 0, locals := 0 }
noncomputable def G_X7_heatMost : mjG := (I_X7_heatMost, F_X7, [], (fun pc => []), Y0, (fun _ => none), (fun _ => none), (some .int), 0, 0, false)
set_option maxHeartbeats 20000000 in
set_option maxRecDepth 100000 in
theorem ok_X7_heatMost : mjOK G_X7_heatMost 5 S_X7_heatMost := by
  intro M as hP T hT
  obtain ⟨⟨s, ad, pa, ke, pd, fl, nm, kn, ik, ln, sg, sp, fo, ho, ta, tR, tm⟩, x, rfl, rfl, hc⟩ := inM1 hP
  have key : ∀ (F : Nat → Int32 → Int32), (∀ i a, i < 35 → F i a = if x = 0 then gMin a (vH s (i + 1)) else gMax a (vH s (i + 1))) → (some (Value.int (nf F (s 8) 35)) = (S_X7_heatMost (mw (s, ad, pa, ke, pd, fl, nm, kn, ik, ln, sg, sp, fo, ho, ta, tR, tm)) [.ref 0, .int x]).2.2) → T 10 [some (.ref 0), some (.int x), some (.int (s 8)), some (.int (nI 1)), none] [] (mw (s, ad, pa, ke, pd, fl, nm, kn, ik, ln, sg, sp, fo, ho, ta, tR, tm)) (0, 0) := by
    intro F hF fin
    refine mjloop0 35 (fun i => ∀ a : Int32, a = nf F (s 8) i → T 10 [some (.ref 0), some (.int x), some (.int a), some (.int (nI (i + 1))), none] [] (mw (s, ad, pa, ke, pd, fl, nm, kn, ik, ln, sg, sp, fo, ho, ta, tR, tm)) (0, 0)) (fun i hi ih a ha => ?_) (fun a ha => ?_) (s 8) rfl
    · rw [nI_succ (i + 1)] at ih
      have e : nf F (s 8) (i + 1) = F i (nf F (s 8) i) := rfl
      have ev : vH s (i + 1) = s (8 + (i + 1)) := if_pos (by omega)
      rw [hF i _ hi, ← ha, ev] at e
      have ih : ∀ a v : Int32, a = nf F (s 8) (i + 1) → T 10 [some (.ref 0), some (.int x), some (.int a), some (.int (nI (i + 1) + 1)), some (.int v)] [] (mw (s, ad, pa, ke, pd, fl, nm, kn, ik, ln, sg, sp, fo, ho, ta, tR, tm)) (0, 0) := fun a v h1 => hT.2 [true, true, true, true, false] _ _ _ _ _ (ih a h1)
      refine hT.1 (fun pc => Nat.beq pc 10) 60 _ _ _ _ _ ?_
      refine And.intro (fun h => absurd h (nI_ge (by omega : i + 1 < 36) (by decide))) (fun _ => mjix_e (8 + (i + 1)) (nI_add 8 (i + 1)) (by omega) (by decide) (And.intro (fun (h1 : x = 0) => And.intro (fun (h2 : a ≤ s (8 + (i + 1))) => ih _ _ ?_) (fun (h2 : ¬ a ≤ s (8 + (i + 1))) => ih _ _ ?_)) (fun (h1 : ¬ x = 0) => And.intro (fun (h2 : s (8 + (i + 1)) ≤ a) => ih _ _ ?_) (fun (h2 : ¬ s (8 + (i + 1)) ≤ a) => ih _ _ ?_))))
      · rw [e, if_pos h1, gMin_ge h2]
      · rw [e, if_pos h1, gMin_nge h2]
      · rw [e, if_neg h1, gMax_le h2]
      · rw [e, if_neg h1, gMax_nle h2]
    · refine hT.1 (fun pc => Nat.beq pc 10) 60 _ _ _ _ _ ?_
      refine And.intro (fun _ => ⟨rfl, ?_⟩) (fun h => absurd (nI_le (Nat.le_refl 36) (by decide)) h)
      rw [ha]
      exact fin
  refine hT.1 (fun pc => Nat.beq pc 10) 60 _ _ _ _ _ ?_
  refine mjix_e 8 rfl (by decide) (by decide) ?_
  by_cases h1 : x = 0
  · refine key (fun i a => gMin a (vH s (i + 1))) (fun i a _ => (if_pos h1).symm) ?_
    refine ksi ?_
    exact (if_pos h1).symm
  · refine key (fun i a => gMax a (vH s (i + 1))) (fun i a _ => (if_neg h1).symm) ?_
    refine ksi ?_
    exact (if_neg h1).symm
set_option maxRecDepth 10000 in
theorem ct_X7_heatMost (l : Launch) : mjCT l yX7_heatMost cX7_heatMost 5 (some .int) rm_X7_heatMost S_X7_heatMost :=
  mjCT_of (own := RX7) (G := G_X7_heatMost) (plainFor_of_name pn_X7) rfl ok_X7_heatMost (fun meth hm => ⟨fun pc row h => (I_X7_heatMost_ok pc row h).1, F_X7_ok, fun _ h => absurd h List.not_mem_nil, (fun _ _ _ h => by cases h), (fun _ _ h => by cases h), ⟨Nat.le_refl _, Nat.le_refl _⟩, (fun h => by cases h), (fun h => absurd h (by decide))⟩) rfl rfl rfl (fun pc row h => (I_X7_heatMost_ok pc row h).2)
def rm_X7_strained : Room := { frames := 5, cells := 0, slots := 0, locals := 104 }
noncomputable def G_X7_strained : mjG := (I_X7_strained, F_X7, [(63, 0, 6, 2, 0, 0, S_X7_isWhole), (171, 0, 6, 3, 0, 0, S_X7_isAhead)], (fun pc => [0, 1, 2, 3, 4, 5, 6, 7]), Y0, (fun _ => none), (fun _ => none), (some .int), 0, 0, false)
set_option maxHeartbeats 20000000 in
set_option maxRecDepth 100000 in
theorem ok_X7_strained : mjOK G_X7_strained 6 S_X7_strained := by
  intro M as hP T hT
  obtain ⟨⟨s, ad, pa, ke, pd, fl, nm, kn, ik, ln, sg, sp, fo, ho, ta, tR, tm⟩, x, rfl, rfl, hc⟩ := inM1 hP
  have fin : (S_X7_strained (mw (s, ad, pa, ke, pd, fl, nm, kn, ik, ln, sg, sp, fo, ho, ta, tR, tm)) [.ref 0, .int x]).2.1 = none := rfl
  have fin2 : (S_X7_strained (mw (s, ad, pa, ke, pd, fl, nm, kn, ik, ln, sg, sp, fo, ho, ta, tR, tm)) [.ref 0, .int x]).2.2 = some (.int (if 0 ≤ x then kFound (vH s) (vS s) (vC s) x else -1)) := rfl
  generalize S_X7_strained (mw (s, ad, pa, ke, pd, fl, nm, kn, ik, ln, sg, sp, fo, ho, ta, tR, tm)) [.ref 0, .int x] = SS at hT fin fin2
  refine hT.1 (fun pc => Nat.beq pc 11) 60 _ _ _ _ _ ?_
  refine And.intro (fun (h0 : 0 ≤ x) => ?_) (fun (h0 : ¬ 0 ≤ x) => ⟨by rw [fin]; rfl, by rw [fin2, if_neg h0]⟩)
  rw [if_pos h0, kFound, kseal_eq] at fin2
  refine mjloop0 60 (fun i => ∀ a : Int32, a = mFound (vH s) (vS s) (vC s) x i → T 11 [some (.ref 0), some (.int x), some (.int a), some (.int (nI i)), none, none] [] (mw (s, ad, pa, ke, pd, fl, nm, kn, ik, ln, sg, sp, fo, ho, ta, tR, tm)) (0, 0)) (fun i hi ih a ha => ?_) (fun a ha => ?_) (-4) rfl
  · have e : mFound (vH s) (vS s) (vC s) x (i + 1) = if gWh (vC s) (nI i) = 0 then mFound (vH s) (vS s) (vC s) x i else if kPlace (vH s) (vS s) (vC s) (nI i) = x then nI i else mFound (vH s) (vS s) (vC s) x i := rfl
    rw [← ha] at e
    rw [nI_succ] at ih
    have ih : ∀ a v w : Int32, a = mFound (vH s) (vS s) (vC s) x (i + 1) → T 11 [some (.ref 0), some (.int x), some (.int a), some (.int (nI i + 1)), some (.int v), some (.int w)] [] (mw (s, ad, pa, ke, pd, fl, nm, kn, ik, ln, sg, sp, fo, ho, ta, tR, tm)) (0, 0) := fun a v w h1 => hT.2 [true, true, true, true, false, false] _ _ _ _ _ (ih a h1)
    have s2 : ∀ v : Int32, v = kPlace (vH s) (vS s) (vC s) (nI i) → T 65 [some (.ref 0), some (.int x), some (.int a), some (.int (nI i)), some (.int v), some (.int (nI 60))] [] (mw (s, ad, pa, ke, pd, fl, nm, kn, ik, ln, sg, sp, fo, ho, ta, tR, tm)) (0, 0) := by
      intro v hv
      rw [← hv] at e
      refine hT.1 (fun pc => Nat.beq pc 11) 60 _ _ _ _ _ ?_
      refine And.intro ⟨⟨rfl, rfl⟩, inJ_n hi⟩ (And.intro (fun (h1 : gWh (vC s) (nI i) = 0) => ih _ _ _ ?_) (fun (h1 : ¬ gWh (vC s) (nI i) = 0) => And.intro (fun (h2 : ¬ v = x) => ih _ _ _ ?_) (fun (h2 : v = x) => ih _ _ _ ?_)))
      · rw [e, if_pos h1]
      · rw [e, if_neg h1, if_neg h2]
      · rw [e, if_neg h1, if_pos h2]
    refine hT.1 (fun pc => Nat.beq pc 23) 60 _ _ _ _ _ ?_
    refine And.intro (fun h => absurd h (nI_ge hi (by decide))) (fun _ => ?_)
    refine mjloop0 60 (fun j => ∀ b : Int32, b = mPlace (vH s) (vS s) (vC s) (nI i) j → T 23 [some (.ref 0), some (.int x), some (.int a), some (.int (nI i)), some (.int b), some (.int (nI j))] [] (mw (s, ad, pa, ke, pd, fl, nm, kn, ik, ln, sg, sp, fo, ho, ta, tR, tm)) (0, 0)) (fun j hj ih2 b hb => ?_) (fun b hb => ?_) 0 rfl
    · have e2 : mPlace (vH s) (vS s) (vC s) (nI i) (j + 1) = if gWh (vC s) (nI j) = 0 then mPlace (vH s) (vS s) (vC s) (nI i) j else if gAhead (vH s) (vS s) (nI j) (nI i) = 0 then mPlace (vH s) (vS s) (vC s) (nI i) j else mPlace (vH s) (vS s) (vC s) (nI i) j + 1 := rfl
      rw [← hb] at e2
      rw [nI_succ] at ih2
      refine hT.1 (fun pc => Nat.beq pc 23) 60 _ _ _ _ _ ?_
      refine And.intro (fun h => absurd h (nI_ge hj (by decide))) (fun _ => And.intro ⟨⟨rfl, rfl⟩, inJ_n hj⟩ (And.intro (fun (h1 : gWh (vC s) (nI j) = 0) => ih2 _ ?_) (fun (h1 : ¬ gWh (vC s) (nI j) = 0) => And.intro ⟨⟨rfl, rfl⟩, inJ_n hj, inJ_n hi⟩ (And.intro (fun (h2 : gAhead (vH s) (vS s) (nI j) (nI i) = 0) => ih2 _ ?_) (fun (h2 : ¬ gAhead (vH s) (vS s) (nI j) (nI i) = 0) => ih2 _ ?_)))))
      · rw [e2, if_pos h1, i_add0]
      · rw [e2, if_neg h1, if_pos h2, i_add0]
      · rw [e2, if_neg h1, if_neg h2]
    · refine hT.1 (fun pc => Nat.beq pc 65) 60 _ _ _ _ _ ?_
      exact And.intro (fun _ => s2 b (hb.trans (kseal_eq _).symm)) (fun h => absurd (nI_le (Nat.le_refl 60) (by decide)) h)
  · refine hT.1 (fun pc => Nat.beq pc 11) 60 _ _ _ _ _ ?_
    refine And.intro (fun _ => ⟨by rw [fin]; rfl, ?_⟩) (fun h => absurd (nI_le (Nat.le_refl 60) (by decide)) h)
    rw [fin2, ha]
set_option maxRecDepth 10000 in
theorem ct_X7_strained (l : Launch) : mjCT l yX7_strained cX7_strained 6 (some .int) rm_X7_strained S_X7_strained :=
  mjCT_of (own := RX7) (G := G_X7_strained) (plainFor_of_name pn_X7) rfl ok_X7_strained (fun meth hm => ⟨fun pc row h => (I_X7_strained_ok pc row h).1, F_X7_ok, List.forall_mem_cons.mpr ⟨⟨yX7_isWhole, cX7_isWhole, 2, (some .boolean), rm_X7_isWhole, ct_X7_isWhole l, ⟨rfl, rfl⟩, ⟨by decide, by decide⟩, by decide, by decide, nk_X7_isWhole, ln_X7_63, im_X7_isWhole, se_X7_isWhole, rfl⟩, List.forall_mem_cons.mpr ⟨⟨yX7_isAhead, cX7_isAhead, 3, (some .boolean), rm_X7_isAhead, ct_X7_isAhead l, ⟨rfl, rfl⟩, ⟨by decide, by decide⟩, by decide, by decide, nk_X7_isAhead, ln_X7_171, im_X7_isAhead, se_X7_isAhead, rfl⟩, fun _ h => absurd h List.not_mem_nil⟩⟩, (fun _ _ _ h => by cases h), (fun _ _ h => by cases h), ⟨Nat.le_refl _, Nat.le_refl _⟩, (fun h => by cases h), (fun h => absurd h (by decide))⟩) rfl rfl rfl (fun pc row h => (I_X7_strained_ok pc row h).2)
def rm_X7_leastMargin : Room := { frames := 6, cells := 0, slots := 0, locals := 129 }
noncomputable def G_X7_leastMargin : mjG := (I_X7_leastMargin, F_X7, [(174, 0, 6, 2, 0, 0, S_X7_strained), (70, 0, 6, 2, 0, 0, S_X7_marginOf)], (fun pc => [0, 1, 2, 3, 4, 5, 6, 7]), Y0, (fun _ => none), (fun _ => none), (some .int), 0, 0, false)
set_option maxHeartbeats 20000000 in
set_option maxRecDepth 100000 in
theorem ok_X7_leastMargin : mjOK G_X7_leastMargin 2 S_X7_leastMargin := by
  intro M as hP T hT
  obtain ⟨⟨s, ad, pa, ke, pd, fl, nm, kn, ik, ln, sg, sp, fo, ho, ta, tR, tm⟩, rfl, rfl⟩ := inM0 hP
  have fin : (S_X7_leastMargin (mw (s, ad, pa, ke, pd, fl, nm, kn, ik, ln, sg, sp, fo, ho, ta, tR, tm)) [.ref 0]).2.1 = none := rfl
  have fin2 : (S_X7_leastMargin (mw (s, ad, pa, ke, pd, fl, nm, kn, ik, ln, sg, sp, fo, ho, ta, tR, tm)) [.ref 0]).2.2 = some (.int (if 0 ≤ kFound (vH s) (vS s) (vC s) 0 then gMar (vH s) (vS s) (kFound (vH s) (vS s) (vC s) 0) else -4)) := rfl
  generalize S_X7_leastMargin (mw (s, ad, pa, ke, pd, fl, nm, kn, ik, ln, sg, sp, fo, ho, ta, tR, tm)) [.ref 0] = SS at hT fin fin2
  have s1 : ∀ v : Int32, v = kFound (vH s) (vS s) (vC s) 0 → T 5 [some (.ref 0), none] [.int v] (mw (s, ad, pa, ke, pd, fl, nm, kn, ik, ln, sg, sp, fo, ho, ta, tR, tm)) (0, 0) := by
    intro v hv
    have hin : 0 ≤ v → inJ v := by
      rw [hv]
      exact kFound_in _ _ _ _
    rw [← hv] at fin2
    refine hT.1 (fun _ => false) 60 _ _ _ _ _ ?_
    exact And.intro (fun (h1 : 0 ≤ v) => And.intro ⟨⟨rfl, rfl⟩, hin h1⟩ ⟨by rw [fin]; rfl, by rw [fin2, if_pos h1]; rfl⟩) (fun (h1 : ¬ 0 ≤ v) => ⟨by rw [fin]; rfl, by rw [fin2, if_neg h1]⟩)
  refine hT.1 (fun pc => Nat.beq pc 5) 60 _ _ _ _ _ ?_
  refine And.intro ⟨⟨rfl, rfl⟩, trivial⟩ (s1 _ ?_)
  exact if_pos (show (0 : Int32) ≤ 0 by decide)
set_option maxRecDepth 10000 in
theorem ct_X7_leastMargin (l : Launch) : mjCT l yX7_leastMargin cX7_leastMargin 2 (some .int) rm_X7_leastMargin S_X7_leastMargin :=
  mjCT_of (own := RX7) (G := G_X7_leastMargin) (plainFor_of_name pn_X7) rfl ok_X7_leastMargin (fun meth hm => ⟨fun pc row h => (I_X7_leastMargin_ok pc row h).1, F_X7_ok, List.forall_mem_cons.mpr ⟨⟨yX7_strained, cX7_strained, 6, (some .int), rm_X7_strained, ct_X7_strained l, ⟨rfl, rfl⟩, ⟨by decide, by decide⟩, by decide, by decide, nk_X7_strained, ln_X7_174, im_X7_strained, se_X7_strained, rfl⟩, List.forall_mem_cons.mpr ⟨⟨yX7_marginOf, cX7_marginOf, 2, (some .int), rm_X7_marginOf, ct_X7_marginOf l, ⟨rfl, rfl⟩, ⟨by decide, by decide⟩, by decide, by decide, nk_X7_marginOf, ln_X7_70, im_X7_marginOf, se_X7_marginOf, rfl⟩, fun _ h => absurd h List.not_mem_nil⟩⟩, (fun _ _ _ h => by cases h), (fun _ _ h => by cases h), ⟨Nat.le_refl _, Nat.le_refl _⟩, (fun h => by cases h), (fun h => absurd h (by decide))⟩) rfl rfl rfl (fun pc row h => (I_X7_leastMargin_ok pc row h).2)
