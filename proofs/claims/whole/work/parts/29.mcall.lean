/-! ColdPanesModel: the calls that change it -/
def r7Ok (m : RSt) : Prop := sZ m.1 ∧ (¬ m.2.2.2.2.2.2.2.1 < 0 ∧ m.2.2.2.2.2.2.2.1 ≤ 4) ∧ ¬ m.2.2.2.2.2.2.2.2.2.1 < 0 ∧ m.2.2.2.2.2.2.2.2.2.1 ≤ 60
theorem gIn_of {x a b : Int32} (h : ¬ gIn x a b = 0) : ¬ x < a ∧ x ≤ b := by
  unfold gIn gOut at h
  by_cases h1 : x < a
  · rw [if_pos h1] at h
    exact absurd rfl h
  · rw [if_neg h1] at h
    by_cases h2 : x ≤ b
    · exact ⟨h1, h2⟩
    · rw [if_neg h2] at h
      exact absurd rfl h
theorem gIn_nn {x a b : Int32} (ha : 0 ≤ a) (h : ¬ gIn x a b = 0) : ¬ x < 0 := by
  intro hx
  exact (gIn_of h).1 (Int32.lt_of_lt_of_le hx ha)
theorem inJ_is {x : Int32} (h : ¬ gIsJoint x = 0) : inJ x := by
  unfold gIsJoint at h
  by_cases h1 : x < 0
  · rw [if_pos h1] at h
    exact absurd rfl h
  · rw [if_neg h1] at h
    by_cases h2 : 60 ≤ x
    · rw [if_pos h2] at h
      exact absurd rfl h
    · exact ⟨h1, h2⟩
theorem inC_is {x : Int32} (h : ¬ gIsCell x = 0) : inC x := by
  unfold gIsCell at h
  by_cases h1 : x < 0
  · rw [if_pos h1] at h
    exact absurd rfl h
  · rw [if_neg h1] at h
    by_cases h2 : 36 ≤ x
    · rw [if_pos h2] at h
      exact absurd rfl h
    · exact ⟨h1, h2⟩
noncomputable def rBegin (m : RSt) (x : Int32) : RSt × Int32 := match m with
  | (s, ad, pa, ke, pd, fl, nm, kn, ik, ln, sg, sp, fo, ho, ta, tR, tm) => if gIn x 0 1000 = 0 then ((s, ad, pa, ke, pd, fl, nm, kn, ik, ln, sg, sp, fo, ho, ta, tR, tm), -1) else ((mE (pNew (mD s fl) x), ad, (kRecP s pa kn).1, ke, pd, fl, nm, (kRecP s pa kn).2, ik, ln, sg, sp, fo, ho, ta, tR, tm), 36 * x)
noncomputable def rAim (m : RSt) (x y : Int32) : RSt × Int32 := match m with
  | (s, ad, pa, ke, pd, fl, nm, kn, ik, ln, sg, sp, fo, ho, ta, tR, tm) => if gIn x 0 1000 = 0 then ((s, ad, pa, ke, pd, fl, nm, kn, ik, ln, sg, sp, fo, ho, ta, tR, tm), -1) else if gIn y 1 100 = 0 then ((s, ad, pa, ke, pd, fl, nm, kn, ik, ln, sg, sp, fo, ho, ta, tR, tm), -1) else ((upd (upd s 1 x) 2 y, ad, (kRecP s pa kn).1, ke, pd, fl, nm, (kRecP s pa kn).2, ik, ln, sg, sp, fo, ho, ta, tR, tm), s 1)
noncomputable def rPass (m : RSt) (x : Int32) : RSt × Int32 := match m with
  | (s, ad, pa, ke, pd, fl, nm, kn, ik, ln, sg, sp, fo, ho, ta, tR, tm) => if gIn x 1 99 = 0 then ((s, ad, pa, ke, pd, fl, nm, kn, ik, ln, sg, sp, fo, ho, ta, tR, tm), -1) else ((mE (kPass7 (mD s fl) sg x.toNatClampNeg).1, ad, (kRecP s pa kn).1, ke, pd, (kPass7 (mD s fl) sg x.toNatClampNeg).1.2.1, nm, (kRecP s pa kn).2, ik, ln, (kPass7 (mD s fl) sg x.toNatClampNeg).2.1, sp, fo, ho, ta, tR, tm), (kPass7 (mD s fl) sg x.toNatClampNeg).2.2)
noncomputable def rScratch (m : RSt) (x y : Int32) : RSt × Int32 := match m with
  | (s, ad, pa, ke, pd, fl, nm, kn, ik, ln, sg, sp, fo, ho, ta, tR, tm) => if gIsJoint x = 0 then ((s, ad, pa, ke, pd, fl, nm, kn, ik, ln, sg, sp, fo, ho, ta, tR, tm), -1) else if gIn y 1 500 = 0 then ((s, ad, pa, ke, pd, fl, nm, kn, ik, ln, sg, sp, fo, ho, ta, tR, tm), -1) else if gWh (vC s) x = 0 then ((s, ad, pa, ke, pd, fl, nm, kn, ik, ln, sg, sp, fo, ho, ta, tR, tm), -2) else ((upd s (104 + x.toNatClampNeg) y, ad, (kRecP s pa kn).1, ke, pd, fl, nm, (kRecP s pa kn).2, ik, ln, sg, sp, fo, ho, ta, tR, tm), s (104 + x.toNatClampNeg))
def sMend (s : Nat → Int32) (x : Int32) : Nat → Int32 := upd (upd s (44 + x.toNatClampNeg) 0) (104 + x.toNatClampNeg) 50
noncomputable def rMend (m : RSt) (x : Int32) : RSt × Int32 := match m with
  | (s, ad, pa, ke, pd, fl, nm, kn, ik, ln, sg, sp, fo, ho, ta, tR, tm) => if gIsJoint x = 0 then ((s, ad, pa, ke, pd, fl, nm, kn, ik, ln, sg, sp, fo, ho, ta, tR, tm), -1) else if gWh (vC s) x = 0 then ((sMend s x, ad, (kRecP s pa kn).1, ke, pd, fl, nm, (kRecP s pa kn).2, ik, ln, sg, sp, fo, ho, ta, tR, tm), kseal (gCracked (vC (sMend s x)))) else ((s, ad, pa, ke, pd, fl, nm, kn, ik, ln, sg, sp, fo, ho, ta, tR, tm), -2)
def sHeat (s : Nat → Int32) (x y : Int32) : Nat → Int32 := upd (upd s (8 + x.toNatClampNeg) (if 0 ≤ s (8 + x.toNatClampNeg) + y then s (8 + x.toNatClampNeg) + y else 0)) 5 (upd s (8 + x.toNatClampNeg) (if 0 ≤ s (8 + x.toNatClampNeg) + y then s (8 + x.toNatClampNeg) + y else 0) 5 + (upd s (8 + x.toNatClampNeg) (if 0 ≤ s (8 + x.toNatClampNeg) + y then s (8 + x.toNatClampNeg) + y else 0) (8 + x.toNatClampNeg) - s (8 + x.toNatClampNeg)))
noncomputable def rHeat (m : RSt) (x y : Int32) : RSt × Int32 := match m with
  | (s, ad, pa, ke, pd, fl, nm, kn, ik, ln, sg, sp, fo, ho, ta, tR, tm) => if gIsCell x = 0 then ((s, ad, pa, ke, pd, fl, nm, kn, ik, ln, sg, sp, fo, ho, ta, tR, tm), -1) else if gIn y (-200) 200 = 0 then ((s, ad, pa, ke, pd, fl, nm, kn, ik, ln, sg, sp, fo, ho, ta, tR, tm), -1) else ((sHeat s x y, ad, (kRecP s pa kn).1, ke, pd, fl, nm, (kRecP s pa kn).2, ik, ln, sg, sp, fo, ho, ta, tR, tm), sHeat s x y (8 + x.toNatClampNeg))
noncomputable def rSet (m : RSt) (x y : Int32) : RSt × Int32 := match m with
  | (s, ad, pa, ke, pd, fl, nm, kn, ik, ln, sg, sp, fo, ho, ta, tR, tm) => if gIn x 0 1 = 0 then ((s, ad, pa, ke, pd, fl, nm, kn, ik, ln, sg, sp, fo, ho, ta, tR, tm), -1) else if gIn y 0 20 = 0 then ((s, ad, pa, ke, pd, fl, nm, kn, ik, ln, sg, sp, fo, ho, ta, tR, tm), -1) else ((upd s (6 + x.toNatClampNeg) y, ad, (kRecP s pa kn).1, ke, pd, fl, nm, (kRecP s pa kn).2, ik, ln, sg, sp, fo, ho, ta, tR, tm), s (6 + x.toNatClampNeg))
def rAppend (m : RSt) (x : Int32) : RSt × Int32 := match m with
  | (s, ad, pa, ke, pd, fl, nm, kn, ik, ln, sg, sp, fo, ho, ta, tR, tm) => if gIn x 33 126 = 0 then ((s, ad, pa, ke, pd, fl, nm, kn, ik, ln, sg, sp, fo, ho, ta, tR, tm), -1) else if ln = 60 then ((s, ad, pa, ke, pd, fl, nm, kn, ik, ln, sg, sp, fo, ho, ta, tR, tm), -3) else ((s, ad, pa, ke, upd pd ln.toNatClampNeg x, fl, nm, kn, ik, ln + 1, sg, sp, fo, ho, ta, tR, tm), ln + 1)
def rClear (m : RSt) : RSt × Int32 := match m with
  | (s, ad, pa, ke, pd, fl, nm, kn, ik, ln, sg, sp, fo, ho, ta, tR, tm) => ((s, ad, pa, ke, pd, fl, nm, kn, ik, 0, sg, sp, fo, ho, ta, tR, tm), ln)
def rUndo (m : RSt) : RSt × Int32 := match m with
  | (s, ad, pa, ke, pd, fl, nm, kn, ik, ln, sg, sp, fo, ho, ta, tR, tm) => if kn = 0 then ((s, ad, pa, ke, pd, fl, nm, kn, ik, ln, sg, sp, fo, ho, ta, tR, tm), -2) else ((va_cpy pa s (164 * (kn - 1).toNatClampNeg) 0 164, ad, pa, ke, pd, fl, nm, kn - 1, ik, ln, sg, sp, fo, ho, ta, tR, tm), kn - 1)
def rSave (m : RSt) : RSt × Int32 := match m with
  | (s, ad, pa, ke, pd, fl, nm, kn, ik, ln, sg, sp, fo, ho, ta, tR, tm) => ((s, ad, pa, va_cpy s ke 0 0 164, pd, fl, nm, kn, 1, ln, sg, sp, fo, ho, ta, tR, tm), s 3)
noncomputable def rRestore (m : RSt) : RSt × Int32 := match m with
  | (s, ad, pa, ke, pd, fl, nm, kn, ik, ln, sg, sp, fo, ho, ta, tR, tm) => if ik = 0 then ((s, ad, pa, ke, pd, fl, nm, kn, ik, ln, sg, sp, fo, ho, ta, tR, tm), -2) else ((va_cpy ke s 0 0 164, ad, (kRecP s pa kn).1, ke, pd, fl, nm, (kRecP s pa kn).2, ik, ln, sg, sp, fo, ho, ta, tR, tm), va_cpy ke s 0 0 164 3)
noncomputable def S_X7_begin : mjSp := fun M as => ((M = mw (rR M) ∧ as = [.ref 0, .int (aI as 1)]) ∧ r7Ok (rR M), some (mw (rBegin (rR M) (aI as 1)).1), some (.int (rBegin (rR M) (aI as 1)).2))
noncomputable def S_X7_aim : mjSp := fun M as => ((M = mw (rR M) ∧ as = [.ref 0, .int (aI as 1), .int (aI as 2)]) ∧ r7Ok (rR M), some (mw (rAim (rR M) (aI as 1) (aI as 2)).1), some (.int (rAim (rR M) (aI as 1) (aI as 2)).2))
noncomputable def S_X7_pass : mjSp := fun M as => ((M = mw (rR M) ∧ as = [.ref 0, .int (aI as 1)]) ∧ r7Ok (rR M), some (mw (rPass (rR M) (aI as 1)).1), some (.int (rPass (rR M) (aI as 1)).2))
noncomputable def S_X7_scratch : mjSp := fun M as => ((M = mw (rR M) ∧ as = [.ref 0, .int (aI as 1), .int (aI as 2)]) ∧ r7Ok (rR M), some (mw (rScratch (rR M) (aI as 1) (aI as 2)).1), some (.int (rScratch (rR M) (aI as 1) (aI as 2)).2))
noncomputable def S_X7_mend : mjSp := fun M as => ((M = mw (rR M) ∧ as = [.ref 0, .int (aI as 1)]) ∧ r7Ok (rR M), some (mw (rMend (rR M) (aI as 1)).1), some (.int (rMend (rR M) (aI as 1)).2))
noncomputable def S_X7_heat : mjSp := fun M as => ((M = mw (rR M) ∧ as = [.ref 0, .int (aI as 1), .int (aI as 2)]) ∧ r7Ok (rR M), some (mw (rHeat (rR M) (aI as 1) (aI as 2)).1), some (.int (rHeat (rR M) (aI as 1) (aI as 2)).2))
noncomputable def S_X7_set : mjSp := fun M as => ((M = mw (rR M) ∧ as = [.ref 0, .int (aI as 1), .int (aI as 2)]) ∧ r7Ok (rR M), some (mw (rSet (rR M) (aI as 1) (aI as 2)).1), some (.int (rSet (rR M) (aI as 1) (aI as 2)).2))
noncomputable def S_X7_append : mjSp := fun M as => ((M = mw (rR M) ∧ as = [.ref 0, .int (aI as 1)]) ∧ r7Ok (rR M), some (mw (rAppend (rR M) (aI as 1)).1), some (.int (rAppend (rR M) (aI as 1)).2))
noncomputable def S_X7_clear : mjSp := fun M as => ((M = mw (rR M) ∧ as = [.ref 0]) ∧ r7Ok (rR M), some (mw (rClear (rR M)).1), some (.int (rClear (rR M)).2))
noncomputable def S_X7_undo : mjSp := fun M as => ((M = mw (rR M) ∧ as = [.ref 0]) ∧ r7Ok (rR M), some (mw (rUndo (rR M)).1), some (.int (rUndo (rR M)).2))
noncomputable def S_X7_save : mjSp := fun M as => ((M = mw (rR M) ∧ as = [.ref 0]) ∧ r7Ok (rR M), some (mw (rSave (rR M)).1), some (.int (rSave (rR M)).2))
noncomputable def S_X7_restore : mjSp := fun M as => ((M = mw (rR M) ∧ as = [.ref 0]) ∧ r7Ok (rR M), some (mw (rRestore (rR M)).1), some (.int (rRestore (rR M)).2))
def rm_X7_begin : Room := { frames := 2, cells := 0, slots := 0, locals := 45 }
noncomputable def G_X7_begin : mjG := (I_X7_begin, F_X7, [(43, 1, 0, 3, 0, 0, S_X7_in), (92, 0, 6, 1, 0, 0, S_X7_records), (31, 0, 6, 2, 0, 0, S_X7_goBegin)], (fun pc => bif Nat.beq pc 5 then [] else [0, 1, 2, 3, 4, 5, 6, 7]), Y0, (fun _ => none), (fun _ => none), (some .int), 0, 0, false)
set_option maxHeartbeats 20000000 in
set_option maxRecDepth 100000 in
theorem ok_X7_begin : mjOK G_X7_begin 2 S_X7_begin := by
  intro M as hP T hT
  obtain ⟨⟨s, ad, pa, ke, pd, fl, nm, kn, ik, ln, sg, sp, fo, ho, ta, tR, tm⟩, x, rfl, rfl, hk⟩ : ∃ m x, M = mw m ∧ as = [.ref 0, .int x] ∧ r7Ok m := ⟨_, _, hP.1.1, hP.1.2, hP.2⟩
  have fin : (S_X7_begin (mw (s, ad, pa, ke, pd, fl, nm, kn, ik, ln, sg, sp, fo, ho, ta, tR, tm)) [.ref 0, .int x]).2.1 = some (mw (rBegin (s, ad, pa, ke, pd, fl, nm, kn, ik, ln, sg, sp, fo, ho, ta, tR, tm) x).1) := rfl
  have fin2 : (S_X7_begin (mw (s, ad, pa, ke, pd, fl, nm, kn, ik, ln, sg, sp, fo, ho, ta, tR, tm)) [.ref 0, .int x]).2.2 = some (.int (rBegin (s, ad, pa, ke, pd, fl, nm, kn, ik, ln, sg, sp, fo, ho, ta, tR, tm) x).2) := rfl
  rw [rBegin] at fin fin2
  try dsimp only at fin fin2
  generalize S_X7_begin (mw (s, ad, pa, ke, pd, fl, nm, kn, ik, ln, sg, sp, fo, ho, ta, tR, tm)) [.ref 0, .int x] = SS at hT fin fin2
  have s1 : ¬ gIn x 0 1000 = 0 → ∀ q, q = kRecP s pa kn → T 17 [some (.ref 0), some (.int x)] [] (mw (s, ad, q.1, ke, pd, fl, nm, q.2, ik, ln, sg, sp, fo, ho, ta, tR, tm)) (0, 0) := by
    intro h0 q hq
    rw [if_neg h0, ← hq] at fin fin2
    refine hT.1 (fun _ => false) 60 _ _ _ _ _ ?_
    exact And.intro ⟨⟨rfl, rfl⟩, hk.1⟩ ⟨by rw [fin]; rfl, fin2.symm⟩
  refine hT.1 (fun pc => Nat.beq pc 17) 60 _ _ _ _ _ ?_
  refine And.intro ⟨rfl, rfl⟩ (And.intro (fun (h1 : ¬ gIn x 0 1000 = 0) => And.intro ⟨⟨rfl, rfl⟩, hk.2.1⟩ (s1 h1 _ rfl)) (fun (h1 : gIn x 0 1000 = 0) => ⟨?_, ?_⟩))
  · rw [fin, if_pos h1]; rfl
  · rw [fin2, if_pos h1]
set_option maxRecDepth 10000 in
theorem ct_X7_begin (l : Launch) : mjCT l yX7_begin cX7_begin 2 (some .int) rm_X7_begin S_X7_begin :=
  mjCT_of (own := RX7) (G := G_X7_begin) (plainFor_of_name pn_X7) rfl ok_X7_begin (fun meth hm => ⟨fun pc row h => (I_X7_begin_ok pc row h).1, F_X7_ok, List.forall_mem_cons.mpr ⟨⟨yX7_in, cX7_in, 3, (some .boolean), rm_X7_in, ct_X7_in l, ⟨rfl, rfl⟩, ⟨by decide, by decide⟩, by decide, nk_X7_in, ln_X7_43, st_X7_in⟩, List.forall_mem_cons.mpr ⟨⟨yX7_records, cX7_records, 2, none, rm_X7_records, ct_X7_records l, ⟨rfl, rfl⟩, ⟨by decide, by decide⟩, by decide, by decide, nk_X7_records, ln_X7_92, im_X7_records, se_X7_records, rfl⟩, List.forall_mem_cons.mpr ⟨⟨yX7_goBegin, cX7_goBegin, 3, (some .int), rm_X7_goBegin, ct_X7_goBegin l, ⟨rfl, rfl⟩, ⟨by decide, by decide⟩, by decide, by decide, nk_X7_goBegin, ln_X7_31, im_X7_goBegin, se_X7_goBegin, rfl⟩, fun _ h => absurd h List.not_mem_nil⟩⟩⟩, (fun _ _ _ h => by cases h), (fun _ _ h => by cases h), ⟨Nat.le_refl _, Nat.le_refl _⟩, (fun h => by cases h), (fun h => absurd h (by decide))⟩) rfl rfl rfl (fun pc row h => (I_X7_begin_ok pc row h).2)
def rm_X7_aim : Room := { frames := 2, cells := 0, slots := 0, locals := 45 }
noncomputable def G_X7_aim : mjG := (I_X7_aim, F_X7, [(43, 1, 0, 3, 0, 0, S_X7_in), (92, 0, 6, 1, 0, 0, S_X7_records), (95, 0, 6, 3, 0, 0, S_X7_laysAim)], (fun pc => bif Nat.beq pc 37 then [0, 1, 2, 3, 4, 5, 6, 7] else bif Nat.beq pc 24 then [0, 1, 2, 3, 4, 5, 6, 7] else []), Y0, (fun _ => none), (fun _ => none), (some .int), 0, 0, false)
set_option maxHeartbeats 20000000 in
set_option maxRecDepth 100000 in
theorem ok_X7_aim : mjOK G_X7_aim 4 S_X7_aim := by
  intro M as hP T hT
  obtain ⟨⟨s, ad, pa, ke, pd, fl, nm, kn, ik, ln, sg, sp, fo, ho, ta, tR, tm⟩, x, y, rfl, rfl, hk⟩ : ∃ m x y, M = mw m ∧ as = [.ref 0, .int x, .int y] ∧ r7Ok m := ⟨_, _, _, hP.1.1, hP.1.2, hP.2⟩
  have fin : (S_X7_aim (mw (s, ad, pa, ke, pd, fl, nm, kn, ik, ln, sg, sp, fo, ho, ta, tR, tm)) [.ref 0, .int x, .int y]).2.1 = some (mw (rAim (s, ad, pa, ke, pd, fl, nm, kn, ik, ln, sg, sp, fo, ho, ta, tR, tm) x y).1) := rfl
  have fin2 : (S_X7_aim (mw (s, ad, pa, ke, pd, fl, nm, kn, ik, ln, sg, sp, fo, ho, ta, tR, tm)) [.ref 0, .int x, .int y]).2.2 = some (.int (rAim (s, ad, pa, ke, pd, fl, nm, kn, ik, ln, sg, sp, fo, ho, ta, tR, tm) x y).2) := rfl
  rw [rAim] at fin fin2
  try dsimp only at fin fin2
  generalize S_X7_aim (mw (s, ad, pa, ke, pd, fl, nm, kn, ik, ln, sg, sp, fo, ho, ta, tR, tm)) [.ref 0, .int x, .int y] = SS at hT fin fin2
  have s1 : ¬ gIn x 0 1000 = 0 → ¬ gIn y 1 100 = 0 → ∀ q, q = kRecP s pa kn → T 27 [some (.ref 0), some (.int x), some (.int y), none] [] (mw (s, ad, q.1, ke, pd, fl, nm, q.2, ik, ln, sg, sp, fo, ho, ta, tR, tm)) (0, 0) := by
    intro h0 h1 q hq
    rw [if_neg h0, if_neg h1, ← hq] at fin fin2
    refine hT.1 (fun _ => false) 60 _ _ _ _ _ ?_
    exact mjix_e 1 rfl (by decide) (by decide) (And.intro ⟨rfl, rfl⟩ ⟨by rw [fin]; rfl, fin2.symm⟩)
  have bad : gIn x 0 1000 = 0 ∨ gIn y 1 100 = 0 → SS.2.1 = some (mw (s, ad, pa, ke, pd, fl, nm, kn, ik, ln, sg, sp, fo, ho, ta, tR, tm)) ∧ SS.2.2 = some (.int (-1)) := by
    intro h
    by_cases h0 : gIn x 0 1000 = 0
    · rw [fin, fin2, if_pos h0]
      exact ⟨rfl, rfl⟩
    · rw [fin, fin2, if_neg h0, if_pos (h.resolve_left h0)]
      exact ⟨rfl, rfl⟩
  refine hT.1 (fun pc => Nat.beq pc 27) 60 _ _ _ _ _ ?_
  exact And.intro ⟨rfl, rfl⟩ (And.intro (fun (h0 : gIn x 0 1000 = 0) => ⟨by rw [(bad (Or.inl h0)).1]; rfl, (bad (Or.inl h0)).2.symm⟩) (fun (h0 : ¬ gIn x 0 1000 = 0) => And.intro ⟨rfl, rfl⟩ (And.intro (fun (h1 : ¬ gIn y 1 100 = 0) => And.intro ⟨⟨rfl, rfl⟩, hk.2.1⟩ (s1 h0 h1 _ rfl)) (fun (h1 : gIn y 1 100 = 0) => ⟨by rw [(bad (Or.inr h1)).1]; rfl, (bad (Or.inr h1)).2.symm⟩))))
set_option maxRecDepth 10000 in
theorem ct_X7_aim (l : Launch) : mjCT l yX7_aim cX7_aim 4 (some .int) rm_X7_aim S_X7_aim :=
  mjCT_of (own := RX7) (G := G_X7_aim) (plainFor_of_name pn_X7) rfl ok_X7_aim (fun meth hm => ⟨fun pc row h => (I_X7_aim_ok pc row h).1, F_X7_ok, List.forall_mem_cons.mpr ⟨⟨yX7_in, cX7_in, 3, (some .boolean), rm_X7_in, ct_X7_in l, ⟨rfl, rfl⟩, ⟨by decide, by decide⟩, by decide, nk_X7_in, ln_X7_43, st_X7_in⟩, List.forall_mem_cons.mpr ⟨⟨yX7_records, cX7_records, 2, none, rm_X7_records, ct_X7_records l, ⟨rfl, rfl⟩, ⟨by decide, by decide⟩, by decide, by decide, nk_X7_records, ln_X7_92, im_X7_records, se_X7_records, rfl⟩, List.forall_mem_cons.mpr ⟨⟨yX7_laysAim, cX7_laysAim, 3, none, rm_X7_laysAim, ct_X7_laysAim l, ⟨rfl, rfl⟩, ⟨by decide, by decide⟩, by decide, by decide, nk_X7_laysAim, ln_X7_95, im_X7_laysAim, se_X7_laysAim, rfl⟩, fun _ h => absurd h List.not_mem_nil⟩⟩⟩, (fun _ _ _ h => by cases h), (fun _ _ h => by cases h), ⟨Nat.le_refl _, Nat.le_refl _⟩, (fun h => by cases h), (fun h => absurd h (by decide))⟩) rfl rfl rfl (fun pc row h => (I_X7_aim_ok pc row h).2)
def rm_X7_pass : Room := { frames := 7, cells := 0, slots := 0, locals := 153 }
noncomputable def G_X7_pass : mjG := (I_X7_pass, F_X7, [(43, 1, 0, 3, 0, 0, S_X7_in), (92, 0, 6, 1, 0, 0, S_X7_records), (99, 0, 6, 2, 0, 0, S_X7_goPass)], (fun pc => bif Nat.beq pc 4 then [] else [0, 1, 2, 3, 4, 5, 6, 7]), Y0, (fun _ => none), (fun _ => none), (some .int), 0, 0, false)
set_option maxHeartbeats 20000000 in
set_option maxRecDepth 100000 in
theorem ok_X7_pass : mjOK G_X7_pass 2 S_X7_pass := by
  intro M as hP T hT
  obtain ⟨⟨s, ad, pa, ke, pd, fl, nm, kn, ik, ln, sg, sp, fo, ho, ta, tR, tm⟩, x, rfl, rfl, hk⟩ : ∃ m x, M = mw m ∧ as = [.ref 0, .int x] ∧ r7Ok m := ⟨_, _, hP.1.1, hP.1.2, hP.2⟩
  have fin : (S_X7_pass (mw (s, ad, pa, ke, pd, fl, nm, kn, ik, ln, sg, sp, fo, ho, ta, tR, tm)) [.ref 0, .int x]).2.1 = some (mw (rPass (s, ad, pa, ke, pd, fl, nm, kn, ik, ln, sg, sp, fo, ho, ta, tR, tm) x).1) := rfl
  have fin2 : (S_X7_pass (mw (s, ad, pa, ke, pd, fl, nm, kn, ik, ln, sg, sp, fo, ho, ta, tR, tm)) [.ref 0, .int x]).2.2 = some (.int (rPass (s, ad, pa, ke, pd, fl, nm, kn, ik, ln, sg, sp, fo, ho, ta, tR, tm) x).2) := rfl
  rw [rPass] at fin fin2
  try dsimp only at fin fin2
  generalize S_X7_pass (mw (s, ad, pa, ke, pd, fl, nm, kn, ik, ln, sg, sp, fo, ho, ta, tR, tm)) [.ref 0, .int x] = SS at hT fin fin2
  have s1 : ¬ gIn x 1 99 = 0 → ∀ q, q = kRecP s pa kn → T 16 [some (.ref 0), some (.int x)] [] (mw (s, ad, q.1, ke, pd, fl, nm, q.2, ik, ln, sg, sp, fo, ho, ta, tR, tm)) (0, 0) := by
    intro h0 q hq
    rw [if_neg h0, ← hq] at fin fin2
    refine hT.1 (fun _ => false) 60 _ _ _ _ _ ?_
    exact And.intro ⟨⟨rfl, rfl⟩, hk.1⟩ ⟨by rw [fin]; rfl, fin2.symm⟩
  refine hT.1 (fun pc => Nat.beq pc 16) 60 _ _ _ _ _ ?_
  refine And.intro ⟨rfl, rfl⟩ (And.intro (fun (h1 : ¬ gIn x 1 99 = 0) => And.intro ⟨⟨rfl, rfl⟩, hk.2.1⟩ (s1 h1 _ rfl)) (fun (h1 : gIn x 1 99 = 0) => ⟨?_, ?_⟩))
  · rw [fin, if_pos h1]; rfl
  · rw [fin2, if_pos h1]
set_option maxRecDepth 10000 in
theorem ct_X7_pass (l : Launch) : mjCT l yX7_pass cX7_pass 2 (some .int) rm_X7_pass S_X7_pass :=
  mjCT_of (own := RX7) (G := G_X7_pass) (plainFor_of_name pn_X7) rfl ok_X7_pass (fun meth hm => ⟨fun pc row h => (I_X7_pass_ok pc row h).1, F_X7_ok, List.forall_mem_cons.mpr ⟨⟨yX7_in, cX7_in, 3, (some .boolean), rm_X7_in, ct_X7_in l, ⟨rfl, rfl⟩, ⟨by decide, by decide⟩, by decide, nk_X7_in, ln_X7_43, st_X7_in⟩, List.forall_mem_cons.mpr ⟨⟨yX7_records, cX7_records, 2, none, rm_X7_records, ct_X7_records l, ⟨rfl, rfl⟩, ⟨by decide, by decide⟩, by decide, by decide, nk_X7_records, ln_X7_92, im_X7_records, se_X7_records, rfl⟩, List.forall_mem_cons.mpr ⟨⟨yX7_goPass, cX7_goPass, 4, (some .int), rm_X7_goPass, ct_X7_goPass l, ⟨rfl, rfl⟩, ⟨by decide, by decide⟩, by decide, by decide, nk_X7_goPass, ln_X7_99, im_X7_goPass, se_X7_goPass, rfl⟩, fun _ h => absurd h List.not_mem_nil⟩⟩⟩, (fun _ _ _ h => by cases h), (fun _ _ h => by cases h), ⟨Nat.le_refl _, Nat.le_refl _⟩, (fun h => by cases h), (fun h => absurd h (by decide))⟩) rfl rfl rfl (fun pc row h => (I_X7_pass_ok pc row h).2)
def rm_X7_scratch : Room := { frames := 2, cells := 0, slots := 0, locals := 45 }
noncomputable def G_X7_scratch : mjG := (I_X7_scratch, F_X7, [(102, 1, 0, 1, 0, 0, S_X7_isJoint), (43, 1, 0, 3, 0, 0, S_X7_in), (63, 0, 6, 2, 0, 0, S_X7_isWhole), (92, 0, 6, 1, 0, 0, S_X7_records)], (fun pc => bif Nat.beq pc 32 then [0, 1, 2, 3, 4, 5, 6, 7] else bif Nat.beq pc 22 then [0, 1, 2, 3, 4, 5, 6, 7] else []), Y0, (fun _ => none), (fun _ => none), (some .int), 0, 0, false)
set_option maxHeartbeats 20000000 in
set_option maxRecDepth 100000 in
theorem ok_X7_scratch : mjOK G_X7_scratch 4 S_X7_scratch := by
  intro M as hP T hT
  obtain ⟨⟨s, ad, pa, ke, pd, fl, nm, kn, ik, ln, sg, sp, fo, ho, ta, tR, tm⟩, x, y, rfl, rfl, hk⟩ : ∃ m x y, M = mw m ∧ as = [.ref 0, .int x, .int y] ∧ r7Ok m := ⟨_, _, _, hP.1.1, hP.1.2, hP.2⟩
  have fin : (S_X7_scratch (mw (s, ad, pa, ke, pd, fl, nm, kn, ik, ln, sg, sp, fo, ho, ta, tR, tm)) [.ref 0, .int x, .int y]).2.1 = some (mw (rScratch (s, ad, pa, ke, pd, fl, nm, kn, ik, ln, sg, sp, fo, ho, ta, tR, tm) x y).1) := rfl
  have fin2 : (S_X7_scratch (mw (s, ad, pa, ke, pd, fl, nm, kn, ik, ln, sg, sp, fo, ho, ta, tR, tm)) [.ref 0, .int x, .int y]).2.2 = some (.int (rScratch (s, ad, pa, ke, pd, fl, nm, kn, ik, ln, sg, sp, fo, ho, ta, tR, tm) x y).2) := rfl
  rw [rScratch] at fin fin2
  try dsimp only at fin fin2
  generalize S_X7_scratch (mw (s, ad, pa, ke, pd, fl, nm, kn, ik, ln, sg, sp, fo, ho, ta, tR, tm)) [.ref 0, .int x, .int y] = SS at hT fin fin2
  have s1 : ¬ gIsJoint x = 0 → ¬ gIn y 1 500 = 0 → ¬ gWh (vC s) x = 0 → ∀ q, q = kRecP s pa kn → T 35 [some (.ref 0), some (.int x), some (.int y), none] [] (mw (s, ad, q.1, ke, pd, fl, nm, q.2, ik, ln, sg, sp, fo, ho, ta, tR, tm)) (0, 0) := by
    intro h0 h1 h2 q hq
    rw [if_neg h0, if_neg h1, if_neg h2, ← hq] at fin fin2
    obtain ⟨i, hi, rfl⟩ := inJ_of (inJ_is h0)
    rw [nI_clamp (by omega)] at fin fin2
    refine hT.1 (fun _ => false) 60 _ _ _ _ _ ?_
    exact mjix_e (104 + i) (nI_add 104 i) (by omega) (by decide) (mjix_e (104 + i) (nI_add 104 i) (by omega) (by decide) ⟨by rw [fin]; rfl, fin2.symm⟩)
  have bad : gIsJoint x = 0 ∨ gIn y 1 500 = 0 → SS.2.1 = some (mw (s, ad, pa, ke, pd, fl, nm, kn, ik, ln, sg, sp, fo, ho, ta, tR, tm)) ∧ SS.2.2 = some (.int (-1)) := by
    intro h
    by_cases h0 : gIsJoint x = 0
    · rw [fin, fin2, if_pos h0]
      exact ⟨rfl, rfl⟩
    · rw [fin, fin2, if_neg h0, if_pos (h.resolve_left h0)]
      exact ⟨rfl, rfl⟩
  refine hT.1 (fun pc => Nat.beq pc 35) 60 _ _ _ _ _ ?_
  refine And.intro ⟨rfl, rfl⟩ (And.intro (fun (h0 : gIsJoint x = 0) => ⟨by rw [(bad (Or.inl h0)).1]; rfl, (bad (Or.inl h0)).2.symm⟩) (fun (h0 : ¬ gIsJoint x = 0) => And.intro ⟨rfl, rfl⟩ (And.intro (fun (h1 : ¬ gIn y 1 500 = 0) => And.intro ⟨⟨rfl, rfl⟩, inJ_is h0⟩ (And.intro (fun (h2 : ¬ gWh (vC s) x = 0) => And.intro ⟨⟨rfl, rfl⟩, hk.2.1⟩ (s1 h0 h1 h2 _ rfl)) (fun (h2 : gWh (vC s) x = 0) => ⟨?_, ?_⟩))) (fun (h1 : gIn y 1 500 = 0) => ⟨by rw [(bad (Or.inr h1)).1]; rfl, (bad (Or.inr h1)).2.symm⟩))))
  · rw [fin, if_neg h0, if_neg h1, if_pos h2]; rfl
  · rw [fin2, if_neg h0, if_neg h1, if_pos h2]
set_option maxRecDepth 10000 in
theorem ct_X7_scratch (l : Launch) : mjCT l yX7_scratch cX7_scratch 4 (some .int) rm_X7_scratch S_X7_scratch :=
  mjCT_of (own := RX7) (G := G_X7_scratch) (plainFor_of_name pn_X7) rfl ok_X7_scratch (fun meth hm => ⟨fun pc row h => (I_X7_scratch_ok pc row h).1, F_X7_ok, List.forall_mem_cons.mpr ⟨⟨yX7_isJoint, cX7_isJoint, 1, (some .boolean), rm_X7_isJoint, ct_X7_isJoint l, ⟨rfl, rfl⟩, ⟨by decide, by decide⟩, by decide, nk_X7_isJoint, ln_X7_102, st_X7_isJoint⟩, List.forall_mem_cons.mpr ⟨⟨yX7_in, cX7_in, 3, (some .boolean), rm_X7_in, ct_X7_in l, ⟨rfl, rfl⟩, ⟨by decide, by decide⟩, by decide, nk_X7_in, ln_X7_43, st_X7_in⟩, List.forall_mem_cons.mpr ⟨⟨yX7_isWhole, cX7_isWhole, 2, (some .boolean), rm_X7_isWhole, ct_X7_isWhole l, ⟨rfl, rfl⟩, ⟨by decide, by decide⟩, by decide, by decide, nk_X7_isWhole, ln_X7_63, im_X7_isWhole, se_X7_isWhole, rfl⟩, List.forall_mem_cons.mpr ⟨⟨yX7_records, cX7_records, 2, none, rm_X7_records, ct_X7_records l, ⟨rfl, rfl⟩, ⟨by decide, by decide⟩, by decide, by decide, nk_X7_records, ln_X7_92, im_X7_records, se_X7_records, rfl⟩, fun _ h => absurd h List.not_mem_nil⟩⟩⟩⟩, (fun _ _ _ h => by cases h), (fun _ _ h => by cases h), ⟨Nat.le_refl _, Nat.le_refl _⟩, (fun h => by cases h), (fun h => absurd h (by decide))⟩) rfl rfl rfl (fun pc row h => (I_X7_scratch_ok pc row h).2)
def rm_X7_mend : Room := { frames := 2, cells := 0, slots := 0, locals := 45 }
noncomputable def G_X7_mend : mjG := (I_X7_mend, F_X7, [(102, 1, 0, 1, 0, 0, S_X7_isJoint), (63, 0, 6, 2, 0, 0, S_X7_isWhole), (92, 0, 6, 1, 0, 0, S_X7_records), (105, 0, 6, 1, 0, 0, S_X7_cracked)], (fun pc => bif Nat.beq pc 1 then [] else [0, 1, 2, 3, 4, 5, 6, 7]), Y0, (fun _ => none), (fun _ => none), (some .int), 0, 0, false)
set_option maxHeartbeats 20000000 in
set_option maxRecDepth 100000 in
theorem ok_X7_mend : mjOK G_X7_mend 2 S_X7_mend := by
  intro M as hP T hT
  obtain ⟨⟨s, ad, pa, ke, pd, fl, nm, kn, ik, ln, sg, sp, fo, ho, ta, tR, tm⟩, x, rfl, rfl, hk⟩ : ∃ m x, M = mw m ∧ as = [.ref 0, .int x] ∧ r7Ok m := ⟨_, _, hP.1.1, hP.1.2, hP.2⟩
  have fin : (S_X7_mend (mw (s, ad, pa, ke, pd, fl, nm, kn, ik, ln, sg, sp, fo, ho, ta, tR, tm)) [.ref 0, .int x]).2.1 = some (mw (rMend (s, ad, pa, ke, pd, fl, nm, kn, ik, ln, sg, sp, fo, ho, ta, tR, tm) x).1) := rfl
  have fin2 : (S_X7_mend (mw (s, ad, pa, ke, pd, fl, nm, kn, ik, ln, sg, sp, fo, ho, ta, tR, tm)) [.ref 0, .int x]).2.2 = some (.int (rMend (s, ad, pa, ke, pd, fl, nm, kn, ik, ln, sg, sp, fo, ho, ta, tR, tm) x).2) := rfl
  rw [rMend] at fin fin2
  try dsimp only at fin fin2
  generalize S_X7_mend (mw (s, ad, pa, ke, pd, fl, nm, kn, ik, ln, sg, sp, fo, ho, ta, tR, tm)) [.ref 0, .int x] = SS at hT fin fin2
  have s1 : ¬ gIsJoint x = 0 → gWh (vC s) x = 0 → ∀ q, q = kRecP s pa kn → T 24 [some (.ref 0), some (.int x)] [] (mw (s, ad, q.1, ke, pd, fl, nm, q.2, ik, ln, sg, sp, fo, ho, ta, tR, tm)) (0, 0) := by
    intro h0 h2 q hq
    rw [if_neg h0, if_pos h2, ← hq] at fin fin2
    obtain ⟨i, hi, rfl⟩ := inJ_of (inJ_is h0)
    rw [sMend, nI_clamp (by omega)] at fin fin2
    refine hT.1 (fun _ => false) 60 _ _ _ _ _ ?_
    exact mjix_e (44 + i) (nI_add 44 i) (by omega) (by decide) (mjix_e (104 + i) (nI_add 104 i) (by omega) (by decide) (And.intro ⟨rfl, rfl⟩ ⟨by rw [fin]; rfl, fin2.symm⟩))
  refine hT.1 (fun pc => Nat.beq pc 24) 60 _ _ _ _ _ ?_
  refine And.intro ⟨rfl, rfl⟩ (And.intro (fun (h0 : ¬ gIsJoint x = 0) => And.intro ⟨⟨rfl, rfl⟩, inJ_is h0⟩ (And.intro (fun (h2 : gWh (vC s) x = 0) => And.intro ⟨⟨rfl, rfl⟩, hk.2.1⟩ (s1 h0 h2 _ rfl)) (fun (h2 : ¬ gWh (vC s) x = 0) => ⟨?_, ?_⟩))) (fun (h0 : gIsJoint x = 0) => ⟨?_, ?_⟩))
  · rw [fin, if_neg h0, if_neg h2]; rfl
  · rw [fin2, if_neg h0, if_neg h2]
  · rw [fin, if_pos h0]; rfl
  · rw [fin2, if_pos h0]
set_option maxRecDepth 10000 in
theorem ct_X7_mend (l : Launch) : mjCT l yX7_mend cX7_mend 2 (some .int) rm_X7_mend S_X7_mend :=
  mjCT_of (own := RX7) (G := G_X7_mend) (plainFor_of_name pn_X7) rfl ok_X7_mend (fun meth hm => ⟨fun pc row h => (I_X7_mend_ok pc row h).1, F_X7_ok, List.forall_mem_cons.mpr ⟨⟨yX7_isJoint, cX7_isJoint, 1, (some .boolean), rm_X7_isJoint, ct_X7_isJoint l, ⟨rfl, rfl⟩, ⟨by decide, by decide⟩, by decide, nk_X7_isJoint, ln_X7_102, st_X7_isJoint⟩, List.forall_mem_cons.mpr ⟨⟨yX7_isWhole, cX7_isWhole, 2, (some .boolean), rm_X7_isWhole, ct_X7_isWhole l, ⟨rfl, rfl⟩, ⟨by decide, by decide⟩, by decide, by decide, nk_X7_isWhole, ln_X7_63, im_X7_isWhole, se_X7_isWhole, rfl⟩, List.forall_mem_cons.mpr ⟨⟨yX7_records, cX7_records, 2, none, rm_X7_records, ct_X7_records l, ⟨rfl, rfl⟩, ⟨by decide, by decide⟩, by decide, by decide, nk_X7_records, ln_X7_92, im_X7_records, se_X7_records, rfl⟩, List.forall_mem_cons.mpr ⟨⟨yX7_cracked, cX7_cracked, 3, (some .int), rm_X7_cracked, ct_X7_cracked l, ⟨rfl, rfl⟩, ⟨by decide, by decide⟩, by decide, by decide, nk_X7_cracked, ln_X7_105, im_X7_cracked, se_X7_cracked, rfl⟩, fun _ h => absurd h List.not_mem_nil⟩⟩⟩⟩, (fun _ _ _ h => by cases h), (fun _ _ h => by cases h), ⟨Nat.le_refl _, Nat.le_refl _⟩, (fun h => by cases h), (fun h => absurd h (by decide))⟩) rfl rfl rfl (fun pc row h => (I_X7_mend_ok pc row h).2)
def rm_X7_heat : Room := { frames := 2, cells := 0, slots := 0, locals := 45 }
noncomputable def G_X7_heat : mjG := (I_X7_heat, F_X7, [(108, 1, 0, 1, 0, 0, S_X7_isCell), (43, 1, 0, 3, 0, 0, S_X7_in), (92, 0, 6, 1, 0, 0, S_X7_records)], (fun pc => bif Nat.beq pc 23 then [0, 1, 2, 3, 4, 5, 6, 7] else []), Y0, (fun _ => none), (fun _ => none), (some .int), 0, 0, false)
set_option maxHeartbeats 20000000 in
set_option maxRecDepth 100000 in
theorem ok_X7_heat : mjOK G_X7_heat 4 S_X7_heat := by
  intro M as hP T hT
  obtain ⟨⟨s, ad, pa, ke, pd, fl, nm, kn, ik, ln, sg, sp, fo, ho, ta, tR, tm⟩, x, y, rfl, rfl, hk⟩ : ∃ m x y, M = mw m ∧ as = [.ref 0, .int x, .int y] ∧ r7Ok m := ⟨_, _, _, hP.1.1, hP.1.2, hP.2⟩
  have fin : (S_X7_heat (mw (s, ad, pa, ke, pd, fl, nm, kn, ik, ln, sg, sp, fo, ho, ta, tR, tm)) [.ref 0, .int x, .int y]).2.1 = some (mw (rHeat (s, ad, pa, ke, pd, fl, nm, kn, ik, ln, sg, sp, fo, ho, ta, tR, tm) x y).1) := rfl
  have fin2 : (S_X7_heat (mw (s, ad, pa, ke, pd, fl, nm, kn, ik, ln, sg, sp, fo, ho, ta, tR, tm)) [.ref 0, .int x, .int y]).2.2 = some (.int (rHeat (s, ad, pa, ke, pd, fl, nm, kn, ik, ln, sg, sp, fo, ho, ta, tR, tm) x y).2) := rfl
  rw [rHeat] at fin fin2
  try dsimp only at fin fin2
  generalize S_X7_heat (mw (s, ad, pa, ke, pd, fl, nm, kn, ik, ln, sg, sp, fo, ho, ta, tR, tm)) [.ref 0, .int x, .int y] = SS at hT fin fin2
  have s1 : ¬ gIsCell x = 0 → ¬ gIn y (-200) 200 = 0 → ∀ q, q = kRecP s pa kn → T 26 [some (.ref 0), some (.int x), some (.int y), none] [] (mw (s, ad, q.1, ke, pd, fl, nm, q.2, ik, ln, sg, sp, fo, ho, ta, tR, tm)) (0, 0) := by
    intro h0 h1 q hq
    rw [if_neg h0, if_neg h1, ← hq] at fin fin2
    obtain ⟨i, hi, rfl⟩ := inC_of (inC_is h0)
    rw [sHeat, nI_clamp (by omega)] at fin fin2
    have s2 : ∀ v : Int32, v = (if 0 ≤ s (8 + i) + y then s (8 + i) + y else 0) → T 57 [some (.ref 0), some (.int (nI i)), some (.int y), some (.int (s (8 + i)))] [.int v, .int (8 + nI i), .ref 1] (mw (s, ad, q.1, ke, pd, fl, nm, q.2, ik, ln, sg, sp, fo, ho, ta, tR, tm)) (0, 0) := by
      intro v hv
      rw [← hv] at fin fin2
      refine hT.1 (fun _ => false) 60 _ _ _ _ _ ?_
      exact mjix_e (8 + i) (nI_add 8 i) (by omega) (by decide) (mjix_e 5 rfl (by decide) (by decide) (mjix_e (8 + i) (nI_add 8 i) (by omega) (by decide) (mjix_e 5 rfl (by decide) (by decide) (mjix_e (8 + i) (nI_add 8 i) (by omega) (by decide) ⟨by rw [fin]; rfl, fin2.symm⟩))))
    refine hT.1 (fun pc => Nat.beq pc 57) 60 _ _ _ _ _ ?_
    exact mjix_e (8 + i) (nI_add 8 i) (by omega) (by decide) (And.intro (fun (h2 : 0 ≤ s (8 + i) + y) => s2 _ (if_pos h2).symm) (fun (h2 : ¬ 0 ≤ s (8 + i) + y) => s2 _ (if_neg h2).symm))
  have bad : gIsCell x = 0 ∨ gIn y (-200) 200 = 0 → SS.2.1 = some (mw (s, ad, pa, ke, pd, fl, nm, kn, ik, ln, sg, sp, fo, ho, ta, tR, tm)) ∧ SS.2.2 = some (.int (-1)) := by
    intro h
    by_cases h0 : gIsCell x = 0
    · rw [fin, fin2, if_pos h0]
      exact ⟨rfl, rfl⟩
    · rw [fin, fin2, if_neg h0, if_pos (h.resolve_left h0)]
      exact ⟨rfl, rfl⟩
  refine hT.1 (fun pc => Nat.beq pc 26) 60 _ _ _ _ _ ?_
  exact And.intro ⟨rfl, rfl⟩ (And.intro (fun (h0 : gIsCell x = 0) => ⟨by rw [(bad (Or.inl h0)).1]; rfl, (bad (Or.inl h0)).2.symm⟩) (fun (h0 : ¬ gIsCell x = 0) => And.intro ⟨rfl, rfl⟩ (And.intro (fun (h1 : ¬ gIn y (-200) 200 = 0) => And.intro ⟨⟨rfl, rfl⟩, hk.2.1⟩ (s1 h0 h1 _ rfl)) (fun (h1 : gIn y (-200) 200 = 0) => ⟨by rw [(bad (Or.inr h1)).1]; rfl, (bad (Or.inr h1)).2.symm⟩))))
set_option maxRecDepth 10000 in
theorem ct_X7_heat (l : Launch) : mjCT l yX7_heat cX7_heat 4 (some .int) rm_X7_heat S_X7_heat :=
  mjCT_of (own := RX7) (G := G_X7_heat) (plainFor_of_name pn_X7) rfl ok_X7_heat (fun meth hm => ⟨fun pc row h => (I_X7_heat_ok pc row h).1, F_X7_ok, List.forall_mem_cons.mpr ⟨⟨yX7_isCell, cX7_isCell, 1, (some .boolean), rm_X7_isCell, ct_X7_isCell l, ⟨rfl, rfl⟩, ⟨by decide, by decide⟩, by decide, nk_X7_isCell, ln_X7_108, st_X7_isCell⟩, List.forall_mem_cons.mpr ⟨⟨yX7_in, cX7_in, 3, (some .boolean), rm_X7_in, ct_X7_in l, ⟨rfl, rfl⟩, ⟨by decide, by decide⟩, by decide, nk_X7_in, ln_X7_43, st_X7_in⟩, List.forall_mem_cons.mpr ⟨⟨yX7_records, cX7_records, 2, none, rm_X7_records, ct_X7_records l, ⟨rfl, rfl⟩, ⟨by decide, by decide⟩, by decide, by decide, nk_X7_records, ln_X7_92, im_X7_records, se_X7_records, rfl⟩, fun _ h => absurd h List.not_mem_nil⟩⟩⟩, (fun _ _ _ h => by cases h), (fun _ _ h => by cases h), ⟨Nat.le_refl _, Nat.le_refl _⟩, (fun h => by cases h), (fun h => absurd h (by decide))⟩) rfl rfl rfl (fun pc row h => (I_X7_heat_ok pc row h).2)
def rm_X7_set : Room := { frames := 2, cells := 0, slots := 0, locals := 45 }
noncomputable def G_X7_set : mjG := (I_X7_set, F_X7, [(43, 1, 0, 3, 0, 0, S_X7_in), (92, 0, 6, 1, 0, 0, S_X7_records)], (fun pc => bif Nat.beq pc 22 then [0, 1, 2, 3, 4, 5, 6, 7] else []), Y0, (fun _ => none), (fun _ => none), (some .int), 0, 0, false)
set_option maxHeartbeats 20000000 in
set_option maxRecDepth 100000 in
theorem ok_X7_set : mjOK G_X7_set 4 S_X7_set := by
  intro M as hP T hT
  obtain ⟨⟨s, ad, pa, ke, pd, fl, nm, kn, ik, ln, sg, sp, fo, ho, ta, tR, tm⟩, x, y, rfl, rfl, hk⟩ : ∃ m x y, M = mw m ∧ as = [.ref 0, .int x, .int y] ∧ r7Ok m := ⟨_, _, _, hP.1.1, hP.1.2, hP.2⟩
  have fin : (S_X7_set (mw (s, ad, pa, ke, pd, fl, nm, kn, ik, ln, sg, sp, fo, ho, ta, tR, tm)) [.ref 0, .int x, .int y]).2.1 = some (mw (rSet (s, ad, pa, ke, pd, fl, nm, kn, ik, ln, sg, sp, fo, ho, ta, tR, tm) x y).1) := rfl
  have fin2 : (S_X7_set (mw (s, ad, pa, ke, pd, fl, nm, kn, ik, ln, sg, sp, fo, ho, ta, tR, tm)) [.ref 0, .int x, .int y]).2.2 = some (.int (rSet (s, ad, pa, ke, pd, fl, nm, kn, ik, ln, sg, sp, fo, ho, ta, tR, tm) x y).2) := rfl
  rw [rSet] at fin fin2
  try dsimp only at fin fin2
  generalize S_X7_set (mw (s, ad, pa, ke, pd, fl, nm, kn, ik, ln, sg, sp, fo, ho, ta, tR, tm)) [.ref 0, .int x, .int y] = SS at hT fin fin2
  have s1 : ¬ gIn x 0 1 = 0 → ¬ gIn y 0 20 = 0 → ∀ q, q = kRecP s pa kn → T 25 [some (.ref 0), some (.int x), some (.int y), none] [] (mw (s, ad, q.1, ke, pd, fl, nm, q.2, ik, ln, sg, sp, fo, ho, ta, tR, tm)) (0, 0) := by
    intro h0 h1 q hq
    rw [if_neg h0, if_neg h1, ← hq] at fin fin2
    obtain ⟨i, hi, rfl⟩ := nI_of (gIn_nn (by decide) h0)
    have h2 : i ≤ 1 := (nI_leI hi (by decide)).mp (gIn_of h0).2
    rw [nI_clamp (by omega)] at fin fin2
    refine hT.1 (fun _ => false) 60 _ _ _ _ _ ?_
    exact mjix_e (6 + i) (nI_add 6 i) (by omega) (by decide) (mjix_e (6 + i) (nI_add 6 i) (by omega) (by decide) ⟨by rw [fin]; rfl, fin2.symm⟩)
  have bad : gIn x 0 1 = 0 ∨ gIn y 0 20 = 0 → SS.2.1 = some (mw (s, ad, pa, ke, pd, fl, nm, kn, ik, ln, sg, sp, fo, ho, ta, tR, tm)) ∧ SS.2.2 = some (.int (-1)) := by
    intro h
    by_cases h0 : gIn x 0 1 = 0
    · rw [fin, fin2, if_pos h0]
      exact ⟨rfl, rfl⟩
    · rw [fin, fin2, if_neg h0, if_pos (h.resolve_left h0)]
      exact ⟨rfl, rfl⟩
  refine hT.1 (fun pc => Nat.beq pc 25) 60 _ _ _ _ _ ?_
  exact And.intro ⟨rfl, rfl⟩ (And.intro (fun (h0 : gIn x 0 1 = 0) => ⟨by rw [(bad (Or.inl h0)).1]; rfl, (bad (Or.inl h0)).2.symm⟩) (fun (h0 : ¬ gIn x 0 1 = 0) => And.intro ⟨rfl, rfl⟩ (And.intro (fun (h1 : ¬ gIn y 0 20 = 0) => And.intro ⟨⟨rfl, rfl⟩, hk.2.1⟩ (s1 h0 h1 _ rfl)) (fun (h1 : gIn y 0 20 = 0) => ⟨by rw [(bad (Or.inr h1)).1]; rfl, (bad (Or.inr h1)).2.symm⟩))))
set_option maxRecDepth 10000 in
theorem ct_X7_set (l : Launch) : mjCT l yX7_set cX7_set 4 (some .int) rm_X7_set S_X7_set :=
  mjCT_of (own := RX7) (G := G_X7_set) (plainFor_of_name pn_X7) rfl ok_X7_set (fun meth hm => ⟨fun pc row h => (I_X7_set_ok pc row h).1, F_X7_ok, List.forall_mem_cons.mpr ⟨⟨yX7_in, cX7_in, 3, (some .boolean), rm_X7_in, ct_X7_in l, ⟨rfl, rfl⟩, ⟨by decide, by decide⟩, by decide, nk_X7_in, ln_X7_43, st_X7_in⟩, List.forall_mem_cons.mpr ⟨⟨yX7_records, cX7_records, 2, none, rm_X7_records, ct_X7_records l, ⟨rfl, rfl⟩, ⟨by decide, by decide⟩, by decide, by decide, nk_X7_records, ln_X7_92, im_X7_records, se_X7_records, rfl⟩, fun _ h => absurd h List.not_mem_nil⟩⟩, (fun _ _ _ h => by cases h), (fun _ _ h => by cases h), ⟨Nat.le_refl _, Nat.le_refl _⟩, (fun h => by cases h), (fun h => absurd h (by decide))⟩) rfl rfl rfl (fun pc row h => (I_X7_set_ok pc row h).2)
def rm_X7_append : Room := { frames := 1, cells := 0, slots := 0, locals := 22 }
noncomputable def G_X7_append : mjG := (I_X7_append, F_X7, [(43, 1, 0, 3, 0, 0, S_X7_in)], (fun pc => []), Y0, (fun _ => none), (fun _ => none), (some .int), 0, 0, false)
set_option maxHeartbeats 20000000 in
set_option maxRecDepth 100000 in
theorem ok_X7_append : mjOK G_X7_append 2 S_X7_append := by
  intro M as hP T hT
  obtain ⟨⟨s, ad, pa, ke, pd, fl, nm, kn, ik, ln, sg, sp, fo, ho, ta, tR, tm⟩, x, rfl, rfl, hk⟩ : ∃ m x, M = mw m ∧ as = [.ref 0, .int x] ∧ r7Ok m := ⟨_, _, hP.1.1, hP.1.2, hP.2⟩
  have fin : (S_X7_append (mw (s, ad, pa, ke, pd, fl, nm, kn, ik, ln, sg, sp, fo, ho, ta, tR, tm)) [.ref 0, .int x]).2.1 = some (mw (rAppend (s, ad, pa, ke, pd, fl, nm, kn, ik, ln, sg, sp, fo, ho, ta, tR, tm) x).1) := rfl
  have fin2 : (S_X7_append (mw (s, ad, pa, ke, pd, fl, nm, kn, ik, ln, sg, sp, fo, ho, ta, tR, tm)) [.ref 0, .int x]).2.2 = some (.int (rAppend (s, ad, pa, ke, pd, fl, nm, kn, ik, ln, sg, sp, fo, ho, ta, tR, tm) x).2) := rfl
  rw [rAppend] at fin fin2
  try dsimp only at fin fin2
  generalize S_X7_append (mw (s, ad, pa, ke, pd, fl, nm, kn, ik, ln, sg, sp, fo, ho, ta, tR, tm)) [.ref 0, .int x] = SS at hT fin fin2
  obtain ⟨n, hn, rfl⟩ := nI_of hk.2.2.1
  have hn2 : n ≤ 60 := (nI_leI hn (by decide)).mp hk.2.2.2
  refine hT.1 (fun _ => false) 60 _ _ _ _ _ ?_
  refine And.intro ⟨rfl, rfl⟩ (And.intro (fun (h0 : ¬ gIn x 33 126 = 0) => And.intro (fun (h1 : ¬ nI n = 60) => mjix_n (by
      rcases Nat.lt_or_ge n 60 with w | w
      · exact w
      · have : n = 60 := by omega
        subst this
        exact absurd rfl h1) (by decide) ⟨?_, ?_⟩) (fun (h1 : nI n = 60) => ⟨?_, ?_⟩)) (fun (h0 : gIn x 33 126 = 0) => ⟨?_, ?_⟩))
  · rw [fin, if_neg h0, if_neg h1, nI_clamp (by omega)]; rfl
  · rw [fin2, if_neg h0, if_neg h1]
  · rw [fin, if_neg h0, if_pos h1]; rfl
  · rw [fin2, if_neg h0, if_pos h1]
  · rw [fin, if_pos h0]; rfl
  · rw [fin2, if_pos h0]
set_option maxRecDepth 10000 in
theorem ct_X7_append (l : Launch) : mjCT l yX7_append cX7_append 2 (some .int) rm_X7_append S_X7_append :=
  mjCT_of (own := RX7) (G := G_X7_append) (plainFor_of_name pn_X7) rfl ok_X7_append (fun meth hm => ⟨fun pc row h => (I_X7_append_ok pc row h).1, F_X7_ok, List.forall_mem_cons.mpr ⟨⟨yX7_in, cX7_in, 3, (some .boolean), rm_X7_in, ct_X7_in l, ⟨rfl, rfl⟩, ⟨by decide, by decide⟩, by decide, nk_X7_in, ln_X7_43, st_X7_in⟩, fun _ h => absurd h List.not_mem_nil⟩, (fun _ _ _ h => by cases h), (fun _ _ h => by cases h), ⟨Nat.le_refl _, Nat.le_refl _⟩, (fun h => by cases h), (fun h => absurd h (by decide))⟩) rfl rfl rfl (fun pc row h => (I_X7_append_ok pc row h).2)
def rm_X7_clear : Room := { frames := 0, cells := 0, slots := 0, locals := 0 }
noncomputable def G_X7_clear : mjG := (I_X7_clear, F_X7, [], (fun pc => []), Y0, (fun _ => none), (fun _ => none), (some .int), 0, 0, false)
set_option maxHeartbeats 20000000 in
set_option maxRecDepth 100000 in
theorem ok_X7_clear : mjOK G_X7_clear 2 S_X7_clear := by
  intro M as hP T hT
  obtain ⟨⟨s, ad, pa, ke, pd, fl, nm, kn, ik, ln, sg, sp, fo, ho, ta, tR, tm⟩, rfl, rfl, hk⟩ : ∃ m, M = mw m ∧ as = [.ref 0] ∧ r7Ok m := ⟨_, hP.1.1, hP.1.2, hP.2⟩
  have fin : (S_X7_clear (mw (s, ad, pa, ke, pd, fl, nm, kn, ik, ln, sg, sp, fo, ho, ta, tR, tm)) [.ref 0]).2.1 = some (mw (rClear (s, ad, pa, ke, pd, fl, nm, kn, ik, ln, sg, sp, fo, ho, ta, tR, tm)).1) := rfl
  have fin2 : (S_X7_clear (mw (s, ad, pa, ke, pd, fl, nm, kn, ik, ln, sg, sp, fo, ho, ta, tR, tm)) [.ref 0]).2.2 = some (.int (rClear (s, ad, pa, ke, pd, fl, nm, kn, ik, ln, sg, sp, fo, ho, ta, tR, tm)).2) := rfl
  rw [rClear] at fin fin2
  try dsimp only at fin fin2
  generalize S_X7_clear (mw (s, ad, pa, ke, pd, fl, nm, kn, ik, ln, sg, sp, fo, ho, ta, tR, tm)) [.ref 0] = SS at hT fin fin2
  refine hT.1 (fun _ => false) 60 _ _ _ _ _ ?_
  exact ⟨by rw [fin]; rfl, fin2.symm⟩
set_option maxRecDepth 10000 in
theorem ct_X7_clear (l : Launch) : mjCT l yX7_clear cX7_clear 2 (some .int) rm_X7_clear S_X7_clear :=
  mjCT_of (own := RX7) (G := G_X7_clear) (plainFor_of_name pn_X7) rfl ok_X7_clear (fun meth hm => ⟨fun pc row h => (I_X7_clear_ok pc row h).1, F_X7_ok, fun _ h => absurd h List.not_mem_nil, (fun _ _ _ h => by cases h), (fun _ _ h => by cases h), ⟨Nat.le_refl _, Nat.le_refl _⟩, (fun h => by cases h), (fun h => absurd h (by decide))⟩) rfl rfl rfl (fun pc row h => (I_X7_clear_ok pc row h).2)
def rm_X7_undo : Room := { frames := 1, cells := 0, slots := 0, locals := 24 }
noncomputable def G_X7_undo : mjG := (I_X7_undo, F_X7, [(39, 1, 0, 4, 0, 0, S_X7_copies)], (fun pc => [3, 1]), Y0, (fun _ => none), (fun _ => none), (some .int), 0, 0, false)
set_option maxHeartbeats 20000000 in
set_option maxRecDepth 100000 in
theorem ok_X7_undo : mjOK G_X7_undo 1 S_X7_undo := by
  intro M as hP T hT
  obtain ⟨⟨s, ad, pa, ke, pd, fl, nm, kn, ik, ln, sg, sp, fo, ho, ta, tR, tm⟩, rfl, rfl, hk⟩ : ∃ m, M = mw m ∧ as = [.ref 0] ∧ r7Ok m := ⟨_, hP.1.1, hP.1.2, hP.2⟩
  have fin : (S_X7_undo (mw (s, ad, pa, ke, pd, fl, nm, kn, ik, ln, sg, sp, fo, ho, ta, tR, tm)) [.ref 0]).2.1 = some (mw (rUndo (s, ad, pa, ke, pd, fl, nm, kn, ik, ln, sg, sp, fo, ho, ta, tR, tm)).1) := rfl
  have fin2 : (S_X7_undo (mw (s, ad, pa, ke, pd, fl, nm, kn, ik, ln, sg, sp, fo, ho, ta, tR, tm)) [.ref 0]).2.2 = some (.int (rUndo (s, ad, pa, ke, pd, fl, nm, kn, ik, ln, sg, sp, fo, ho, ta, tR, tm)).2) := rfl
  rw [rUndo] at fin fin2
  try dsimp only at fin fin2
  generalize S_X7_undo (mw (s, ad, pa, ke, pd, fl, nm, kn, ik, ln, sg, sp, fo, ho, ta, tR, tm)) [.ref 0] = SS at hT fin fin2
  obtain ⟨n, hn, rfl⟩ := nI_of hk.2.1.1
  have hn4 : n ≤ 4 := (nI_leI hn (by decide)).mp hk.2.1.2
  refine hT.1 (fun pc => Nat.beq pc 10) 60 _ _ _ _ _ ?_
  refine And.intro (fun (h0 : ¬ nI n = 0) => ?_) (fun (h0 : nI n = 0) => ⟨?_, ?_⟩)
  · rw [if_neg h0] at fin fin2
    match n, hn4, h0 with
    | 0, _, h0 => exact absurd rfl h0
    | 1, _, _ =>
      rw [show 164 * (nI 1 - 1).toNatClampNeg = (164 * (nI 1 - 1)).toNatClampNeg by decide] at fin
      refine hT.1 (fun _ => false) 60 _ _ _ _ _ ?_
      exact And.intro ⟨⟨rfl, rfl⟩, ⟨show ¬ 164 * (nI 1 - 1) < 0 by decide, show ¬ (0 : Int32) < 0 by decide⟩, ⟨show (164 * (nI 1 - 1)).toNatClampNeg + 164 ≤ 656 by decide, show (0 : Int32).toNatClampNeg + 164 ≤ 164 by decide⟩, show 656 < 10000 by decide, show 164 < 10000 by decide⟩ ⟨by rw [fin]; rfl, fin2.symm⟩
    | 2, _, _ =>
      rw [show 164 * (nI 2 - 1).toNatClampNeg = (164 * (nI 2 - 1)).toNatClampNeg by decide] at fin
      refine hT.1 (fun _ => false) 60 _ _ _ _ _ ?_
      exact And.intro ⟨⟨rfl, rfl⟩, ⟨show ¬ 164 * (nI 2 - 1) < 0 by decide, show ¬ (0 : Int32) < 0 by decide⟩, ⟨show (164 * (nI 2 - 1)).toNatClampNeg + 164 ≤ 656 by decide, show (0 : Int32).toNatClampNeg + 164 ≤ 164 by decide⟩, show 656 < 10000 by decide, show 164 < 10000 by decide⟩ ⟨by rw [fin]; rfl, fin2.symm⟩
    | 3, _, _ =>
      rw [show 164 * (nI 3 - 1).toNatClampNeg = (164 * (nI 3 - 1)).toNatClampNeg by decide] at fin
      refine hT.1 (fun _ => false) 60 _ _ _ _ _ ?_
      exact And.intro ⟨⟨rfl, rfl⟩, ⟨show ¬ 164 * (nI 3 - 1) < 0 by decide, show ¬ (0 : Int32) < 0 by decide⟩, ⟨show (164 * (nI 3 - 1)).toNatClampNeg + 164 ≤ 656 by decide, show (0 : Int32).toNatClampNeg + 164 ≤ 164 by decide⟩, show 656 < 10000 by decide, show 164 < 10000 by decide⟩ ⟨by rw [fin]; rfl, fin2.symm⟩
    | 4, _, _ =>
      rw [show 164 * (nI 4 - 1).toNatClampNeg = (164 * (nI 4 - 1)).toNatClampNeg by decide] at fin
      refine hT.1 (fun _ => false) 60 _ _ _ _ _ ?_
      exact And.intro ⟨⟨rfl, rfl⟩, ⟨show ¬ 164 * (nI 4 - 1) < 0 by decide, show ¬ (0 : Int32) < 0 by decide⟩, ⟨show (164 * (nI 4 - 1)).toNatClampNeg + 164 ≤ 656 by decide, show (0 : Int32).toNatClampNeg + 164 ≤ 164 by decide⟩, show 656 < 10000 by decide, show 164 < 10000 by decide⟩ ⟨by rw [fin]; rfl, fin2.symm⟩
    | (j + 5), h, _ => exact absurd h (by omega)
  · rw [fin, if_pos h0]; rfl
  · rw [fin2, if_pos h0]
set_option maxRecDepth 10000 in
theorem ct_X7_undo (l : Launch) : mjCT l yX7_undo cX7_undo 1 (some .int) rm_X7_undo S_X7_undo :=
  mjCT_of (own := RX7) (G := G_X7_undo) (plainFor_of_name pn_X7) rfl ok_X7_undo (fun meth hm => ⟨fun pc row h => (I_X7_undo_ok pc row h).1, F_X7_ok, List.forall_mem_cons.mpr ⟨⟨yX7_copies, cX7_copies, 5, none, rm_X7_copies, ct_X7_copies l, ⟨rfl, rfl⟩, ⟨by decide, by decide⟩, by decide, nk_X7_copies, ln_X7_39, st_X7_copies⟩, fun _ h => absurd h List.not_mem_nil⟩, (fun _ _ _ h => by cases h), (fun _ _ h => by cases h), ⟨Nat.le_refl _, Nat.le_refl _⟩, (fun h => by cases h), (fun h => absurd h (by decide))⟩) rfl rfl rfl (fun pc row h => (I_X7_undo_ok pc row h).2)
def rm_X7_save : Room := { frames := 1, cells := 0, slots := 0, locals := 24 }
noncomputable def G_X7_save : mjG := (I_X7_save, F_X7, [(39, 1, 0, 4, 0, 0, S_X7_copies)], (fun pc => [1, 4]), Y0, (fun _ => none), (fun _ => none), (some .int), 0, 0, false)
set_option maxHeartbeats 20000000 in
set_option maxRecDepth 100000 in
theorem ok_X7_save : mjOK G_X7_save 1 S_X7_save := by
  intro M as hP T hT
  obtain ⟨⟨s, ad, pa, ke, pd, fl, nm, kn, ik, ln, sg, sp, fo, ho, ta, tR, tm⟩, rfl, rfl, hk⟩ : ∃ m, M = mw m ∧ as = [.ref 0] ∧ r7Ok m := ⟨_, hP.1.1, hP.1.2, hP.2⟩
  have fin : (S_X7_save (mw (s, ad, pa, ke, pd, fl, nm, kn, ik, ln, sg, sp, fo, ho, ta, tR, tm)) [.ref 0]).2.1 = some (mw (rSave (s, ad, pa, ke, pd, fl, nm, kn, ik, ln, sg, sp, fo, ho, ta, tR, tm)).1) := rfl
  have fin2 : (S_X7_save (mw (s, ad, pa, ke, pd, fl, nm, kn, ik, ln, sg, sp, fo, ho, ta, tR, tm)) [.ref 0]).2.2 = some (.int (rSave (s, ad, pa, ke, pd, fl, nm, kn, ik, ln, sg, sp, fo, ho, ta, tR, tm)).2) := rfl
  rw [rSave] at fin fin2
  try dsimp only at fin fin2
  generalize S_X7_save (mw (s, ad, pa, ke, pd, fl, nm, kn, ik, ln, sg, sp, fo, ho, ta, tR, tm)) [.ref 0] = SS at hT fin fin2
  refine hT.1 (fun _ => false) 60 _ _ _ _ _ ?_
  exact And.intro ⟨⟨rfl, rfl⟩, ⟨show ¬ (0 : Int32) < 0 by decide, show ¬ (0 : Int32) < 0 by decide⟩, ⟨show (0 : Int32).toNatClampNeg + 164 ≤ 164 by decide, show (0 : Int32).toNatClampNeg + 164 ≤ 164 by decide⟩, show 164 < 10000 by decide, show 164 < 10000 by decide⟩ (And.intro (Or.inr rfl) (mjix_e 3 rfl (show 3 < 164 by decide) (show 164 < 2147483648 by decide) ⟨by rw [fin]; rfl, fin2.symm⟩))
set_option maxRecDepth 10000 in
theorem ct_X7_save (l : Launch) : mjCT l yX7_save cX7_save 1 (some .int) rm_X7_save S_X7_save :=
  mjCT_of (own := RX7) (G := G_X7_save) (plainFor_of_name pn_X7) rfl ok_X7_save (fun meth hm => ⟨fun pc row h => (I_X7_save_ok pc row h).1, F_X7_ok, List.forall_mem_cons.mpr ⟨⟨yX7_copies, cX7_copies, 5, none, rm_X7_copies, ct_X7_copies l, ⟨rfl, rfl⟩, ⟨by decide, by decide⟩, by decide, nk_X7_copies, ln_X7_39, st_X7_copies⟩, fun _ h => absurd h List.not_mem_nil⟩, (fun _ _ _ h => by cases h), (fun _ _ h => by cases h), ⟨Nat.le_refl _, Nat.le_refl _⟩, (fun h => by cases h), (fun h => absurd h (by decide))⟩) rfl rfl rfl (fun pc row h => (I_X7_save_ok pc row h).2)
def rm_X7_restore : Room := { frames := 2, cells := 0, slots := 0, locals := 45 }
noncomputable def G_X7_restore : mjG := (I_X7_restore, F_X7, [(92, 0, 6, 1, 0, 0, S_X7_records), (39, 1, 0, 4, 0, 0, S_X7_copies)], (fun pc => bif Nat.beq pc 24 then [4, 1] else [0, 1, 2, 3, 4, 5, 6, 7]), Y0, (fun _ => none), (fun _ => none), (some .int), 0, 0, false)
set_option maxHeartbeats 20000000 in
set_option maxRecDepth 100000 in
theorem ok_X7_restore : mjOK G_X7_restore 1 S_X7_restore := by
  intro M as hP T hT
  obtain ⟨⟨s, ad, pa, ke, pd, fl, nm, kn, ik, ln, sg, sp, fo, ho, ta, tR, tm⟩, rfl, rfl, hk⟩ : ∃ m, M = mw m ∧ as = [.ref 0] ∧ r7Ok m := ⟨_, hP.1.1, hP.1.2, hP.2⟩
  have fin : (S_X7_restore (mw (s, ad, pa, ke, pd, fl, nm, kn, ik, ln, sg, sp, fo, ho, ta, tR, tm)) [.ref 0]).2.1 = some (mw (rRestore (s, ad, pa, ke, pd, fl, nm, kn, ik, ln, sg, sp, fo, ho, ta, tR, tm)).1) := rfl
  have fin2 : (S_X7_restore (mw (s, ad, pa, ke, pd, fl, nm, kn, ik, ln, sg, sp, fo, ho, ta, tR, tm)) [.ref 0]).2.2 = some (.int (rRestore (s, ad, pa, ke, pd, fl, nm, kn, ik, ln, sg, sp, fo, ho, ta, tR, tm)).2) := rfl
  rw [rRestore] at fin fin2
  try dsimp only at fin fin2
  generalize S_X7_restore (mw (s, ad, pa, ke, pd, fl, nm, kn, ik, ln, sg, sp, fo, ho, ta, tR, tm)) [.ref 0] = SS at hT fin fin2
  have s1 : ¬ ik = 0 → ∀ q, q = kRecP s pa kn → T 14 [some (.ref 0)] [] (mw (s, ad, q.1, ke, pd, fl, nm, q.2, ik, ln, sg, sp, fo, ho, ta, tR, tm)) (0, 0) := by
    intro h0 q hq
    rw [if_neg h0, ← hq] at fin fin2
    refine hT.1 (fun _ => false) 60 _ _ _ _ _ ?_
    exact And.intro ⟨⟨rfl, rfl⟩, ⟨show ¬ (0 : Int32) < 0 by decide, show ¬ (0 : Int32) < 0 by decide⟩, ⟨show (0 : Int32).toNatClampNeg + 164 ≤ 164 by decide, show (0 : Int32).toNatClampNeg + 164 ≤ 164 by decide⟩, show 164 < 10000 by decide, show 164 < 10000 by decide⟩ (mjix_e 3 rfl (show 3 < 164 by decide) (show 164 < 2147483648 by decide) ⟨by rw [fin]; rfl, fin2.symm⟩)
  refine hT.1 (fun pc => Nat.beq pc 14) 60 _ _ _ _ _ ?_
  refine And.intro (fun (h1 : ¬ ik = 0) => And.intro ⟨⟨rfl, rfl⟩, hk.2.1⟩ (s1 h1 _ rfl)) (fun (h1 : ik = 0) => ⟨?_, ?_⟩)
  · rw [fin, if_pos h1]; rfl
  · rw [fin2, if_pos h1]
set_option maxRecDepth 10000 in
theorem ct_X7_restore (l : Launch) : mjCT l yX7_restore cX7_restore 1 (some .int) rm_X7_restore S_X7_restore :=
  mjCT_of (own := RX7) (G := G_X7_restore) (plainFor_of_name pn_X7) rfl ok_X7_restore (fun meth hm => ⟨fun pc row h => (I_X7_restore_ok pc row h).1, F_X7_ok, List.forall_mem_cons.mpr ⟨⟨yX7_records, cX7_records, 2, none, rm_X7_records, ct_X7_records l, ⟨rfl, rfl⟩, ⟨by decide, by decide⟩, by decide, by decide, nk_X7_records, ln_X7_92, im_X7_records, se_X7_records, rfl⟩, List.forall_mem_cons.mpr ⟨⟨yX7_copies, cX7_copies, 5, none, rm_X7_copies, ct_X7_copies l, ⟨rfl, rfl⟩, ⟨by decide, by decide⟩, by decide, nk_X7_copies, ln_X7_39, st_X7_copies⟩, fun _ h => absurd h List.not_mem_nil⟩⟩, (fun _ _ _ h => by cases h), (fun _ _ h => by cases h), ⟨Nat.le_refl _, Nat.le_refl _⟩, (fun h => by cases h), (fun h => absurd h (by decide))⟩) rfl rfl rfl (fun pc row h => (I_X7_restore_ok pc row h).2)
