/-! ColdPanesModel: count -/
def rm_X7_count : Room := { frames := 7, cells := 0, slots := 0, locals := 150 }
noncomputable def G_X7_count : mjG := (I_X7_count, F_X7, [(177, 0, 6, 1, 0, 0, S_X7_sumOfHeats), (105, 0, 6, 1, 0, 0, S_X7_cracked), (180, 0, 6, 2, 0, 0, S_X7_heatMost), (76, 0, 6, 1, 0, 0, S_X7_greatestStress), (184, 0, 6, 1, 0, 0, S_X7_leastMargin), (187, 0, 6, 1, 0, 0, S_X7_greatestPiece)], (fun pc => [0, 1, 2, 3, 4, 5, 6, 7]), Y_X7_count, (fun _ => none), (fun _ => none), (some .int), 0, 0, false)
set_option maxHeartbeats 20000000 in
set_option maxRecDepth 100000 in
theorem ok_X7_count : mjOK G_X7_count 2 S_X7_count := by
  intro M as hP T hT
  obtain ⟨⟨s, ad, pa, ke, pd, fl, nm, kn, ik, ln, sg, sp, fo, ho, ta, tR, tm⟩, x, rfl, rfl, hk⟩ : ∃ m x, M = mw m ∧ as = [.ref 0, .int x] ∧ aOk m := ⟨_, _, hP.1.1, hP.1.2, hP.2⟩
  have fin : (S_X7_count (mw (s, ad, pa, ke, pd, fl, nm, kn, ik, ln, sg, sp, fo, ho, ta, tR, tm)) [.ref 0, .int x]).2.1 = some (mw (rCount (s, ad, pa, ke, pd, fl, nm, kn, ik, ln, sg, sp, fo, ho, ta, tR, tm) x).1) := rfl
  have fin2 : (S_X7_count (mw (s, ad, pa, ke, pd, fl, nm, kn, ik, ln, sg, sp, fo, ho, ta, tR, tm)) [.ref 0, .int x]).2.2 = some (.int (rCount (s, ad, pa, ke, pd, fl, nm, kn, ik, ln, sg, sp, fo, ho, ta, tR, tm) x).2) := rfl
  rw [rCount] at fin fin2
  try dsimp only at fin fin2
  generalize S_X7_count (mw (s, ad, pa, ke, pd, fl, nm, kn, ik, ln, sg, sp, fo, ho, ta, tR, tm)) [.ref 0, .int x] = SS at hT fin fin2
  have hot1 : kseal (if (1 : Int32) = 0 then gCold (vH s) else gHot (vH s)) = kseal (gHot (vH s)) := by rw [if_neg (by decide)]
  have cold1 : kseal (if (0 : Int32) = 0 then gCold (vH s) else gHot (vH s)) = kseal (gCold (vH s)) := by rw [if_pos rfl]
  refine hT.1 (fun pc => Nat.beq pc 84 || Nat.beq pc 108 || Nat.beq pc 139) 60 _ _ _ _ _ ?_
  refine And.intro (fun (e0 : x = 0) => ?_) (fun (n0 : ¬ x = 0) => And.intro (fun (e1 : x = 1) => ?_) (fun (n1 : ¬ x = 1) => And.intro (fun (e2 : x = 2) => ?_) (fun (n2 : ¬ x = 2) => And.intro (fun (e3 : x = 3) => ?_) (fun (n3 : ¬ x = 3) => And.intro (fun (e4 : x = 4) => And.intro ⟨rfl, rfl⟩ ⟨?_, ?_⟩) (fun (n4 : ¬ x = 4) => And.intro (fun (e5 : x = 5) => mjix_e 4 rfl (by decide) (by decide) ⟨?_, ?_⟩) (fun (n5 : ¬ x = 5) => And.intro (fun (e6 : x = 6) => And.intro ⟨rfl, rfl⟩ ⟨?_, ?_⟩) (fun (n6 : ¬ x = 6) => And.intro (fun (e7 : x = 7) => ?_) (fun (n7 : ¬ x = 7) => And.intro (fun (e8 : x = 8) => ?_) (fun (n8 : ¬ x = 8) => And.intro (fun (e9 : x = 9) => And.intro ⟨rfl, rfl⟩ ⟨?_, ?_⟩) (fun (n9 : ¬ x = 9) => And.intro (fun (e10 : x = 10) => And.intro ⟨rfl, rfl⟩ ⟨?_, ?_⟩) (fun (n10 : ¬ x = 10) => And.intro (fun (e11 : x = 11) => And.intro ⟨⟨rfl, rfl⟩, trivial⟩ ⟨?_, ?_⟩) (fun (n11 : ¬ x = 11) => And.intro (fun (e12 : x = 12) => ?_) (fun (n12 : ¬ x = 12) => And.intro (fun (e13 : x = 13) => ?_) (fun (n13 : ¬ x = 13) => And.intro (fun (e14 : x = 14) => mjix_e 5 rfl (by decide) (by decide) ⟨?_, ?_⟩) (fun (n14 : ¬ x = 14) => And.intro (fun (e15 : x = 15) => ⟨?_, ?_⟩) (fun (n15 : ¬ x = 15) => And.intro (fun (e16 : x = 16) => ⟨?_, ?_⟩) (fun (n16 : ¬ x = 16) => ⟨?_, ?_⟩)))))))))))))))))
  · subst e0
    rw [if_pos rfl] at fin fin2
    refine hT.1 (fun _ => false) 60 _ _ _ _ _ ?_
    exact mjix_e 0 rfl (by decide) (by decide) ⟨by rw [fin]; rfl, by rw [fin2]⟩
  · subst e1
    rw [if_neg n0, if_pos rfl] at fin fin2
    refine hT.1 (fun _ => false) 60 _ _ _ _ _ ?_
    exact mjix_e 1 rfl (by decide) (by decide) ⟨by rw [fin]; rfl, by rw [fin2]⟩
  · subst e2
    rw [if_neg n0, if_neg n1, if_pos rfl] at fin fin2
    refine hT.1 (fun _ => false) 60 _ _ _ _ _ ?_
    exact mjix_e 2 rfl (by decide) (by decide) ⟨by rw [fin]; rfl, by rw [fin2]⟩
  · subst e3
    rw [if_neg n0, if_neg n1, if_neg n2, if_pos rfl] at fin fin2
    refine hT.1 (fun _ => false) 60 _ _ _ _ _ ?_
    exact mjix_e 3 rfl (by decide) (by decide) ⟨by rw [fin]; rfl, by rw [fin2]⟩
  · rw [fin, if_neg n0, if_neg n1, if_neg n2, if_neg n3, if_pos e4]; rfl
  · rw [fin2, if_neg n0, if_neg n1, if_neg n2, if_neg n3, if_pos e4]; try rfl
  · rw [fin, if_neg n0, if_neg n1, if_neg n2, if_neg n3, if_neg n4, if_pos e5]; rfl
  · rw [fin2, if_neg n0, if_neg n1, if_neg n2, if_neg n3, if_neg n4, if_pos e5]; try rfl
  · rw [fin, if_neg n0, if_neg n1, if_neg n2, if_neg n3, if_neg n4, if_neg n5, if_pos e6]; rfl
  · rw [fin2, if_neg n0, if_neg n1, if_neg n2, if_neg n3, if_neg n4, if_neg n5, if_pos e6]; try rfl
  · subst e7
    rw [if_neg n0, if_neg n1, if_neg n2, if_neg n3, if_neg n4, if_neg n5, if_neg n6, if_pos rfl] at fin fin2
    refine hT.1 (fun _ => false) 60 _ _ _ _ _ ?_
    exact And.intro (fun h => absurd rfl h) (fun _ => And.intro ⟨⟨rfl, rfl⟩, trivial⟩ ⟨by rw [fin]; rfl, by rw [fin2, ← hot1]; rfl⟩)
  · subst e8
    rw [if_neg n0, if_neg n1, if_neg n2, if_neg n3, if_neg n4, if_neg n5, if_neg n6, if_neg n7, if_pos rfl] at fin fin2
    refine hT.1 (fun _ => false) 60 _ _ _ _ _ ?_
    exact And.intro (fun _ => And.intro ⟨⟨rfl, rfl⟩, trivial⟩ ⟨by rw [fin]; rfl, by rw [fin2, ← cold1]; rfl⟩) (fun h => absurd h (by decide))
  · rw [fin, if_neg n0, if_neg n1, if_neg n2, if_neg n3, if_neg n4, if_neg n5, if_neg n6, if_neg n7, if_neg n8, if_pos e9]; rfl
  · rw [fin2, if_neg n0, if_neg n1, if_neg n2, if_neg n3, if_neg n4, if_neg n5, if_neg n6, if_neg n7, if_neg n8, if_pos e9]; try rfl
  · rw [fin, if_neg n0, if_neg n1, if_neg n2, if_neg n3, if_neg n4, if_neg n5, if_neg n6, if_neg n7, if_neg n8, if_neg n9, if_pos e10]; rfl
  · rw [fin2, if_neg n0, if_neg n1, if_neg n2, if_neg n3, if_neg n4, if_neg n5, if_neg n6, if_neg n7, if_neg n8, if_neg n9, if_pos e10]; try rfl
  · rw [fin, if_neg n0, if_neg n1, if_neg n2, if_neg n3, if_neg n4, if_neg n5, if_neg n6, if_neg n7, if_neg n8, if_neg n9, if_neg n10, if_pos e11]; rfl
  · rw [fin2, if_neg n0, if_neg n1, if_neg n2, if_neg n3, if_neg n4, if_neg n5, if_neg n6, if_neg n7, if_neg n8, if_neg n9, if_neg n10, if_pos e11]; try rfl
  · subst e12
    rw [if_neg n0, if_neg n1, if_neg n2, if_neg n3, if_neg n4, if_neg n5, if_neg n6, if_neg n7, if_neg n8, if_neg n9, if_neg n10, if_neg n11, if_pos rfl] at fin fin2
    refine hT.1 (fun _ => false) 60 _ _ _ _ _ ?_
    exact mjix_e 6 rfl (by decide) (by decide) ⟨by rw [fin]; rfl, by rw [fin2]⟩
  · subst e13
    rw [if_neg n0, if_neg n1, if_neg n2, if_neg n3, if_neg n4, if_neg n5, if_neg n6, if_neg n7, if_neg n8, if_neg n9, if_neg n10, if_neg n11, if_neg n12, if_pos rfl] at fin fin2
    refine hT.1 (fun _ => false) 60 _ _ _ _ _ ?_
    exact mjix_e 7 rfl (by decide) (by decide) ⟨by rw [fin]; rfl, by rw [fin2]⟩
  · rw [fin, if_neg n0, if_neg n1, if_neg n2, if_neg n3, if_neg n4, if_neg n5, if_neg n6, if_neg n7, if_neg n8, if_neg n9, if_neg n10, if_neg n11, if_neg n12, if_neg n13, if_pos e14]; rfl
  · rw [fin2, if_neg n0, if_neg n1, if_neg n2, if_neg n3, if_neg n4, if_neg n5, if_neg n6, if_neg n7, if_neg n8, if_neg n9, if_neg n10, if_neg n11, if_neg n12, if_neg n13, if_pos e14]; try rfl
  · rw [fin, if_neg n0, if_neg n1, if_neg n2, if_neg n3, if_neg n4, if_neg n5, if_neg n6, if_neg n7, if_neg n8, if_neg n9, if_neg n10, if_neg n11, if_neg n12, if_neg n13, if_neg n14, if_pos e15]; rfl
  · rw [fin2, if_neg n0, if_neg n1, if_neg n2, if_neg n3, if_neg n4, if_neg n5, if_neg n6, if_neg n7, if_neg n8, if_neg n9, if_neg n10, if_neg n11, if_neg n12, if_neg n13, if_neg n14, if_pos e15]; try rfl
  · rw [fin, if_neg n0, if_neg n1, if_neg n2, if_neg n3, if_neg n4, if_neg n5, if_neg n6, if_neg n7, if_neg n8, if_neg n9, if_neg n10, if_neg n11, if_neg n12, if_neg n13, if_neg n14, if_neg n15, if_pos e16]; rfl
  · rw [fin2, if_neg n0, if_neg n1, if_neg n2, if_neg n3, if_neg n4, if_neg n5, if_neg n6, if_neg n7, if_neg n8, if_neg n9, if_neg n10, if_neg n11, if_neg n12, if_neg n13, if_neg n14, if_neg n15, if_pos e16]; try rfl
  · rw [fin, if_neg n0, if_neg n1, if_neg n2, if_neg n3, if_neg n4, if_neg n5, if_neg n6, if_neg n7, if_neg n8, if_neg n9, if_neg n10, if_neg n11, if_neg n12, if_neg n13, if_neg n14, if_neg n15, if_neg n16]; rfl
  · rw [fin2, if_neg n0, if_neg n1, if_neg n2, if_neg n3, if_neg n4, if_neg n5, if_neg n6, if_neg n7, if_neg n8, if_neg n9, if_neg n10, if_neg n11, if_neg n12, if_neg n13, if_neg n14, if_neg n15, if_neg n16]; try rfl
set_option maxRecDepth 10000 in
theorem ct_X7_count (l : Launch) : mjCT l yX7_count cX7_count 2 (some .int) rm_X7_count S_X7_count :=
  mjCT_of (own := RX7) (G := G_X7_count) (plainFor_of_name pn_X7) rfl ok_X7_count (fun meth hm => ⟨fun pc row h => (I_X7_count_ok pc row h).1, F_X7_ok, List.forall_mem_cons.mpr ⟨⟨yX7_sumOfHeats, cX7_sumOfHeats, 3, (some .int), rm_X7_sumOfHeats, ct_X7_sumOfHeats l, ⟨rfl, rfl⟩, ⟨by decide, by decide⟩, by decide, by decide, nk_X7_sumOfHeats, ln_X7_177, im_X7_sumOfHeats, se_X7_sumOfHeats, rfl⟩, List.forall_mem_cons.mpr ⟨⟨yX7_cracked, cX7_cracked, 3, (some .int), rm_X7_cracked, ct_X7_cracked l, ⟨rfl, rfl⟩, ⟨by decide, by decide⟩, by decide, by decide, nk_X7_cracked, ln_X7_105, im_X7_cracked, se_X7_cracked, rfl⟩, List.forall_mem_cons.mpr ⟨⟨yX7_heatMost, cX7_heatMost, 5, (some .int), rm_X7_heatMost, ct_X7_heatMost l, ⟨rfl, rfl⟩, ⟨by decide, by decide⟩, by decide, by decide, nk_X7_heatMost, ln_X7_180, im_X7_heatMost, se_X7_heatMost, rfl⟩, List.forall_mem_cons.mpr ⟨⟨yX7_greatestStress, cX7_greatestStress, 3, (some .int), rm_X7_greatestStress, ct_X7_greatestStress l, ⟨rfl, rfl⟩, ⟨by decide, by decide⟩, by decide, by decide, nk_X7_greatestStress, ln_X7_76, im_X7_greatestStress, se_X7_greatestStress, rfl⟩, List.forall_mem_cons.mpr ⟨⟨yX7_leastMargin, cX7_leastMargin, 2, (some .int), rm_X7_leastMargin, ct_X7_leastMargin l, ⟨rfl, rfl⟩, ⟨by decide, by decide⟩, by decide, by decide, nk_X7_leastMargin, ln_X7_184, im_X7_leastMargin, se_X7_leastMargin, rfl⟩, List.forall_mem_cons.mpr ⟨⟨yX7_greatestPiece, cX7_greatestPiece, 3, (some .int), rm_X7_greatestPiece, ct_X7_greatestPiece l, ⟨rfl, rfl⟩, ⟨by decide, by decide⟩, by decide, by decide, nk_X7_greatestPiece, ln_X7_187, im_X7_greatestPiece, se_X7_greatestPiece, rfl⟩, fun _ h => absurd h List.not_mem_nil⟩⟩⟩⟩⟩⟩, (fun _ _ _ h => by cases h), (fun _ _ h => by cases h), ⟨Nat.le_refl _, Nat.le_refl _⟩, (fun h => by cases h), (fun h => absurd h (by decide))⟩) rfl rfl rfl (fun pc row h => (I_X7_count_ok pc row h).2)
