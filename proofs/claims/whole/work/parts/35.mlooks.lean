/-! ColdPanesModel: joint, count -/
def rm_X7_joint : Room := { frames := 5, cells := 0, slots := 0, locals := 105 }
noncomputable def G_X7_joint : mjG := (I_X7_joint, F_X7, [(102, 1, 0, 1, 0, 0, S_X7_isJoint), (47, 1, 0, 1, 0, 0, S_X7_firstOf), (50, 1, 0, 1, 0, 0, S_X7_secondOf), (63, 0, 6, 2, 0, 0, S_X7_isWhole), (56, 0, 6, 2, 0, 0, S_X7_stressOf), (168, 0, 6, 2, 0, 0, S_X7_touching)], (fun pc => bif Nat.beq pc 58 then [] else bif Nat.beq pc 53 then [] else bif Nat.beq pc 1 then [] else [0, 1, 2, 3, 4, 5, 6, 7]), Y_X7_joint, (fun _ => none), (fun _ => none), (some .int), 0, 0, false)
set_option maxHeartbeats 20000000 in
set_option maxRecDepth 100000 in
theorem ok_X7_joint : mjOK G_X7_joint 3 S_X7_joint := by
  intro M as hP T hT
  obtain ⟨⟨s, ad, pa, ke, pd, fl, nm, kn, ik, ln, sg, sp, fo, ho, ta, tR, tm⟩, x, y, rfl, rfl, hk⟩ : ∃ m x y, M = mw m ∧ as = [.ref 0, .int x, .int y] ∧ aOk m := ⟨_, _, _, hP.1.1, hP.1.2, hP.2⟩
  have fin : (S_X7_joint (mw (s, ad, pa, ke, pd, fl, nm, kn, ik, ln, sg, sp, fo, ho, ta, tR, tm)) [.ref 0, .int x, .int y]).2.1 = some (mw (rJoint (s, ad, pa, ke, pd, fl, nm, kn, ik, ln, sg, sp, fo, ho, ta, tR, tm) x y).1) := rfl
  have fin2 : (S_X7_joint (mw (s, ad, pa, ke, pd, fl, nm, kn, ik, ln, sg, sp, fo, ho, ta, tR, tm)) [.ref 0, .int x, .int y]).2.2 = some (.int (rJoint (s, ad, pa, ke, pd, fl, nm, kn, ik, ln, sg, sp, fo, ho, ta, tR, tm) x y).2) := rfl
  rw [rJoint] at fin fin2
  try dsimp only at fin fin2
  generalize S_X7_joint (mw (s, ad, pa, ke, pd, fl, nm, kn, ik, ln, sg, sp, fo, ho, ta, tR, tm)) [.ref 0, .int x, .int y] = SS at hT fin fin2
  have ix : ¬ gIsJoint x = 0 → ∃ k : Nat, k < 60 ∧ x = nI k := fun h => inJ_of (inJ_is h)
  refine hT.1 (fun pc => Nat.beq pc 9) 60 _ _ _ _ _ ?_
  refine And.intro ⟨rfl, rfl⟩ (And.intro (fun (h1 : ¬ gIsJoint x = 0) => ?_) (fun (h1 : gIsJoint x = 0) => ⟨by rw [fin, if_pos h1]; rfl, by rw [fin2, if_pos h1]⟩))
  obtain ⟨k, hk, rfl⟩ := ix h1
  rw [nI_clamp (by omega)] at fin fin2
  refine hT.1 (fun _ => false) 60 _ _ _ _ _ ?_
  refine And.intro (fun (e0 : y = 0) => And.intro ⟨rfl, rfl⟩ ⟨?_, ?_⟩) (fun (n0 : ¬ y = 0) => And.intro (fun (e1 : y = 1) => And.intro ⟨rfl, rfl⟩ ⟨?_, ?_⟩) (fun (n1 : ¬ y = 1) => And.intro (fun (e2 : y = 2) => And.intro ⟨⟨rfl, rfl⟩, inJ_is h1⟩ (And.intro (fun (w : gWh (vC s) (nI k) = 0) => ⟨?_, ?_⟩) (fun (w : ¬ gWh (vC s) (nI k) = 0) => ⟨?_, ?_⟩))) (fun (n2 : ¬ y = 2) => And.intro (fun (e3 : y = 3) => mjix_e (104 + k) (nI_add 104 k) (by omega) (by decide) ⟨?_, ?_⟩) (fun (n3 : ¬ y = 3) => And.intro (fun (e4 : y = 4) => And.intro ⟨⟨rfl, rfl⟩, inJ_is h1⟩ ⟨?_, ?_⟩) (fun (n4 : ¬ y = 4) => And.intro (fun (e5 : y = 5) => And.intro ⟨⟨rfl, rfl⟩, inJ_is h1⟩ (And.intro (fun (w : gWh (vC s) (nI k) = 0) => mjix_e (44 + k) (nI_add 44 k) (by omega) (by decide) ⟨?_, ?_⟩) (fun (w : ¬ gWh (vC s) (nI k) = 0) => ⟨?_, ?_⟩))) (fun (n5 : ¬ y = 5) => And.intro (fun (e6 : y = 6) => And.intro ⟨⟨rfl, rfl⟩, trivial⟩ ⟨?_, ?_⟩) (fun (n6 : ¬ y = 6) => ⟨?_, ?_⟩)))))))
  · rw [fin, if_neg h1, if_pos e0]; rfl
  · rw [fin2, if_neg h1, if_pos e0]; try rfl
  · rw [fin, if_neg h1, if_neg n0, if_pos e1]; rfl
  · rw [fin2, if_neg h1, if_neg n0, if_pos e1]; try rfl
  · rw [fin, if_neg h1, if_neg n0, if_neg n1, if_pos e2]; rfl
  · rw [fin2, if_neg h1, if_neg n0, if_neg n1, if_pos e2, if_pos w]; try rfl
  · rw [fin, if_neg h1, if_neg n0, if_neg n1, if_pos e2]; rfl
  · rw [fin2, if_neg h1, if_neg n0, if_neg n1, if_pos e2, if_neg w]; try rfl
  · rw [fin, if_neg h1, if_neg n0, if_neg n1, if_neg n2, if_pos e3]; rfl
  · rw [fin2, if_neg h1, if_neg n0, if_neg n1, if_neg n2, if_pos e3]; try rfl
  · rw [fin, if_neg h1, if_neg n0, if_neg n1, if_neg n2, if_neg n3, if_pos e4]; rfl
  · rw [fin2, if_neg h1, if_neg n0, if_neg n1, if_neg n2, if_neg n3, if_pos e4]; try rfl
  · rw [fin, if_neg h1, if_neg n0, if_neg n1, if_neg n2, if_neg n3, if_neg n4, if_pos e5]; rfl
  · rw [fin2, if_neg h1, if_neg n0, if_neg n1, if_neg n2, if_neg n3, if_neg n4, if_pos e5, if_pos w]; try rfl
  · rw [fin, if_neg h1, if_neg n0, if_neg n1, if_neg n2, if_neg n3, if_neg n4, if_pos e5]; rfl
  · rw [fin2, if_neg h1, if_neg n0, if_neg n1, if_neg n2, if_neg n3, if_neg n4, if_pos e5, if_neg w]; try rfl
  · rw [fin, if_neg h1, if_neg n0, if_neg n1, if_neg n2, if_neg n3, if_neg n4, if_neg n5, if_pos e6]; rfl
  · rw [fin2, if_neg h1, if_neg n0, if_neg n1, if_neg n2, if_neg n3, if_neg n4, if_neg n5, if_pos e6]; try rfl
  · rw [fin, if_neg h1, if_neg n0, if_neg n1, if_neg n2, if_neg n3, if_neg n4, if_neg n5, if_neg n6]; rfl
  · rw [fin2, if_neg h1, if_neg n0, if_neg n1, if_neg n2, if_neg n3, if_neg n4, if_neg n5, if_neg n6]; try rfl
set_option maxRecDepth 10000 in
theorem ct_X7_joint (l : Launch) : mjCT l yX7_joint cX7_joint 3 (some .int) rm_X7_joint S_X7_joint :=
  mjCT_of (own := RX7) (G := G_X7_joint) (plainFor_of_name pn_X7) rfl ok_X7_joint (fun meth hm => ⟨fun pc row h => (I_X7_joint_ok pc row h).1, F_X7_ok, List.forall_mem_cons.mpr ⟨⟨yX7_isJoint, cX7_isJoint, 1, (some .boolean), rm_X7_isJoint, ct_X7_isJoint l, ⟨rfl, rfl⟩, ⟨by decide, by decide⟩, by decide, nk_X7_isJoint, ln_X7_102, st_X7_isJoint⟩, List.forall_mem_cons.mpr ⟨⟨yX7_firstOf, cX7_firstOf, 1, (some .int), rm_X7_firstOf, ct_X7_firstOf l, ⟨rfl, rfl⟩, ⟨by decide, by decide⟩, by decide, nk_X7_firstOf, ln_X7_47, st_X7_firstOf⟩, List.forall_mem_cons.mpr ⟨⟨yX7_secondOf, cX7_secondOf, 1, (some .int), rm_X7_secondOf, ct_X7_secondOf l, ⟨rfl, rfl⟩, ⟨by decide, by decide⟩, by decide, nk_X7_secondOf, ln_X7_50, st_X7_secondOf⟩, List.forall_mem_cons.mpr ⟨⟨yX7_isWhole, cX7_isWhole, 2, (some .boolean), rm_X7_isWhole, ct_X7_isWhole l, ⟨rfl, rfl⟩, ⟨by decide, by decide⟩, by decide, by decide, nk_X7_isWhole, ln_X7_63, im_X7_isWhole, se_X7_isWhole, rfl⟩, List.forall_mem_cons.mpr ⟨⟨yX7_stressOf, cX7_stressOf, 2, (some .int), rm_X7_stressOf, ct_X7_stressOf l, ⟨rfl, rfl⟩, ⟨by decide, by decide⟩, by decide, by decide, nk_X7_stressOf, ln_X7_56, im_X7_stressOf, se_X7_stressOf, rfl⟩, List.forall_mem_cons.mpr ⟨⟨yX7_touching, cX7_touching, 4, (some .int), rm_X7_touching, ct_X7_touching l, ⟨rfl, rfl⟩, ⟨by decide, by decide⟩, by decide, by decide, nk_X7_touching, ln_X7_168, im_X7_touching, se_X7_touching, rfl⟩, fun _ h => absurd h List.not_mem_nil⟩⟩⟩⟩⟩⟩, (fun _ _ _ h => by cases h), (fun _ _ h => by cases h), ⟨Nat.le_refl _, Nat.le_refl _⟩, (fun h => by cases h), (fun h => absurd h (by decide))⟩) rfl rfl rfl (fun pc row h => (I_X7_joint_ok pc row h).2)
