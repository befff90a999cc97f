/-! ColdPanesModel: a minute -/
theorem gRi_s (h : Nat → Int32) (fu ri : Int32) (a : (Nat → Int32) × Int32) (i : Nat) : gRi h fu ri a (i + 1) = (upd (gRi h fu ri a i).1 i ((gRi h fu ri a i).1 i - gFr h fu ri i), (gRi h fu ri a i).2 + gFr h fu ri i) := rfl
theorem gJo_s (h c : Nat → Int32) (le : Int32) (g : Nat → Int32) (i : Nat) : gJo h c le g (i + 1) = if gWh c (nI i) = 0 then gJo h c le g i else gGain (gGain (gJo h c le g i) (gFirst (nI i)) (-(gFx h le (nI i)))) (gSecond (nI i)) (gFx h le (nI i)) := rfl
theorem gHe_s (g h : Nat → Int32) (i : Nat) : gHe g h (i + 1) = upd (gHe g h i) i (gHe g h i i + g i) := rfl
theorem kFl_of {h g s c : Nat → Int32} {fu ai ra le ri mi lo fl : Int32} {g2 g3 h4 : Nat → Int32} {lo3 : Int32} (e2 : g2 = gJo h c le (fillA 36 g 0) 60) (e3 : (g3, lo3) = gRi h fu ri (g2, lo) 36) (e4 : h4 = gHe g3 h 36) : kFl (h, g, s, c, fu, ai, ra, le, ri, mi, lo, fl) = (h4, g3, s, c, fu, ai, ra, le, ri, mi, lo3, fl) := by
  rw [kFl, kseal_eq, pFl, ← e2, ← e3, ← e4]
def rm_X7_flows : Room := { frames := 2, cells := 0, slots := 0, locals := 40 }
noncomputable def G_X7_flows : mjG := (I_X7_flows, F_X7, [(63, 0, 6, 2, 0, 0, S_X7_isWhole), (47, 1, 0, 1, 0, 0, S_X7_firstOf), (50, 1, 0, 1, 0, 0, S_X7_secondOf), (67, 1, 0, 1, 0, 0, S_X7_sidesOf)], (fun pc => bif Nat.beq pc 31 then [0, 1, 2, 3, 4, 5, 6, 7] else []), Y0, (fun _ => none), (fun _ => none), none, 0, 0, false)
set_option maxHeartbeats 20000000 in
set_option maxRecDepth 100000 in
theorem ok_X7_flows : mjOK G_X7_flows 3 S_X7_flows := by
  intro M as hP T hT
  obtain ⟨⟨s, ad, pa, ke, pd, fl, nm, kn, ik, ln, sg, sp, fo, ho, ta, tR, tm⟩, rfl, rfl, hs⟩ : ∃ m, M = mw m ∧ as = [.ref 0] ∧ sZ m.1 := ⟨_, hP.1.1, hP.1.2, hP.2⟩
  obtain ⟨h, st, c, fu, ai, ra, le, ri, mi, lo, fm, hz, rfl⟩ : ∃ (h st c : Nat → Int32) (fu ai ra le ri mi lo fm : Int32), pZ (h, fl, st, c, fu, ai, ra, le, ri, mi, lo, fm) ∧ s = mE (h, fl, st, c, fu, ai, ra, le, ri, mi, lo, fm) := ex_mE fl hs
  have fin : (S_X7_flows (mw ((mE (h, fl, st, c, fu, ai, ra, le, ri, mi, lo, fm)), ad, pa, ke, pd, fl, nm, kn, ik, ln, sg, sp, fo, ho, ta, tR, tm)) [.ref 0]).2.1 = some (mw ((mE (kFl (mD (mE (h, fl, st, c, fu, ai, ra, le, ri, mi, lo, fm)) fl))), ad, pa, ke, pd, (kFl (mD (mE (h, fl, st, c, fu, ai, ra, le, ri, mi, lo, fm)) fl)).2.1, nm, kn, ik, ln, sg, sp, fo, ho, ta, tR, tm)) := rfl
  have fin2 : (S_X7_flows (mw ((mE (h, fl, st, c, fu, ai, ra, le, ri, mi, lo, fm)), ad, pa, ke, pd, fl, nm, kn, ik, ln, sg, sp, fo, ho, ta, tR, tm)) [.ref 0]).2.2 = none := rfl
  rw [mD_E hz] at fin
  dsimp only at fin
  generalize S_X7_flows (mw ((mE (h, fl, st, c, fu, ai, ra, le, ri, mi, lo, fm)), ad, pa, ke, pd, fl, nm, kn, ik, ln, sg, sp, fo, ho, ta, tR, tm)) [.ref 0] = SS at hT fin fin2
  generalize hK : kFl (h, fl, st, c, fu, ai, ra, le, ri, mi, lo, fm) = K at fin
  have s4 : ∀ g3 lo3 s3, K = (gHe g3 h 36, g3, st, c, fu, ai, ra, le, ri, mi, lo3, fm) → s3 = (mE (h, fl, st, c, fu, ai, ra, le, ri, mi, lo3, fm)) → T 175 [some (.ref 0), some (.int (nI 0)), none] [] (mw (s3, ad, pa, ke, pd, g3, nm, kn, ik, ln, sg, sp, fo, ho, ta, tR, tm)) (0, 0) := by
    intro g3 lo3 s3 eK e3
    rw [eK] at fin
    refine mjloop0 36 (fun i => ∀ s', s' = (mE ((gHe g3 h i), fl, st, c, fu, ai, ra, le, ri, mi, lo3, fm)) → T 175 [some (.ref 0), some (.int (nI i)), none] [] (mw (s', ad, pa, ke, pd, g3, nm, kn, ik, ln, sg, sp, fo, ho, ta, tR, tm)) (0, 0)) (fun i hi ih s' hs' => ?_) (fun s' hs' => ?_) s3 e3
    · rw [nI_succ, gHe_s] at ih
      refine hT.1 (fun pc => Nat.beq pc 175) 60 _ _ _ _ _ ?_
      refine And.intro (fun h => absurd h (nI_ge hi (by decide))) (fun _ => mjix_e (8 + i) (nI_add 8 i) (by omega) (by decide) (mjix_n hi (by decide) (mjix_e (8 + i) (nI_add 8 i) (by omega) (by decide) (ih _ ?_))))
      rw [hs', mE_h hi, mE_uh hi]
    · refine hT.1 (fun pc => Nat.beq pc 175) 60 _ _ _ _ _ ?_
      refine And.intro (fun _ => ⟨?_, fin2.symm⟩) (fun h => absurd (nI_le (Nat.le_refl 36) (by decide)) h)
      rw [fin, hs']
      rfl
  have s3 : ∀ g2, g2 = gJo h c le (fillA 36 fl 0) 60 → T 108 [some (.ref 0), some (.int (nI 0)), none] [] (mw ((mE (h, fl, st, c, fu, ai, ra, le, ri, mi, lo, fm)), ad, pa, ke, pd, g2, nm, kn, ik, ln, sg, sp, fo, ho, ta, tR, tm)) (0, 0) := by
    intro g2 e2
    refine mjloop0 36 (fun i => ∀ g3 lo3 s', (g3, lo3) = gRi h fu ri (g2, lo) i → s' = (mE (h, fl, st, c, fu, ai, ra, le, ri, mi, lo3, fm)) → T 108 [some (.ref 0), some (.int (nI i)), none] [] (mw (s', ad, pa, ke, pd, g3, nm, kn, ik, ln, sg, sp, fo, ho, ta, tR, tm)) (0, 0)) (fun i hi ih g3 lo3 s' hg hs' => ?_) (fun g3 lo3 s' hg hs' => ?_) g2 lo _ rfl rfl
    · have e := gRi_s h fu ri (g2, lo) i
      rw [← hg] at e
      dsimp only at e
      rw [nI_succ, e] at ih
      refine hT.1 (fun pc => Nat.beq pc 108) 60 _ _ _ _ _ ?_
      refine And.intro (fun h => absurd h (nI_ge hi (by decide))) (fun _ => mjix_e (8 + i) (nI_add 8 i) (by omega) (by decide) (mjix_e 0 rfl (by decide) (by decide) (mjix_e 7 rfl (by decide) (by decide) (And.intro ⟨rfl, rfl⟩ (mjix_n hi (by decide) (mjix_n hi (by decide) (mjix_e 4 rfl (by decide) (by decide) (mjix_e 4 rfl (by decide) (by decide) ?_))))))))
      have ev : s' (8 + i) = h i := by rw [hs', mE_h hi]
      have e0 : s' 0 = fu := by rw [hs']; rfl
      have e7 : s' 7 = ri := by rw [hs']; rfl
      have e4 : s' 4 = lo3 := by rw [hs']; rfl
      have ef : (s' (8 + i) - s' 0) * s' 7 / 100 * gRim (nI i) = gFr h fu ri i := by rw [ev, e0, e7]; rfl
      refine hT.2 [true, true, false] _ _ _ _ _ (ih (upd g3 i (g3 i - (s' (8 + i) - s' 0) * s' 7 / 100 * gRim (nI i))) (s' 4 + (s' (8 + i) - s' 0) * s' 7 / 100 * gRim (nI i)) _ ?_ ?_)
      · rw [ef, e4]
      · show upd s' 4 (s' 4 + (s' (8 + i) - s' 0) * s' 7 / 100 * gRim (nI i)) = _
        rw [ef, e4, hs', mE_u4]
    · refine hT.1 (fun pc => Nat.beq pc 175) 60 _ _ _ _ _ ?_
      refine And.intro (fun _ => s4 g3 lo3 s' ?_ hs') (fun h => absurd (nI_le (Nat.le_refl 36) (by decide)) h)
      rw [← hK]
      exact kFl_of e2 hg rfl
  have s2 : ∀ g1, g1 = fillA 36 fl 0 → T 23 [some (.ref 0), some (.int (nI 0)), none] [] (mw ((mE (h, fl, st, c, fu, ai, ra, le, ri, mi, lo, fm)), ad, pa, ke, pd, g1, nm, kn, ik, ln, sg, sp, fo, ho, ta, tR, tm)) (0, 0) := by
    intro g1 e1
    refine mjloop0 60 (fun i => ∀ g2, g2 = gJo h c le (fillA 36 fl 0) i → T 23 [some (.ref 0), some (.int (nI i)), none] [] (mw ((mE (h, fl, st, c, fu, ai, ra, le, ri, mi, lo, fm)), ad, pa, ke, pd, g2, nm, kn, ik, ln, sg, sp, fo, ho, ta, tR, tm)) (0, 0)) (fun i hi ih g2 hg => ?_) (fun g2 hg => ?_) g1 e1
    · rw [nI_succ, gJo_s, ← hg] at ih
      have l1 := nF_lt hi
      have l2 := nS_lt hi
      have e1 : 8 + gFirst (nI i) = nI (8 + nF i) := by rw [gFirst_n hi]; exact nI_add 8 _
      have e2 : 8 + gSecond (nI i) = nI (8 + nS i) := by rw [gSecond_n hi]; exact nI_add 8 _
      refine hT.1 (fun pc => Nat.beq pc 23 || Nat.beq pc 74) 60 _ _ _ _ _ ?_
      refine And.intro (fun h => absurd h (nI_ge hi (by decide))) (fun _ => And.intro ⟨⟨rfl, rfl⟩, inJ_n hi⟩ (And.intro (fun (h1 : gWh (vC (mE (h, fl, st, c, fu, ai, ra, le, ri, mi, lo, fm))) (nI i) = 0) => ?_) (fun (h1 : ¬ gWh (vC (mE (h, fl, st, c, fu, ai, ra, le, ri, mi, lo, fm))) (nI i) = 0) => And.intro ⟨rfl, rfl⟩ (mjix_e (8 + nF i) e1 (by omega) (by decide) (And.intro ⟨rfl, rfl⟩ (mjix_e (8 + nS i) e2 (by omega) (by decide) (mjix_e 6 rfl (by decide) (by decide) ?_)))))))
      · rw [vC_E hz] at h1
        exact hT.2 [true, true, false] _ _ _ _ _ (ih _ (if_pos h1).symm)
      · rw [vC_E hz] at h1
        rw [if_neg h1] at ih
        have ef : ((mE (h, fl, st, c, fu, ai, ra, le, ri, mi, lo, fm)) (8 + nF i) - (mE (h, fl, st, c, fu, ai, ra, le, ri, mi, lo, fm)) (8 + nS i)) * (mE (h, fl, st, c, fu, ai, ra, le, ri, mi, lo, fm)) 6 / 100 = gFx h le (nI i) := by
          rw [mE_h l1, mE_h l2, fx_n hi]
          rfl
        have s5 : ∀ f : Int32, f = gFx h le (nI i) → T 74 [some (.ref 0), some (.int (nI i)), some (.int f)] [] (mw ((mE (h, fl, st, c, fu, ai, ra, le, ri, mi, lo, fm)), ad, pa, ke, pd, g2, nm, kn, ik, ln, sg, sp, fo, ho, ta, tR, tm)) (0, 0) := by
          intro f hf
          refine hT.1 (fun pc => Nat.beq pc 23) 60 _ _ _ _ _ ?_
          refine And.intro ⟨rfl, rfl⟩ (mjix_e (nF i) (gFirst_n hi) l1 (by decide) (mjix_e (nF i) (gFirst_n hi) l1 (by decide) (And.intro ⟨rfl, rfl⟩ (mjix_e (nS i) (gSecond_n hi) l2 (by decide) (mjix_e (nS i) (gSecond_n hi) l2 (by decide) ?_)))))
          refine hT.2 [true, true, false] _ _ _ _ _ (ih (upd (upd g2 (nF i) (g2 (nF i) - f)) (nS i) (upd g2 (nF i) (g2 (nF i) - f) (nS i) + f)) ?_)
          rw [gFirst_n hi, gSecond_n hi, gain_n l1, gain_n l2, hf, ← Int32.sub_eq_add_neg]
        exact s5 _ ef
    · refine hT.1 (fun pc => Nat.beq pc 108) 60 _ _ _ _ _ ?_
      exact And.intro (fun _ => s3 g2 hg) (fun h => absurd (nI_le (Nat.le_refl 60) (by decide)) h)
  refine hT.1 (fun pc => Nat.beq pc 2) 60 _ _ _ _ _ ?_
  refine mjloop0 36 (fun i => ∀ g1, g1 = fillA i fl 0 → T 2 [some (.ref 0), some (.int (nI i)), none] [] (mw ((mE (h, fl, st, c, fu, ai, ra, le, ri, mi, lo, fm)), ad, pa, ke, pd, g1, nm, kn, ik, ln, sg, sp, fo, ho, ta, tR, tm)) (0, 0)) (fun i hi ih g1 hg => ?_) (fun g1 hg => ?_) fl fill0.symm
  · rw [nI_succ] at ih
    refine hT.1 (fun pc => Nat.beq pc 2) 60 _ _ _ _ _ ?_
    refine And.intro (fun h => absurd h (nI_ge hi (by decide))) (fun _ => mjix_n hi (by decide) (ih _ ?_))
    rw [hg]
    exact tr_fill (n := 36)
  · refine hT.1 (fun pc => Nat.beq pc 23) 60 _ _ _ _ _ ?_
    exact And.intro (fun _ => s2 g1 hg) (fun h => absurd (nI_le (Nat.le_refl 36) (by decide)) h)
set_option maxRecDepth 10000 in
theorem ct_X7_flows (l : Launch) : mjCT l yX7_flows cX7_flows 3 none rm_X7_flows S_X7_flows :=
  mjCT_of (own := RX7) (G := G_X7_flows) (plainFor_of_name pn_X7) rfl ok_X7_flows (fun meth hm => ⟨fun pc row h => (I_X7_flows_ok pc row h).1, F_X7_ok, List.forall_mem_cons.mpr ⟨⟨yX7_isWhole, cX7_isWhole, 2, (some .boolean), rm_X7_isWhole, ct_X7_isWhole l, ⟨rfl, rfl⟩, ⟨by decide, by decide⟩, by decide, by decide, nk_X7_isWhole, ln_X7_63, im_X7_isWhole, se_X7_isWhole, rfl⟩, List.forall_mem_cons.mpr ⟨⟨yX7_firstOf, cX7_firstOf, 1, (some .int), rm_X7_firstOf, ct_X7_firstOf l, ⟨rfl, rfl⟩, ⟨by decide, by decide⟩, by decide, nk_X7_firstOf, ln_X7_47, st_X7_firstOf⟩, List.forall_mem_cons.mpr ⟨⟨yX7_secondOf, cX7_secondOf, 1, (some .int), rm_X7_secondOf, ct_X7_secondOf l, ⟨rfl, rfl⟩, ⟨by decide, by decide⟩, by decide, nk_X7_secondOf, ln_X7_50, st_X7_secondOf⟩, List.forall_mem_cons.mpr ⟨⟨yX7_sidesOf, cX7_sidesOf, 3, (some .int), rm_X7_sidesOf, ct_X7_sidesOf l, ⟨rfl, rfl⟩, ⟨by decide, by decide⟩, by decide, nk_X7_sidesOf, ln_X7_67, st_X7_sidesOf⟩, fun _ h => absurd h List.not_mem_nil⟩⟩⟩⟩, (fun _ _ _ h => by cases h), (fun _ _ h => by cases h), ⟨Nat.le_refl _, Nat.le_refl _⟩, (fun h => by cases h), (fun h => absurd h (by decide))⟩) rfl rfl rfl (fun pc row h => (I_X7_flows_ok pc row h).2)
def rm_X7_minute : Room := { frames := 5, cells := 0, slots := 0, locals := 105 }
noncomputable def G_X7_minute : mjG := (I_X7_minute, F_X7, [(53, 1, 0, 1, 0, 0, S_X7_size), (73, 0, 6, 1, 0, 0, S_X7_flows), (76, 0, 6, 1, 0, 0, S_X7_greatestStress), (83, 0, 6, 1, 0, 0, S_X7_worst), (63, 0, 6, 2, 0, 0, S_X7_isWhole), (86, 1, 0, 2, 0, 0, S_X7_touch)], (fun pc => bif Nat.beq pc 128 then [] else bif Nat.beq pc 28 then [] else bif Nat.beq pc 15 then [] else [0, 1, 2, 3, 4, 5, 6, 7]), Y0, (fun _ => none), (fun _ => none), (some .int), 0, 0, false)
theorem mWeak_s (c : Nat → Int32) (w : Int32) (s : Nat → Int32) (i : Nat) : mWeak c w s (i + 1) = if gWh c (nI i) = 0 then mWeak c w s i else if gTouch w (nI i) = 0 then mWeak c w s i else upd (mWeak c w s i) i (mWk (mWeak c w s i i)) := rfl
set_option maxHeartbeats 20000000 in
set_option maxRecDepth 100000 in
theorem ok_X7_minute : mjOK G_X7_minute 6 S_X7_minute := by
  intro M as hP T hT
  obtain ⟨⟨s, ad, pa, ke, pd, fl, nm, kn, ik, ln, sg, sp, fo, ho, ta, tR, tm⟩, rfl, rfl, hs⟩ : ∃ m, M = mw m ∧ as = [.ref 0] ∧ sZ m.1 := ⟨_, hP.1.1, hP.1.2, hP.2⟩
  obtain ⟨h, st, c, fu, ai, ra, le, ri, mi, lo, fm, hz, rfl⟩ : ∃ (h st c : Nat → Int32) (fu ai ra le ri mi lo fm : Int32), pZ (h, fl, st, c, fu, ai, ra, le, ri, mi, lo, fm) ∧ s = mE (h, fl, st, c, fu, ai, ra, le, ri, mi, lo, fm) := ex_mE fl hs
  have fin : (S_X7_minute (mw ((mE (h, fl, st, c, fu, ai, ra, le, ri, mi, lo, fm)), ad, pa, ke, pd, fl, nm, kn, ik, ln, sg, sp, fo, ho, ta, tR, tm)) [.ref 0]).2.1 = some (mw ((mE (kMin7 (mD (mE (h, fl, st, c, fu, ai, ra, le, ri, mi, lo, fm)) fl)).1), ad, pa, ke, pd, (kMin7 (mD (mE (h, fl, st, c, fu, ai, ra, le, ri, mi, lo, fm)) fl)).1.2.1, nm, kn, ik, ln, (kMin7 (mD (mE (h, fl, st, c, fu, ai, ra, le, ri, mi, lo, fm)) fl)).2.1, sp, fo, ho, ta, tR, tm)) := rfl
  have fin2 : (S_X7_minute (mw ((mE (h, fl, st, c, fu, ai, ra, le, ri, mi, lo, fm)), ad, pa, ke, pd, fl, nm, kn, ik, ln, sg, sp, fo, ho, ta, tR, tm)) [.ref 0]).2.2 = some (.int (kMin7 (mD (mE (h, fl, st, c, fu, ai, ra, le, ri, mi, lo, fm)) fl)).2.2) := rfl
  rw [mD_E hz] at fin fin2
  dsimp only at fin fin2
  generalize S_X7_minute (mw ((mE (h, fl, st, c, fu, ai, ra, le, ri, mi, lo, fm)), ad, pa, ke, pd, fl, nm, kn, ik, ln, sg, sp, fo, ho, ta, tR, tm)) [.ref 0] = SS at hT fin fin2
  have hK : kMin7 (h, fl, st, c, fu, ai, ra, le, ri, mi, lo, fm) = pCr7 (pTick (kFl (h, fl, st, c, (mFur fu ai ra), ai, ra, le, ri, mi, lo, fm))) := by
    rw [kMin7, kseal_eq]
    rfl
  generalize kMin7 (h, fl, st, c, fu, ai, ra, le, ri, mi, lo, fm) = K at fin fin2 hK
  have hzF : pZ (h, fl, st, c, (mFur fu ai ra), ai, ra, le, ri, mi, lo, fm) := hz
  have hz1 := pZ_fl hzF
  generalize hkf : kFl (h, fl, st, c, (mFur fu ai ra), ai, ra, le, ri, mi, lo, fm) = q1 at hK hz1
  obtain ⟨h1, g1, st1, c1, fu1, ai1, ra1, le1, ri1, mi1, lo1, fm1⟩ := q1
  have hKz : K = (if mWorst h1 st1 c1 60 < 0 then (h1, g1, st1, c1, fu1, ai1, ra1, le1, ri1, (mi1 + 1), lo1, fm1) else (h1, g1, (mWeak (upd c1 (mWorst h1 st1 c1 60).toNatClampNeg (mi1 + 1)) (mWorst h1 st1 c1 60) st1 60), (upd c1 (mWorst h1 st1 c1 60).toNatClampNeg (mi1 + 1)), fu1, ai1, ra1, le1, ri1, (mi1 + 1), lo1, fm1), gStrMax h1 c1, mWorst h1 st1 c1 60) := hK
  have s4 : ∀ (a b v w : Int32), v = gStrMax h1 c1 → w = mWorst h1 st1 c1 60 → T 87 [some (.ref 0), some (.int a), some (.int b), some (.int w), none, none] [] (mw ((mE (h1, g1, st1, c1, fu1, ai1, ra1, le1, ri1, (mi1 + 1), lo1, fm1)), ad, pa, ke, pd, g1, nm, kn, ik, ln, v, sp, fo, ho, ta, tR, tm)) (0, 0) := by
    intro a b v w hv hw
    have hin : w = -4 ∨ inJ w := by
      rw [hw]
      exact mWorst_in _ _ _ 60 (Nat.le_refl _)
    rw [← hv, ← hw] at hKz
    rw [hKz] at fin fin2
    by_cases hneg : w < 0
    · rw [if_pos hneg] at fin fin2
      refine hT.1 (fun _ => false) 60 _ _ _ _ _ ?_
      exact And.intro (fun _ => ⟨by rw [fin]; rfl, fin2.symm⟩) (fun h => absurd hneg h)
    · rw [if_neg hneg] at fin fin2
      obtain ⟨j, hj, rfl⟩ : ∃ j : Nat, j < 60 ∧ w = nI j := inJ_of (hin.resolve_left (fun e => hneg (by rw [e]; decide)))
      rw [nI_clamp (by omega)] at fin fin2
      generalize hc2 : upd c1 j (mi1 + 1) = c2 at fin fin2
      have hz5 : ∀ i, i ≤ 60 → pZ (h1, g1, (mWeak c2 (nI j) st1 i), c2, fu1, ai1, ra1, le1, ri1, (mi1 + 1), lo1, fm1) := fun i hi => ⟨hz1.1, mWeak_z hz1.2.1 i hi, by rw [← hc2]; exact upd_z hz1.2.2 hj⟩
      have s5 : ∀ s', s' = mE (h1, g1, st1, c2, fu1, ai1, ra1, le1, ri1, (mi1 + 1), lo1, fm1) → T 109 [some (.ref 0), some (.int a), some (.int b), some (.int (nI j)), some (.int (nI 0)), none] [] (mw (s', ad, pa, ke, pd, g1, nm, kn, ik, ln, v, sp, fo, ho, ta, tR, tm)) (0, 0) := by
        intro s' hs'
        refine mjloop0 60 (fun i => ∀ s', s' = mE (h1, g1, (mWeak c2 (nI j) st1 i), c2, fu1, ai1, ra1, le1, ri1, (mi1 + 1), lo1, fm1) → T 109 [some (.ref 0), some (.int a), some (.int b), some (.int (nI j)), some (.int (nI i)), none] [] (mw (s', ad, pa, ke, pd, g1, nm, kn, ik, ln, v, sp, fo, ho, ta, tR, tm)) (0, 0)) (fun i hi ih s' hs' => ?_) (fun s' hs' => ?_) s' hs'
        · rw [nI_succ, mWeak_s] at ih
          have hzi := hz5 i (by omega)
          generalize mWeak c2 (nI j) st1 i = sti at ih hs' hzi
          have eC : vC s' = c2 := by rw [hs', vC_E hzi]
          have eS : s' (104 + i) = sti i := by rw [hs', mE_s hi]
          have ih : ∀ s' (l : Option Value), s' = mE (h1, g1, (if gWh c2 (nI i) = 0 then sti else if gTouch (nI j) (nI i) = 0 then sti else upd sti i (mWk (sti i))), c2, fu1, ai1, ra1, le1, ri1, (mi1 + 1), lo1, fm1) → T 109 [some (.ref 0), some (.int a), some (.int b), some (.int (nI j)), some (.int (nI i + 1)), l] [] (mw (s', ad, pa, ke, pd, g1, nm, kn, ik, ln, v, sp, fo, ho, ta, tR, tm)) (0, 0) := fun s' l h => hT.2 [true, true, true, true, true, false] _ _ _ _ _ (ih s' h)
          refine hT.1 (fun pc => Nat.beq pc 109) 60 _ _ _ _ _ ?_
          refine And.intro (fun h => absurd h (nI_ge hi (by decide))) (fun _ => And.intro ⟨⟨rfl, rfl⟩, inJ_n hi⟩ (And.intro (fun (k1 : gWh (vC s') (nI i) = 0) => ih s' _ ?_) (fun (k1 : ¬ gWh (vC s') (nI i) = 0) => And.intro ⟨rfl, rfl⟩ (And.intro (fun (k2 : gTouch (nI j) (nI i) = 0) => ih s' _ ?_) (fun (k2 : ¬ gTouch (nI j) (nI i) = 0) => mjix_e (104 + i) (nI_add 104 i) (by omega) (by decide) (And.intro (fun (k3 : 1 ≤ 9 * s' (104 + i) / 10) => mjix_e (104 + i) (nI_add 104 i) (by omega) (by decide) (ih (upd s' (104 + i) (9 * s' (104 + i) / 10)) _ ?_)) (fun (k3 : ¬ 1 ≤ 9 * s' (104 + i) / 10) => mjix_e (104 + i) (nI_add 104 i) (by omega) (by decide) (ih (upd s' (104 + i) 1) _ ?_))))))))
          · rw [eC] at k1
            rw [if_pos k1, hs']
          · rw [eC] at k1
            rw [if_neg k1, if_pos k2, hs']
          · rw [eC] at k1
            rw [eS] at k3
            rw [if_neg k1, if_neg k2, eS, hs', mE_us hi, mWk, if_pos k3]
          · rw [eC] at k1
            rw [eS] at k3
            rw [if_neg k1, if_neg k2, hs', mE_us hi, mWk, if_neg k3]
        · refine hT.1 (fun pc => Nat.beq pc 109) 60 _ _ _ _ _ ?_
          refine And.intro (fun _ => ⟨?_, fin2.symm⟩) (fun h => absurd (nI_le (Nat.le_refl 60) (by decide)) h)
          rw [fin, hs']
          rfl
      refine hT.1 (fun pc => Nat.beq pc 109) 60 _ _ _ _ _ ?_
      refine And.intro (fun h => absurd h hneg) (fun _ => mjix_e 3 rfl (by decide) (by decide) (mjix_e (44 + j) (nI_add 44 j) (by omega) (by decide) (s5 _ ?_)))
      rw [← hc2]
      exact mE_uc hj
  have s3 : ∀ (a b : Int32) s', s' = mE (h1, g1, st1, c1, fu1, ai1, ra1, le1, ri1, (mi1 + 1), lo1, fm1) → T 74 [some (.ref 0), some (.int a), some (.int b), none, none, none] [] (mw (s', ad, pa, ke, pd, g1, nm, kn, ik, ln, sg, sp, fo, ho, ta, tR, tm)) (0, 0) := by
    intro a b s' hs'
    have hz2 : pZ (h1, g1, st1, c1, fu1, ai1, ra1, le1, ri1, (mi1 + 1), lo1, fm1) := hz1
    have eH : vH s' = h1 := by rw [hs', vH_E hz2]
    have eC : vC s' = c1 := by rw [hs', vC_E hz2]
    have eS : vS s' = st1 := by rw [hs', vS_E hz2]
    rw [← hs'] at s4
    refine hT.1 (fun pc => Nat.beq pc 87) 60 _ _ _ _ _ ?_
    refine And.intro ⟨rfl, rfl⟩ (And.intro ⟨rfl, rfl⟩ (s4 a b (kseal (gStrMax (vH s') (vC s'))) (kseal (mWorst (vH s') (vS s') (vC s') 60)) ?_ ?_))
    · rw [kseal_eq, eH, eC]
    · rw [kseal_eq, eH, eC, eS]
  have s2 : ∀ (a b : Int32) q, q = (h1, g1, st1, c1, fu1, ai1, ra1, le1, ri1, mi1, lo1, fm1) → T 64 [some (.ref 0), some (.int a), some (.int b), none, none, none] [] (mw ((mE q), ad, pa, ke, pd, q.2.1, nm, kn, ik, ln, sg, sp, fo, ho, ta, tR, tm)) (0, 0) := by
    intro a b q hq
    subst hq
    refine hT.1 (fun pc => Nat.beq pc 74) 60 _ _ _ _ _ ?_
    refine mjix_e 3 rfl (by decide) (by decide) (mjix_e 3 rfl (by decide) (by decide) (s3 a b _ ?_))
    exact mE_u3
  have s1 : ∀ (a b : Int32) s', s' = mE (h, fl, st, c, (mFur fu ai ra), ai, ra, le, ri, mi, lo, fm) → T 60 [some (.ref 0), some (.int a), some (.int b), none, none, none] [] (mw (s', ad, pa, ke, pd, fl, nm, kn, ik, ln, sg, sp, fo, ho, ta, tR, tm)) (0, 0) := by
    intro a b s' hs'
    subst hs'
    refine hT.1 (fun pc => Nat.beq pc 64) 60 _ _ _ _ _ ?_
    refine And.intro ⟨⟨rfl, rfl⟩, sZ_E⟩ (s2 a b (kFl (mD (mE (h, fl, st, c, (mFur fu ai ra), ai, ra, le, ri, mi, lo, fm)) fl)) ?_)
    rw [mD_E hzF]
    exact hkf
  refine hT.1 (fun pc => Nat.beq pc 60) 60 _ _ _ _ _ ?_
  refine mjix_e 1 rfl (by decide) (by decide) (mjix_e 0 rfl (by decide) (by decide) (And.intro ⟨rfl, rfl⟩ (mjix_e 2 rfl (by decide) (by decide) (And.intro (fun (k1 : ra ≤ gAbs (ai - fu)) => mjix_e 2 rfl (by decide) (by decide) (mjix_e 0 rfl (by decide) (by decide) (And.intro (fun (k2 : 0 ≤ ai - fu) => mjix_e 0 rfl (by decide) (by decide) (s1 _ _ _ ?_)) (fun (k2 : ¬ 0 ≤ ai - fu) => mjix_e 0 rfl (by decide) (by decide) (s1 _ _ _ ?_))))) (fun (k1 : ¬ ra ≤ gAbs (ai - fu)) => And.intro ⟨rfl, rfl⟩ (mjix_e 0 rfl (by decide) (by decide) (And.intro (fun (k2 : 0 ≤ ai - fu) => mjix_e 0 rfl (by decide) (by decide) (s1 _ _ _ ?_)) (fun (k2 : ¬ 0 ≤ ai - fu) => mjix_e 0 rfl (by decide) (by decide) (s1 _ _ _ ?_)))))))))
  · rw [mFur, if_pos k2, mStep, if_pos k1]
    exact mE_u0
  · rw [mFur, if_neg k2, mStep, if_pos k1]
    exact mE_u0
  · rw [mFur, if_pos k2, mStep, if_neg k1]
    exact mE_u0
  · rw [mFur, if_neg k2, mStep, if_neg k1]
    exact mE_u0
set_option maxRecDepth 10000 in
theorem ct_X7_minute (l : Launch) : mjCT l yX7_minute cX7_minute 6 (some .int) rm_X7_minute S_X7_minute :=
  mjCT_of (own := RX7) (G := G_X7_minute) (plainFor_of_name pn_X7) rfl ok_X7_minute (fun meth hm => ⟨fun pc row h => (I_X7_minute_ok pc row h).1, F_X7_ok, List.forall_mem_cons.mpr ⟨⟨yX7_size, cX7_size, 1, (some .int), rm_X7_size, ct_X7_size l, ⟨rfl, rfl⟩, ⟨by decide, by decide⟩, by decide, nk_X7_size, ln_X7_53, st_X7_size⟩, List.forall_mem_cons.mpr ⟨⟨yX7_flows, cX7_flows, 3, none, rm_X7_flows, ct_X7_flows l, ⟨rfl, rfl⟩, ⟨by decide, by decide⟩, by decide, by decide, nk_X7_flows, ln_X7_73, im_X7_flows, se_X7_flows, rfl⟩, List.forall_mem_cons.mpr ⟨⟨yX7_greatestStress, cX7_greatestStress, 3, (some .int), rm_X7_greatestStress, ct_X7_greatestStress l, ⟨rfl, rfl⟩, ⟨by decide, by decide⟩, by decide, by decide, nk_X7_greatestStress, ln_X7_76, im_X7_greatestStress, se_X7_greatestStress, rfl⟩, List.forall_mem_cons.mpr ⟨⟨yX7_worst, cX7_worst, 4, (some .int), rm_X7_worst, ct_X7_worst l, ⟨rfl, rfl⟩, ⟨by decide, by decide⟩, by decide, by decide, nk_X7_worst, ln_X7_83, im_X7_worst, se_X7_worst, rfl⟩, List.forall_mem_cons.mpr ⟨⟨yX7_isWhole, cX7_isWhole, 2, (some .boolean), rm_X7_isWhole, ct_X7_isWhole l, ⟨rfl, rfl⟩, ⟨by decide, by decide⟩, by decide, by decide, nk_X7_isWhole, ln_X7_63, im_X7_isWhole, se_X7_isWhole, rfl⟩, List.forall_mem_cons.mpr ⟨⟨yX7_touch, cX7_touch, 2, (some .boolean), rm_X7_touch, ct_X7_touch l, ⟨rfl, rfl⟩, ⟨by decide, by decide⟩, by decide, nk_X7_touch, ln_X7_86, st_X7_touch⟩, fun _ h => absurd h List.not_mem_nil⟩⟩⟩⟩⟩⟩, (fun _ _ _ h => by cases h), (fun _ _ h => by cases h), ⟨Nat.le_refl _, Nat.le_refl _⟩, (fun h => by cases h), (fun h => absurd h (by decide))⟩) rfl rfl rfl (fun pc row h => (I_X7_minute_ok pc row h).2)
def rm_X7_goPass : Room := { frames := 6, cells := 0, slots := 0, locals := 130 }
noncomputable def G_X7_goPass : mjG := (I_X7_goPass, F_X7, [(89, 0, 6, 1, 0, 0, S_X7_minute)], (fun pc => [0, 1, 2, 3, 4, 5, 6, 7]), Y0, (fun _ => none), (fun _ => none), (some .int), 0, 0, false)
theorem mPass_s (p : PSt) (x : Int32) (i : Nat) : mPass p x (i + 1) = ((kMin7 (mPass p x i).1).1, (kMin7 (mPass p x i).1).2.1, if 0 ≤ (kMin7 (mPass p x i).1).2.2 then (mPass p x i).2.2 + 1 else (mPass p x i).2.2) := rfl
set_option maxHeartbeats 20000000 in
set_option maxRecDepth 100000 in
theorem ok_X7_goPass : mjOK G_X7_goPass 4 S_X7_goPass := by
  intro M as hP T hT
  obtain ⟨⟨s, ad, pa, ke, pd, fl, nm, kn, ik, ln, sg, sp, fo, ho, ta, tR, tm⟩, n, rfl, rfl, hs⟩ : ∃ m n, M = mw m ∧ as = [.ref 0, .int n] ∧ sZ m.1 := ⟨_, _, hP.1.1, hP.1.2, hP.2⟩
  obtain ⟨p, hz, rfl, hg⟩ : ∃ p : PSt, pZ p ∧ s = mE p ∧ p.2.1 = fl := ⟨mD s fl, mD_z _ _, (mE_D hs).symm, rfl⟩
  subst hg
  have fin : (S_X7_goPass (mw ((mE p), ad, pa, ke, pd, p.2.1, nm, kn, ik, ln, sg, sp, fo, ho, ta, tR, tm)) [.ref 0, .int (n)]).2.1 = some (mw ((mE (kPass7 (mD (mE p) p.2.1) sg n.toNatClampNeg).1), ad, pa, ke, pd, (kPass7 (mD (mE p) p.2.1) sg n.toNatClampNeg).1.2.1, nm, kn, ik, ln, (kPass7 (mD (mE p) p.2.1) sg n.toNatClampNeg).2.1, sp, fo, ho, ta, tR, tm)) := rfl
  have fin2 : (S_X7_goPass (mw ((mE p), ad, pa, ke, pd, p.2.1, nm, kn, ik, ln, sg, sp, fo, ho, ta, tR, tm)) [.ref 0, .int (n)]).2.2 = some (.int (kPass7 (mD (mE p) p.2.1) sg n.toNatClampNeg).2.2) := rfl
  rw [mD_E hz, kPass7, kseal_eq] at fin fin2
  generalize S_X7_goPass (mw ((mE p), ad, pa, ke, pd, p.2.1, nm, kn, ik, ln, sg, sp, fo, ho, ta, tR, tm)) [.ref 0, .int n] = SS at hT fin fin2
  by_cases hn : n < 0
  · rw [show n.toNatClampNeg = 0 by
      have h : n.toInt < 0 := Int32.lt_iff_toInt_lt.mp hn
      show n.toInt.toNat = 0
      omega] at fin fin2
    refine hT.1 (fun _ => false) 60 _ _ _ _ _ ?_
    exact And.intro (fun _ => ⟨by rw [fin]; rfl, fin2.symm⟩) (fun h => absurd (Int32.le_of_lt hn) h)
  obtain ⟨k, hk, rfl⟩ := nI_of hn
  rw [nI_clamp hk] at fin fin2
  have fin : SS.2.1 = some (mw ((mE (mPass p sg k).1), ad, pa, ke, pd, (mPass p sg k).1.2.1, nm, kn, ik, ln, (mPass p sg k).2.1, sp, fo, ho, ta, tR, tm)) := fin
  have fin2 : SS.2.2 = some (.int (mPass p sg k).2.2) := fin2
  have hzp : ∀ i, pZ (mPass p sg i).1 := pZ_pass7 hz
  refine hT.1 (fun pc => Nat.beq pc 4) 60 _ _ _ _ _ ?_
  refine mjloop0 k (fun i => ∀ (q : PSt) (f : Nat → Int32) (v x : Int32), (q, v, x) = mPass p sg i → q.2.1 = f → T 4 [some (.ref 0), some (.int (nI k)), some (.int x), some (.int (nI i))] [] (mw ((mE q), ad, pa, ke, pd, f, nm, kn, ik, ln, v, sp, fo, ho, ta, tR, tm)) (0, 0)) (fun i hi ih q f v x hq hf => ?_) (fun q f v x hq hf => ?_) p p.2.1 sg 0 rfl rfl
  · have hs := mPass_s p sg i
    have hzq := hzp i
    rw [← hq] at hs hzq
    dsimp only at hs hzq
    rw [nI_succ, hs] at ih
    have s2 : ∀ (z : PSt × Int32 × Int32), z = kMin7 q → T 14 [some (.ref 0), some (.int (nI k)), some (.int x), some (.int (nI i))] [.int z.2.2, .int x] (mw ((mE z.1), ad, pa, ke, pd, z.1.2.1, nm, kn, ik, ln, z.2.1, sp, fo, ho, ta, tR, tm)) (0, 0) := by
      intro z hz
      rw [← hz] at ih
      refine hT.1 (fun pc => Nat.beq pc 4) 60 _ _ _ _ _ ?_
      refine And.intro (fun (h1 : 0 ≤ z.2.2) => ih z.1 z.1.2.1 z.2.1 _ ?_ rfl) (fun (h1 : ¬ 0 ≤ z.2.2) => ih z.1 z.1.2.1 z.2.1 _ ?_ rfl)
      · rw [if_pos h1]
      · rw [if_neg h1, i_add0]
    refine hT.1 (fun pc => Nat.beq pc 14) 60 _ _ _ _ _ ?_
    refine And.intro (fun h => absurd h (nI_ge hi hk)) (fun _ => And.intro ⟨⟨rfl, rfl⟩, sZ_E⟩ (s2 (kMin7 (mD (mE q) f)) ?_))
    rw [mD_E hzq, ← hf]
  · refine hT.1 (fun pc => Nat.beq pc 4) 60 _ _ _ _ _ ?_
    refine And.intro (fun _ => ⟨?_, ?_⟩) (fun h => absurd (nI_le (Nat.le_refl k) hk) h)
    · rw [fin, ← hq, ← hf]
      rfl
    · rw [fin2, ← hq]
set_option maxRecDepth 10000 in
theorem ct_X7_goPass (l : Launch) : mjCT l yX7_goPass cX7_goPass 4 (some .int) rm_X7_goPass S_X7_goPass :=
  mjCT_of (own := RX7) (G := G_X7_goPass) (plainFor_of_name pn_X7) rfl ok_X7_goPass (fun meth hm => ⟨fun pc row h => (I_X7_goPass_ok pc row h).1, F_X7_ok, List.forall_mem_cons.mpr ⟨⟨yX7_minute, cX7_minute, 6, (some .int), rm_X7_minute, ct_X7_minute l, ⟨rfl, rfl⟩, ⟨by decide, by decide⟩, by decide, by decide, nk_X7_minute, ln_X7_89, im_X7_minute, se_X7_minute, rfl⟩, fun _ h => absurd h List.not_mem_nil⟩, (fun _ _ _ h => by cases h), (fun _ _ h => by cases h), ⟨Nat.le_refl _, Nat.le_refl _⟩, (fun h => by cases h), (fun h => absurd h (by decide))⟩) rfl rfl rfl (fun pc row h => (I_X7_goPass_ok pc row h).2)
