/-! class and model: the calls that change the pane -/
theorem in_neg {x a b : Int32} (h : gOut x a b = 0) : ¬ gIn x a b = 0 := by
  unfold gIn
  rw [if_pos h]
  decide
theorem in_pos {x a b : Int32} (h : ¬ gOut x a b = 0) : gIn x a b = 0 := if_neg h
theorem out_bd {x a b : Int32} (h : gOut x a b = 0) : a.toInt ≤ x.toInt ∧ x.toInt ≤ b.toInt := by
  unfold gOut at h
  by_cases h1 : x < a
  · rw [if_pos h1] at h
    exact absurd h (by decide)
  · rw [if_neg h1] at h
    by_cases h2 : x ≤ b
    · exact ⟨Int32.le_iff_toInt_le.mp (Int32.not_lt.mp h1), Int32.le_iff_toInt_le.mp h2⟩
    · rw [if_neg h2] at h
      exact absurd h (by decide)
theorem gSum_fill (h : Nat → Int32) (x : Int32) : gSum (fillA 36 h x) = 36 * x := by
  have key : ∀ i, i ≤ 36 → nf (fun i a => a + fillA 36 h x i) (0 : Int32) i = nI i * x := by
    intro i
    induction i with
    | zero => exact fun _ => (Int32.zero_mul).symm
    | succ i ih =>
      intro hi
      show nf (fun i a => a + fillA 36 h x i) (0 : Int32) i + fillA 36 h x i = _
      rw [ih (by omega), nI_succ, Int32.add_mul, Int32.one_mul, show fillA 36 h x i = x from if_pos (by omega)]
  exact key 36 (Nat.le_refl _)
theorem pG_new {B : Int} (hb : 1000 ≤ B) {a : PSt} {x : Int32} (h : pG B a) (hx : 0 ≤ x.toInt ∧ x.toInt ≤ 1000) : pG B (pNew a x) := by
  obtain ⟨h1, g, s, c, fu, ai, ra, le, ri, mi, lo, fl⟩ := a
  obtain ⟨z, hg, hh, hf, ha, hr⟩ := h
  refine ⟨⟨fun k hk => (if_neg (by omega)).trans (z.1 k hk), fun k hk => (if_neg (by omega)).trans (z.2.1 k hk), fun k hk => (if_neg (by omega)).trans (z.2.2 k hk)⟩, hg, fun k hk => ?_, hx, hx, hr⟩
  show 0 ≤ (fillA 36 h1 x k).toInt ∧ (fillA 36 h1 x k).toInt ≤ B
  rw [show fillA 36 h1 x k = x from if_pos hk]
  omega
theorem mD_a {a : PSt} {s fl : Nat → Int32} (e : s = mE a) (hz : pZ a) : mD s fl = (a.1, fl, a.2.2) := by
  rw [e, mD_E hz]
theorem x_begin {k : Nat} {c : CSt} {m : RSt} (x : Int32) (hr : Rel k c m) (hk : k < 512) : (cBegin c x).2 = (rBegin m x).2 ∧ Rel (k + 1) (cBegin c x).1 (rBegin m x).1 := by
  obtain ⟨a, t, u, b, h, d, z, w⟩ := c
  obtain ⟨s, ad, pa, ke, pd, fl, nm, kn, ik, ln, sg, sp, fo, ho, ta, tR, tm⟩ := m
  have hm := Rel_mono hr
  have hR := hr
  obtain ⟨⟨a1, a2, a3⟩, b1, ⟨c1, c2, c3⟩, ⟨d1, d2⟩, e1⟩ := hr
  dsimp only at a1 a2 a3 b1 c1 c2 c3 d1 d2 e1
  unfold cBegin rBegin
  dsimp only
  by_cases hq : gOut x 0 1000 = 0
  · rw [if_pos hq, if_neg (in_neg hq)]
    have e : mE (pNew (mD s fl) x) = mE (pNew a x) := by
      rw [mD_a a2 a1.1]
      exact mE_pE ⟨rfl, rfl⟩
    refine ⟨?_, ?_⟩
    · show kseal (gSum (fillA 36 a.1 x)) = 36 * x
      rw [kseal_eq, gSum_fill]
    · show Rel (k + 1) (pNew a x, t, u, b, cRec a h, d, z, w) (mE (pNew (mD s fl) x), ad, (kRecP s pa kn).1, ke, pd, fl, nm, (kRecP s pa kn).2, ik, ln, sg, sp, fo, ho, ta, tR, tm)
      rw [e]
      exact Rel_now hR (pG_new (by unfold bK; omega) (pG_mono (bK_le k) a1) (out_bd hq)) a3
  · rw [if_neg hq, if_pos (in_pos hq)]
    exact ⟨rfl, hm⟩
theorem pG_aim {B : Int} {a : PSt} {x y : Int32} (h : pG B a) (hx : 0 ≤ x.toInt ∧ x.toInt ≤ 1000) (hy : 1 ≤ y.toInt ∧ y.toInt ≤ 100) : pG B (pSetAim a x y) := by
  obtain ⟨h1, g, s, c, fu, ai, ra, le, ri, mi, lo, fl⟩ := a
  obtain ⟨z, hg, hh, hf, ha, hr, r⟩ := h
  exact ⟨z, hg, hh, hf, hx, hy, r⟩
theorem x_aim {k : Nat} {c : CSt} {m : RSt} (x y : Int32) (hr : Rel k c m) (hk : k < 512) : (cAim c x y).2 = (rAim m x y).2 ∧ Rel (k + 1) (cAim c x y).1 (rAim m x y).1 := by
  obtain ⟨a, t, u, b, h, d, z, w⟩ := c
  obtain ⟨s, ad, pa, ke, pd, fl, nm, kn, ik, ln, sg, sp, fo, ho, ta, tR, tm⟩ := m
  have hm := Rel_mono hr
  have hR := hr
  obtain ⟨⟨a1, a2, a3⟩, b1, ⟨c1, c2, c3⟩, ⟨d1, d2⟩, e1⟩ := hr
  dsimp only at a1 a2 a3 b1 c1 c2 c3 d1 d2 e1
  unfold cAim rAim
  dsimp only
  by_cases hq : gOut x 0 1000 = 0
  · rw [if_pos hq, if_neg (in_neg hq)]
    by_cases ho2 : gOut y 1 100 = 0
    · rw [if_pos ho2, if_neg (in_neg ho2)]
      refine ⟨?_, ?_⟩
      · show pAim a = s 1
        rw [a2]
        rfl
      · show Rel (k + 1) (pSetAim a x y, t, u, b, cRec a h, d, z, w) (upd (upd s 1 x) 2 y, ad, (kRecP s pa kn).1, ke, pd, fl, nm, (kRecP s pa kn).2, ik, ln, sg, sp, fo, ho, ta, tR, tm)
        have e : upd (upd s 1 x) 2 y = mE (pSetAim a x y) := by
          rw [a2, mE_aim]
        rw [e]
        exact Rel_now hR (pG_aim (pG_mono (bK_le k) a1) (out_bd hq) (out_bd ho2)) a3
    · rw [if_neg ho2, if_pos (in_pos ho2)]
      exact ⟨rfl, hm⟩
  · rw [if_neg hq, if_pos (in_pos hq)]
    exact ⟨rfl, hm⟩
theorem x_pass {k : Nat} {c : CSt} {m : RSt} (x : Int32) (hr : Rel k c m) (hk : k < 512) : (cPass c x).2 = (rPass m x).2 ∧ Rel (k + 1) (cPass c x).1 (rPass m x).1 := by
  obtain ⟨a, t, u, b, h, d, z, w⟩ := c
  obtain ⟨s, ad, pa, ke, pd, fl, nm, kn, ik, ln, sg, sp, fo, ho, ta, tR, tm⟩ := m
  have hm := Rel_mono hr
  have hR := hr
  obtain ⟨⟨a1, a2, a3⟩, b1, ⟨c1, c2, c3⟩, ⟨d1, d2⟩, e1⟩ := hr
  dsimp only at a1 a2 a3 b1 c1 c2 c3 d1 d2 e1
  unfold cPass rPass
  dsimp only
  by_cases hq : gOut x 1 99 = 0
  · rw [if_pos hq, if_neg (in_neg hq)]
    have hb : bOk (bK k) := bK_ok (by omega)
    have hp := pass_rel (x := sg) hb a1 (q := (a.1, fl, a.2.2)) ⟨rfl, rfl⟩ a3 x.toNatClampNeg
    rw [mD_a a2 a1.1, kseal_eq, kPass7, kseal_eq]
    refine ⟨hp.2.2.2, ?_⟩
    show Rel (k + 1) ((pPass a x.toNatClampNeg).1, t, u, b, cRec a h, d, z, w) (mE (mPass (a.1, fl, a.2.2) sg x.toNatClampNeg).1, ad, (kRecP s pa kn).1, ke, pd, (mPass (a.1, fl, a.2.2) sg x.toNatClampNeg).1.2.1, nm, (kRecP s pa kn).2, ik, ln, (mPass (a.1, fl, a.2.2) sg x.toNatClampNeg).2.1, sp, fo, ho, ta, tR, tm)
    rw [← mE_pE hp.1]
    exact Rel_now hR (pG_mono (bK_le k) hp.2.2.1) hp.2.1
  · rw [if_neg hq, if_pos (in_pos hq)]
    exact ⟨rfl, hm⟩
theorem gPut_n {f : Nat → Int32} {i : Nat} {x : Int32} (hi : i < 60) : gPut f (nI i) x = upd f i x := by
  unfold gPut gIsJoint
  rw [if_neg (nI_pos (by omega)), if_neg (show ¬ (60 : Int32) ≤ nI i from nI_ge hi (by decide)), if_neg (by decide), nI_clamp (by omega)]
theorem pG_scr {B : Int} {a : PSt} {i : Nat} {x : Int32} (hi : i < 60) (h : pG B a) : pG B (pScr a (nI i) x) := by
  obtain ⟨h1, g, s, c, r⟩ := a
  obtain ⟨z, r⟩ := h
  refine ⟨⟨z.1, ?_, z.2.2⟩, r⟩
  show ∀ k : Nat, 60 ≤ k → gPut s (nI i) x k = 0
  rw [gPut_n hi]
  exact upd_z z.2.1 hi
theorem pG_who {B : Int} {a : PSt} {i : Nat} (hi : i < 60) (h : pG B a) : pG B (pWho a (nI i)) := by
  obtain ⟨h1, g, s, c, r⟩ := a
  obtain ⟨z, r⟩ := h
  refine ⟨⟨z.1, z.2.1, ?_⟩, r⟩
  show ∀ k : Nat, 60 ≤ k → gPut c (nI i) 0 k = 0
  rw [gPut_n hi]
  exact upd_z z.2.2 hi
theorem mE_scr {a : PSt} {i : Nat} {x : Int32} (hi : i < 60) : upd (mE a) (104 + i) x = mE (pScr a (nI i) x) := by
  obtain ⟨h, g, s, c, fu, ai, ra, le, ri, mi, lo, fl⟩ := a
  rw [mE_us hi]
  show _ = mE (h, g, gPut s (nI i) x, c, fu, ai, ra, le, ri, mi, lo, fl)
  rw [gPut_n hi]
theorem mE_who {a : PSt} {i : Nat} (hi : i < 60) : upd (mE a) (44 + i) 0 = mE (pWho a (nI i)) := by
  obtain ⟨h, g, s, c, fu, ai, ra, le, ri, mi, lo, fl⟩ := a
  rw [mE_uc hi]
  show _ = mE (h, g, s, gPut c (nI i) 0, fu, ai, ra, le, ri, mi, lo, fl)
  rw [gPut_n hi]
theorem x_scratch {k : Nat} {c : CSt} {m : RSt} (x y : Int32) (hr : Rel k c m) (hk : k < 512) : (cScratch c x y).2 = (rScratch m x y).2 ∧ Rel (k + 1) (cScratch c x y).1 (rScratch m x y).1 := by
  obtain ⟨a, t, u, b, h, d, z, w⟩ := c
  obtain ⟨s, ad, pa, ke, pd, fl, nm, kn, ik, ln, sg, sp, fo, ho, ta, tR, tm⟩ := m
  have hm := Rel_mono hr
  have hR := hr
  obtain ⟨⟨a1, a2, a3⟩, b1, ⟨c1, c2, c3⟩, ⟨d1, d2⟩, e1⟩ := hr
  dsimp only at a1 a2 a3 b1 c1 c2 c3 d1 d2 e1
  unfold cScratch rScratch
  dsimp only
  by_cases hj : gIsJoint x = 0
  · rw [if_pos hj, if_pos hj]
    exact ⟨rfl, hm⟩
  rw [if_neg hj, if_neg hj]
  obtain ⟨i, hi, rfl⟩ := inJ_of (inJ_is hj)
  rw [nI_clamp (by omega)]
  by_cases hq : gOut y 1 500 = 0
  · rw [if_pos hq, if_neg (in_neg hq)]
    have ec : vC s = pC a := by
      rw [a2, vC_E a1.1]
      rfl
    rw [ec]
    by_cases hw : gWh (pC a) (nI i) = 0
    · rw [if_pos hw, if_pos hw]
      exact ⟨rfl, hm⟩
    · rw [if_neg hw, if_neg hw]
      refine ⟨?_, ?_⟩
      · show gJt (pS a) (nI i) = s (104 + i)
        rw [a2, mE_s hi, gJt_n hi]
        rfl
      · show Rel (k + 1) (pScr a (nI i) y, t, u, b, cRec a h, d, z, w) (upd s (104 + i) y, ad, (kRecP s pa kn).1, ke, pd, fl, nm, (kRecP s pa kn).2, ik, ln, sg, sp, fo, ho, ta, tR, tm)
        have e : upd s (104 + i) y = mE (pScr a (nI i) y) := by
          rw [a2, mE_scr hi]
        rw [e]
        exact Rel_now hR (pG_scr hi (pG_mono (bK_le k) a1)) a3
  · rw [if_neg hq, if_pos (in_pos hq)]
    exact ⟨rfl, hm⟩
theorem x_mend {k : Nat} {c : CSt} {m : RSt} (x : Int32) (hr : Rel k c m) (hk : k < 512) : (cMend c x).2 = (rMend m x).2 ∧ Rel (k + 1) (cMend c x).1 (rMend m x).1 := by
  obtain ⟨a, t, u, b, h, d, z, w⟩ := c
  obtain ⟨s, ad, pa, ke, pd, fl, nm, kn, ik, ln, sg, sp, fo, ho, ta, tR, tm⟩ := m
  have hm := Rel_mono hr
  have hR := hr
  obtain ⟨⟨a1, a2, a3⟩, b1, ⟨c1, c2, c3⟩, ⟨d1, d2⟩, e1⟩ := hr
  dsimp only at a1 a2 a3 b1 c1 c2 c3 d1 d2 e1
  unfold cMend rMend
  dsimp only
  by_cases hj : gIsJoint x = 0
  · rw [if_pos hj, if_pos hj]
    exact ⟨rfl, hm⟩
  rw [if_neg hj, if_neg hj]
  obtain ⟨i, hi, rfl⟩ := inJ_of (inJ_is hj)
  have ec : vC s = pC a := by
    rw [a2, vC_E a1.1]
    rfl
  rw [ec]
  by_cases hw : gWh (pC a) (nI i) = 0
  · rw [if_pos hw, if_pos hw]
    have hg := pG_scr (x := 50) hi (pG_who hi (pG_mono (bK_le k) a1))
    have e : sMend s (nI i) = mE (pScr (pWho a (nI i)) (nI i) 50) := by
      unfold sMend
      rw [nI_clamp (by omega), a2, mE_who hi, mE_scr hi]
    rw [e]
    refine ⟨?_, ?_⟩
    · show kseal (gCracked (pC (pScr (pWho a (nI i)) (nI i) 50))) = kseal (gCracked (vC (mE (pScr (pWho a (nI i)) (nI i) 50))))
      rw [vC_E hg.1]
      rfl
    · exact Rel_now hR hg a3
  · rw [if_neg hw, if_neg hw]
    exact ⟨rfl, hm⟩
theorem x_set {k : Nat} {c : CSt} {m : RSt} (x y : Int32) (hr : Rel k c m) (hk : k < 512) : (cSet c x y).2 = (rSet m x y).2 ∧ Rel (k + 1) (cSet c x y).1 (rSet m x y).1 := by
  obtain ⟨a, t, u, b, h, d, z, w⟩ := c
  obtain ⟨s, ad, pa, ke, pd, fl, nm, kn, ik, ln, sg, sp, fo, ho, ta, tR, tm⟩ := m
  have hm := Rel_mono hr
  have hR := hr
  obtain ⟨⟨a1, a2, a3⟩, b1, ⟨c1, c2, c3⟩, ⟨d1, d2⟩, e1⟩ := hr
  dsimp only at a1 a2 a3 b1 c1 c2 c3 d1 d2 e1
  unfold cSet rSet
  dsimp only
  by_cases hq : gOut x 0 1 = 0
  · rw [if_pos hq, if_neg (in_neg hq)]
    by_cases ho2 : gOut y 0 20 = 0
    · rw [if_pos ho2, if_neg (in_neg ho2)]
      have hx := out_bd hq
      have hy := out_bd ho2
      have ha := pG_mono (bK_le k) a1
      have hx2 : x = 0 ∨ x = 1 := by
        have h0 : (0 : Int32).toInt = 0 := rfl
        have h1 : (1 : Int32).toInt = 1 := rfl
        rcases (show x.toInt = 0 ∨ x.toInt = 1 by omega) with e | e
        · exact Or.inl (Int32.toInt_inj.mp e)
        · exact Or.inr (Int32.toInt_inj.mp e)
      rcases hx2 with rfl | rfl
      · rw [if_pos rfl]
        refine ⟨?_, ?_⟩
        · show pLead a = s 6
          rw [a2]
          rfl
        · have e : upd s 6 y = mE (pSetLead a y) := by
            rw [a2]
            obtain ⟨h, g, s, c, fu, ai, ra, le, ri, mi, lo, fl⟩ := a
            exact mE_u6
          show Rel (k + 1) (pSetLead a y, t, u, b, cRec a h, d, z, w) (upd s 6 y, ad, (kRecP s pa kn).1, ke, pd, fl, nm, (kRecP s pa kn).2, ik, ln, sg, sp, fo, ho, ta, tR, tm)
          rw [e]
          exact Rel_now hR ⟨ha.1, ha.2.1, ha.2.2.1, ha.2.2.2.1, ha.2.2.2.2.1, ha.2.2.2.2.2.1, hy, ha.2.2.2.2.2.2.2⟩ a3
      · rw [if_neg (by decide)]
        refine ⟨?_, ?_⟩
        · show pRim a = s 7
          rw [a2]
          rfl
        · have e : upd s 7 y = mE (pSetRim a y) := by
            rw [a2]
            obtain ⟨h, g, s, c, fu, ai, ra, le, ri, mi, lo, fl⟩ := a
            exact mE_u7
          show Rel (k + 1) (pSetRim a y, t, u, b, cRec a h, d, z, w) (upd s 7 y, ad, (kRecP s pa kn).1, ke, pd, fl, nm, (kRecP s pa kn).2, ik, ln, sg, sp, fo, ho, ta, tR, tm)
          rw [e]
          exact Rel_now hR ⟨ha.1, ha.2.1, ha.2.2.1, ha.2.2.2.1, ha.2.2.2.2.1, ha.2.2.2.2.2.1, ha.2.2.2.2.2.2.1, hy⟩ a3
    · rw [if_neg ho2, if_pos (in_pos ho2)]
      exact ⟨rfl, hm⟩
  · rw [if_neg hq, if_pos (in_pos hq)]
    exact ⟨rfl, hm⟩
theorem gMax0 (x : Int32) : gMax 0 x = if 0 ≤ x then x else 0 := by
  unfold gMax
  by_cases h : 0 < x
  · rw [if_pos h, if_pos (Int32.le_of_lt h)]
  · rw [if_neg h]
    by_cases h2 : 0 ≤ x
    · rw [if_pos h2]
      exact Int32.le_antisymm h2 (Int32.not_lt.mp h)
    · rw [if_neg h2]
theorem x_heat {k : Nat} {c : CSt} {m : RSt} (x y : Int32) (hr : Rel k c m) (hk : k < 512) : (cHeat c x y).2 = (rHeat m x y).2 ∧ Rel (k + 1) (cHeat c x y).1 (rHeat m x y).1 := by
  obtain ⟨a, t, u, b, h, d, z, w⟩ := c
  obtain ⟨s, ad, pa, ke, pd, fl, nm, kn, ik, ln, sg, sp, fo, ho, ta, tR, tm⟩ := m
  have hm := Rel_mono hr
  have hR := hr
  obtain ⟨⟨a1, a2, a3⟩, b1, ⟨c1, c2, c3⟩, ⟨d1, d2⟩, e1⟩ := hr
  dsimp only at a1 a2 a3 b1 c1 c2 c3 d1 d2 e1
  unfold cHeat rHeat
  dsimp only
  by_cases hj : gIsCell x = 0
  · rw [if_pos hj, if_pos hj]
    exact ⟨rfl, hm⟩
  rw [if_neg hj, if_neg hj]
  have hc0 := hj
  obtain ⟨i, hi, rfl⟩ := inC_of (inC_is hj)
  by_cases hq : gOut y (-200) 200 = 0
  · rw [if_pos hq, if_neg (in_neg hq), nI_clamp (by omega)]
    have hy : -200 ≤ y.toInt ∧ y.toInt ≤ 200 := out_bd hq
    obtain ⟨h1, g1, s1, c1', fu, ai, ra, le, ri, mi, lo, fm⟩ := a
    have hat : gAt 36 (pH (h1, g1, s1, c1', fu, ai, ra, le, ri, mi, lo, fm)) (nI i) = h1 i := gAt_n hi
    rw [hat]
    have es : s (8 + i) = h1 i := by rw [a2, mE_h hi]
    generalize hv : gMax 0 (h1 i + y) = v
    have hv2 : (if 0 ≤ s (8 + i) + y then s (8 + i) + y else 0) = v := by
      rw [es, ← gMax0]
      exact hv
    have eh : sHeat s (nI i) y = mE (upd h1 i v, g1, s1, c1', fu, ai, ra, le, ri, mi, lo, fm + (v - h1 i)) := by
      unfold sHeat
      rw [nI_clamp (by omega), hv2, es, a2, mE_uh hi, mE_u5, mE_h hi]
      show mE (upd h1 i v, g1, s1, c1', fu, ai, ra, le, ri, mi, lo, fm + (upd h1 i v i - h1 i)) = _
      rw [show upd h1 i v i = v from if_pos rfl]
    have ep : pFlame (h1, g1, s1, c1', fu, ai, ra, le, ri, mi, lo, fm) (nI i) y = (upd h1 i v, g1, s1, c1', fu, ai, ra, le, ri, mi, lo, fm + (v - h1 i)) := by
      unfold pFlame
      dsimp only
      rw [if_neg hc0, gAt_n hi, hv, nI_clamp (by omega)]
    rw [eh]
    refine ⟨?_, ?_⟩
    · show v = mE (upd h1 i v, g1, s1, c1', fu, ai, ra, le, ri, mi, lo, fm + (v - h1 i)) (8 + i)
      rw [mE_h hi]
      exact (if_pos rfl).symm
    · show Rel (k + 1) (pFlame (h1, g1, s1, c1', fu, ai, ra, le, ri, mi, lo, fm) (nI i) y, t, u, b, cRec (h1, g1, s1, c1', fu, ai, ra, le, ri, mi, lo, fm) h, d, z, w) _
      rw [ep]
      refine Rel_now hR ?_ a3
      have ha := pG_mono (bK_le k) a1
      have hbk : bK (k + 1) = bK k + 200 := by
        unfold bK
        omega
      have hb9 : bK k ≤ 200000 := (bK_ok (show k ≤ 512 by omega)).2
      have hhi : 0 ≤ (h1 i).toInt ∧ (h1 i).toInt ≤ bK k := a1.2.2.1 i hi
      refine ⟨⟨fun j hj => ?_, ha.1.2⟩, ha.2.1, fun j hj => ?_, ha.2.2.2⟩
      · show upd h1 i v j = 0
        unfold upd
        rw [if_neg (by omega)]
        exact a1.1.1 j hj
      · show 0 ≤ (upd h1 i v j).toInt ∧ (upd h1 i v j).toInt ≤ bK (k + 1)
        unfold upd
        by_cases e : j = i
        · rw [if_pos e, ← hv, gMax0]
          have e1 : (h1 i + y).toInt = (h1 i).toInt + y.toInt := ti_add (by omega) (by omega)
          by_cases h0 : 0 ≤ h1 i + y
          · rw [if_pos h0, e1]
            have h2 := Int32.le_iff_toInt_le.mp h0
            rw [e1] at h2
            have h3 : (0 : Int32).toInt = 0 := rfl
            omega
          · rw [if_neg h0]
            have h3 : (0 : Int32).toInt = 0 := rfl
            omega
        · rw [if_neg e]
          exact ha.2.2.1 j hj
  · rw [if_neg hq, if_pos (in_pos hq)]
    exact ⟨rfl, hm⟩
