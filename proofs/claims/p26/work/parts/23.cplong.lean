/-! ColdPanes: mean, what would be, run -/
def rm_X6_mean : Room := { frames := 5, cells := 0, slots := 0, locals := 112 }
noncomputable def G_X6_mean : mjG := (I_X6_mean, F_X6, [(103, 1, 0, 1, 0, 0, S_X1_isCell), (141, 0, 4, 2, 0, 0, S_X5_tellByGoing), (145, 0, 4, 2, 0, 0, S_X5_nameOf), (210, 0, 4, 3, 0, 0, S_X5_meanHeat)], (fun pc => bif Nat.beq pc 36 then [43, 44, 45] else bif Nat.beq pc 1 then [] else [43, 44, 45, 1, 2, 3, 4, 5]), Y0, (fun _ => none), (fun i => bif Nat.beq i 208 then some (.double 13830554455654793216) else none), (some .double), 0, 0, false, [])
set_option maxHeartbeats 20000000 in
set_option maxRecDepth 100000 in
theorem ok_X6_mean : mjOK G_X6_mean 2 S_X6_mean := by
  intro M as hP T hT
  obtain ⟨⟨a, t, s, b, ⟨n, f, q⟩, d, z, fo⟩, x, rfl, rfl, hm⟩ : ∃ c x, M = xw c ∧ as = [.ref 0, .int x] ∧ (¬ gIsCell x = 0 → mOk (kGo c.1 c.2.2.2.2.2.2.1).1.1 (pH c.1) (gName (kGo c.1 c.2.2.2.2.2.2.1).1.1 x)) := ⟨_, _, hP.1.1.1, hP.1.1.2, hP.2⟩
  have fin : (S_X6_mean (xw (a, t, s, b, (n, f, q), d, z, fo)) [.ref 0, .int x]).2.1 = some (xw (cMean (a, t, s, b, (n, f, q), d, z, fo) x).1) := rfl
  have fin2 : (S_X6_mean (xw (a, t, s, b, (n, f, q), d, z, fo)) [.ref 0, .int x]).2.2 = some (.double (cMean (a, t, s, b, (n, f, q), d, z, fo) x).2) := rfl
  rw [cMean] at fin fin2
  dsimp only [cParts] at fin fin2 hm
  generalize S_X6_mean (xw (a, t, s, b, (n, f, q), d, z, fo)) [.ref 0, .int x] = SS at hT fin fin2
  have hv : cMeanV a z x = kseal (if gSize (kGo a z).1.1 (gName (kGo a z).1.1 x) = 0 then 13830554455654793216 else FP.ddiv (mSum (kGo a z).1.1 (pH a) (gName (kGo a z).1.1 x) 36) (FP.i2d (gSize (kGo a z).1.1 (gName (kGo a z).1.1 x)))) := rfl
  have s1 : ¬ gIsCell x = 0 → ∀ y, y = (kGo a z).1 → T 23 [some (.ref 0), some (.int x)] [] (xw (a, t, s, b, (n, f, q), d, y, fo)) (0, 0) := by
    intro h0 y hy
    have hm := hm h0
    rw [if_neg h0, hv, ← hy] at fin fin2
    rw [← hy] at hm
    refine hT.1 (fun _ => false) 60 _ _ _ _ _ ?_
    exact And.intro ⟨rfl, rfl⟩ (And.intro ⟨⟨rfl, rfl⟩, hm⟩ ⟨by rw [fin]; rfl, fin2.symm⟩)
  refine hT.1 (fun pc => Nat.beq pc 23) 60 _ _ _ _ _ ?_
  refine And.intro ⟨rfl, rfl⟩ (And.intro (fun (h1 : ¬ gIsCell x = 0) => And.intro ⟨rfl, rfl⟩ (s1 h1 _ rfl)) (fun (h1 : gIsCell x = 0) => ⟨?_, ?_⟩))
  · rw [fin, if_pos h1]; rfl
  · rw [fin2, if_pos h1]
set_option maxRecDepth 10000 in
theorem ct_X6_mean (l : Launch) : mjCT l yX6_mean cX6_mean 2 (some .double) rm_X6_mean S_X6_mean :=
  mjCT_of (own := RX6) (G := G_X6_mean) (plainFor_of_name pn_X6) rfl ok_X6_mean (fun meth hm => ⟨fun pc row h => (I_X6_mean_ok pc row h).1, F_X6_ok, List.forall_mem_cons.mpr ⟨⟨yX1_isCell, cX1_isCell, 1, (some .boolean), rm_X1_isCell, ct_X1_isCell l, ⟨rfl, rfl⟩, ⟨by decide, by decide⟩, by decide, nk_X1_isCell, ln_X6_103, st_X1_isCell⟩, List.forall_mem_cons.mpr ⟨⟨yX5_tellByGoing, cX5_tellByGoing, 4, (some .int), rm_X5_tellByGoing, ct_X5_tellByGoing l, ⟨rfl, rfl⟩, ⟨by decide, by decide⟩, by decide, by decide, nk_X5_tellByGoing, ln_X6_141, im_X5_tellByGoing, se_X5_tellByGoing, rfl⟩, List.forall_mem_cons.mpr ⟨⟨yX5_nameOf, cX5_nameOf, 2, (some .int), rm_X5_nameOf, ct_X5_nameOf l, ⟨rfl, rfl⟩, ⟨by decide, by decide⟩, by decide, by decide, nk_X5_nameOf, ln_X6_145, im_X5_nameOf, se_X5_nameOf, rfl⟩, List.forall_mem_cons.mpr ⟨⟨yX5_meanHeat, cX5_meanHeat, 7, (some .double), rm_X5_meanHeat, ct_X5_meanHeat l, ⟨rfl, rfl⟩, ⟨by decide, by decide⟩, by decide, by decide, nk_X5_meanHeat, ln_X6_210, im_X5_meanHeat, se_X5_meanHeat, rfl⟩, fun _ h => absurd h List.not_mem_nil⟩⟩⟩⟩, (fun _ _ _ h => by cases h), (fun _ _ h => mjcon1 h cd_X6_208), ⟨Nat.le_refl _, Nat.le_refl _⟩, (fun h => by cases h), (fun h => absurd h (by decide)), fun _ h => absurd h List.not_mem_nil⟩) rfl rfl rfl (fun pc row h => (I_X6_mean_ok pc row h).2)
def rm_X6_ifPassed : Room := { frames := 6, cells := 0, slots := 0, locals := 131 }
noncomputable def G_X6_ifPassed : mjG := (I_X6_ifPassed, F_X6, [(54, 1, 0, 3, 0, 0, S_X6_isOutside), (214, 0, 3, 2, 0, 0, S_X4_copyFrom), (217, 0, 0, 3, 0, 0, S_X0_look)], (fun pc => bif Nat.beq pc 41 then [46, 6, 7, 8, 9, 10] else bif Nat.beq pc 29 then [6, 7, 8, 9, 10, 1, 2, 3, 4, 5] else []), Y_X6_ifPassed, (fun _ => none), (fun _ => none), (some .int), 0, 0, false, [])
set_option maxHeartbeats 20000000 in
set_option maxRecDepth 100000 in
theorem ok_X6_ifPassed : mjOK G_X6_ifPassed 3 S_X6_ifPassed := by
  intro M as hP T hT
  obtain ⟨⟨a, t, s, b, ⟨n, f, q⟩, d, z, fo⟩, x, y, rfl, rfl, hx⟩ := inX2 hP
  have fin : (S_X6_ifPassed (xw (a, t, s, b, (n, f, q), d, z, fo)) [.ref 0, .int x, .int y]).2.1 = some (xw (cIf (a, t, s, b, (n, f, q), d, z, fo) x y).1) := rfl
  have fin2 : (S_X6_ifPassed (xw (a, t, s, b, (n, f, q), d, z, fo)) [.ref 0, .int x, .int y]).2.2 = some (.int (cIf (a, t, s, b, (n, f, q), d, z, fo) x y).2) := rfl
  rw [cIf] at fin fin2
  dsimp only [cNow] at fin fin2
  generalize S_X6_ifPassed (xw (a, t, s, b, (n, f, q), d, z, fo)) [.ref 0, .int x, .int y] = SS at hT fin fin2
  have s0 : ¬ (gOut x 1 99 = 0 ∧ gOut y 0 3 = 0) → T 19 [some (.ref 0), some (.int x), some (.int y)] [] (xw (a, t, s, b, (n, f, q), d, z, fo)) (0, 0) := by
    intro h0
    have e : ∀ w : CSt × Int32, (if gOut x 1 99 = 0 then (if gOut y 0 3 = 0 then w else ((a, t, s, b, (n, f, q), d, z, fo), -1)) else ((a, t, s, b, (n, f, q), d, z, fo), -1)) = ((a, t, s, b, (n, f, q), d, z, fo), (-1 : Int32)) := by
      intro w
      by_cases h1 : gOut x 1 99 = 0
      · rw [if_pos h1, if_neg (fun h2 => h0 ⟨h1, h2⟩)]
      · rw [if_neg h1]
    rw [e] at fin fin2
    refine hT.1 (fun _ => false) 60 _ _ _ _ _ ?_
    exact ⟨by rw [fin]; rfl, fin2.symm⟩
  have s2 : gOut x 1 99 = 0 → gOut y 0 3 = 0 → ∀ l, l = kLook (pCopy t a) x → T 44 [some (.ref 0), some (.int x), some (.int y)] [] (xw (a, l.1, s, b, (n, f, q), d, z, l.2)) (0, 0) := by
    intro h0 h1 l hl
    rw [if_pos h0, if_pos h1, ← hl] at fin fin2
    refine hT.1 (fun _ => false) 60 _ _ _ _ _ ?_
    refine And.intro (fun (e0 : y = 0) => ⟨by rw [fin]; rfl, ?_⟩) (fun (n0 : ¬ y = 0) => And.intro (fun (e1 : y = 1) => ⟨by rw [fin]; rfl, ?_⟩) (fun (n1 : ¬ y = 1) => And.intro (fun (e2 : y = 2) => ⟨by rw [fin]; rfl, ?_⟩) (fun (n2 : ¬ y = 2) => ⟨by rw [fin]; rfl, ?_⟩)))
    · rw [fin2, if_pos e0]
    · rw [fin2, if_neg n0, if_pos e1]
    · rw [fin2, if_neg n0, if_neg n1, if_pos e2]
    · rw [fin2, if_neg n0, if_neg n1, if_neg n2]; rfl
  have s1 : gOut x 1 99 = 0 → gOut y 0 3 = 0 → ∀ t2, t2 = pCopy t a → T 32 [some (.ref 0), some (.int x), some (.int y)] [] (xw (a, t2, s, b, (n, f, q), d, z, fo)) (0, 0) := by
    intro h0 h1 t2 ht
    have hx1 : ¬ x < 0 := i_nlt (by decide) (gOut_0 h0).1
    have hx2 : x < 1000 := Int32.lt_of_le_of_lt (gOut_0 h0).2 (by decide)
    refine hT.1 (fun pc => Nat.beq pc 44) 60 _ _ _ _ _ ?_
    exact And.intro ⟨⟨rfl, rfl⟩, hx1, hx2⟩ (s2 h0 h1 (kLook t2 x) (by rw [ht]))
  refine hT.1 (fun pc => Nat.beq pc 32 || Nat.beq pc 19) 60 _ _ _ _ _ ?_
  exact And.intro ⟨rfl, rfl⟩ (And.intro (fun (h1 : ¬ gOut x 1 99 = 0) => s0 (fun h => h1 h.1)) (fun (h1 : gOut x 1 99 = 0) => And.intro ⟨rfl, rfl⟩ (And.intro (fun (h2 : gOut y 0 3 = 0) => And.intro ⟨rfl, rfl⟩ (s1 h1 h2 _ rfl)) (fun (h2 : ¬ gOut y 0 3 = 0) => s0 (fun h => h2 h.2)))))
set_option maxRecDepth 10000 in
theorem ct_X6_ifPassed (l : Launch) : mjCT l yX6_ifPassed cX6_ifPassed 3 (some .int) rm_X6_ifPassed S_X6_ifPassed :=
  mjCT_of (own := RX6) (G := G_X6_ifPassed) (plainFor_of_name pn_X6) rfl ok_X6_ifPassed (fun meth hm => ⟨fun pc row h => (I_X6_ifPassed_ok pc row h).1, F_X6_ok, List.forall_mem_cons.mpr ⟨⟨yX6_isOutside, cX6_isOutside, 3, (some .boolean), rm_X6_isOutside, ct_X6_isOutside l, ⟨rfl, rfl⟩, ⟨by decide, by decide⟩, by decide, nk_X6_isOutside, ln_X6_54, st_X6_isOutside⟩, List.forall_mem_cons.mpr ⟨⟨yX4_copyFrom, cX4_copyFrom, 2, none, rm_X4_copyFrom, ct_X4_copyFrom l, ⟨rfl, rfl⟩, ⟨by decide, by decide⟩, by decide, by decide, nk_X4_copyFrom, ln_X6_214, im_X4_copyFrom, se_X4_copyFrom, rfl⟩, List.forall_mem_cons.mpr ⟨⟨yX0_look, cX0_look, 4, none, rm_X0_look, ct_X0_look l, ⟨rfl, rfl⟩, ⟨by decide, by decide⟩, by decide, by decide, nk_X0_look, ln_X6_217, im_X0_look, se_X0_look, rfl⟩, fun _ h => absurd h List.not_mem_nil⟩⟩⟩, (fun _ _ _ h => by cases h), (fun _ _ h => by cases h), ⟨Nat.le_refl _, Nat.le_refl _⟩, (fun h => by cases h), (fun h => absurd h (by decide)), fun _ h => absurd h List.not_mem_nil⟩) rfl rfl rfl (fun pc row h => (I_X6_ifPassed_ok pc row h).2)
def rm_X6_fastest : Room := { frames := 6, cells := 0, slots := 0, locals := 130 }
noncomputable def G_X6_fastest : mjG := (I_X6_fastest, F_X6, [(54, 1, 0, 3, 0, 0, S_X6_isOutside), (214, 0, 3, 2, 0, 0, S_X4_copyFrom), (229, 0, 3, 2, 0, 0, S_X4_staysWhole)], (fun pc => bif Nat.beq pc 63 then [6, 7, 8, 9, 10] else bif Nat.beq pc 39 then [6, 7, 8, 9, 10, 1, 2, 3, 4, 5] else []), Y0, (fun _ => none), (fun _ => none), (some .int), 0, 0, false, [])
theorem fFast_s (a : PSt) (x m : Int32) (r : Nat) (t : PSt) : fFast a x m (r + 1) t = if (kStay (pSetAim (pCopy t a) x (nI (r + 1))) m).2 = 0 then fFast a x m r (kStay (pSetAim (pCopy t a) x (nI (r + 1))) m).1 else ((kStay (pSetAim (pCopy t a) x (nI (r + 1))) m).1, nI (r + 1)) := rfl
theorem nI_m1 (m : Nat) : nI (m + 1) + (-1) = nI m := by
  rw [← nI_pred m, Int32.sub_eq_add_neg]
set_option maxHeartbeats 20000000 in
set_option maxRecDepth 100000 in
theorem ok_X6_fastest : mjOK G_X6_fastest 4 S_X6_fastest := by
  intro M as hP T hT
  obtain ⟨⟨a, t, s, b, ⟨n, f, q⟩, d, z, fo⟩, x, y, rfl, rfl, hx⟩ := inX2 hP
  have fin : (S_X6_fastest (xw (a, t, s, b, (n, f, q), d, z, fo)) [.ref 0, .int x, .int y]).2.1 = some (xw (cFast (a, t, s, b, (n, f, q), d, z, fo) x y).1) := rfl
  have fin2 : (S_X6_fastest (xw (a, t, s, b, (n, f, q), d, z, fo)) [.ref 0, .int x, .int y]).2.2 = some (.int (cFast (a, t, s, b, (n, f, q), d, z, fo) x y).2) := rfl
  rw [cFast] at fin fin2
  dsimp only [cNow] at fin fin2
  generalize S_X6_fastest (xw (a, t, s, b, (n, f, q), d, z, fo)) [.ref 0, .int x, .int y] = SS at hT fin fin2
  dsimp only [cTrial] at fin fin2
  have s0 : ¬ (gOut x 0 1000 = 0 ∧ gOut y 1 99 = 0) → T 21 [some (.ref 0), some (.int x), some (.int y), none] [] (xw (a, t, s, b, (n, f, q), d, z, fo)) (0, 0) := by
    intro h0
    have e : ∀ w : CSt × Int32, (if gOut x 0 1000 = 0 then (if gOut y 1 99 = 0 then w else ((a, t, s, b, (n, f, q), d, z, fo), -1)) else ((a, t, s, b, (n, f, q), d, z, fo), -1)) = ((a, t, s, b, (n, f, q), d, z, fo), (-1 : Int32)) := by
      intro w
      by_cases h1 : gOut x 0 1000 = 0
      · rw [if_pos h1, if_neg (fun h2 => h0 ⟨h1, h2⟩)]
      · rw [if_neg h1]
    rw [e] at fin fin2
    refine hT.1 (fun _ => false) 60 _ _ _ _ _ ?_
    exact ⟨by rw [fin]; rfl, fin2.symm⟩
  have s1 : gOut x 0 1000 = 0 → gOut y 1 99 = 0 → T 26 [some (.ref 0), some (.int x), some (.int y), some (.int (nI 100))] [] (xw (a, t, s, b, (n, f, q), d, z, fo)) (0, 0) := by
    intro h0 h1
    have hy1 : ¬ y < 0 := i_nlt (by decide) (gOut_0 h1).1
    rw [if_pos h0, if_pos h1, kFast, kseal_eq] at fin fin2
    generalize hFF : fFast a x y 100 t = FF at fin fin2
    have key : ∀ (r : Nat), r ≤ 100 → ∀ t2, FF = fFast a x y r t2 → T 26 [some (.ref 0), some (.int x), some (.int y), some (.int (nI r))] [] (xw (a, t2, s, b, (n, f, q), d, z, fo)) (0, 0) := by
      intro r
      induction r with
      | zero =>
        intro _ t2 e
        rw [e] at fin fin2
        refine hT.1 (fun pc => Nat.beq pc 26) 60 _ _ _ _ _ ?_
        exact And.intro (fun _ => ⟨by rw [fin]; rfl, fin2.symm⟩) (fun h => absurd (show nI 0 < 1 by decide) h)
      | succ r ih =>
        intro hr t2 e
        have ih := ih (by omega)
        rw [← nI_m1 r] at ih
        rw [fFast_s] at e
        have s3 : ∀ w, w = kStay (pSetAim (pCopy t2 a) x (nI (r + 1))) y → T 66 [some (.ref 0), some (.int x), some (.int y), some (.int (nI (r + 1)))] [.int w.2] (xw (a, w.1, s, b, (n, f, q), d, z, fo)) (0, 0) := by
          intro w hw
          rw [← hw] at e
          refine hT.1 (fun pc => Nat.beq pc 26) 60 _ _ _ _ _ ?_
          refine And.intro (fun (h2 : w.2 = 0) => ih w.1 ?_) (fun (h2 : ¬ w.2 = 0) => ⟨?_, ?_⟩)
          · rw [e, if_pos h2]
          · rw [fin, e, if_neg h2]; rfl
          · rw [fin2, e, if_neg h2]
        have s2 : ∀ t3, t3 = pCopy t2 a → T 42 [some (.ref 0), some (.int x), some (.int y), some (.int (nI (r + 1)))] [] (xw (a, t3, s, b, (n, f, q), d, z, fo)) (0, 0) := by
          intro t3 h3
          refine hT.1 (fun pc => Nat.beq pc 66) 60 _ _ _ _ _ ?_
          exact And.intro ⟨⟨rfl, rfl⟩, hy1⟩ (s3 (kStay (pSetAim t3 x (nI (r + 1))) y) (by rw [h3]))
        refine hT.1 (fun pc => Nat.beq pc 42) 60 _ _ _ _ _ ?_
        exact And.intro (fun h => absurd h (nI_nlt (by omega : 1 ≤ r + 1) (by omega))) (fun _ => And.intro ⟨rfl, rfl⟩ (s2 _ rfl))
    exact key 100 (Nat.le_refl _) t hFF.symm
  refine hT.1 (fun pc => Nat.beq pc 26 || Nat.beq pc 21) 60 _ _ _ _ _ ?_
  exact And.intro ⟨rfl, rfl⟩ (And.intro (fun (h1 : ¬ gOut x 0 1000 = 0) => s0 (fun h => h1 h.1)) (fun (h1 : gOut x 0 1000 = 0) => And.intro ⟨rfl, rfl⟩ (And.intro (fun (h2 : gOut y 1 99 = 0) => s1 h1 h2) (fun (h2 : ¬ gOut y 1 99 = 0) => s0 (fun h => h2 h.2)))))
set_option maxRecDepth 10000 in
theorem ct_X6_fastest (l : Launch) : mjCT l yX6_fastest cX6_fastest 4 (some .int) rm_X6_fastest S_X6_fastest :=
  mjCT_of (own := RX6) (G := G_X6_fastest) (plainFor_of_name pn_X6) rfl ok_X6_fastest (fun meth hm => ⟨fun pc row h => (I_X6_fastest_ok pc row h).1, F_X6_ok, List.forall_mem_cons.mpr ⟨⟨yX6_isOutside, cX6_isOutside, 3, (some .boolean), rm_X6_isOutside, ct_X6_isOutside l, ⟨rfl, rfl⟩, ⟨by decide, by decide⟩, by decide, nk_X6_isOutside, ln_X6_54, st_X6_isOutside⟩, List.forall_mem_cons.mpr ⟨⟨yX4_copyFrom, cX4_copyFrom, 2, none, rm_X4_copyFrom, ct_X4_copyFrom l, ⟨rfl, rfl⟩, ⟨by decide, by decide⟩, by decide, by decide, nk_X4_copyFrom, ln_X6_214, im_X4_copyFrom, se_X4_copyFrom, rfl⟩, List.forall_mem_cons.mpr ⟨⟨yX4_staysWhole, cX4_staysWhole, 3, (some .boolean), rm_X4_staysWhole, ct_X4_staysWhole l, ⟨rfl, rfl⟩, ⟨by decide, by decide⟩, by decide, by decide, nk_X4_staysWhole, ln_X6_229, im_X4_staysWhole, se_X4_staysWhole, rfl⟩, fun _ h => absurd h List.not_mem_nil⟩⟩⟩, (fun _ _ _ h => by cases h), (fun _ _ h => by cases h), ⟨Nat.le_refl _, Nat.le_refl _⟩, (fun h => by cases h), (fun h => absurd h (by decide)), fun _ h => absurd h List.not_mem_nil⟩) rfl rfl rfl (fun pc row h => (I_X6_fastest_ok pc row h).2)
def rm_X6_evenIn : Room := { frames := 6, cells := 0, slots := 0, locals := 131 }
noncomputable def G_X6_evenIn : mjG := (I_X6_evenIn, F_X6, [(54, 1, 0, 3, 0, 0, S_X6_isOutside), (214, 0, 3, 2, 0, 0, S_X4_copyFrom), (193, 0, 3, 1, 0, 0, S_X4_greatestStress), (77, 0, 3, 2, 0, 0, S_X4_passMinutes)], (fun pc => bif Nat.beq pc 21 then [6, 7, 8, 9, 10, 1, 2, 3, 4, 5] else bif Nat.beq pc 5 then [] else [6, 7, 8, 9, 10]), Y0, (fun _ => none), (fun _ => none), (some .int), 0, 0, false, [])
theorem fEven_s (x : Int32) (k i : Nat) (t : PSt) : fEven x (k + 1) i t = if x < kseal (gStrMax (pH t) (pC t)) then fEven x k (i + 1) (kseal (pPass t (1 : Int32).toNatClampNeg)).1 else (t, nI i) := rfl
set_option maxHeartbeats 20000000 in
set_option maxRecDepth 100000 in
theorem ok_X6_evenIn : mjOK G_X6_evenIn 3 S_X6_evenIn := by
  intro M as hP T hT
  obtain ⟨⟨a, t, s, b, ⟨n, f, q⟩, d, z, fo⟩, x, rfl, rfl, hx⟩ := inX1 hP
  have fin : (S_X6_evenIn (xw (a, t, s, b, (n, f, q), d, z, fo)) [.ref 0, .int x]).2.1 = some (xw (cEven (a, t, s, b, (n, f, q), d, z, fo) x).1) := rfl
  have fin2 : (S_X6_evenIn (xw (a, t, s, b, (n, f, q), d, z, fo)) [.ref 0, .int x]).2.2 = some (.int (cEven (a, t, s, b, (n, f, q), d, z, fo) x).2) := rfl
  rw [cEven] at fin fin2
  dsimp only [cNow] at fin fin2
  generalize S_X6_evenIn (xw (a, t, s, b, (n, f, q), d, z, fo)) [.ref 0, .int x] = SS at hT fin fin2
  dsimp only [cTrial] at fin fin2
  have s1 : gOut x 0 500 = 0 → ∀ t2, t2 = pCopy t a → T 26 [some (.ref 0), some (.int x), some (.int (nI 0))] [] (xw (a, t2, s, b, (n, f, q), d, z, fo)) (0, 0) := by
    intro h0 t2 ht
    rw [if_pos h0, kEven, kseal_eq, ← ht] at fin fin2
    generalize hFF : fEven x 100 0 t2 = FF at fin fin2
    refine mjloop0 100 (fun i => ∀ t3, FF = fEven x (100 - i) i t3 → T 26 [some (.ref 0), some (.int x), some (.int (nI i))] [] (xw (a, t3, s, b, (n, f, q), d, z, fo)) (0, 0)) (fun i hi ih t3 e => ?_) (fun t3 e => ?_) t2 hFF.symm
    · rw [nI_succ] at ih
      rw [show 100 - i = (100 - (i + 1)) + 1 by omega, fEven_s] at e
      have s2 : x < kseal (gStrMax (pH t3) (pC t3)) → ∀ w, w = kseal (pPass t3 (1 : Int32).toNatClampNeg) → T 53 [some (.ref 0), some (.int x), some (.int (nI i))] [.int w.2] (xw (a, w.1, s, b, (n, f, q), d, z, fo)) (0, 0) := by
        intro h1 w hw
        rw [if_pos h1, ← hw] at e
        refine hT.1 (fun pc => Nat.beq pc 26) 60 _ _ _ _ _ ?_
        exact ih w.1 e
      refine hT.1 (fun pc => Nat.beq pc 53) 60 _ _ _ _ _ ?_
      refine And.intro (fun h => absurd h (nI_nlt (by omega : i ≤ 99) (by decide))) (fun _ => And.intro ⟨rfl, rfl⟩ (And.intro (fun (h1 : x < kseal (gStrMax (pH t3) (pC t3))) => And.intro ⟨⟨rfl, rfl⟩, show ¬ (1 : Int32) < 0 by decide⟩ (s2 h1 _ rfl)) (fun (h1 : ¬ x < kseal (gStrMax (pH t3) (pC t3))) => ⟨?_, ?_⟩)))
      · rw [fin, e, if_neg h1]; rfl
      · rw [fin2, e, if_neg h1]
    · rw [show 100 - 100 = 0 from rfl] at e
      rw [e] at fin fin2
      refine hT.1 (fun pc => Nat.beq pc 26) 60 _ _ _ _ _ ?_
      exact And.intro (fun _ => ⟨by rw [fin]; rfl, fin2.symm⟩) (fun h => absurd (show nI 99 < nI 100 by decide) h)
  refine hT.1 (fun pc => Nat.beq pc 26) 60 _ _ _ _ _ ?_
  refine And.intro ⟨rfl, rfl⟩ (And.intro (fun (h1 : gOut x 0 500 = 0) => And.intro ⟨rfl, rfl⟩ (s1 h1 _ rfl)) (fun (h1 : ¬ gOut x 0 500 = 0) => ⟨?_, ?_⟩))
  · rw [fin, if_neg h1]; rfl
  · rw [fin2, if_neg h1]
set_option maxRecDepth 10000 in
theorem ct_X6_evenIn (l : Launch) : mjCT l yX6_evenIn cX6_evenIn 3 (some .int) rm_X6_evenIn S_X6_evenIn :=
  mjCT_of (own := RX6) (G := G_X6_evenIn) (plainFor_of_name pn_X6) rfl ok_X6_evenIn (fun meth hm => ⟨fun pc row h => (I_X6_evenIn_ok pc row h).1, F_X6_ok, List.forall_mem_cons.mpr ⟨⟨yX6_isOutside, cX6_isOutside, 3, (some .boolean), rm_X6_isOutside, ct_X6_isOutside l, ⟨rfl, rfl⟩, ⟨by decide, by decide⟩, by decide, nk_X6_isOutside, ln_X6_54, st_X6_isOutside⟩, List.forall_mem_cons.mpr ⟨⟨yX4_copyFrom, cX4_copyFrom, 2, none, rm_X4_copyFrom, ct_X4_copyFrom l, ⟨rfl, rfl⟩, ⟨by decide, by decide⟩, by decide, by decide, nk_X4_copyFrom, ln_X6_214, im_X4_copyFrom, se_X4_copyFrom, rfl⟩, List.forall_mem_cons.mpr ⟨⟨yX4_greatestStress, cX4_greatestStress, 3, (some .int), rm_X4_greatestStress, ct_X4_greatestStress l, ⟨rfl, rfl⟩, ⟨by decide, by decide⟩, by decide, by decide, nk_X4_greatestStress, ln_X6_193, im_X4_greatestStress, se_X4_greatestStress, rfl⟩, List.forall_mem_cons.mpr ⟨⟨yX4_passMinutes, cX4_passMinutes, 4, (some .int), rm_X4_passMinutes, ct_X4_passMinutes l, ⟨rfl, rfl⟩, ⟨by decide, by decide⟩, by decide, by decide, nk_X4_passMinutes, ln_X6_77, im_X4_passMinutes, se_X4_passMinutes, rfl⟩, fun _ h => absurd h List.not_mem_nil⟩⟩⟩⟩, (fun _ _ _ h => by cases h), (fun _ _ h => by cases h), ⟨Nat.le_refl _, Nat.le_refl _⟩, (fun h => by cases h), (fun h => absurd h (by decide)), fun _ h => absurd h List.not_mem_nil⟩) rfl rfl rfl (fun pc row h => (I_X6_evenIn_ok pc row h).2)
def rm_X6_run : Room := { frames := 6, cells := 0, slots := 0, locals := 131 }
noncomputable def G_X6_run : mjG := (I_X6_run, F_X6, [(123, 0, 2, 1, 0, 0, S_X3_findFault), (58, 0, 1, 2, 0, 0, S_X2_record), (129, 0, 2, 2, 0, 0, S_X3_aimOf), (132, 0, 2, 2, 0, 0, S_X3_rateOf), (135, 0, 2, 2, 0, 0, S_X3_minutesOf), (77, 0, 3, 2, 0, 0, S_X4_passMinutes)], (fun pc => bif Nat.beq pc 99 then [1, 2, 3, 4, 5] else bif Nat.beq pc 23 then [16, 17, 18, 19, 20, 21, 22, 23, 24, 25, 26, 27, 28, 29, 30, 31, 32, 33, 34, 35, 36, 37, 1, 2, 3, 4, 5] else [38, 39, 40, 41, 42]), Y0, (fun _ => none), (fun _ => none), (some .int), 0, 0, false, [])
theorem fRun_s (d : DSt) (k i : Nat) (x : Int32) (a : PSt) : fRun d (k + 1) i x a = if dSegs d ≤ nI i then (a, nI i) else if ¬ x = 0 then (a, nI i) else fRun d k (i + 1) (fStep d (nI i) a).2 (fStep d (nI i) a).1 := rfl
theorem gSeg_n0 {f : Nat → Int32} (h : ∀ k : Nat, k < 20 → ¬ f k < 0) (k : Int32) : ¬ gSeg f k 0 < 0 := by
  unfold gSeg
  split
  · decide
  · rename_i h1
    obtain ⟨h2, h3⟩ := gIsSeg_ne h1
    obtain ⟨j, hj, rfl⟩ := nI_of h2
    rw [nI_clamp hj]
    refine h j ?_
    rcases Nat.lt_or_ge j 20 with q | q
    · exact q
    · exact absurd (nI_le q hj) h3
set_option maxHeartbeats 20000000 in
set_option maxRecDepth 100000 in
theorem ok_X6_run : mjOK G_X6_run 3 S_X6_run := by
  intro M as hP T hT
  obtain ⟨⟨a, t, s, b, ⟨n, f, q⟩, d, z, fo⟩, rfl, rfl, hx, hr⟩ : ∃ c, M = xw c ∧ as = [.ref 0] ∧ xOk c.2.2.2.2.1 ∧ rOk (kFault c.2.2.2.2.2.1).1 := ⟨_, hP.1.1.1, hP.1.1.2, hP.1.2, hP.2⟩
  have fin : (S_X6_run (xw (a, t, s, b, (n, f, q), d, z, fo)) [.ref 0]).2.1 = some (xw (cRun (a, t, s, b, (n, f, q), d, z, fo)).1) := rfl
  have fin2 : (S_X6_run (xw (a, t, s, b, (n, f, q), d, z, fo)) [.ref 0]).2.2 = some (.int (cRun (a, t, s, b, (n, f, q), d, z, fo)).2) := rfl
  rw [cRun] at fin fin2
  dsimp only [cNow] at fin fin2
  generalize S_X6_run (xw (a, t, s, b, (n, f, q), d, z, fo)) [.ref 0] = SS at hT fin fin2
  dsimp only [cPad] at fin fin2
  dsimp only at hr
  have s1 : ∀ d2 : DSt × Int32, d2 = kFault d → T 7 [some (.ref 0), none, none] [.int d2.2] (xw (a, t, s, b, (n, f, q), d2.1, z, fo)) (0, 0) := by
    intro d2 hd
    rw [← hd] at fin fin2 hr
    obtain ⟨d3, v⟩ := d2
    dsimp only at fin fin2 hr ⊢
    obtain ⟨hr1, hr2⟩ := hr
    have s2 : ∀ h2, v = -4 → h2 = cRec a (n, f, q) → T 30 [some (.ref 0), some (.int (nI 0)), some (.int 0)] [] (xw (a, t, s, b, h2, d3, z, fo)) (0, 0) := by
      intro h2 h0 e1
      rw [if_pos h0, ← e1, kRun, kseal_eq] at fin fin2
      generalize hFF : fRun d3 20 0 0 a = FF at fin fin2
      have s5 : ∀ (a2 : PSt) (i : Nat) (x : Int32), FF = (a2, nI i) → T 109 [some (.ref 0), some (.int (nI i)), some (.int x)] [] (xw (a2, t, s, b, h2, d3, z, fo)) (0, 0) := by
        intro a2 i x e
        rw [e] at fin fin2
        refine hT.1 (fun _ => false) 60 _ _ _ _ _ ?_
        exact ⟨by rw [fin]; rfl, fin2.symm⟩
      refine mjloop0 20 (fun i => ∀ (x : Int32) (a2 : PSt), FF = fRun d3 (20 - i) i x a2 → T 30 [some (.ref 0), some (.int (nI i)), some (.int x)] [] (xw (a2, t, s, b, h2, d3, z, fo)) (0, 0)) (fun i hi ih x a2 e => ?_) (fun x a2 e => ?_) 0 a hFF.symm
      · rw [nI_succ] at ih
        rw [show 20 - i = (20 - (i + 1)) + 1 by omega, fRun_s] at e
        have s4 : ¬ dSegs d3 ≤ nI i → x = 0 → ∀ a3, a3 = (if gSeg d3.2.1 (nI i) (-1) = -1 then a2 else pSetAim a2 (gSeg d3.2.1 (nI i) (-1)) (gSeg d3.2.2.1 (nI i) 1)) → T 87 [some (.ref 0), some (.int (nI i)), some (.int x)] [] (xw (a3, t, s, b, h2, d3, z, fo)) (0, 0) := by
          intro h3 h4 a3 ha
          rw [if_neg h3, if_neg (fun h => h h4), fStep, ← ha] at e
          have s6 : ∀ w, w = kseal (pPass a3 (gSeg d3.2.2.2.1 (nI i) 0).toNatClampNeg) → T 102 [some (.ref 0), some (.int (nI i)), some (.int x)] [.int w.2] (xw (w.1, t, s, b, h2, d3, z, fo)) (0, 0) := by
            intro w hw
            rw [← hw] at e
            refine hT.1 (fun pc => Nat.beq pc 30) 60 _ _ _ _ _ ?_
            exact ih w.2 w.1 e
          refine hT.1 (fun pc => Nat.beq pc 102) 60 _ _ _ _ _ ?_
          exact And.intro ⟨rfl, rfl⟩ (And.intro ⟨⟨rfl, rfl⟩, gSeg_n0 hr1 (nI i)⟩ (s6 _ rfl))
        refine hT.1 (fun pc => Nat.beq pc 87 || Nat.beq pc 109) 60 _ _ _ _ _ ?_
        refine And.intro (fun (h3 : dSegs d3 ≤ nI i) => s5 a2 i x ?_) (fun (h3 : ¬ dSegs d3 ≤ nI i) => And.intro (fun (h4 : ¬ x = 0) => s5 a2 i x ?_) (fun (h4 : x = 0) => And.intro ⟨rfl, rfl⟩ (And.intro (fun (h5 : gSeg d3.2.1 (nI i) (-1) = -1) => s4 h3 h4 a2 ?_) (fun (h5 : ¬ gSeg d3.2.1 (nI i) (-1) = -1) => And.intro ⟨rfl, rfl⟩ (And.intro ⟨rfl, rfl⟩ (s4 h3 h4 (pSetAim a2 (gSeg d3.2.1 (nI i) (-1)) (gSeg d3.2.2.1 (nI i) 1)) ?_))))))
        · rw [e, if_pos h3]
        · rw [e, if_neg h3, if_pos h4]
        · rw [if_pos h5]
        · rw [if_neg h5]
      · refine hT.1 (fun pc => Nat.beq pc 109) 60 _ _ _ _ _ ?_
        exact And.intro (fun _ => s5 a2 20 x e) (fun h => absurd (show dSegs d3 ≤ nI 20 from hr2) h)
    refine hT.1 (fun pc => Nat.beq pc 26) 60 _ _ _ _ _ ?_
    refine And.intro (fun (h1 : v = -4) => And.intro ⟨⟨rfl, rfl⟩, rec_pre hx.1, hx.2⟩ (rec_w hx.1 (fun h2 e => ?_))) (fun (h1 : ¬ v = -4) => ⟨?_, ?_⟩)
    · refine hT.1 (fun pc => Nat.beq pc 30) 60 _ _ _ _ _ ?_
      exact s2 h2 h1 e
    · rw [fin, if_neg h1]; rfl
    · rw [fin2, if_neg h1]
  refine hT.1 (fun pc => Nat.beq pc 7) 60 _ _ _ _ _ ?_
  exact And.intro ⟨rfl, rfl⟩ (s1 _ rfl)
set_option maxRecDepth 10000 in
theorem ct_X6_run (l : Launch) : mjCT l yX6_run cX6_run 3 (some .int) rm_X6_run S_X6_run :=
  mjCT_of (own := RX6) (G := G_X6_run) (plainFor_of_name pn_X6) rfl ok_X6_run (fun meth hm => ⟨fun pc row h => (I_X6_run_ok pc row h).1, F_X6_ok, List.forall_mem_cons.mpr ⟨⟨yX3_findFault, cX3_findFault, 2, (some .int), rm_X3_findFault, ct_X3_findFault l, ⟨rfl, rfl⟩, ⟨by decide, by decide⟩, by decide, by decide, nk_X3_findFault, ln_X6_123, im_X3_findFault, se_X3_findFault, rfl⟩, List.forall_mem_cons.mpr ⟨⟨yX2_record, cX2_record, 3, none, rm_X2_record, ct_X2_record l, ⟨rfl, rfl⟩, ⟨by decide, by decide⟩, by decide, by decide, nk_X2_record, ln_X6_58, im_X2_record, se_X2_record, rfl⟩, List.forall_mem_cons.mpr ⟨⟨yX3_aimOf, cX3_aimOf, 2, (some .int), rm_X3_aimOf, ct_X3_aimOf l, ⟨rfl, rfl⟩, ⟨by decide, by decide⟩, by decide, by decide, nk_X3_aimOf, ln_X6_129, im_X3_aimOf, se_X3_aimOf, rfl⟩, List.forall_mem_cons.mpr ⟨⟨yX3_rateOf, cX3_rateOf, 2, (some .int), rm_X3_rateOf, ct_X3_rateOf l, ⟨rfl, rfl⟩, ⟨by decide, by decide⟩, by decide, by decide, nk_X3_rateOf, ln_X6_132, im_X3_rateOf, se_X3_rateOf, rfl⟩, List.forall_mem_cons.mpr ⟨⟨yX3_minutesOf, cX3_minutesOf, 2, (some .int), rm_X3_minutesOf, ct_X3_minutesOf l, ⟨rfl, rfl⟩, ⟨by decide, by decide⟩, by decide, by decide, nk_X3_minutesOf, ln_X6_135, im_X3_minutesOf, se_X3_minutesOf, rfl⟩, List.forall_mem_cons.mpr ⟨⟨yX4_passMinutes, cX4_passMinutes, 4, (some .int), rm_X4_passMinutes, ct_X4_passMinutes l, ⟨rfl, rfl⟩, ⟨by decide, by decide⟩, by decide, by decide, nk_X4_passMinutes, ln_X6_77, im_X4_passMinutes, se_X4_passMinutes, rfl⟩, fun _ h => absurd h List.not_mem_nil⟩⟩⟩⟩⟩⟩, (fun _ _ _ h => by cases h), (fun _ _ h => by cases h), ⟨Nat.le_refl _, Nat.le_refl _⟩, (fun h => by cases h), (fun h => absurd h (by decide)), fun _ h => absurd h List.not_mem_nil⟩) rfl rfl rfl (fun pc row h => (I_X6_run_ok pc row h).2)
