/-! ColdPanesModel: segments, programs -/
theorem kNum_b (pd : Nat → Int32) (ln least most : Int32) (q : Int32 × Int32) : (kNum pd ln least most q).2.1 = 0 ∨ (kNum pd ln least most q).2.1 = 1 := by
  rw [kNum, kseal_eq]
  unfold tNum
  split
  · exact Or.inl rfl
  · exact Or.inr rfl
theorem slash_le {pd : Nat → Int32} {n i : Nat} {c fo : Int32} (hn : n ≤ 60) (hi : i ≤ n) (hc : c ≠ 0) : ∃ j, i ≤ j ∧ j ≤ n ∧ nI i + tkF fo (gB (gHere pd (nI n) (nI i)) c) = nI j :=
  tSl_le (pd := pd) (c := c) hn hi (fun h => here_in hn hi (gB_in h) hc)
theorem kSeg_le {pd : Nat → Int32} {n i : Nat} {fo ho ta tR tm : Int32} (hn : n ≤ 60) (hi : i ≤ n) : ∃ j, i ≤ j ∧ j ≤ n ∧ (kSeg pd (nI n) (nI i, fo, ho, ta, tR, tm)).1 = nI j := by
  rw [kSeg, kseal_eq]
  unfold tSeg
  dsimp only
  by_cases h : gHere pd (nI n) (nI i) = 104
  · rw [if_pos h]
    obtain ⟨j, h1, h2, h3⟩ := tSl_le (pd := pd) (c := 0) (fo := fo) (b := 1) hn hi (fun _ => here_in hn hi h (by decide))
    rw [h3]
    obtain ⟨k, h4, h5, h6⟩ := kNum_le (pd := pd) (least := 1) (most := 99) (fo := tkF fo 1) hn h2
    exact ⟨k, by omega, h5, h6⟩
  · rw [if_neg h]
    obtain ⟨a, a1, a2, a3⟩ := kNum_le (pd := pd) (least := 0) (most := 1000) (fo := fo) hn hi
    generalize kNum pd (nI n) 0 1000 (nI i, fo) = A at a3 ⊢
    obtain ⟨x, y, z⟩ := A
    dsimp only at a3
    subst a3
    obtain ⟨b, b1, b2, b3⟩ := slash_le (pd := pd) (c := 47) (fo := y) hn a2 (by decide)
    unfold tSl
    dsimp only
    rw [b3]
    obtain ⟨c, c1, c2, c3⟩ := kNum_le (pd := pd) (least := 1) (most := 100) (fo := tkF y (gB (gHere pd (nI n) (nI a)) 47)) hn b2
    generalize kNum pd (nI n) 1 100 (nI b, tkF y (gB (gHere pd (nI n) (nI a)) 47)) = B at c3 ⊢
    obtain ⟨x2, y2, z2⟩ := B
    dsimp only at c3
    subst c3
    obtain ⟨d, d1, d2, d3⟩ := slash_le (pd := pd) (c := 120) (fo := y2) hn c2 (by decide)
    dsimp only
    rw [d3]
    obtain ⟨k, h4, h5, h6⟩ := kNum_le (pd := pd) (least := 1) (most := 99) (fo := tkF y2 (gB (gHere pd (nI n) (nI c)) 120)) hn d2
    exact ⟨k, by omega, h5, h6⟩
theorem kSeg_b (pd : Nat → Int32) (ln : Int32) (g : GSt) : (kSeg pd ln g).2.1 = 0 ∨ (kSeg pd ln g).2.1 = 1 := by
  rw [kSeg, kseal_eq]
  obtain ⟨sp, fo, ho, ta, tR, tm⟩ := g
  unfold tSeg
  dsimp only
  split
  · exact kNum_b _ _ _ _ _
  · exact kNum_b _ _ _ _ _
def rm_X7_takesSegment : Room := { frames := 2, cells := 0, slots := 0, locals := 45 }
noncomputable def G_X7_takesSegment : mjG := (I_X7_takesSegment, F_X7, [(121, 0, 6, 1, 0, 0, S_X7_here), (124, 0, 6, 2, 0, 0, S_X7_takes), (131, 0, 6, 3, 0, 0, S_X7_takesNumber)], (fun pc => [0, 1, 2, 3, 4, 5, 6, 7]), Y0, (fun _ => none), (fun _ => none), none, 0, 0, false)
set_option maxHeartbeats 20000000 in
set_option maxRecDepth 100000 in
theorem ok_X7_takesSegment : mjOK G_X7_takesSegment 1 S_X7_takesSegment := by
  intro M as hP T hT
  obtain ⟨⟨s, ad, pa, ke, pd, fl, nm, kn, ik, ln, sg, sp, fo, ho, ta, tR, tm⟩, rfl, rfl, hk⟩ : ∃ m, M = mw m ∧ as = [.ref 0] ∧ pOk m := ⟨_, hP.1.1, hP.1.2, hP.2⟩
  have fin : (S_X7_takesSegment (mw (s, ad, pa, ke, pd, fl, nm, kn, ik, ln, sg, sp, fo, ho, ta, tR, tm)) [.ref 0]).2.1 = some (mw (rSeg (s, ad, pa, ke, pd, fl, nm, kn, ik, ln, sg, sp, fo, ho, ta, tR, tm))) := rfl
  have fin2 : (S_X7_takesSegment (mw (s, ad, pa, ke, pd, fl, nm, kn, ik, ln, sg, sp, fo, ho, ta, tR, tm)) [.ref 0]).2.2 = none := rfl
  rw [rSeg] at fin
  try dsimp only at fin
  generalize S_X7_takesSegment (mw (s, ad, pa, ke, pd, fl, nm, kn, ik, ln, sg, sp, fo, ho, ta, tR, tm)) [.ref 0] = SS at hT fin fin2
  obtain ⟨i, n, hi, hn, rfl, rfl⟩ : ∃ i n : Nat, i ≤ n ∧ n ≤ 60 ∧ sp = nI i ∧ ln = nI n := hk
  rw [kSeg, kseal_eq, tSeg] at fin
  have s92 : ∀ (q : Int32 × Int32) (ho1 ta1 tR1 : Int32) (k : Nat), k ≤ n → q.1 = nI k → SS.2.1 = some (mw (mG (s, ad, pa, ke, pd, fl, nm, kn, ik, (nI n), sg, (nI i), fo, ho, ta, tR, tm) (tEnd pd (nI n) q ho1 ta1 tR1))) → T 92 [some (.ref 0)] [] (mw (s, ad, pa, ke, pd, fl, nm, kn, ik, (nI n), sg, q.1, q.2, ho1, ta1, tR1, tm)) (0, 0) := by
    intro q ho1 ta1 tR1 k hk2 e fin
    obtain ⟨a, b⟩ := q
    dsimp only at e
    subst e
    have hk : pOk (s, ad, pa, ke, pd, fl, nm, kn, ik, (nI n), sg, (nI k), b, ho1, ta1, tR1, tm) := ⟨k, n, hk2, hn, rfl, rfl⟩
    refine hT.1 (fun _ => false) 60 _ _ _ _ _ ?_
    exact And.intro ⟨⟨rfl, rfl⟩, hk⟩ ⟨by rw [fin]; rfl, fin2.symm⟩
  have s74 : ∀ (B : Int32 × Int32 × Int32) (ta1 : Int32) (k : Nat), k ≤ n → B.1 = nI k → SS.2.1 = some (mw (mG (s, ad, pa, ke, pd, fl, nm, kn, ik, (nI n), sg, (nI i), fo, ho, ta, tR, tm) (tEnd pd (nI n) (tSl pd (nI n) 120 B) 0 ta1 B.2.2))) → T 74 [some (.ref 0)] [] (mw (s, ad, pa, ke, pd, fl, nm, kn, ik, (nI n), sg, B.1, B.2.1, 0, ta1, B.2.2, tm)) (0, 0) := by
    intro B ta1 k hk2 e fin
    obtain ⟨x, y, z⟩ := B
    dsimp only at e
    subst e
    have hk : pOk (s, ad, pa, ke, pd, fl, nm, kn, ik, (nI n), sg, (nI k), y, 0, ta1, z, tm) := ⟨k, n, hk2, hn, rfl, rfl⟩
    obtain ⟨d, d1, d2, d3⟩ := slash_le (pd := pd) (c := 120) (fo := y) hn hk2 (by decide)
    have s89 : ∀ b, b = gB (gHere pd (nI n) (nI k)) 120 → T 89 [some (.ref 0)] [.int b, .ref 0] (mw (s, ad, pa, ke, pd, fl, nm, kn, ik, (nI n), sg, (nI k), y, 0, ta1, z, tm)) (0, 0) := by
      intro b hb
      refine hT.1 (fun pc => Nat.beq pc 92) 60 _ _ _ _ _ ?_
      refine And.intro ⟨⟨rfl, rfl⟩, trivial⟩ (s92 (nI k + tkF y b, tkF y b) 0 ta1 z d d2 (by rw [hb]; exact d3) ?_)
      rw [fin, hb]
      rfl
    refine hT.1 (fun pc => Nat.beq pc 89) 60 _ _ _ _ _ ?_
    exact And.intro ⟨⟨rfl, rfl⟩, hk⟩ (And.intro (fun (h : ¬ gHere pd (nI n) (nI k) = 120) => s89 _ (if_neg h).symm) (fun (h : gHere pd (nI n) (nI k) = 120) => s89 _ (if_pos h).symm))
  have s45 : ∀ (A : Int32 × Int32 × Int32) (k : Nat), k ≤ n → A.1 = nI k → SS.2.1 = some (mw (mG (s, ad, pa, ke, pd, fl, nm, kn, ik, (nI n), sg, (nI i), fo, ho, ta, tR, tm) (tEnd pd (nI n) (tSl pd (nI n) 120 (kNum pd (nI n) 1 100 (tSl pd (nI n) 47 A))) 0 A.2.2 (kNum pd (nI n) 1 100 (tSl pd (nI n) 47 A)).2.2))) → T 45 [some (.ref 0)] [] (mw (s, ad, pa, ke, pd, fl, nm, kn, ik, (nI n), sg, A.1, A.2.1, 0, A.2.2, tR, tm)) (0, 0) := by
    intro A k hk2 e fin
    obtain ⟨x, y, z⟩ := A
    dsimp only at e
    subst e
    have hk : pOk (s, ad, pa, ke, pd, fl, nm, kn, ik, (nI n), sg, (nI k), y, 0, z, tR, tm) := ⟨k, n, hk2, hn, rfl, rfl⟩
    obtain ⟨d, d1, d2, d3⟩ := slash_le (pd := pd) (c := 47) (fo := y) hn hk2 (by decide)
    have s63 : ∀ q : Int32 × Int32, q.1 = nI d → q = tSl pd (nI n) 47 (nI k, y, z) → T 63 [some (.ref 0)] [] (mw (s, ad, pa, ke, pd, fl, nm, kn, ik, (nI n), sg, q.1, q.2, 0, z, tR, tm)) (0, 0) := by
      intro q e hq
      rw [← hq] at fin
      obtain ⟨a, b⟩ := q
      dsimp only at e
      subst e
      have hk : pOk (s, ad, pa, ke, pd, fl, nm, kn, ik, (nI n), sg, (nI d), b, 0, z, tR, tm) := ⟨d, n, d2, hn, rfl, rfl⟩
      obtain ⟨c, c1, c2, c3⟩ := kNum_le (pd := pd) (least := 1) (most := 100) (fo := b) hn d2
      refine hT.1 (fun pc => Nat.beq pc 74) 60 _ _ _ _ _ ?_
      exact And.intro ⟨⟨rfl, rfl⟩, hk⟩ (s74 (kNum pd (nI n) 1 100 (nI d, b)) z c c2 c3 fin)
    have s60 : ∀ b, b = gB (gHere pd (nI n) (nI k)) 47 → T 60 [some (.ref 0)] [.int b, .ref 0] (mw (s, ad, pa, ke, pd, fl, nm, kn, ik, (nI n), sg, (nI k), y, 0, z, tR, tm)) (0, 0) := by
      intro b hb
      refine hT.1 (fun pc => Nat.beq pc 63) 60 _ _ _ _ _ ?_
      exact And.intro ⟨⟨rfl, rfl⟩, trivial⟩ (s63 (nI k + tkF y b, tkF y b) (by rw [hb]; exact d3) (by rw [hb]; rfl))
    refine hT.1 (fun pc => Nat.beq pc 60) 60 _ _ _ _ _ ?_
    exact And.intro ⟨⟨rfl, rfl⟩, hk⟩ (And.intro (fun (h : ¬ gHere pd (nI n) (nI k) = 47) => s60 _ (if_neg h).symm) (fun (h : gHere pd (nI n) (nI k) = 47) => s60 _ (if_pos h).symm))
  have hk : ∀ ho, pOk (s, ad, pa, ke, pd, fl, nm, kn, ik, (nI n), sg, (nI i), fo, ho, ta, tR, tm) := fun ho => ⟨i, n, hi, hn, rfl, rfl⟩
  refine hT.1 (fun pc => Nat.beq pc 14 || Nat.beq pc 10) 60 _ _ _ _ _ ?_
  refine And.intro ⟨⟨rfl, rfl⟩, hk ho⟩ (And.intro (fun (h : ¬ gHere pd (nI n) (nI i) = 104) => ?_) (fun (h : gHere pd (nI n) (nI i) = 104) => ?_))
  · rw [if_neg h] at fin
    obtain ⟨c, c1, c2, c3⟩ := kNum_le (pd := pd) (least := 0) (most := 1000) (fo := fo) hn hi
    refine hT.1 (fun pc => Nat.beq pc 45) 60 _ _ _ _ _ ?_
    exact And.intro (Or.inl rfl) (And.intro (fun _ => And.intro ⟨⟨rfl, rfl⟩, hk 0⟩ (s45 (kNum pd (nI n) 0 1000 (nI i, fo)) c c2 c3 fin)) (fun h => absurd rfl h))
  · rw [if_pos h] at fin
    obtain ⟨c, c1, c2, c3⟩ := tSl_le (pd := pd) (c := 0) (fo := fo) (b := 1) hn hi (fun _ => here_in hn hi h (by decide))
    refine hT.1 (fun pc => Nat.beq pc 92) 60 _ _ _ _ _ ?_
    exact And.intro (Or.inr rfl) (And.intro (fun h => absurd h (by decide)) (fun _ => And.intro ⟨⟨rfl, rfl⟩, trivial⟩ (s92 (nI i + tkF fo 1, tkF fo 1) 1 ta tR c c2 c3 fin)))
set_option maxRecDepth 10000 in
theorem ct_X7_takesSegment (l : Launch) : mjCT l yX7_takesSegment cX7_takesSegment 1 none rm_X7_takesSegment S_X7_takesSegment :=
  mjCT_of (own := RX7) (G := G_X7_takesSegment) (plainFor_of_name pn_X7) rfl ok_X7_takesSegment (fun meth hm => ⟨fun pc row h => (I_X7_takesSegment_ok pc row h).1, F_X7_ok, List.forall_mem_cons.mpr ⟨⟨yX7_here, cX7_here, 1, (some .int), rm_X7_here, ct_X7_here l, ⟨rfl, rfl⟩, ⟨by decide, by decide⟩, by decide, by decide, nk_X7_here, ln_X7_121, im_X7_here, se_X7_here, rfl⟩, List.forall_mem_cons.mpr ⟨⟨yX7_takes, cX7_takes, 2, none, rm_X7_takes, ct_X7_takes l, ⟨rfl, rfl⟩, ⟨by decide, by decide⟩, by decide, by decide, nk_X7_takes, ln_X7_124, im_X7_takes, se_X7_takes, rfl⟩, List.forall_mem_cons.mpr ⟨⟨yX7_takesNumber, cX7_takesNumber, 4, (some .int), rm_X7_takesNumber, ct_X7_takesNumber l, ⟨rfl, rfl⟩, ⟨by decide, by decide⟩, by decide, by decide, nk_X7_takesNumber, ln_X7_131, im_X7_takesNumber, se_X7_takesNumber, rfl⟩, fun _ h => absurd h List.not_mem_nil⟩⟩⟩, (fun _ _ _ h => by cases h), (fun _ _ h => by cases h), ⟨Nat.le_refl _, Nat.le_refl _⟩, (fun h => by cases h), (fun h => absurd h (by decide))⟩) rfl rfl rfl (fun pc row h => (I_X7_takesSegment_ok pc row h).2)
theorem tProg_s (pd : Nat → Int32) (ln : Int32) (f : Nat) (sp fo ho ta tR tm : Int32) : tProg pd ln (f + 1) (sp, fo, ho, ta, tR, tm) = if fo = 0 then (sp, fo, ho, ta, tR, tm) else if ln ≤ sp then (sp, fo, ho, ta, tR, tm) else if tkF fo (gB (gHere pd ln sp) 59) = 0 then (sp, 0, ho, ta, tR, tm) else tProg pd ln f (kSeg pd ln (sp + 1, 1, ho, ta, tR, tm)) := rfl
def rm_X7_isProgram : Room := { frames := 3, cells := 0, slots := 0, locals := 65 }
noncomputable def G_X7_isProgram : mjG := (I_X7_isProgram, F_X7, [(144, 0, 6, 1, 0, 0, S_X7_takesSegment), (121, 0, 6, 1, 0, 0, S_X7_here), (124, 0, 6, 2, 0, 0, S_X7_takes)], (fun pc => [0, 1, 2, 3, 4, 5, 6, 7]), Y0, (fun _ => none), (fun _ => none), (some .boolean), 0, 0, false)
set_option maxHeartbeats 20000000 in
set_option maxRecDepth 100000 in
theorem ok_X7_isProgram : mjOK G_X7_isProgram 1 S_X7_isProgram := by
  intro M as hP T hT
  obtain ⟨⟨s, ad, pa, ke, pd, fl, nm, kn, ik, ln, sg, sp, fo, ho, ta, tR, tm⟩, rfl, rfl, hk⟩ : ∃ m, M = mw m ∧ as = [.ref 0] ∧ r7Ok m := ⟨_, hP.1.1, hP.1.2, hP.2⟩
  have fin : (S_X7_isProgram (mw (s, ad, pa, ke, pd, fl, nm, kn, ik, ln, sg, sp, fo, ho, ta, tR, tm)) [.ref 0]).2.1 = some (mw (rProg (s, ad, pa, ke, pd, fl, nm, kn, ik, ln, sg, sp, fo, ho, ta, tR, tm)).1) := rfl
  have fin2 : (S_X7_isProgram (mw (s, ad, pa, ke, pd, fl, nm, kn, ik, ln, sg, sp, fo, ho, ta, tR, tm)) [.ref 0]).2.2 = some (.int (rProg (s, ad, pa, ke, pd, fl, nm, kn, ik, ln, sg, sp, fo, ho, ta, tR, tm)).2) := rfl
  rw [rProg] at fin fin2
  try dsimp only at fin fin2
  generalize S_X7_isProgram (mw (s, ad, pa, ke, pd, fl, nm, kn, ik, ln, sg, sp, fo, ho, ta, tR, tm)) [.ref 0] = SS at hT fin fin2
  obtain ⟨n, hn0, rfl⟩ := nI_of hk.2.2.1
  have hn : n ≤ 60 := (nI_leI hn0 (by decide)).mp hk.2.2.2
  rw [kProg, kseal_eq] at fin fin2
  have leaf : ∀ sp1 fo1 ho1 ta1 tR1 tm1, (fo1 = 0 ∨ fo1 = 1) → SS.2.1 = some (mw (s, ad, pa, ke, pd, fl, nm, kn, ik, (nI n), sg, sp1, fo1, ho1, ta1, tR1, tm1)) → SS.2.2 = some (.int fo1) → T 64 [some (.ref 0)] [] (mw (s, ad, pa, ke, pd, fl, nm, kn, ik, (nI n), sg, sp1, fo1, ho1, ta1, tR1, tm1)) (0, 0) := by
    intro sp1 fo1 ho1 ta1 tR1 tm1 hb f1 f2
    refine hT.1 (fun _ => false) 60 _ _ _ _ _ ?_
    exact ⟨nar01 hb, by rw [f1]; rfl, f2.symm⟩
  have loop : ∀ f i fo1 ho1 ta1 tR1 tm1, i ≤ n → n - i < f → (fo1 = 0 ∨ fo1 = 1) → SS.2.1 = some (mw (mG (s, ad, pa, ke, pd, fl, nm, kn, ik, (nI n), sg, sp, fo, ho, ta, tR, tm) (tProg pd (nI n) f (nI i, fo1, ho1, ta1, tR1, tm1)))) → SS.2.2 = some (.int (tProg pd (nI n) f (nI i, fo1, ho1, ta1, tR1, tm1)).2.1) → T 14 [some (.ref 0)] [] (mw (s, ad, pa, ke, pd, fl, nm, kn, ik, (nI n), sg, (nI i), fo1, ho1, ta1, tR1, tm1)) (0, 0) := by
    intro f
    induction f with
    | zero => exact fun i _ _ _ _ _ _ h => absurd h (by omega)
    | succ f ih =>
      intro i fo1 ho1 ta1 tR1 tm1 hi hf hb f1 f2
      rw [tProg_s] at f1 f2
      have hk : pOk (s, ad, pa, ke, pd, fl, nm, kn, ik, (nI n), sg, (nI i), fo1, ho1, ta1, tR1, tm1) := ⟨i, n, hi, hn, rfl, rfl⟩
      refine hT.1 (fun pc => Nat.beq pc 64 || Nat.beq pc 32) 60 _ _ _ _ _ ?_
      refine And.intro (fun (h1 : fo1 = 0) => ?_) (fun (h1 : ¬ fo1 = 0) => And.intro (fun (h2 : nI n ≤ nI i) => ?_) (fun (h2 : ¬ nI n ≤ nI i) => ?_))
      · rw [if_pos h1] at f1 f2
        exact leaf _ _ _ _ _ _ hb f1 f2
      · rw [if_neg h1, if_pos h2] at f1 f2
        exact leaf _ _ _ _ _ _ hb f1 f2
      · rw [if_neg h1, if_neg h2] at f1 f2
        have hlt : i < n := by
          rcases Nat.lt_or_ge i n with w | w
          · exact w
          · exact absurd (nI_le w (by omega)) h2
        have s50 : ∀ w, w = tkF fo1 (gB (gHere pd (nI n) (nI i)) 59) → T 50 [some (.ref 0)] [] (mw (s, ad, pa, ke, pd, fl, nm, kn, ik, (nI n), sg, (nI i + w), w, ho1, ta1, tR1, tm1)) (0, 0) := by
          intro w hw
          have hb2 := tkF_b fo1 (gB (gHere pd (nI n) (nI i)) 59)
          rw [← hw] at f1 f2 hb2
          rcases hb2 with rfl | rfl
          · rw [if_pos rfl] at f1 f2
            rw [Int32.add_zero]
            refine hT.1 (fun pc => Nat.beq pc 64) 60 _ _ _ _ _ ?_
            exact And.intro (fun _ => And.intro (fun _ => leaf _ _ _ _ _ _ (Or.inl rfl) f1 f2) (fun h => absurd rfl h)) (fun h => absurd rfl h)
          · rw [if_neg (by decide), ← nI_succ] at f1 f2
            rw [← nI_succ]
            have hk : pOk (s, ad, pa, ke, pd, fl, nm, kn, ik, (nI n), sg, (nI (i + 1)), 1, ho1, ta1, tR1, tm1) := ⟨i + 1, n, hlt, hn, rfl, rfl⟩
            have s2 : ∀ g : GSt, g = kSeg pd (nI n) (nI (i + 1), 1, ho1, ta1, tR1, tm1) → T 14 [some (.ref 0)] [] (mw (mG (s, ad, pa, ke, pd, fl, nm, kn, ik, (nI n), sg, sp, fo, ho, ta, tR, tm) g)) (0, 0) := by
              intro g hg
              obtain ⟨j, j1, j2, j3⟩ := kSeg_le (pd := pd) (fo := 1) (ho := ho1) (ta := ta1) (tR := tR1) (tm := tm1) hn hlt
              have hb3 := kSeg_b pd (nI n) (nI (i + 1), 1, ho1, ta1, tR1, tm1)
              rw [← hg] at f1 f2 j3 hb3
              obtain ⟨a1, a2, a3, a4, a5, a6⟩ := g
              dsimp only at j3 hb3
              subst j3
              exact ih j a2 a3 a4 a5 a6 j2 (by omega) hb3 f1 f2
            refine hT.1 (fun pc => Nat.beq pc 14) 60 _ _ _ _ _ ?_
            exact And.intro (fun h => absurd h (by decide)) (fun _ => And.intro ⟨⟨rfl, rfl⟩, hk⟩ (s2 _ rfl))
        have s47 : ∀ b, b = gB (gHere pd (nI n) (nI i)) 59 → T 47 [some (.ref 0)] [.int b, .ref 0] (mw (s, ad, pa, ke, pd, fl, nm, kn, ik, (nI n), sg, (nI i), fo1, ho1, ta1, tR1, tm1)) (0, 0) := by
          intro b hb
          refine hT.1 (fun pc => Nat.beq pc 50) 60 _ _ _ _ _ ?_
          exact And.intro ⟨⟨rfl, rfl⟩, trivial⟩ (s50 (tkF fo1 b) (by rw [hb]))
        refine hT.1 (fun pc => Nat.beq pc 47) 60 _ _ _ _ _ ?_
        exact And.intro ⟨⟨rfl, rfl⟩, hk⟩ (And.intro (fun (h : ¬ gHere pd (nI n) (nI i) = 59) => s47 _ (if_neg h).symm) (fun (h : gHere pd (nI n) (nI i) = 59) => s47 _ (if_pos h).symm))
  have s2 : ∀ g : GSt, g = kSeg pd (nI n) (nI 0, 1, ho, ta, tR, tm) → T 14 [some (.ref 0)] [] (mw (mG (s, ad, pa, ke, pd, fl, nm, kn, ik, (nI n), sg, sp, fo, ho, ta, tR, tm) g)) (0, 0) := by
    intro g hg
    obtain ⟨j, j1, j2, j3⟩ := kSeg_le (pd := pd) (n := n) (i := 0) (fo := 1) (ho := ho) (ta := ta) (tR := tR) (tm := tm) hn (Nat.zero_le _)
    have hb3 := kSeg_b pd (nI n) (nI 0, 1, ho, ta, tR, tm)
    rw [show (0 : Int32) = nI 0 from rfl, ← hg] at fin fin2
    rw [← hg] at j3 hb3
    obtain ⟨a1, a2, a3, a4, a5, a6⟩ := g
    dsimp only at j3 hb3
    subst j3
    exact loop 61 j a2 a3 a4 a5 a6 j2 (by omega) hb3 fin fin2
  have hk : pOk (s, ad, pa, ke, pd, fl, nm, kn, ik, (nI n), sg, (nI 0), 1, ho, ta, tR, tm) := ⟨0, n, Nat.zero_le _, hn, rfl, rfl⟩
  refine hT.1 (fun pc => Nat.beq pc 14) 60 _ _ _ _ _ ?_
  exact And.intro (Or.inr rfl) (And.intro ⟨⟨rfl, rfl⟩, hk⟩ (s2 _ rfl))
set_option maxRecDepth 10000 in
theorem ct_X7_isProgram (l : Launch) : mjCT l yX7_isProgram cX7_isProgram 1 (some .boolean) rm_X7_isProgram S_X7_isProgram :=
  mjCT_of (own := RX7) (G := G_X7_isProgram) (plainFor_of_name pn_X7) rfl ok_X7_isProgram (fun meth hm => ⟨fun pc row h => (I_X7_isProgram_ok pc row h).1, F_X7_ok, List.forall_mem_cons.mpr ⟨⟨yX7_takesSegment, cX7_takesSegment, 1, none, rm_X7_takesSegment, ct_X7_takesSegment l, ⟨rfl, rfl⟩, ⟨by decide, by decide⟩, by decide, by decide, nk_X7_takesSegment, ln_X7_144, im_X7_takesSegment, se_X7_takesSegment, rfl⟩, List.forall_mem_cons.mpr ⟨⟨yX7_here, cX7_here, 1, (some .int), rm_X7_here, ct_X7_here l, ⟨rfl, rfl⟩, ⟨by decide, by decide⟩, by decide, by decide, nk_X7_here, ln_X7_121, im_X7_here, se_X7_here, rfl⟩, List.forall_mem_cons.mpr ⟨⟨yX7_takes, cX7_takes, 2, none, rm_X7_takes, ct_X7_takes l, ⟨rfl, rfl⟩, ⟨by decide, by decide⟩, by decide, by decide, nk_X7_takes, ln_X7_124, im_X7_takes, se_X7_takes, rfl⟩, fun _ h => absurd h List.not_mem_nil⟩⟩⟩, (fun _ _ _ h => by cases h), (fun _ _ h => by cases h), ⟨Nat.le_refl _, Nat.le_refl _⟩, (fun h => by cases h), (fun h => absurd h (by decide))⟩) rfl rfl rfl (fun pc row h => (I_X7_isProgram_ok pc row h).2)
theorem mG_t (m : RSt) (g : GSt) : mG m g = (m.1, m.2.1, m.2.2.1, m.2.2.2.1, m.2.2.2.2.1, m.2.2.2.2.2.1, m.2.2.2.2.2.2.1, m.2.2.2.2.2.2.2.1, m.2.2.2.2.2.2.2.2.1, m.2.2.2.2.2.2.2.2.2.1, m.2.2.2.2.2.2.2.2.2.2.1, g) := rfl
def rm_X7_fault : Room := { frames := 4, cells := 0, slots := 0, locals := 85 }
noncomputable def G_X7_fault : mjG := (I_X7_fault, F_X7, [(147, 0, 6, 1, 0, 0, S_X7_isProgram)], (fun pc => [0, 1, 2, 3, 4, 5, 6, 7]), Y0, (fun _ => none), (fun _ => none), (some .int), 0, 0, false)
set_option maxHeartbeats 20000000 in
set_option maxRecDepth 100000 in
theorem ok_X7_fault : mjOK G_X7_fault 1 S_X7_fault := by
  intro M as hP T hT
  obtain ⟨⟨s, ad, pa, ke, pd, fl, nm, kn, ik, ln, sg, sp, fo, ho, ta, tR, tm⟩, rfl, rfl, hk⟩ : ∃ m, M = mw m ∧ as = [.ref 0] ∧ r7Ok m := ⟨_, hP.1.1, hP.1.2, hP.2⟩
  have fin : (S_X7_fault (mw (s, ad, pa, ke, pd, fl, nm, kn, ik, ln, sg, sp, fo, ho, ta, tR, tm)) [.ref 0]).2.1 = some (mw (rFault (s, ad, pa, ke, pd, fl, nm, kn, ik, ln, sg, sp, fo, ho, ta, tR, tm)).1) := rfl
  have fin2 : (S_X7_fault (mw (s, ad, pa, ke, pd, fl, nm, kn, ik, ln, sg, sp, fo, ho, ta, tR, tm)) [.ref 0]).2.2 = some (.int (rFault (s, ad, pa, ke, pd, fl, nm, kn, ik, ln, sg, sp, fo, ho, ta, tR, tm)).2) := rfl
  rw [rFault] at fin fin2
  try dsimp only at fin fin2
  generalize S_X7_fault (mw (s, ad, pa, ke, pd, fl, nm, kn, ik, ln, sg, sp, fo, ho, ta, tR, tm)) [.ref 0] = SS at hT fin fin2
  have s4 : ∀ g : GSt, g = kProg pd ln (ho, ta, tR, tm) → T 4 [some (.ref 0)] [.int g.2.1] (mw (mG (s, ad, pa, ke, pd, fl, nm, kn, ik, ln, sg, sp, fo, ho, ta, tR, tm) g)) (0, 0) := by
    intro g hg
    rw [← hg] at fin fin2
    obtain ⟨a1, a2, a3, a4, a5, a6⟩ := g
    dsimp only at fin2
    refine hT.1 (fun _ => false) 60 _ _ _ _ _ ?_
    refine And.intro (fun (h : a2 = 0) => ⟨by rw [fin]; rfl, ?_⟩) (fun (h : ¬ a2 = 0) => ⟨by rw [fin]; rfl, ?_⟩)
    · rw [fin2, if_pos h]
    · rw [fin2, if_neg h]
  refine hT.1 (fun pc => Nat.beq pc 4) 60 _ _ _ _ _ ?_
  exact And.intro ⟨⟨rfl, rfl⟩, hk⟩ (s4 _ rfl)
set_option maxRecDepth 10000 in
theorem ct_X7_fault (l : Launch) : mjCT l yX7_fault cX7_fault 1 (some .int) rm_X7_fault S_X7_fault :=
  mjCT_of (own := RX7) (G := G_X7_fault) (plainFor_of_name pn_X7) rfl ok_X7_fault (fun meth hm => ⟨fun pc row h => (I_X7_fault_ok pc row h).1, F_X7_ok, List.forall_mem_cons.mpr ⟨⟨yX7_isProgram, cX7_isProgram, 1, (some .boolean), rm_X7_isProgram, ct_X7_isProgram l, ⟨rfl, rfl⟩, ⟨by decide, by decide⟩, by decide, by decide, nk_X7_isProgram, ln_X7_147, im_X7_isProgram, se_X7_isProgram, rfl⟩, fun _ h => absurd h List.not_mem_nil⟩, (fun _ _ _ h => by cases h), (fun _ _ h => by cases h), ⟨Nat.le_refl _, Nat.le_refl _⟩, (fun h => by cases h), (fun h => absurd h (by decide))⟩) rfl rfl rfl (fun pc row h => (I_X7_fault_ok pc row h).2)
