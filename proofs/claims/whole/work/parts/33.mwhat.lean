/-! ColdPanesModel: what minutes would bring -/
noncomputable def uIf (p : PSt) (x : Int32) : Nat → PSt × Int32 × Int32 × Int32 × Int32 := nf (fun i a => ((kMin7 a.1).1, (kMin7 a.1).2.1, a.2.2.1 + (if 0 ≤ (kMin7 a.1).2.2 then 1 else 0), (if (kMin7 a.1).2.2 < 0 then a.2.2.2.1 else if 0 ≤ a.2.2.2.1 then a.2.2.2.1 else nI (i + 1)), (if (kMin7 a.1).2.1 ≤ a.2.2.2.2 then a.2.2.2.2 else (kMin7 a.1).2.1))) (p, x, 0, -4, 0)
noncomputable def kIf (p : PSt) (x : Int32) (n : Nat) : PSt × Int32 × Int32 × Int32 × Int32 := kseal (uIf p x n)
noncomputable def rIf (m : RSt) (x y : Int32) : RSt × Int32 := match m with
  | (s, ad, pa, ke, pd, fl, nm, kn, ik, ln, sg, sp, fo, ho, ta, tR, tm) => if gIn x 1 99 = 0 then ((s, ad, pa, ke, pd, fl, nm, kn, ik, ln, sg, sp, fo, ho, ta, tR, tm), -1) else if gIn y 0 3 = 0 then ((s, ad, pa, ke, pd, fl, nm, kn, ik, ln, sg, sp, fo, ho, ta, tR, tm), -1) else ((s, va_cpy s ad 0 0 164, pa, ke, pd, (kIf (mD s fl) sg x.toNatClampNeg).1.2.1, nm, kn, ik, ln, (kIf (mD s fl) sg x.toNatClampNeg).2.1, sp, fo, ho, ta, tR, tm), if y = 0 then (kIf (mD s fl) sg x.toNatClampNeg).2.2.1 else if y = 1 then (kIf (mD s fl) sg x.toNatClampNeg).2.2.2.1 else if y = 2 then (kIf (mD s fl) sg x.toNatClampNeg).2.2.2.2 else mE (kIf (mD s fl) sg x.toNatClampNeg).1 4)
noncomputable def uHarm : Nat → PSt → Int32 → PSt × Int32 × Int32
  | 0, p, x => (p, x, 1)
  | n + 1, p, x => if 0 ≤ (kMin7 p).2.2 then ((kMin7 p).1, (kMin7 p).2.1, 0) else uHarm n (kMin7 p).1 (kMin7 p).2.1
noncomputable def kHarm (p : PSt) (x : Int32) (n : Nat) : PSt × Int32 × Int32 := kseal (uHarm n p x)
noncomputable def rHarm (m : RSt) (x y z : Int32) : RSt × Int32 := match m with
  | (s, ad, pa, ke, pd, fl, nm, kn, ik, ln, sg, sp, fo, ho, ta, tR, tm) => ((s, va_cpy s ad 0 0 164, pa, ke, pd, (kHarm (pSetAim (mD s fl) x y) sg z.toNatClampNeg).1.2.1, nm, kn, ik, ln, (kHarm (pSetAim (mD s fl) x y) sg z.toNatClampNeg).2.1, sp, fo, ho, ta, tR, tm), (kHarm (pSetAim (mD s fl) x y) sg z.toNatClampNeg).2.2)
noncomputable def uFast (s : Nat → Int32) (x y : Int32) : Nat → (Nat → Int32) → Int32 → (Nat → Int32) × Int32 × Int32
  | 0, fl, sg => (fl, sg, -4)
  | r + 1, fl, sg => if (kHarm (pSetAim (mD s fl) x (nI (r + 1))) sg y.toNatClampNeg).2.2 = 0 then uFast s x y r (kHarm (pSetAim (mD s fl) x (nI (r + 1))) sg y.toNatClampNeg).1.2.1 (kHarm (pSetAim (mD s fl) x (nI (r + 1))) sg y.toNatClampNeg).2.1 else ((kHarm (pSetAim (mD s fl) x (nI (r + 1))) sg y.toNatClampNeg).1.2.1, (kHarm (pSetAim (mD s fl) x (nI (r + 1))) sg y.toNatClampNeg).2.1, nI (r + 1))
noncomputable def kFast7 (s : Nat → Int32) (x y : Int32) (fl : Nat → Int32) (sg : Int32) : (Nat → Int32) × Int32 × Int32 := kseal (uFast s x y 100 fl sg)
noncomputable def rFast (m : RSt) (x y : Int32) : RSt × Int32 := match m with
  | (s, ad, pa, ke, pd, fl, nm, kn, ik, ln, sg, sp, fo, ho, ta, tR, tm) => if gIn x 0 1000 = 0 then ((s, ad, pa, ke, pd, fl, nm, kn, ik, ln, sg, sp, fo, ho, ta, tR, tm), -1) else if gIn y 1 99 = 0 then ((s, ad, pa, ke, pd, fl, nm, kn, ik, ln, sg, sp, fo, ho, ta, tR, tm), -1) else ((s, va_cpy s ad 0 0 164, pa, ke, pd, (kFast7 s x y fl sg).1, nm, kn, ik, ln, (kFast7 s x y fl sg).2.1, sp, fo, ho, ta, tR, tm), (kFast7 s x y fl sg).2.2)
noncomputable def uEven (y : Int32) : Nat → PSt → Int32 → Int32 → PSt × Int32 × Int32
  | 0, p, x, n => (p, x, n)
  | r + 1, p, x, n => if kseal (gStrMax p.1 p.2.2.2.1) ≤ y then (p, x, n) else uEven y r (kMin7 p).1 (kMin7 p).2.1 (n + 1)
noncomputable def kEven7 (y : Int32) (p : PSt) (x : Int32) : PSt × Int32 × Int32 := kseal (uEven y 100 p x 0)
noncomputable def rEven (m : RSt) (x : Int32) : RSt × Int32 := match m with
  | (s, ad, pa, ke, pd, fl, nm, kn, ik, ln, sg, sp, fo, ho, ta, tR, tm) => if gIn x 0 500 = 0 then ((s, ad, pa, ke, pd, fl, nm, kn, ik, ln, sg, sp, fo, ho, ta, tR, tm), -1) else ((s, va_cpy s ad 0 0 164, pa, ke, pd, (kEven7 x (mD s fl) sg).1.2.1, nm, kn, ik, ln, (kEven7 x (mD s fl) sg).2.1, sp, fo, ho, ta, tR, tm), if (kEven7 x (mD s fl) sg).2.2 ≤ 99 then (kEven7 x (mD s fl) sg).2.2 else -4)
theorem cpy_back {s ad : Nat → Int32} {p : PSt} (hs : sZ s) : va_cpy (va_cpy s ad 0 0 164) (mE p) 0 0 164 = s := by
  rw [va_cpyA, va_cpyA]
  funext k
  unfold cpyA
  by_cases h : k < 164
  · rw [if_pos h, if_pos h]
  · rw [if_neg h, mE_hi (by omega), hs k (by omega)]
theorem cpy_cpy {s ad : Nat → Int32} : va_cpy s (va_cpy s ad 0 0 164) 0 0 164 = va_cpy s ad 0 0 164 := by
  rw [va_cpyA, va_cpyA]
  funext k
  unfold cpyA
  by_cases h : k < 164
  · rw [if_pos h, if_pos h]
  · rw [if_neg h]
theorem uIf_s (p : PSt) (x : Int32) (i : Nat) : uIf p x (i + 1) = ((kMin7 (uIf p x i).1).1, (kMin7 (uIf p x i).1).2.1, (uIf p x i).2.2.1 + (if 0 ≤ (kMin7 (uIf p x i).1).2.2 then 1 else 0), (if (kMin7 (uIf p x i).1).2.2 < 0 then (uIf p x i).2.2.2.1 else if 0 ≤ (uIf p x i).2.2.2.1 then (uIf p x i).2.2.2.1 else nI (i + 1)), (if (kMin7 (uIf p x i).1).2.1 ≤ (uIf p x i).2.2.2.2 then (uIf p x i).2.2.2.2 else (kMin7 (uIf p x i).1).2.1)) := rfl
theorem pZ_if {p : PSt} {x : Int32} (hp : pZ p) : ∀ n, pZ (uIf p x n).1 := by
  intro n
  induction n with
  | zero => exact hp
  | succ n ih => exact pZ_min7 ih
noncomputable def S_X7_ifPassed : mjSp := fun M as => ((M = mw (rR M) ∧ as = [.ref 0, .int (aI as 1), .int (aI as 2)]) ∧ r7Ok (rR M), some (mw (rIf (rR M) (aI as 1) (aI as 2)).1), some (.int (rIf (rR M) (aI as 1) (aI as 2)).2))
noncomputable def S_X7_isHarmless : mjSp := fun M as => ((M = mw (rR M) ∧ as = [.ref 0, .int (aI as 1), .int (aI as 2), .int (aI as 3)]) ∧ r7Ok (rR M), some (mw (rHarm (rR M) (aI as 1) (aI as 2) (aI as 3)).1), some (.int (rHarm (rR M) (aI as 1) (aI as 2) (aI as 3)).2))
noncomputable def S_X7_fastest : mjSp := fun M as => ((M = mw (rR M) ∧ as = [.ref 0, .int (aI as 1), .int (aI as 2)]) ∧ r7Ok (rR M), some (mw (rFast (rR M) (aI as 1) (aI as 2)).1), some (.int (rFast (rR M) (aI as 1) (aI as 2)).2))
noncomputable def S_X7_evenIn : mjSp := fun M as => ((M = mw (rR M) ∧ as = [.ref 0, .int (aI as 1)]) ∧ r7Ok (rR M), some (mw (rEven (rR M) (aI as 1)).1), some (.int (rEven (rR M) (aI as 1)).2))
def rm_X7_ifPassed : Room := { frames := 6, cells := 0, slots := 0, locals := 130 }
noncomputable def G_X7_ifPassed : mjG := (I_X7_ifPassed, F_X7, [(43, 1, 0, 3, 0, 0, S_X7_in), (39, 1, 0, 4, 0, 0, S_X7_copies), (89, 0, 6, 1, 0, 0, S_X7_minute)], (fun pc => bif Nat.beq pc 134 then [2, 1] else bif Nat.beq pc 53 then [0, 1, 2, 3, 4, 5, 6, 7] else bif Nat.beq pc 31 then [1, 2] else []), Y0, (fun _ => none), (fun _ => none), (some .int), 0, 0, false)
set_option maxHeartbeats 20000000 in
set_option maxRecDepth 100000 in
theorem ok_X7_ifPassed : mjOK G_X7_ifPassed 8 S_X7_ifPassed := by
  intro M as hP T hT
  obtain ⟨⟨s, ad, pa, ke, pd, fl, nm, kn, ik, ln, sg, sp, fo, ho, ta, tR, tm⟩, x, y, rfl, rfl, hk⟩ : ∃ m x y, M = mw m ∧ as = [.ref 0, .int x, .int y] ∧ r7Ok m := ⟨_, _, _, hP.1.1, hP.1.2, hP.2⟩
  have fin : (S_X7_ifPassed (mw (s, ad, pa, ke, pd, fl, nm, kn, ik, ln, sg, sp, fo, ho, ta, tR, tm)) [.ref 0, .int x, .int y]).2.1 = some (mw (rIf (s, ad, pa, ke, pd, fl, nm, kn, ik, ln, sg, sp, fo, ho, ta, tR, tm) x y).1) := rfl
  have fin2 : (S_X7_ifPassed (mw (s, ad, pa, ke, pd, fl, nm, kn, ik, ln, sg, sp, fo, ho, ta, tR, tm)) [.ref 0, .int x, .int y]).2.2 = some (.int (rIf (s, ad, pa, ke, pd, fl, nm, kn, ik, ln, sg, sp, fo, ho, ta, tR, tm) x y).2) := rfl
  rw [rIf] at fin fin2
  try dsimp only at fin fin2
  generalize S_X7_ifPassed (mw (s, ad, pa, ke, pd, fl, nm, kn, ik, ln, sg, sp, fo, ho, ta, tR, tm)) [.ref 0, .int x, .int y] = SS at hT fin fin2
  have bad : gIn x 1 99 = 0 ∨ gIn y 0 3 = 0 → SS.2.1 = some (mw (s, ad, pa, ke, pd, fl, nm, kn, ik, ln, sg, sp, fo, ho, ta, tR, tm)) ∧ SS.2.2 = some (.int (-1)) := by
    intro h
    by_cases h0 : gIn x 1 99 = 0
    · rw [fin, fin2, if_pos h0]
      exact ⟨rfl, rfl⟩
    · rw [fin, fin2, if_neg h0, if_pos (h.resolve_left h0)]
      exact ⟨rfl, rfl⟩
  have s21 : ¬ gIn x 1 99 = 0 → ¬ gIn y 0 3 = 0 → T 21 [some (.ref 0), some (.int x), some (.int y), none, none, none, none, none] [] (mw (s, ad, pa, ke, pd, fl, nm, kn, ik, ln, sg, sp, fo, ho, ta, tR, tm)) (0, 0) := by
    intro h0 h1
    rw [if_neg h0, if_neg h1] at fin fin2
    obtain ⟨n, hn, rfl⟩ := nI_of (gIn_nn (by decide) h0)
    have hn99 : n ≤ 99 := (nI_leI hn (by decide)).mp (gIn_of h0).2
    have hs := hk.1
    obtain ⟨p, hz, hsp, hg⟩ : ∃ p : PSt, pZ p ∧ s = mE p ∧ p.2.1 = fl := ⟨mD s fl, mD_z _ _, (mE_D hk.1).symm, rfl⟩
    have hD : mD s fl = p := by
      rw [hsp, mD_E hz, ← hg]
    rw [hD, kIf, kseal_eq, nI_clamp hn] at fin fin2
    have hzi : ∀ i, pZ (uIf p sg i).1 := fun i => pZ_if hz i
    have s31 : ∀ ad1 s1, ad1 = va_cpy s ad 0 0 164 → s1 = mE p → T 34 [some (.ref 0), some (.int (nI n)), some (.int y), none, none, none, none, none] [] (mw (s1, ad1, pa, ke, pd, fl, nm, kn, ik, ln, sg, sp, fo, ho, ta, tR, tm)) (0, 0) := by
      intro ad1 s1 had hs1
      rw [← had] at fin
      have fin3 : ∀ p : PSt, va_cpy ad1 (mE p) 0 0 164 = s := fun p => by rw [had]; exact cpy_back hs
      refine hT.1 (fun pc => Nat.beq pc 46) 60 _ _ _ _ _ ?_
      refine mjloop0 n (fun i => ∀ (q : PSt) (s1 fl : Nat → Int32) (v a b c : Int32) (l : Option Value), (q, v, a, b, c) = uIf p sg i → q.2.1 = fl → s1 = mE q → T 46 [some (.ref 0), some (.int (nI n)), some (.int y), some (.int a), some (.int b), some (.int c), some (.int (nI (i + 1))), l] [] (mw (s1, ad1, pa, ke, pd, fl, nm, kn, ik, ln, v, sp, fo, ho, ta, tR, tm)) (0, 0)) (fun i hi ih q s1 fl v a b c l hq hf hs1 => ?_) (fun q s1 fl v a b c l hq hf hs1 => ?_) p s1 fl sg 0 (-4) 0 none rfl hg hs1
      · have hss := uIf_s p sg i
        have hzq := hzi i
        rw [← hq] at hss hzq
        dsimp only at hss hzq
        subst hs1
        subst hf
        have s56 : ∀ z : PSt × Int32 × Int32, z = kMin7 q → T 56 [some (.ref 0), some (.int (nI n)), some (.int y), some (.int a), some (.int b), some (.int c), some (.int (nI (i + 1))), l] [.int z.2.2] (mw (mE z.1, ad1, pa, ke, pd, z.1.2.1, nm, kn, ik, ln, z.2.1, sp, fo, ho, ta, tR, tm)) (0, 0) := by
          intro z hz
          rw [← hz] at hss
          rw [hss, nI_succ (i + 1)] at ih
          obtain ⟨z1, z2, z3⟩ := z
          dsimp only at ih
          have s108 : ∀ a2 b2 c2, a2 = a + (if 0 ≤ z3 then 1 else 0) → b2 = (if z3 < 0 then b else if 0 ≤ b then b else nI (i + 1)) → c2 = (if z2 ≤ c then c else z2) → T 108 [some (.ref 0), some (.int (nI n)), some (.int y), some (.int a2), some (.int b2), some (.int c), some (.int (nI (i + 1))), some (.int z3)] [.int c2] (mw (mE z1, ad1, pa, ke, pd, z1.2.1, nm, kn, ik, ln, z2, sp, fo, ho, ta, tR, tm)) (0, 0) := by
            intro a2 b2 c2 e1 e2 e3
            rw [← e1, ← e2, ← e3] at ih
            refine hT.1 (fun pc => Nat.beq pc 46) 60 _ _ _ _ _ ?_
            exact ih z1 _ _ z2 a2 b2 c2 _ rfl rfl rfl
          have s88 : ∀ a2 b2, a2 = a + (if 0 ≤ z3 then 1 else 0) → b2 = (if z3 < 0 then b else if 0 ≤ b then b else nI (i + 1)) → T 88 [some (.ref 0), some (.int (nI n)), some (.int y), some (.int a2), some (.int b), some (.int c), some (.int (nI (i + 1))), some (.int z3)] [.int b2] (mw (mE z1, ad1, pa, ke, pd, z1.2.1, nm, kn, ik, ln, z2, sp, fo, ho, ta, tR, tm)) (0, 0) := by
            intro a2 b2 e1 e2
            refine hT.1 (fun pc => Nat.beq pc 108) 60 _ _ _ _ _ ?_
            exact And.intro (fun (h : z2 ≤ c) => s108 a2 b2 _ e1 e2 (if_pos h).symm) (fun (h : ¬ z2 ≤ c) => s108 a2 b2 _ e1 e2 (if_neg h).symm)
          have s71 : ∀ a2, a2 = a + (if 0 ≤ z3 then 1 else 0) → T 71 [some (.ref 0), some (.int (nI n)), some (.int y), some (.int a2), some (.int b), some (.int c), some (.int (nI (i + 1))), some (.int z3)] [] (mw (mE z1, ad1, pa, ke, pd, z1.2.1, nm, kn, ik, ln, z2, sp, fo, ho, ta, tR, tm)) (0, 0) := by
            intro a2 e1
            refine hT.1 (fun pc => Nat.beq pc 88) 60 _ _ _ _ _ ?_
            exact And.intro (fun (h : z3 < 0) => s88 a2 _ e1 (if_pos h).symm) (fun (h : ¬ z3 < 0) => And.intro (fun (h2 : 0 ≤ b) => s88 a2 _ e1 (by rw [if_neg h, if_pos h2])) (fun (h2 : ¬ 0 ≤ b) => s88 a2 _ e1 (by rw [if_neg h, if_neg h2])))
          refine hT.1 (fun pc => Nat.beq pc 71) 60 _ _ _ _ _ ?_
          exact And.intro (fun (h : 0 ≤ z3) => s71 _ (by rw [if_pos h])) (fun (h : ¬ 0 ≤ z3) => s71 _ (by rw [if_neg h]))
        refine hT.1 (fun pc => Nat.beq pc 56) 60 _ _ _ _ _ ?_
        refine And.intro (fun (h : nI n < nI (i + 1)) => absurd h ?_) (fun _ => And.intro ⟨⟨rfl, rfl⟩, sZ_E⟩ (s56 (kMin7 (mD (mE q) q.2.1)) ?_))
        · exact nI_nlt (by omega) (by omega)
        · rw [mD_E hzq]
      · have hzq := hzi n
        rw [← hq] at fin fin2 hzq
        dsimp only at fin fin2 hzq
        subst hs1
        subst hf
        have fin3q := fin3 q
        have s137 : ∀ s2 : Nat → Int32, s2 = s → T 137 [some (.ref 0), some (.int (nI n)), some (.int y), some (.int a), some (.int b), some (.int c), some (.int (mE q 4)), l] [] (mw (s2, ad1, pa, ke, pd, q.2.1, nm, kn, ik, ln, v, sp, fo, ho, ta, tR, tm)) (0, 0) := by
          intro s2 e
          subst e
          refine hT.1 (fun _ => false) 60 _ _ _ _ _ ?_
          refine And.intro (fun (h2 : ¬ y = 0) => And.intro (fun (h3 : ¬ y = 1) => And.intro (fun (h4 : ¬ y = 2) => ⟨by rw [fin]; rfl, ?_⟩) (fun (h4 : y = 2) => ⟨by rw [fin]; rfl, ?_⟩)) (fun (h3 : y = 1) => ⟨by rw [fin]; rfl, ?_⟩)) (fun (h2 : y = 0) => ⟨by rw [fin]; rfl, ?_⟩)
          · rw [fin2, if_neg h2, if_neg h3, if_neg h4]
          · rw [fin2, if_neg h2, if_neg h3, if_pos h4]
          · rw [fin2, if_neg h2, if_pos h3]
          · rw [fin2, if_pos h2]
        refine hT.1 (fun pc => Nat.beq pc 137) 60 _ _ _ _ _ ?_
        refine And.intro (fun _ => mjix_e 4 rfl (by decide) (by decide) (And.intro ⟨⟨rfl, rfl⟩, ⟨show ¬ (0 : Int32) < 0 by decide, show ¬ (0 : Int32) < 0 by decide⟩, ⟨show (0 : Int32).toNatClampNeg + 164 ≤ 164 by decide, show (0 : Int32).toNatClampNeg + 164 ≤ 164 by decide⟩, show 164 < 10000 by decide, show 164 < 10000 by decide⟩ (s137 _ fin3q))) (fun (h : ¬ nI n < nI (n + 1)) => absurd ?_ h)
        exact nI_lt (by omega) (by omega)
    refine hT.1 (fun pc => Nat.beq pc 34) 60 _ _ _ _ _ ?_
    exact And.intro ⟨⟨rfl, rfl⟩, ⟨show ¬ (0 : Int32) < 0 by decide, show ¬ (0 : Int32) < 0 by decide⟩, ⟨show (0 : Int32).toNatClampNeg + 164 ≤ 164 by decide, show (0 : Int32).toNatClampNeg + 164 ≤ 164 by decide⟩, show 164 < 10000 by decide, show 164 < 10000 by decide⟩ (s31 _ s rfl hsp)
  refine hT.1 (fun pc => Nat.beq pc 21) 60 _ _ _ _ _ ?_
  exact And.intro ⟨rfl, rfl⟩ (And.intro (fun (h0 : gIn x 1 99 = 0) => ⟨by rw [(bad (Or.inl h0)).1]; rfl, (bad (Or.inl h0)).2.symm⟩) (fun (h0 : ¬ gIn x 1 99 = 0) => And.intro ⟨rfl, rfl⟩ (And.intro (fun (h1 : ¬ gIn y 0 3 = 0) => s21 h0 h1) (fun (h1 : gIn y 0 3 = 0) => ⟨by rw [(bad (Or.inr h1)).1]; rfl, (bad (Or.inr h1)).2.symm⟩))))
set_option maxRecDepth 10000 in
theorem ct_X7_ifPassed (l : Launch) : mjCT l yX7_ifPassed cX7_ifPassed 8 (some .int) rm_X7_ifPassed S_X7_ifPassed :=
  mjCT_of (own := RX7) (G := G_X7_ifPassed) (plainFor_of_name pn_X7) rfl ok_X7_ifPassed (fun meth hm => ⟨fun pc row h => (I_X7_ifPassed_ok pc row h).1, F_X7_ok, List.forall_mem_cons.mpr ⟨⟨yX7_in, cX7_in, 3, (some .boolean), rm_X7_in, ct_X7_in l, ⟨rfl, rfl⟩, ⟨by decide, by decide⟩, by decide, nk_X7_in, ln_X7_43, st_X7_in⟩, List.forall_mem_cons.mpr ⟨⟨yX7_copies, cX7_copies, 5, none, rm_X7_copies, ct_X7_copies l, ⟨rfl, rfl⟩, ⟨by decide, by decide⟩, by decide, nk_X7_copies, ln_X7_39, st_X7_copies⟩, List.forall_mem_cons.mpr ⟨⟨yX7_minute, cX7_minute, 6, (some .int), rm_X7_minute, ct_X7_minute l, ⟨rfl, rfl⟩, ⟨by decide, by decide⟩, by decide, by decide, nk_X7_minute, ln_X7_89, im_X7_minute, se_X7_minute, rfl⟩, fun _ h => absurd h List.not_mem_nil⟩⟩⟩, (fun _ _ _ h => by cases h), (fun _ _ h => by cases h), ⟨Nat.le_refl _, Nat.le_refl _⟩, (fun h => by cases h), (fun h => absurd h (by decide))⟩) rfl rfl rfl (fun pc row h => (I_X7_ifPassed_ok pc row h).2)
theorem uHarm_b : ∀ n p x, (uHarm n p x).2.2 = 0 ∨ (uHarm n p x).2.2 = 1 := by
  intro n
  induction n with
  | zero => exact fun _ _ => Or.inr rfl
  | succ n ih =>
    intro p x
    unfold uHarm
    split
    · exact Or.inl rfl
    · exact ih _ _
def rm_X7_isHarmless : Room := { frames := 6, cells := 0, slots := 0, locals := 130 }
noncomputable def G_X7_isHarmless : mjG := (I_X7_isHarmless, F_X7, [(39, 1, 0, 4, 0, 0, S_X7_copies), (95, 0, 6, 3, 0, 0, S_X7_laysAim), (89, 0, 6, 1, 0, 0, S_X7_minute)], (fun pc => bif Nat.beq pc 66 then [2, 1] else bif Nat.beq pc 10 then [1, 2] else [0, 1, 2, 3, 4, 5, 6, 7]), Y0, (fun _ => none), (fun _ => none), (some .boolean), 0, 0, false)
set_option maxHeartbeats 20000000 in
set_option maxRecDepth 100000 in
theorem ok_X7_isHarmless : mjOK G_X7_isHarmless 6 S_X7_isHarmless := by
  intro M as hP T hT
  obtain ⟨⟨s, ad, pa, ke, pd, fl, nm, kn, ik, ln, sg, sp, fo, ho, ta, tR, tm⟩, x, y, w, rfl, rfl, hk⟩ : ∃ m x y w, M = mw m ∧ as = [.ref 0, .int x, .int y, .int w] ∧ r7Ok m := ⟨_, _, _, _, hP.1.1, hP.1.2, hP.2⟩
  have fin : (S_X7_isHarmless (mw (s, ad, pa, ke, pd, fl, nm, kn, ik, ln, sg, sp, fo, ho, ta, tR, tm)) [.ref 0, .int x, .int y, .int w]).2.1 = some (mw (rHarm (s, ad, pa, ke, pd, fl, nm, kn, ik, ln, sg, sp, fo, ho, ta, tR, tm) x y w).1) := rfl
  have fin2 : (S_X7_isHarmless (mw (s, ad, pa, ke, pd, fl, nm, kn, ik, ln, sg, sp, fo, ho, ta, tR, tm)) [.ref 0, .int x, .int y, .int w]).2.2 = some (.int (rHarm (s, ad, pa, ke, pd, fl, nm, kn, ik, ln, sg, sp, fo, ho, ta, tR, tm) x y w).2) := rfl
  rw [rHarm] at fin fin2
  try dsimp only at fin fin2
  generalize S_X7_isHarmless (mw (s, ad, pa, ke, pd, fl, nm, kn, ik, ln, sg, sp, fo, ho, ta, tR, tm)) [.ref 0, .int x, .int y, .int w] = SS at hT fin fin2
  have hs := hk.1
  obtain ⟨p, hz, hsp, hg⟩ : ∃ p : PSt, pZ p ∧ s = mE p ∧ p.2.1 = fl := ⟨mD s fl, mD_z _ _, (mE_D hk.1).symm, rfl⟩
  have hD : mD s fl = p := by
    rw [hsp, mD_E hz, ← hg]
  rw [hD, kHarm, kseal_eq] at fin fin2
  have s13 : ∀ ad1 s1 fl1, ad1 = va_cpy s ad 0 0 164 → s1 = mE p → fl1 = p.2.1 → T 13 [some (.ref 0), some (.int x), some (.int y), some (.int w), none, none] [] (mw (s1, ad1, pa, ke, pd, fl1, nm, kn, ik, ln, sg, sp, fo, ho, ta, tR, tm)) (0, 0) := by
    intro ad1 s1 fl1 had hs1 hf1
    subst hs1
    subst hf1
    rw [← had] at fin
    have fin3 : ∀ p : PSt, va_cpy ad1 (mE p) 0 0 164 = s := fun p => by rw [had]; exact cpy_back hs
    have hbb := uHarm_b w.toNatClampNeg (pSetAim p x y) sg
    generalize hR : uHarm w.toNatClampNeg (pSetAim p x y) sg = R at fin fin2 hbb
    have s56 : ∀ k : Int32, T 56 [some (.ref 0), some (.int x), some (.int y), some (.int w), some (.int R.2.2), some (.int k)] [] (mw (mE R.1, ad1, pa, ke, pd, R.1.2.1, nm, kn, ik, ln, R.2.1, sp, fo, ho, ta, tR, tm)) (0, 0) := by
      intro k
      have s69 : ∀ s2 : Nat → Int32, s2 = s → T 69 [some (.ref 0), some (.int x), some (.int y), some (.int w), some (.int R.2.2), some (.int k)] [] (mw (s2, ad1, pa, ke, pd, R.1.2.1, nm, kn, ik, ln, R.2.1, sp, fo, ho, ta, tR, tm)) (0, 0) := by
        intro s2 e
        subst e
        refine hT.1 (fun _ => false) 60 _ _ _ _ _ ?_
        exact ⟨nar01 hbb, by rw [fin]; rfl, fin2.symm⟩
      refine hT.1 (fun pc => Nat.beq pc 69) 60 _ _ _ _ _ ?_
      exact And.intro ⟨⟨rfl, rfl⟩, ⟨show ¬ (0 : Int32) < 0 by decide, show ¬ (0 : Int32) < 0 by decide⟩, ⟨show (0 : Int32).toNatClampNeg + 164 ≤ 164 by decide, show (0 : Int32).toNatClampNeg + 164 ≤ 164 by decide⟩, show 164 < 10000 by decide, show 164 < 10000 by decide⟩ (s69 _ (fin3 R.1))
    have loop : ∀ r i (q : PSt) (v : Int32), (i < 2 ^ 31) → (w.toNatClampNeg = i + r) → (w.toNatClampNeg < 2 ^ 31) → pZ q → uHarm r q v = R → T 25 [some (.ref 0), some (.int x), some (.int y), some (.int w), some (.int 1), some (.int (nI i))] [] (mw (mE q, ad1, pa, ke, pd, q.2.1, nm, kn, ik, ln, v, sp, fo, ho, ta, tR, tm)) (0, 0) := by
      intro r
      induction r with
      | zero =>
        intro i q v hi hw hw2 hzq e
        have s56 := s56 (nI i)
        rw [← e] at s56
        refine hT.1 (fun pc => Nat.beq pc 56) 60 _ _ _ _ _ ?_
        refine And.intro (fun _ => s56) (fun (h : ¬ w ≤ nI i) => absurd ?_ h)
        by_cases hneg : w < 0
        · exact Int32.le_of_lt (Int32.lt_of_lt_of_le hneg (nI_pos' hi))
        · obtain ⟨n, hn, rfl⟩ := nI_of hneg
          rw [nI_clamp hn] at hw
          exact nI_le (by omega) hi
      | succ r ih =>
        intro i q v hi hw hw2 hzq e
        have hneg : ¬ w < 0 := by
          intro h
          have h1 : w.toInt < 0 := Int32.lt_iff_toInt_lt.mp h
          have h2 : w.toNatClampNeg = w.toInt.toNat := rfl
          omega
        have hlt : ¬ w ≤ nI i := by
          obtain ⟨n, hn, rfl⟩ := nI_of hneg
          rw [nI_clamp hn] at hw
          exact nI_ge (by omega) hn
        unfold uHarm at e
        have s40 : ∀ z : PSt × Int32 × Int32, z = kMin7 q → T 40 [some (.ref 0), some (.int x), some (.int y), some (.int w), some (.int 1), some (.int (nI i))] [.int z.2.2] (mw (mE z.1, ad1, pa, ke, pd, z.1.2.1, nm, kn, ik, ln, z.2.1, sp, fo, ho, ta, tR, tm)) (0, 0) := by
          intro z hzz
          have hz7 := pZ_min7 hzq
          rw [← hzz] at e hz7
          obtain ⟨z1, z2, z3⟩ := z
          dsimp only at e hz7
          refine hT.1 (fun pc => Nat.beq pc 25) 60 _ _ _ _ _ ?_
          refine And.intro (fun (h : 0 ≤ z3) => ?_) (fun (h : ¬ 0 ≤ z3) => ?_)
          · rw [if_pos h] at e
            have s56 := s56 (nI i + 1)
            rw [← e] at s56
            refine hT.1 (fun pc => Nat.beq pc 56) 60 _ _ _ _ _ ?_
            exact And.intro (fun _ => s56) (fun _ => And.intro (fun _ => s56) (fun h => absurd rfl h))
          · rw [if_neg h] at e
            have ih2 := ih (i + 1) z1 z2 (by omega) (by omega) hw2 hz7 e
            rw [nI_succ] at ih2
            exact ih2
        refine hT.1 (fun pc => Nat.beq pc 40) 60 _ _ _ _ _ ?_
        refine And.intro (fun h => absurd h hlt) (fun _ => And.intro (fun h => absurd h (by decide)) (fun _ => And.intro ⟨⟨rfl, rfl⟩, sZ_E⟩ (s40 (kMin7 (mD (mE q) q.2.1)) ?_)))
        rw [mD_E hzq]
    have l0 := loop w.toNatClampNeg 0 (pSetAim p x y) sg (by decide) (by omega) (by
      have h1 := Int32.toInt_lt w
      have h2 : w.toNatClampNeg = w.toInt.toNat := rfl
      omega) (pZ_aim hz) hR
    rw [← mE_aim, pAim_g] at l0
    refine hT.1 (fun pc => Nat.beq pc 25) 60 _ _ _ _ _ ?_
    exact And.intro ⟨rfl, rfl⟩ l0
  refine hT.1 (fun pc => Nat.beq pc 13) 60 _ _ _ _ _ ?_
  exact And.intro ⟨⟨rfl, rfl⟩, ⟨show ¬ (0 : Int32) < 0 by decide, show ¬ (0 : Int32) < 0 by decide⟩, ⟨show (0 : Int32).toNatClampNeg + 164 ≤ 164 by decide, show (0 : Int32).toNatClampNeg + 164 ≤ 164 by decide⟩, show 164 < 10000 by decide, show 164 < 10000 by decide⟩ (s13 _ s fl rfl hsp hg.symm)
set_option maxRecDepth 10000 in
theorem ct_X7_isHarmless (l : Launch) : mjCT l yX7_isHarmless cX7_isHarmless 6 (some .boolean) rm_X7_isHarmless S_X7_isHarmless :=
  mjCT_of (own := RX7) (G := G_X7_isHarmless) (plainFor_of_name pn_X7) rfl ok_X7_isHarmless (fun meth hm => ⟨fun pc row h => (I_X7_isHarmless_ok pc row h).1, F_X7_ok, List.forall_mem_cons.mpr ⟨⟨yX7_copies, cX7_copies, 5, none, rm_X7_copies, ct_X7_copies l, ⟨rfl, rfl⟩, ⟨by decide, by decide⟩, by decide, nk_X7_copies, ln_X7_39, st_X7_copies⟩, List.forall_mem_cons.mpr ⟨⟨yX7_laysAim, cX7_laysAim, 3, none, rm_X7_laysAim, ct_X7_laysAim l, ⟨rfl, rfl⟩, ⟨by decide, by decide⟩, by decide, by decide, nk_X7_laysAim, ln_X7_95, im_X7_laysAim, se_X7_laysAim, rfl⟩, List.forall_mem_cons.mpr ⟨⟨yX7_minute, cX7_minute, 6, (some .int), rm_X7_minute, ct_X7_minute l, ⟨rfl, rfl⟩, ⟨by decide, by decide⟩, by decide, by decide, nk_X7_minute, ln_X7_89, im_X7_minute, se_X7_minute, rfl⟩, fun _ h => absurd h List.not_mem_nil⟩⟩⟩, (fun _ _ _ h => by cases h), (fun _ _ h => by cases h), ⟨Nat.le_refl _, Nat.le_refl _⟩, (fun h => by cases h), (fun h => absurd h (by decide))⟩) rfl rfl rfl (fun pc row h => (I_X7_isHarmless_ok pc row h).2)
theorem kHarm_b (n : Nat) (p : PSt) (x : Int32) : (kHarm p x n).2.2 = 0 ∨ (kHarm p x n).2.2 = 1 := by
  rw [kHarm, kseal_eq]
  exact uHarm_b n p x
def rm_X7_fastest : Room := { frames := 7, cells := 0, slots := 0, locals := 155 }
noncomputable def G_X7_fastest : mjG := (I_X7_fastest, F_X7, [(43, 1, 0, 3, 0, 0, S_X7_in), (190, 0, 6, 4, 0, 0, S_X7_isHarmless)], (fun pc => bif Nat.beq pc 34 then [0, 1, 2, 3, 4, 5, 6, 7] else []), Y0, (fun _ => none), (fun _ => none), (some .int), 0, 0, false)
set_option maxHeartbeats 20000000 in
set_option maxRecDepth 100000 in
theorem ok_X7_fastest : mjOK G_X7_fastest 4 S_X7_fastest := by
  intro M as hP T hT
  obtain ⟨⟨s, ad, pa, ke, pd, fl, nm, kn, ik, ln, sg, sp, fo, ho, ta, tR, tm⟩, x, y, rfl, rfl, hk⟩ : ∃ m x y, M = mw m ∧ as = [.ref 0, .int x, .int y] ∧ r7Ok m := ⟨_, _, _, hP.1.1, hP.1.2, hP.2⟩
  have fin : (S_X7_fastest (mw (s, ad, pa, ke, pd, fl, nm, kn, ik, ln, sg, sp, fo, ho, ta, tR, tm)) [.ref 0, .int x, .int y]).2.1 = some (mw (rFast (s, ad, pa, ke, pd, fl, nm, kn, ik, ln, sg, sp, fo, ho, ta, tR, tm) x y).1) := rfl
  have fin2 : (S_X7_fastest (mw (s, ad, pa, ke, pd, fl, nm, kn, ik, ln, sg, sp, fo, ho, ta, tR, tm)) [.ref 0, .int x, .int y]).2.2 = some (.int (rFast (s, ad, pa, ke, pd, fl, nm, kn, ik, ln, sg, sp, fo, ho, ta, tR, tm) x y).2) := rfl
  rw [rFast] at fin fin2
  try dsimp only at fin fin2
  generalize S_X7_fastest (mw (s, ad, pa, ke, pd, fl, nm, kn, ik, ln, sg, sp, fo, ho, ta, tR, tm)) [.ref 0, .int x, .int y] = SS at hT fin fin2
  have bad : gIn x 0 1000 = 0 ∨ gIn y 1 99 = 0 → SS.2.1 = some (mw (s, ad, pa, ke, pd, fl, nm, kn, ik, ln, sg, sp, fo, ho, ta, tR, tm)) ∧ SS.2.2 = some (.int (-1)) := by
    intro h
    by_cases h0 : gIn x 0 1000 = 0
    · rw [fin, fin2, if_pos h0]
      exact ⟨rfl, rfl⟩
    · rw [fin, fin2, if_neg h0, if_pos (h.resolve_left h0)]
      exact ⟨rfl, rfl⟩
  have s23 : ¬ gIn x 0 1000 = 0 → ¬ gIn y 1 99 = 0 → T 26 [some (.ref 0), some (.int x), some (.int y), some (.int (nI 100))] [] (mw (s, ad, pa, ke, pd, fl, nm, kn, ik, ln, sg, sp, fo, ho, ta, tR, tm)) (0, 0) := by
    intro h0 h1
    rw [if_neg h0, if_neg h1, kFast7, kseal_eq] at fin fin2
    have loop : ∀ r ad1 fl1 sg1 R, r < 1000 → va_cpy s ad1 0 0 164 = va_cpy s ad 0 0 164 → (r = 0 → ad1 = va_cpy s ad 0 0 164) → SS.2.1 = some (mw (s, va_cpy s ad 0 0 164, pa, ke, pd, R.1, nm, kn, ik, ln, R.2.1, sp, fo, ho, ta, tR, tm)) → SS.2.2 = some (.int R.2.2) → uFast s x y r fl1 sg1 = R → T 26 [some (.ref 0), some (.int x), some (.int y), some (.int (nI r))] [] (mw (s, ad1, pa, ke, pd, fl1, nm, kn, ik, ln, sg1, sp, fo, ho, ta, tR, tm)) (0, 0) := by
      intro r
      induction r with
      | zero =>
        intro ad1 fl1 sg1 R _ hc ha f1 f2 e
        rw [← e, ← ha rfl] at f1
        rw [← e] at f2
        refine hT.1 (fun _ => false) 60 _ _ _ _ _ ?_
        exact And.intro (fun _ => And.intro (fun h => absurd rfl h) (fun _ => ⟨by rw [f1]; rfl, f2.symm⟩)) (fun h => absurd (by decide) h)
      | succ r ih =>
        intro ad1 fl1 sg1 R hr hc ha f1 f2 e
        unfold uFast at e
        have s37 : ∀ (z : PSt × Int32 × Int32) (ad2 : Nat → Int32), (z.2.2 = 0 ∨ z.2.2 = 1) → z = kHarm (pSetAim (mD s fl1) x (nI (r + 1))) sg1 y.toNatClampNeg → ad2 = va_cpy s ad1 0 0 164 → T 37 [some (.ref 0), some (.int x), some (.int y), some (.int (nI (r + 1)))] [.int z.2.2] (mw (s, ad2, pa, ke, pd, z.1.2.1, nm, kn, ik, ln, z.2.1, sp, fo, ho, ta, tR, tm)) (0, 0) := by
          intro z ad2 hb hzz ead
          rw [hc] at ead
          subst ead
          rw [← hzz] at e
          obtain ⟨z1, z2, z3⟩ := z
          dsimp only at e hb
          refine hT.1 (fun pc => Nat.beq pc 26 || Nat.beq pc 46) 60 _ _ _ _ _ ?_
          refine And.intro (fun (h : ¬ z3 = 0) => ?_) (fun (h : z3 = 0) => ?_)
          · rw [if_neg h] at e
            rw [← e] at f1 f2
            refine hT.1 (fun _ => false) 60 _ _ _ _ _ ?_
            exact And.intro (fun _ => ⟨by rw [f1]; rfl, f2.symm⟩) (fun (h : nI (r + 1) = 0) => absurd h (nI_ne0 (by omega) (by omega)))
          · rw [if_pos h] at e
            have ih2 := ih _ _ _ R (by omega) cpy_cpy (fun _ => rfl) f1 f2 e
            rw [← nI_m1 r] at ih2
            exact ih2
        refine hT.1 (fun pc => Nat.beq pc 37) 60 _ _ _ _ _ ?_
        exact And.intro (fun (h : nI (r + 1) ≤ 0) => absurd h (nI_nle (by omega) (by omega))) (fun _ => And.intro ⟨⟨rfl, rfl⟩, hk⟩ (s37 (kHarm (pSetAim (mD s fl1) x (nI (r + 1))) sg1 y.toNatClampNeg) _ (kHarm_b _ _ _) rfl rfl))
    exact loop 100 ad fl sg _ (by decide) rfl (fun h => absurd h (by decide)) fin fin2 rfl
  refine hT.1 (fun pc => Nat.beq pc 26) 60 _ _ _ _ _ ?_
  exact And.intro ⟨rfl, rfl⟩ (And.intro (fun (h0 : gIn x 0 1000 = 0) => ⟨by rw [(bad (Or.inl h0)).1]; rfl, (bad (Or.inl h0)).2.symm⟩) (fun (h0 : ¬ gIn x 0 1000 = 0) => And.intro ⟨rfl, rfl⟩ (And.intro (fun (h1 : ¬ gIn y 1 99 = 0) => s23 h0 h1) (fun (h1 : gIn y 1 99 = 0) => ⟨by rw [(bad (Or.inr h1)).1]; rfl, (bad (Or.inr h1)).2.symm⟩))))
set_option maxRecDepth 10000 in
theorem ct_X7_fastest (l : Launch) : mjCT l yX7_fastest cX7_fastest 4 (some .int) rm_X7_fastest S_X7_fastest :=
  mjCT_of (own := RX7) (G := G_X7_fastest) (plainFor_of_name pn_X7) rfl ok_X7_fastest (fun meth hm => ⟨fun pc row h => (I_X7_fastest_ok pc row h).1, F_X7_ok, List.forall_mem_cons.mpr ⟨⟨yX7_in, cX7_in, 3, (some .boolean), rm_X7_in, ct_X7_in l, ⟨rfl, rfl⟩, ⟨by decide, by decide⟩, by decide, nk_X7_in, ln_X7_43, st_X7_in⟩, List.forall_mem_cons.mpr ⟨⟨yX7_isHarmless, cX7_isHarmless, 6, (some .boolean), rm_X7_isHarmless, ct_X7_isHarmless l, ⟨rfl, rfl⟩, ⟨by decide, by decide⟩, by decide, by decide, nk_X7_isHarmless, ln_X7_190, im_X7_isHarmless, se_X7_isHarmless, rfl⟩, fun _ h => absurd h List.not_mem_nil⟩⟩, (fun _ _ _ h => by cases h), (fun _ _ h => by cases h), ⟨Nat.le_refl _, Nat.le_refl _⟩, (fun h => by cases h), (fun h => absurd h (by decide))⟩) rfl rfl rfl (fun pc row h => (I_X7_fastest_ok pc row h).2)
def rm_X7_evenIn : Room := { frames := 6, cells := 0, slots := 0, locals := 130 }
noncomputable def G_X7_evenIn : mjG := (I_X7_evenIn, F_X7, [(43, 1, 0, 3, 0, 0, S_X7_in), (39, 1, 0, 4, 0, 0, S_X7_copies), (76, 0, 6, 1, 0, 0, S_X7_greatestStress), (89, 0, 6, 1, 0, 0, S_X7_minute)], (fun pc => bif Nat.beq pc 63 then [2, 1] else bif Nat.beq pc 23 then [1, 2] else bif Nat.beq pc 5 then [] else [0, 1, 2, 3, 4, 5, 6, 7]), Y0, (fun _ => none), (fun _ => none), (some .int), 0, 0, false)
set_option maxHeartbeats 20000000 in
set_option maxRecDepth 100000 in
theorem ok_X7_evenIn : mjOK G_X7_evenIn 4 S_X7_evenIn := by
  intro M as hP T hT
  obtain ⟨⟨s, ad, pa, ke, pd, fl, nm, kn, ik, ln, sg, sp, fo, ho, ta, tR, tm⟩, x, rfl, rfl, hk⟩ : ∃ m x, M = mw m ∧ as = [.ref 0, .int x] ∧ r7Ok m := ⟨_, _, hP.1.1, hP.1.2, hP.2⟩
  have fin : (S_X7_evenIn (mw (s, ad, pa, ke, pd, fl, nm, kn, ik, ln, sg, sp, fo, ho, ta, tR, tm)) [.ref 0, .int x]).2.1 = some (mw (rEven (s, ad, pa, ke, pd, fl, nm, kn, ik, ln, sg, sp, fo, ho, ta, tR, tm) x).1) := rfl
  have fin2 : (S_X7_evenIn (mw (s, ad, pa, ke, pd, fl, nm, kn, ik, ln, sg, sp, fo, ho, ta, tR, tm)) [.ref 0, .int x]).2.2 = some (.int (rEven (s, ad, pa, ke, pd, fl, nm, kn, ik, ln, sg, sp, fo, ho, ta, tR, tm) x).2) := rfl
  rw [rEven] at fin fin2
  try dsimp only at fin fin2
  generalize S_X7_evenIn (mw (s, ad, pa, ke, pd, fl, nm, kn, ik, ln, sg, sp, fo, ho, ta, tR, tm)) [.ref 0, .int x] = SS at hT fin fin2
  have hs := hk.1
  obtain ⟨p, hz, hsp, hg⟩ : ∃ p : PSt, pZ p ∧ s = mE p ∧ p.2.1 = fl := ⟨mD s fl, mD_z _ _, (mE_D hk.1).symm, rfl⟩
  have hD : mD s fl = p := by
    rw [hsp, mD_E hz, ← hg]
  rw [hD, kEven7, kseal_eq] at fin fin2
  have s26 : ¬ gIn x 0 500 = 0 → ∀ ad1 s1 fl1, ad1 = va_cpy s ad 0 0 164 → s1 = mE p → fl1 = p.2.1 → T 26 [some (.ref 0), some (.int x), none, none] [] (mw (s1, ad1, pa, ke, pd, fl1, nm, kn, ik, ln, sg, sp, fo, ho, ta, tR, tm)) (0, 0) := by
    intro h0 ad1 s1 fl1 had hs1 hf1
    subst hs1
    subst hf1
    rw [if_neg h0] at fin fin2
    rw [← had] at fin
    generalize hR : uEven x 100 p sg 0 = R at fin fin2
    have fin3 : ∀ p : PSt, va_cpy ad1 (mE p) 0 0 164 = s := fun p => by rw [had]; exact cpy_back hs
    have s53 : ∀ (q : PSt) (v k : Int32) (l : Option Value), R = (q, v, k) → T 53 [some (.ref 0), some (.int x), some (.int k), l] [] (mw (mE q, ad1, pa, ke, pd, q.2.1, nm, kn, ik, ln, v, sp, fo, ho, ta, tR, tm)) (0, 0) := by
      intro q v k l hR2
      rw [hR2] at fin fin2
      dsimp only at fin fin2
      have s66 : ∀ s2 : Nat → Int32, s2 = s → T 66 [some (.ref 0), some (.int x), some (.int k), l] [] (mw (s2, ad1, pa, ke, pd, q.2.1, nm, kn, ik, ln, v, sp, fo, ho, ta, tR, tm)) (0, 0) := by
        intro s2 e
        subst e
        refine hT.1 (fun _ => false) 60 _ _ _ _ _ ?_
        refine And.intro (fun (h : k ≤ 99) => ⟨by rw [fin]; rfl, ?_⟩) (fun (h : ¬ k ≤ 99) => ⟨by rw [fin]; rfl, ?_⟩)
        · rw [fin2, if_pos h]
        · rw [fin2, if_neg h]
      refine hT.1 (fun pc => Nat.beq pc 66) 60 _ _ _ _ _ ?_
      exact And.intro ⟨⟨rfl, rfl⟩, ⟨show ¬ (0 : Int32) < 0 by decide, show ¬ (0 : Int32) < 0 by decide⟩, ⟨show (0 : Int32).toNatClampNeg + 164 ≤ 164 by decide, show (0 : Int32).toNatClampNeg + 164 ≤ 164 by decide⟩, show 164 < 10000 by decide, show 164 < 10000 by decide⟩ (s66 _ (fin3 q))
    have loop : ∀ r i (q : PSt) (v : Int32) (l : Option Value), i + r = 100 → pZ q → uEven x r q v (nI i) = R → T 28 [some (.ref 0), some (.int x), some (.int (nI i)), l] [] (mw (mE q, ad1, pa, ke, pd, q.2.1, nm, kn, ik, ln, v, sp, fo, ho, ta, tR, tm)) (0, 0) := by
      intro r
      induction r with
      | zero =>
        intro i q v l hi hzq e
        refine hT.1 (fun pc => Nat.beq pc 53) 60 _ _ _ _ _ ?_
        exact And.intro (fun _ => s53 q v _ l e.symm) (fun (h : ¬ 99 < nI i) => absurd (show nI 99 < nI i from nI_lt (by omega) (by omega)) h)
      | succ r ih =>
        intro i q v l hi hzq e
        unfold uEven at e
        have s46 : ∀ z : PSt × Int32 × Int32, z = kMin7 q → ¬ kseal (gStrMax q.1 q.2.2.2.1) ≤ x → T 46 [some (.ref 0), some (.int x), some (.int (nI i)), l] [.int z.2.2] (mw (mE z.1, ad1, pa, ke, pd, z.1.2.1, nm, kn, ik, ln, z.2.1, sp, fo, ho, ta, tR, tm)) (0, 0) := by
          intro z hzz h
          have hz7 := pZ_min7 hzq
          rw [← hzz] at e hz7
          rw [if_neg h, ← nI_succ] at e
          obtain ⟨z1, z2, z3⟩ := z
          dsimp only at e hz7
          refine hT.1 (fun pc => Nat.beq pc 28) 60 _ _ _ _ _ ?_
          have ih2 := ih (i + 1) z1 z2 (some (.int z3)) (by omega) hz7 e
          rw [nI_succ] at ih2
          exact ih2
        have es : kseal (gStrMax (vH (mE q)) (vC (mE q))) = kseal (gStrMax q.1 q.2.2.2.1) := by
          rw [vH_E hzq, vC_E hzq]
        have s37 : ∀ w : Int32, w = kseal (gStrMax q.1 q.2.2.2.1) → T 38 [some (.ref 0), some (.int x), some (.int (nI i)), l] [.int w] (mw (mE q, ad1, pa, ke, pd, q.2.1, nm, kn, ik, ln, v, sp, fo, ho, ta, tR, tm)) (0, 0) := by
          intro w hw
          refine hT.1 (fun pc => Nat.beq pc 46 || Nat.beq pc 53) 60 _ _ _ _ _ ?_
          refine And.intro (fun (h : w ≤ x) => ?_) (fun (h : ¬ w ≤ x) => And.intro ⟨⟨rfl, rfl⟩, sZ_E⟩ (s46 (kMin7 (mD (mE q) q.2.1)) (by rw [mD_E hzq]) (by rw [← hw]; exact h)))
          rw [hw] at h
          rw [if_pos h] at e
          exact s53 q v _ l e.symm
        refine hT.1 (fun pc => Nat.beq pc 38) 60 _ _ _ _ _ ?_
        exact And.intro (fun (h : 99 < nI i) => absurd (show nI 99 < nI i from h) (nI_nlt (by omega) (by omega))) (fun _ => And.intro ⟨rfl, rfl⟩ (s37 _ es))
    refine hT.1 (fun pc => Nat.beq pc 28) 60 _ _ _ _ _ ?_
    exact loop 100 0 p sg none rfl hz hR
  refine hT.1 (fun pc => Nat.beq pc 26) 60 _ _ _ _ _ ?_
  refine And.intro ⟨rfl, rfl⟩ (And.intro (fun (h0 : ¬ gIn x 0 500 = 0) => And.intro ⟨⟨rfl, rfl⟩, ⟨show ¬ (0 : Int32) < 0 by decide, show ¬ (0 : Int32) < 0 by decide⟩, ⟨show (0 : Int32).toNatClampNeg + 164 ≤ 164 by decide, show (0 : Int32).toNatClampNeg + 164 ≤ 164 by decide⟩, show 164 < 10000 by decide, show 164 < 10000 by decide⟩ (s26 h0 _ s fl rfl hsp hg.symm)) (fun (h0 : gIn x 0 500 = 0) => ⟨?_, ?_⟩))
  · rw [fin, if_pos h0]; rfl
  · rw [fin2, if_pos h0]
set_option maxRecDepth 10000 in
theorem ct_X7_evenIn (l : Launch) : mjCT l yX7_evenIn cX7_evenIn 4 (some .int) rm_X7_evenIn S_X7_evenIn :=
  mjCT_of (own := RX7) (G := G_X7_evenIn) (plainFor_of_name pn_X7) rfl ok_X7_evenIn (fun meth hm => ⟨fun pc row h => (I_X7_evenIn_ok pc row h).1, F_X7_ok, List.forall_mem_cons.mpr ⟨⟨yX7_in, cX7_in, 3, (some .boolean), rm_X7_in, ct_X7_in l, ⟨rfl, rfl⟩, ⟨by decide, by decide⟩, by decide, nk_X7_in, ln_X7_43, st_X7_in⟩, List.forall_mem_cons.mpr ⟨⟨yX7_copies, cX7_copies, 5, none, rm_X7_copies, ct_X7_copies l, ⟨rfl, rfl⟩, ⟨by decide, by decide⟩, by decide, nk_X7_copies, ln_X7_39, st_X7_copies⟩, List.forall_mem_cons.mpr ⟨⟨yX7_greatestStress, cX7_greatestStress, 3, (some .int), rm_X7_greatestStress, ct_X7_greatestStress l, ⟨rfl, rfl⟩, ⟨by decide, by decide⟩, by decide, by decide, nk_X7_greatestStress, ln_X7_76, im_X7_greatestStress, se_X7_greatestStress, rfl⟩, List.forall_mem_cons.mpr ⟨⟨yX7_minute, cX7_minute, 6, (some .int), rm_X7_minute, ct_X7_minute l, ⟨rfl, rfl⟩, ⟨by decide, by decide⟩, by decide, by decide, nk_X7_minute, ln_X7_89, im_X7_minute, se_X7_minute, rfl⟩, fun _ h => absurd h List.not_mem_nil⟩⟩⟩⟩, (fun _ _ _ h => by cases h), (fun _ _ h => by cases h), ⟨Nat.le_refl _, Nat.le_refl _⟩, (fun h => by cases h), (fun h => absurd h (by decide))⟩) rfl rfl rfl (fun pc row h => (I_X7_evenIn_ok pc row h).2)
