/-! ColdPanesModel: run, and what minutes would bring -/
/-- a run over the texts from a place: the pane, the greatest stress ahead, the reader, how many segments -/
noncomputable def uStep (g : GSt) (p : PSt) (x : Int32) : PSt × Int32 × Int32 := kPass7 (if g.2.2.1 = 0 then pSetAim p g.2.2.2.1 g.2.2.2.2.1 else p) x g.2.2.2.2.2.toNatClampNeg
noncomputable def uRun (pd : Nat → Int32) (ln : Int32) : Nat → PSt → Int32 → GSt → Int32 → Int32 → PSt × Int32 × GSt × Int32
  | 0, p, x, g, n, _ => (p, x, g, n)
  | f + 1, p, x, g, n, c => if c = 0 then (if ln ≤ g.1 then (p, x, g, n) else uRun pd ln f (uStep (kSeg pd ln g) p x).1 (uStep (kSeg pd ln g) p x).2.1 ((kSeg pd ln g).1 + 1, (kSeg pd ln g).2) (n + 1) (uStep (kSeg pd ln g) p x).2.2) else (p, x, g, n)
noncomputable def kRun7 (pd : Nat → Int32) (ln : Int32) (p : PSt) (x : Int32) (g : GSt) : PSt × Int32 × GSt × Int32 := kseal (uRun pd ln 62 p x (0, g.2) 0 0)
noncomputable def rRun (m : RSt) : RSt × Int32 := match m with
  | (s, ad, pa, ke, pd, fl, nm, kn, ik, ln, sg, sp, fo, ho, ta, tR, tm) => if (kProg pd ln (ho, ta, tR, tm)).2.1 = 0 then (mG (s, ad, pa, ke, pd, fl, nm, kn, ik, ln, sg, sp, fo, ho, ta, tR, tm) (kProg pd ln (ho, ta, tR, tm)), -2) else (mG (mE (kRun7 pd ln (mD s fl) sg (kProg pd ln (ho, ta, tR, tm))).1, ad, (kRecP s pa kn).1, ke, pd, (kRun7 pd ln (mD s fl) sg (kProg pd ln (ho, ta, tR, tm))).1.2.1, nm, (kRecP s pa kn).2, ik, 0, (kRun7 pd ln (mD s fl) sg (kProg pd ln (ho, ta, tR, tm))).2.1, sp, fo, ho, ta, tR, tm) (kRun7 pd ln (mD s fl) sg (kProg pd ln (ho, ta, tR, tm))).2.2.1, (kRun7 pd ln (mD s fl) sg (kProg pd ln (ho, ta, tR, tm))).2.2.2)
theorem pZ_aim {p : PSt} {x y : Int32} (hp : pZ p) : pZ (pSetAim p x y) := by
  obtain ⟨h, g, s, c, fu, ai, ra, le, ri, mi, lo, fl⟩ := p
  exact hp
theorem mE_aim {p : PSt} {x y : Int32} : upd (upd (mE p) 1 x) 2 y = mE (pSetAim p x y) := by
  obtain ⟨h, g, s, c, fu, ai, ra, le, ri, mi, lo, fl⟩ := p
  rw [mE_u1, mE_u2]
  rfl
theorem pAim_g {p : PSt} {x y : Int32} : (pSetAim p x y).2.1 = p.2.1 := rfl
theorem pZ_k7 {p : PSt} {x : Int32} (hp : pZ p) (n : Nat) : pZ (kPass7 p x n).1 := by
  rw [kPass7, kseal_eq]
  exact pZ_pass7 hp n
theorem pZ_step {g : GSt} {p : PSt} {x : Int32} (hp : pZ p) : pZ (uStep g p x).1 := by
  unfold uStep
  split
  · exact pZ_k7 (pZ_aim hp) _
  · exact pZ_k7 hp _
noncomputable def S_X7_run : mjSp := fun M as => ((M = mw (rR M) ∧ as = [.ref 0]) ∧ r7Ok (rR M), some (mw (rRun (rR M)).1), some (.int (rRun (rR M)).2))
def rm_X7_run : Room := { frames := 7, cells := 0, slots := 0, locals := 153 }
noncomputable def G_X7_run : mjG := (I_X7_run, F_X7, [(147, 0, 6, 1, 0, 0, S_X7_isProgram), (92, 0, 6, 1, 0, 0, S_X7_records), (144, 0, 6, 1, 0, 0, S_X7_takesSegment), (95, 0, 6, 3, 0, 0, S_X7_laysAim), (99, 0, 6, 2, 0, 0, S_X7_goPass)], (fun pc => [0, 1, 2, 3, 4, 5, 6, 7]), Y0, (fun _ => none), (fun _ => none), (some .int), 0, 0, false)
set_option maxHeartbeats 20000000 in
set_option maxRecDepth 100000 in
theorem ok_X7_run : mjOK G_X7_run 3 S_X7_run := by
  intro M as hP T hT
  obtain ⟨⟨s, ad, pa, ke, pd, fl, nm, kn, ik, ln, sg, sp, fo, ho, ta, tR, tm⟩, rfl, rfl, hk⟩ : ∃ m, M = mw m ∧ as = [.ref 0] ∧ r7Ok m := ⟨_, hP.1.1, hP.1.2, hP.2⟩
  have fin : (S_X7_run (mw (s, ad, pa, ke, pd, fl, nm, kn, ik, ln, sg, sp, fo, ho, ta, tR, tm)) [.ref 0]).2.1 = some (mw (rRun (s, ad, pa, ke, pd, fl, nm, kn, ik, ln, sg, sp, fo, ho, ta, tR, tm)).1) := rfl
  have fin2 : (S_X7_run (mw (s, ad, pa, ke, pd, fl, nm, kn, ik, ln, sg, sp, fo, ho, ta, tR, tm)) [.ref 0]).2.2 = some (.int (rRun (s, ad, pa, ke, pd, fl, nm, kn, ik, ln, sg, sp, fo, ho, ta, tR, tm)).2) := rfl
  rw [rRun] at fin fin2
  try dsimp only at fin fin2
  generalize S_X7_run (mw (s, ad, pa, ke, pd, fl, nm, kn, ik, ln, sg, sp, fo, ho, ta, tR, tm)) [.ref 0] = SS at hT fin fin2
  obtain ⟨n, hn0, rfl⟩ := nI_of hk.2.2.1
  have hn : n ≤ 60 := (nI_leI hn0 (by decide)).mp hk.2.2.2
  obtain ⟨p, hz, rfl, hg⟩ : ∃ p : PSt, pZ p ∧ s = mE p ∧ p.2.1 = fl := ⟨mD s fl, mD_z _ _, (mE_D hk.1).symm, rfl⟩
  subst hg
  rw [mD_E hz] at fin fin2
  have s10 : ∀ g : GSt, ¬ g.2.1 = 0 → g = kProg pd (nI n) (ho, ta, tR, tm) → T 10 [some (.ref 0), none, none] [] (mw (mG (mE p, ad, pa, ke, pd, p.2.1, nm, kn, ik, (nI n), sg, sp, fo, ho, ta, tR, tm) g)) (0, 0) := by
    intro g h0 hg
    rw [← hg, if_neg h0, kRun7, kseal_eq] at fin fin2
    obtain ⟨a1, a2, a3, a4, a5, a6⟩ := g
    dsimp only at h0 fin fin2
    have s14 : ∀ q : (Nat → Int32) × Int32, q = kRecP (mE p) pa kn → T 14 [some (.ref 0), none, none] [] (mw (mE p, ad, q.1, ke, pd, p.2.1, nm, q.2, ik, (nI n), sg, a1, a2, a3, a4, a5, a6)) (0, 0) := by
      intro q hq
      rw [← hq] at fin
      obtain ⟨pa1, kn1⟩ := q
      dsimp only at fin
      have loop : ∀ f i (p : PSt) (fl x a2 a3 a4 a5 a6 cn cr : _), pZ p → p.2.1 = fl → i ≤ n + 1 → n + 1 - i < f →
          SS.2.1 = some (mw (mG (mE (uRun pd (nI n) f p x (nI i, a2, a3, a4, a5, a6) cn cr).1, ad, pa1, ke, pd, (uRun pd (nI n) f p x (nI i, a2, a3, a4, a5, a6) cn cr).1.2.1, nm, kn1, ik, 0, (uRun pd (nI n) f p x (nI i, a2, a3, a4, a5, a6) cn cr).2.1, sp, fo, ho, ta, tR, tm) (uRun pd (nI n) f p x (nI i, a2, a3, a4, a5, a6) cn cr).2.2.1)) →
          SS.2.2 = some (.int (uRun pd (nI n) f p x (nI i, a2, a3, a4, a5, a6) cn cr).2.2.2) →
          T 23 [some (.ref 0), some (.int cn), some (.int cr)] [] (mw (mE p, ad, pa1, ke, pd, fl, nm, kn1, ik, (nI n), x, (nI i), a2, a3, a4, a5, a6)) (0, 0) := by
        intro f
        induction f with
        | zero => exact fun i p fl x a2 a3 a4 a5 a6 cn cr _ _ _ h => absurd h (by omega)
        | succ f ih =>
          intro i p fl x a2 a3 a4 a5 a6 cn cr hz hg hi hf f1 f2
          subst hg
          unfold uRun at f1 f2
          refine hT.1 (fun pc => Nat.beq pc 38) 60 _ _ _ _ _ ?_
          refine And.intro (fun (h1 : ¬ cr = 0) => ?_) (fun (h1 : cr = 0) => And.intro (fun (h2 : nI n ≤ nI i) => ?_) (fun (h2 : ¬ nI n ≤ nI i) => ?_))
          · rw [if_neg h1] at f1 f2
            exact ⟨by rw [f1]; rfl, f2.symm⟩
          · rw [if_pos h1, if_pos h2] at f1 f2
            exact ⟨by rw [f1]; rfl, f2.symm⟩
          · rw [if_pos h1, if_neg h2] at f1 f2
            have hlt : i < n := by
              rcases Nat.lt_or_ge i n with w | w
              · exact w
              · exact absurd (nI_le w (by omega)) h2
            have hk : pOk (mE p, ad, pa1, ke, pd, p.2.1, nm, kn1, ik, (nI n), x, (nI i), a2, a3, a4, a5, a6) := ⟨i, n, by omega, hn, rfl, rfl⟩
            have s42 : ∀ g : GSt, g = kSeg pd (nI n) (nI i, a2, a3, a4, a5, a6) → T 42 [some (.ref 0), some (.int cn), some (.int cr)] [] (mw (mG (mE p, ad, pa1, ke, pd, p.2.1, nm, kn1, ik, (nI n), x, sp, fo, ho, ta, tR, tm) g)) (0, 0) := by
              intro g hg
              obtain ⟨j, j1, j2, j3⟩ := kSeg_le (pd := pd) (n := n) (i := i) (fo := a2) (ho := a3) (ta := a4) (tR := a5) (tm := a6) hn (by omega)
              rw [← hg] at f1 f2 j3
              obtain ⟨b1, b2, b3, b4, b5, b6⟩ := g
              dsimp only at j3
              subst j3
              have s79 : ∀ (p2 : PSt) (z : PSt × Int32 × Int32), pZ p2 → p2 = (if b3 = 0 then pSetAim p b4 b5 else p) → T 71 [some (.ref 0), some (.int cn), some (.int cr)] [] (mw (mE p2, ad, pa1, ke, pd, p2.2.1, nm, kn1, ik, (nI n), x, (nI j + 1), b2, b3, b4, b5, b6)) (0, 0) := by
                intro p2 _ hz2 e2
                have e3 : uStep (nI j, b2, b3, b4, b5, b6) p x = kPass7 p2 x b6.toNatClampNeg := by
                  rw [e2]
                  rfl
                rw [e3] at f1 f2
                have hz3 : pZ (kPass7 p2 x b6.toNatClampNeg).1 := pZ_k7 hz2 _
                have s79 : ∀ z : PSt × Int32 × Int32, z = kPass7 p2 x b6.toNatClampNeg → T 79 [some (.ref 0), some (.int cn), some (.int cr)] [.int z.2.2] (mw (mE z.1, ad, pa1, ke, pd, z.1.2.1, nm, kn1, ik, (nI n), z.2.1, (nI j + 1), b2, b3, b4, b5, b6)) (0, 0) := by
                  intro z hzz
                  rw [← hzz] at f1 f2 hz3
                  obtain ⟨z1, z2, z3⟩ := z
                  dsimp only at f1 f2 hz3
                  rw [← nI_succ] at f1 f2
                  refine hT.1 (fun pc => Nat.beq pc 23) 60 _ _ _ _ _ ?_
                  rw [← nI_succ]
                  exact ih (j + 1) z1 z1.2.1 z2 b2 b3 b4 b5 b6 (cn + 1) z3 hz3 rfl (by omega) (by omega) f1 f2
                refine hT.1 (fun pc => Nat.beq pc 79) 60 _ _ _ _ _ ?_
                refine And.intro ⟨⟨rfl, rfl⟩, sZ_E⟩ (s79 (kPass7 (mD (mE p2) p2.2.1) x b6.toNatClampNeg) ?_)
                rw [mD_E hz2]
              refine hT.1 (fun pc => Nat.beq pc 71 || Nat.beq pc 59) 60 _ _ _ _ _ ?_
              refine And.intro (fun (h3 : ¬ b3 = 0) => s79 p (p, 0, 0) hz (if_neg h3).symm) (fun (h3 : b3 = 0) => ?_)
              refine hT.1 (fun pc => Nat.beq pc 71) 60 _ _ _ _ _ ?_
              have s71 := s79 (pSetAim p b4 b5) (p, 0, 0) (pZ_aim hz) (if_pos h3).symm
              rw [← mE_aim, pAim_g] at s71
              exact And.intro ⟨rfl, rfl⟩ s71
            refine hT.1 (fun pc => Nat.beq pc 42) 60 _ _ _ _ _ ?_
            exact And.intro ⟨⟨rfl, rfl⟩, hk⟩ (s42 _ rfl)
      refine hT.1 (fun pc => Nat.beq pc 23) 60 _ _ _ _ _ ?_
      exact loop 62 0 p p.2.1 sg a2 a3 a4 a5 a6 0 0 hz rfl (by omega) (by omega) fin fin2
    refine hT.1 (fun pc => Nat.beq pc 14) 60 _ _ _ _ _ ?_
    exact And.intro ⟨⟨rfl, rfl⟩, hk.2.1⟩ (s14 _ rfl)
  have s4 : ∀ g : GSt, g = kProg pd (nI n) (ho, ta, tR, tm) → T 4 [some (.ref 0), none, none] [.int g.2.1] (mw (mG (mE p, ad, pa, ke, pd, p.2.1, nm, kn, ik, (nI n), sg, sp, fo, ho, ta, tR, tm) g)) (0, 0) := by
    intro g hg
    have s10 := s10 g
    rw [← hg] at fin fin2
    obtain ⟨a1, a2, a3, a4, a5, a6⟩ := g
    dsimp only at fin fin2 s10
    refine hT.1 (fun pc => Nat.beq pc 10) 60 _ _ _ _ _ ?_
    refine And.intro (fun (h : ¬ a2 = 0) => s10 h hg) (fun (h : a2 = 0) => ⟨?_, ?_⟩)
    · rw [fin, if_pos h]; rfl
    · rw [fin2, if_pos h]
  refine hT.1 (fun pc => Nat.beq pc 4) 60 _ _ _ _ _ ?_
  exact And.intro ⟨⟨rfl, rfl⟩, hk⟩ (s4 _ rfl)
set_option maxRecDepth 10000 in
theorem ct_X7_run (l : Launch) : mjCT l yX7_run cX7_run 3 (some .int) rm_X7_run S_X7_run :=
  mjCT_of (own := RX7) (G := G_X7_run) (plainFor_of_name pn_X7) rfl ok_X7_run (fun meth hm => ⟨fun pc row h => (I_X7_run_ok pc row h).1, F_X7_ok, List.forall_mem_cons.mpr ⟨⟨yX7_isProgram, cX7_isProgram, 1, (some .boolean), rm_X7_isProgram, ct_X7_isProgram l, ⟨rfl, rfl⟩, ⟨by decide, by decide⟩, by decide, by decide, nk_X7_isProgram, ln_X7_147, im_X7_isProgram, se_X7_isProgram, rfl⟩, List.forall_mem_cons.mpr ⟨⟨yX7_records, cX7_records, 2, none, rm_X7_records, ct_X7_records l, ⟨rfl, rfl⟩, ⟨by decide, by decide⟩, by decide, by decide, nk_X7_records, ln_X7_92, im_X7_records, se_X7_records, rfl⟩, List.forall_mem_cons.mpr ⟨⟨yX7_takesSegment, cX7_takesSegment, 1, none, rm_X7_takesSegment, ct_X7_takesSegment l, ⟨rfl, rfl⟩, ⟨by decide, by decide⟩, by decide, by decide, nk_X7_takesSegment, ln_X7_144, im_X7_takesSegment, se_X7_takesSegment, rfl⟩, List.forall_mem_cons.mpr ⟨⟨yX7_laysAim, cX7_laysAim, 3, none, rm_X7_laysAim, ct_X7_laysAim l, ⟨rfl, rfl⟩, ⟨by decide, by decide⟩, by decide, by decide, nk_X7_laysAim, ln_X7_95, im_X7_laysAim, se_X7_laysAim, rfl⟩, List.forall_mem_cons.mpr ⟨⟨yX7_goPass, cX7_goPass, 4, (some .int), rm_X7_goPass, ct_X7_goPass l, ⟨rfl, rfl⟩, ⟨by decide, by decide⟩, by decide, by decide, nk_X7_goPass, ln_X7_99, im_X7_goPass, se_X7_goPass, rfl⟩, fun _ h => absurd h List.not_mem_nil⟩⟩⟩⟩⟩, (fun _ _ _ h => by cases h), (fun _ _ h => by cases h), ⟨Nat.le_refl _, Nat.le_refl _⟩, (fun h => by cases h), (fun h => absurd h (by decide))⟩) rfl rfl rfl (fun pc row h => (I_X7_run_ok pc row h).2)
