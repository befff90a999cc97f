/-! the history; the forecast -/
theorem pwb0 (p : PSt) : pwb 0 p = pw p := rfl
/-- Forecast: cracks, first crack, greatest stress; and the pane behind it -/
abbrev FSt : Type := Int32 × Int32 × Int32
def fw (z : FSt) : mjM := [.inr (0, [.int z.1, .int z.2.1, .int z.2.2])]
def rFo (M : mjM) : FSt := (rF M 0 0, rF M 0 1, rF M 0 2)
/-- minute i (from 1 on) of the look -/
noncomputable def pLook (p : PSt) : Nat → PSt × FSt := nf (fun i a =>
  ((pMin a.1).1, if (pMin a.1).2 = 0 then (a.2.1, a.2.2.1, gMax a.2.2.2 (kseal (gStrMax (pH (pFlow a.1)) (pC (pFlow a.1))))) else (a.2.1 + 1, if a.2.2.1 = -4 then nI (i + 1) else a.2.2.1, gMax a.2.2.2 (kseal (gStrMax (pH (pFlow a.1)) (pC (pFlow a.1))))))) (p, 0, -4, 0)
noncomputable def S_X0_look : mjSp := fun M as => ((M = fw (rFo M) ++ pwb 1 (rPb 1 M) ∧ as = [.ref 0, .ref 1, .int (aI as 2)]) ∧ ¬ aI as 2 < 0 ∧ aI as 2 < 1000, some (fw (kseal (pLook (rPb 1 M) (aI as 2).toNatClampNeg)).2 ++ pwb 1 (kseal (pLook (rPb 1 M) (aI as 2).toNatClampNeg)).1), none)
theorem pLook_s (p : PSt) (i : Nat) : pLook p (i + 1) = ((pMin (pLook p i).1).1, if (pMin (pLook p i).1).2 = 0 then ((pLook p i).2.1, (pLook p i).2.2.1, gMax (pLook p i).2.2.2 (kseal (gStrMax (pH (pFlow (pLook p i).1)) (pC (pFlow (pLook p i).1))))) else ((pLook p i).2.1 + 1, if (pLook p i).2.2.1 = -4 then nI (i + 1) else (pLook p i).2.2.1, gMax (pLook p i).2.2.2 (kseal (gStrMax (pH (pFlow (pLook p i).1)) (pC (pFlow (pLook p i).1)))))) := rfl
def rm_X0_look : Room := { frames := 5, cells := 0, slots := 0, locals := 108 }
noncomputable def G_X0_look : mjG := (I_X0_look, F_X0, [(21, 0, 3, 1, 0, 0, S_X4_letHeatFlow), (26, 0, 3, 1, 0, 0, S_X4_greatestStress), (29, 1, 0, 2, 0, 0, S_J9_max_7cf53), (35, 0, 3, 1, 0, 0, S_X4_crackWorst)], (fun pc => bif Nat.beq pc 36 then [] else [1, 2, 3, 4, 5]), Y0, (fun _ => none), (fun _ => none), none, 0, 0, false, [])
set_option maxHeartbeats 20000000 in
set_option maxRecDepth 100000 in
theorem ok_X0_look : mjOK G_X0_look 4 S_X0_look := by
  intro M as hP T hT
  obtain ⟨hP, hn, hn2⟩ := hP
  obtain ⟨z0, p, n, rfl, rfl, hn, hn2⟩ : ∃ z p n, M = fw z ++ pwb 1 p ∧ as = [.ref 0, .ref 1, .int n] ∧ ¬ n < 0 ∧ n < 1000 := ⟨_, _, _, hP.1, hP.2, hn, hn2⟩
  obtain ⟨k, hk, rfl⟩ := nI_of hn
  have hk2 : k < 1000 := (nI_ltI hk (by decide)).mp hn2
  have fin : fw (pLook p k).2 ++ pwb 1 (pLook p k).1 = (S_X0_look (fw z0 ++ pwb 1 p) [.ref 0, .ref 1, .int (nI k)]).2.1.getD (fw z0 ++ pwb 1 p) := by
    show _ = fw (kseal (pLook p (nI k).toNatClampNeg)).2 ++ pwb 1 (kseal (pLook p (nI k).toNatClampNeg)).1
    rw [kseal_eq, nI_clamp hk]
  have fin2 : none = (S_X0_look (fw z0 ++ pwb 1 p) [.ref 0, .ref 1, .int (nI k)]).2.2 := rfl
  generalize S_X0_look (fw z0 ++ pwb 1 p) [.ref 0, .ref 1, .int (nI k)] = SS at hT fin fin2
  refine hT.1 (fun pc => Nat.beq pc 18) 60 _ _ _ _ _ ?_
  refine mjloop0 k (fun i => ∀ (q : PSt) (a b c : Int32), (q, a, b, c) = pLook p i → T 18 [some (.ref 0), some (.ref 1), some (.int (nI k)), some (.int (nI (i + 1)))] [] (fw (a, b, c) ++ pwb 1 q) (0, 0)) (fun i hi ih q a b c hq => ?_) (fun q a b c hq => ?_) p 0 (-4) 0 rfl
  · have hs := pLook_s p i
    rw [← hq] at hs
    dsimp only at hs
    rw [nI_succ (i + 1)] at ih
    have s3 : ∀ (z : PSt × Int32) (c' : Int32), z = pMin q → c' = gMax c (kseal (gStrMax (pH (pFlow q)) (pC (pFlow q)))) → T 46 [some (.ref 0), some (.ref 1), some (.int (nI k)), some (.int (nI (i + 1)))] [.int z.2] (fw (a, b, c') ++ pwb 1 z.1) (0, 0) := by
      intro z c' hz hc
      rw [← hz, ← hc] at hs
      refine hT.1 (fun pc => Nat.beq pc 18) 60 _ _ _ _ _ ?_
      refine And.intro (fun h1 => ih z.1 a b c' ?_) (fun h1 => And.intro (fun h2 => ih z.1 (a + 1) b c' ?_) (fun h2 => ih z.1 (a + 1) (nI (i + 1)) c' ?_))
      · rw [hs, if_pos h1]
      · rw [hs, if_neg h1, if_neg h2]
      · rw [hs, if_neg h1, if_pos h2]
    have s2 : ∀ q' c', q' = pFlow q → c' = gMax c (kseal (gStrMax (pH (pFlow q)) (pC (pFlow q)))) → T 42 [some (.ref 0), some (.ref 1), some (.int (nI k)), some (.int (nI (i + 1)))] [] (fw (a, b, c') ++ pwb 1 q') (0, 0) := by
      intro q' c' hq' hc
      refine hT.1 (fun pc => Nat.beq pc 46) 60 _ _ _ _ _ ?_
      exact And.intro ⟨rfl, rfl⟩ (s3 (kseal (pCrack q')) c' (by rw [hq']; rfl) hc)
    have s1 : ∀ q', q' = pFlow q → T 27 [some (.ref 0), some (.ref 1), some (.int (nI k)), some (.int (nI (i + 1)))] [] (fw (a, b, c) ++ pwb 1 q') (0, 0) := by
      intro q' hq'
      refine hT.1 (fun pc => Nat.beq pc 42) 60 _ _ _ _ _ ?_
      exact And.intro ⟨rfl, rfl⟩ (And.intro ⟨rfl, rfl⟩ (s2 q' (gMax c (kseal (gStrMax (pH q') (pC q')))) hq' (by rw [hq'])))
    refine hT.1 (fun pc => Nat.beq pc 27) 60 _ _ _ _ _ ?_
    exact And.intro (fun h => absurd h (nI_nlt (by omega) (by omega))) (fun _ => And.intro ⟨rfl, rfl⟩ (s1 _ rfl))
  · refine hT.1 (fun pc => Nat.beq pc 18) 60 _ _ _ _ _ ?_
    refine And.intro (fun _ => ?_) (fun h => absurd (nI_lt (by omega : k < k + 1) (by omega)) h)
    rw [← hq] at fin
    exact ⟨fin, fin2⟩
set_option maxRecDepth 10000 in
theorem ct_X0_look (l : Launch) : mjCT l yX0_look cX0_look 4 none rm_X0_look S_X0_look :=
  mjCT_of (own := RX0) (G := G_X0_look) (plainFor_of_name pn_X0) rfl ok_X0_look (fun meth hm => ⟨fun pc row h => (I_X0_look_ok pc row h).1, F_X0_ok, List.forall_mem_cons.mpr ⟨⟨yX4_letHeatFlow, cX4_letHeatFlow, 2, none, rm_X4_letHeatFlow, ct_X4_letHeatFlow l, ⟨rfl, rfl⟩, ⟨by decide, by decide⟩, by decide, by decide, nk_X4_letHeatFlow, ln_X0_21, im_X4_letHeatFlow, se_X4_letHeatFlow, rfl⟩, List.forall_mem_cons.mpr ⟨⟨yX4_greatestStress, cX4_greatestStress, 3, (some .int), rm_X4_greatestStress, ct_X4_greatestStress l, ⟨rfl, rfl⟩, ⟨by decide, by decide⟩, by decide, by decide, nk_X4_greatestStress, ln_X0_26, im_X4_greatestStress, se_X4_greatestStress, rfl⟩, List.forall_mem_cons.mpr ⟨⟨yJ9_max_7cf53, cJ9_max_7cf53, 2, (some .int), rm_J9_max_7cf53, ct_J9_max_7cf53 l, ⟨rfl, rfl⟩, ⟨by decide, by decide⟩, by decide, nk_J9_max_7cf53, ln_X0_29, st_J9_max_7cf53⟩, List.forall_mem_cons.mpr ⟨⟨yX4_crackWorst, cX4_crackWorst, 2, (some .boolean), rm_X4_crackWorst, ct_X4_crackWorst l, ⟨rfl, rfl⟩, ⟨by decide, by decide⟩, by decide, by decide, nk_X4_crackWorst, ln_X0_35, im_X4_crackWorst, se_X4_crackWorst, rfl⟩, fun _ h => absurd h List.not_mem_nil⟩⟩⟩⟩, (fun _ _ _ h => by cases h), (fun _ _ h => by cases h), ⟨Nat.le_refl _, Nat.le_refl _⟩, (fun h => by cases h), (fun h => absurd h (by decide)), fun _ h => absurd h List.not_mem_nil⟩) rfl rfl rfl (fun pc row h => (I_X0_look_ok pc row h).2)
/-- the history: how many states, where the states lie (places 2, 7, 12, 17), the four panes -/
abbrev HSt : Type := Int32 × (Nat → Option Nat) × PSt × PSt × PSt × PSt
def hw (z : HSt) : mjM := match z with
  | (n, f, p0, p1, p2, p3) => [.inr (1, [.ref 1, .int n]), .inl (2, (4, .inr (.inr (.inr (.inr f)))))] ++ pwb 2 p0 ++ pwb 7 p1 ++ pwb 12 p2 ++ pwb 17 p3
def rQ (M : mjM) (i : Nat) : Nat → Option Nat := match M[i]? with
  | some (.inl (_, (_, .inr (.inr (.inr (.inr f)))))) => f
  | _ => fun _ => none
def rH (M : mjM) : HSt := (rF M 0 1, rQ M 1, rPb 2 M, rPb 7 M, rPb 12 M, rPb 17 M)
def hOk (f : Nat → Option Nat) : Prop := (∀ k : Nat, k < 4 → f k = some 2 ∨ f k = some 7 ∨ f k = some 12 ∨ f k = some 17) ∧ ∀ k : Nat, 4 ≤ k → f k = none
theorem mjcut_id {g : Nat → Nat} {f : Nat → Option Nat} (hf : hOk f) (h2 : g 2 = 2) (h7 : g 7 = 7) (h12 : g 12 = 12) (h17 : g 17 = 17) : mjcut g 4 f = f := by
  funext k
  unfold mjcut
  by_cases hk : k < 4
  · rw [if_pos hk]
    rcases hf.1 k hk with h | h | h | h <;> (rw [h]; simp [h2, h7, h12, h17])
  · rw [if_neg hk, hf.2 k (by omega)]
theorem mjto {T : Nat → mjL → List Value → mjM → Nat × Nat → Prop} {pc : Nat} {L : mjL} {S : List Value} {M M' : mjM} {u : Nat × Nat} (h : T pc L S M u) (e : M' = M) : T pc L S M' u := e ▸ h
def i22 : List Nat := [0, 1, 2, 3, 4, 5, 6, 7, 8, 9, 10, 11, 12, 13, 14, 15, 16, 17, 18, 19, 20, 21]
def hRot (f : Nat → Option Nat) : Nat → Option Nat := fun k => if k = 3 then f 0 else if k < 3 then f (k + 1) else f k
def hDrop (z : HSt) : HSt := match z with
  | (_, f, r) => (3, hRot f, r)
def hPut (t : Nat) (q : PSt) (z : HSt) : HSt := match z with
  | (n, f, p0, p1, p2, p3) => (n + 1, f, if t = 2 then pCopy p0 q else p0, if t = 7 then pCopy p1 q else p1, if t = 12 then pCopy p2 q else p2, if t = 17 then pCopy p3 q else p3)
def hTop (z : HSt) : Nat := (z.2.1 z.1.toNatClampNeg).getD 0
/-- a state is added -/
def hRec (q : PSt) (z : HSt) : HSt := if z.1 < 4 then hPut (hTop z) q z else hPut (hTop (hDrop z)) q (hDrop z)
def hGet (t : Nat) (z : HSt) : PSt := if t = 2 then z.2.2.1 else if t = 7 then z.2.2.2.1 else if t = 12 then z.2.2.2.2.1 else z.2.2.2.2.2
def S_X2_stateAt : mjSp := fun M as => ((M = hw (rH M) ∧ as = [.ref 0, .int (aI as 1)]) ∧ hOk (rQ M 1), none, some (if aI as 1 < 0 then .null else if 4 ≤ aI as 1 then .null else .ref ((rQ M 1 (aI as 1).toNatClampNeg).getD 0)))
def S_X2_dropOldest : mjSp := fun M as => ((M = hw (rH M) ∧ as = [.ref 0]) ∧ hOk (rQ M 1), some (hw (hDrop (rH M))), none)
noncomputable def S_X2_record : mjSp := fun M as => ((M = hw (rH M) ++ pwb 22 (rPb 22 M) ∧ as = [.ref 0, .ref 22]) ∧ hOk (rQ M 1) ∧ ¬ rF M 0 1 < 0 ∧ rF M 0 1 ≤ 4, some (hw (kseal (hRec (rPb 22 M) (rH M))) ++ pwb 22 (rPb 22 M)), none)
def hTake (z : HSt) (q : PSt) : HSt × PSt := if z.1 = 0 then (z, q) else ((z.1 - 1, z.2), pCopy q (hGet ((z.2.1 (z.1 - 1).toNatClampNeg).getD 0) z))
noncomputable def S_X2_takeBack : mjSp := fun M as => ((M = hw (rH M) ++ pwb 22 (rPb 22 M) ∧ as = [.ref 0, .ref 22]) ∧ hOk (rQ M 1) ∧ ¬ rF M 0 1 < 0 ∧ rF M 0 1 ≤ 4,
  some (hw (kseal (hTake (rH M) (rPb 22 M))).1 ++ pwb 22 (kseal (hTake (rH M) (rPb 22 M))).2), some (.int (if rF M 0 1 = 0 then 0 else 1)))
theorem hw_f {n : Int32} {f f' : Nat → Option Nat} {r} (h : f = f') : hw (n, f, r) = hw (n, f', r) := by rw [h]
theorem mji3 {x : Int32} (h0 : ¬ x < 0) (h : ¬ 4 ≤ x) : ∃ j : Nat, x = nI j ∧ j < 4 := by
  obtain ⟨j, hj, rfl⟩ := nI_of h0
  refine ⟨j, rfl, ?_⟩
  rcases Nat.lt_or_ge j 4 with q | q
  · exact q
  · exact absurd (nI_le q hj) h
def rm_X2_stateAt : Room := { frames := 0, cells := 0, slots := 0, locals := 0 }
noncomputable def G_X2_stateAt : mjG := (I_X2_stateAt, F_X2, [], (fun pc => []), Y0, (fun _ => none), (fun _ => none), (some (.object "ColdPanes$Pane")), 0, 0, false, [])
set_option maxHeartbeats 20000000 in
set_option maxRecDepth 100000 in
theorem ok_X2_stateAt : mjOK G_X2_stateAt 2 S_X2_stateAt := by
  intro M as hP T hT
  obtain ⟨hP, hf⟩ := hP
  obtain ⟨⟨n, f, p0, p1, p2, p3⟩, x, rfl, rfl, hf⟩ : ∃ z x, M = hw z ∧ as = [.ref 0, .int x] ∧ hOk z.2.1 := ⟨_, _, hP.1, hP.2, hf⟩
  have hv : (S_X2_stateAt (hw (n, f, p0, p1, p2, p3)) [.ref 0, .int x]).2.2 = some (if x < 0 then .null else if 4 ≤ x then .null else .ref ((f x.toNatClampNeg).getD 0)) := rfl
  have hm : (S_X2_stateAt (hw (n, f, p0, p1, p2, p3)) [.ref 0, .int x]).2.1 = none := rfl
  generalize S_X2_stateAt (hw (n, f, p0, p1, p2, p3)) [.ref 0, .int x] = SS at hT hv hm
  refine hT.1 (fun _ => false) 60 _ _ _ _ _ ?_
  refine And.intro (fun h1 => ⟨by rw [hm]; rfl, by rw [hv, if_pos h1]⟩) (fun h1 => And.intro (fun h2 => ⟨by rw [hm]; rfl, by rw [hv, if_neg h1, if_pos h2]⟩) (fun h2 => ?_))
  obtain ⟨j, rfl, hj⟩ := mji3 h1 h2
  have hr : ∃ r, f j = some r := by rcases hf.1 j hj with h | h | h | h <;> exact ⟨_, h⟩
  obtain ⟨r, hr⟩ := hr
  refine mjix_n hj (by decide) ⟨r, hr, ⟨by rw [hm]; rfl, ?_⟩⟩
  rw [hv, if_neg h1, if_neg h2, nI_clamp (by omega), hr]
  rfl
set_option maxRecDepth 10000 in
theorem ct_X2_stateAt (l : Launch) : mjCT l yX2_stateAt cX2_stateAt 2 (some (.object "ColdPanes$Pane")) rm_X2_stateAt S_X2_stateAt :=
  mjCT_of (own := RX2) (G := G_X2_stateAt) (plainFor_of_name pn_X2) rfl ok_X2_stateAt (fun meth hm => ⟨fun pc row h => (I_X2_stateAt_ok pc row h).1, F_X2_ok, fun _ h => absurd h List.not_mem_nil, (fun _ _ _ h => by cases h), (fun _ _ h => by cases h), ⟨Nat.le_refl _, Nat.le_refl _⟩, (fun h => by cases h), (fun h => absurd h (by decide)), fun _ h => absurd h List.not_mem_nil⟩) rfl rfl rfl (fun pc row h => (I_X2_stateAt_ok pc row h).2)
def rm_X2_dropOldest : Room := { frames := 0, cells := 0, slots := 0, locals := 0 }
noncomputable def G_X2_dropOldest : mjG := (I_X2_dropOldest, F_X2, [], (fun pc => []), Y0, (fun _ => none), (fun _ => none), none, 0, 0, false, [])
set_option maxHeartbeats 20000000 in
set_option maxRecDepth 100000 in
theorem ok_X2_dropOldest : mjOK G_X2_dropOldest 3 S_X2_dropOldest := by
  intro M as hP T hT
  obtain ⟨hP, hf⟩ := hP
  obtain ⟨⟨n, f, p0, p1, p2, p3⟩, rfl, rfl, hf⟩ : ∃ z, M = hw z ∧ as = [.ref 0] ∧ hOk z.2.1 := ⟨_, hP.1, hP.2, hf⟩
  have cellAt : ∀ r, (r = 2 ∨ r = 7 ∨ r = 12 ∨ r = 17) → ∀ n (f : Nat → Option Nat), ∃ fs, (hw (n, f, p0, p1, p2, p3))[r]? = some (.inr (3, fs)) := by
    intro r hr n f
    rcases hr with rfl | rfl | rfl | rfl <;> exact ⟨_, rfl⟩
  have some4 : ∀ k : Nat, k < 4 → ∃ r, f k = some r ∧ (r = 2 ∨ r = 7 ∨ r = 12 ∨ r = 17) := by
    intro k hk
    rcases hf.1 k hk with h | h | h | h
    · exact ⟨_, h, Or.inl rfl⟩
    · exact ⟨_, h, Or.inr (Or.inl rfl)⟩
    · exact ⟨_, h, Or.inr (Or.inr (Or.inl rfl))⟩
    · exact ⟨_, h, Or.inr (Or.inr (Or.inr rfl))⟩
  have mjO3 : ∀ {r : Nat} {n : Int32} {f : Nat → Option Nat} {F : List Value → Prop}, (r = 2 ∨ r = 7 ∨ r = 12 ∨ r = 17) → (∀ fs, F fs) → mjO 3 (hw (n, f, p0, p1, p2, p3))[r]? F := by
    intro r n f F hr hF
    obtain ⟨fs, h⟩ := cellAt r hr n f
    rw [h]
    exact hF fs
  obtain ⟨r0, h0, g0⟩ := some4 0 (by decide)
  obtain ⟨r1, h1, g1⟩ := some4 1 (by decide)
  obtain ⟨r2, h2, g2⟩ := some4 2 (by decide)
  obtain ⟨r3, h3, g3⟩ := some4 3 (by decide)
  have fin : (S_X2_dropOldest (hw (n, f, p0, p1, p2, p3)) [.ref 0]).2.1 = some (hw (3, hRot f, p0, p1, p2, p3)) := rfl
  have fin2 : (S_X2_dropOldest (hw (n, f, p0, p1, p2, p3)) [.ref 0]).2.2 = none := rfl
  generalize S_X2_dropOldest (hw (n, f, p0, p1, p2, p3)) [.ref 0] = SS at hT fin fin2
  have s4 : T 34 [some (.ref 0), some (.ref r0), some (.int (nI 4))] [] (hw (n, va_up (va_up (va_up f 0 (some r1)) 1 (some r2)) 2 (some r3), p0, p1, p2, p3)) (0, 0) := by
    refine hT.1 (fun _ => false) 60 _ _ _ _ _ ?_
    refine mjO3 g0 (fun _ => mjix_e 3 rfl (by decide) (by decide) ⟨?_, fin2.symm⟩)
    rw [fin]
    show hw (3, va_up (va_up (va_up (va_up f 0 (some r1)) 1 (some r2)) 2 (some r3)) 3 (some r0), p0, p1, p2, p3) = hw (3, hRot f, p0, p1, p2, p3)
    refine hw_f ?_
    funext k
    unfold va_up hRot
    by_cases k3 : k = 3
    · rw [if_pos k3, if_pos k3, h0]
    · rw [if_neg k3, if_neg k3]
      by_cases k2 : k = 2
      · rw [if_pos k2, if_pos (by omega), k2, h3]
      · rw [if_neg k2]
        by_cases k1 : k = 1
        · rw [if_pos k1, if_pos (by omega), k1, h2]
        · rw [if_neg k1]
          by_cases k0 : k = 0
          · rw [if_pos k0, if_pos (by omega), k0, h1]
          · rw [if_neg k0, if_neg (by omega)]
  have s3 : T 9 [some (.ref 0), some (.ref r0), some (.int (nI 3))] [] (hw (n, va_up (va_up f 0 (some r1)) 1 (some r2), p0, p1, p2, p3)) (0, 0) := by
    refine hT.1 (fun pc => Nat.beq pc 9 || Nat.beq pc 34) 60 _ _ _ _ _ ?_
    refine And.intro (fun h => absurd h (by decide)) (fun _ => mjix_e 3 rfl (by decide) (by decide) ⟨r3, h3, mjO3 g3 (fun _ => mjix_e 2 (by decide) (by decide) (by decide) ?_)⟩)
    refine hT.1 (fun pc => Nat.beq pc 34) 60 _ _ _ _ _ ?_
    exact And.intro (fun _ => s4) (fun h => absurd (by decide) h)
  have s2 : T 9 [some (.ref 0), some (.ref r0), some (.int (nI 2))] [] (hw (n, va_up f 0 (some r1), p0, p1, p2, p3)) (0, 0) := by
    refine hT.1 (fun pc => Nat.beq pc 9) 60 _ _ _ _ _ ?_
    exact And.intro (fun h => absurd h (by decide)) (fun _ => mjix_e 2 rfl (by decide) (by decide) ⟨r2, h2, mjO3 g2 (fun _ => mjix_e 1 (by decide) (by decide) (by decide) s3)⟩)
  have s1 : T 9 [some (.ref 0), some (.ref r0), some (.int (nI 1))] [] (hw (n, f, p0, p1, p2, p3)) (0, 0) := by
    refine hT.1 (fun pc => Nat.beq pc 9) 60 _ _ _ _ _ ?_
    exact And.intro (fun h => absurd h (by decide)) (fun _ => mjix_e 1 rfl (by decide) (by decide) ⟨r1, h1, mjO3 g1 (fun _ => mjix_e 0 (by decide) (by decide) (by decide) s2)⟩)
  refine hT.1 (fun pc => Nat.beq pc 9) 60 _ _ _ _ _ ?_
  exact mjix_e 0 rfl (by decide) (by decide) ⟨r0, h0, s1⟩
set_option maxRecDepth 10000 in
theorem ct_X2_dropOldest (l : Launch) : mjCT l yX2_dropOldest cX2_dropOldest 3 none rm_X2_dropOldest S_X2_dropOldest :=
  mjCT_of (own := RX2) (G := G_X2_dropOldest) (plainFor_of_name pn_X2) rfl ok_X2_dropOldest (fun meth hm => ⟨fun pc row h => (I_X2_dropOldest_ok pc row h).1, F_X2_ok, fun _ h => absurd h List.not_mem_nil, (fun _ _ _ h => by cases h), (fun _ _ h => by cases h), ⟨Nat.le_refl _, Nat.le_refl _⟩, (fun h => by cases h), (fun h => absurd h (by decide)), fun _ h => absurd h List.not_mem_nil⟩) rfl rfl rfl (fun pc row h => (I_X2_dropOldest_ok pc row h).2)
