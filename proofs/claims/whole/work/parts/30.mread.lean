/-! ColdPanesModel: reading a program -/
def pOk (m : RSt) : Prop := ∃ i n : Nat, i ≤ n ∧ n ≤ 60 ∧ m.2.2.2.2.2.2.2.2.2.2.2.1 = nI i ∧ m.2.2.2.2.2.2.2.2.2.1 = nI n
def aOk (_ : RSt) : Prop := True
def gHere (pd : Nat → Int32) (ln sp : Int32) : Int32 := if ln ≤ sp then 0 else pd sp.toNatClampNeg
def tkF (fo b : Int32) : Int32 := if fo = 0 then 0 else if b = 0 then 0 else 1
def gB (x c : Int32) : Int32 := if x = c then 1 else 0
def rHere (m : RSt) : Int32 := match m with
  | (s, ad, pa, ke, pd, fl, nm, kn, ik, ln, sg, sp, fo, ho, ta, tR, tm) => gHere pd ln sp
def rTakes (m : RSt) (b : Int32) : RSt := match m with
  | (s, ad, pa, ke, pd, fl, nm, kn, ik, ln, sg, sp, fo, ho, ta, tR, tm) => (s, ad, pa, ke, pd, fl, nm, kn, ik, ln, sg, sp + tkF fo b, tkF fo b, ho, ta, tR, tm)
def nGo (pd : Nat → Int32) (ln most : Int32) : Nat → Int32 → Int32 → Int32 × Int32
  | 0, sp, v => (sp, v)
  | f + 1, sp, v => if v ≤ 0 then (sp, v) else if gIn (gHere pd ln sp) 48 57 = 0 then (sp, v) else if most < 10 * v + gHere pd ln sp - 48 then (sp, v) else nGo pd ln most f (sp + 1) (10 * v + gHere pd ln sp - 48)
def nB (x least : Int32) : Int32 := if gIn x 48 57 = 0 then 0 else if x - 48 < least then 0 else 1
def tNum (pd : Nat → Int32) (ln least most : Int32) (q : Int32 × Int32) : Int32 × Int32 × Int32 := if tkF q.2 (nB (gHere pd ln q.1) least) = 0 then (q.1, 0, gHere pd ln q.1 - 48) else ((nGo pd ln most 60 (q.1 + 1) (gHere pd ln q.1 - 48)).1, 1, (nGo pd ln most 60 (q.1 + 1) (gHere pd ln q.1 - 48)).2)
noncomputable def kNum (pd : Nat → Int32) (ln least most : Int32) (q : Int32 × Int32) : Int32 × Int32 × Int32 := kseal (tNum pd ln least most q)
noncomputable def rNum (m : RSt) (x y : Int32) : RSt × Int32 := match m with
  | (s, ad, pa, ke, pd, fl, nm, kn, ik, ln, sg, sp, fo, ho, ta, tR, tm) => ((s, ad, pa, ke, pd, fl, nm, kn, ik, ln, sg, (kNum pd ln x y (sp, fo)).1, (kNum pd ln x y (sp, fo)).2.1, ho, ta, tR, tm), (kNum pd ln x y (sp, fo)).2.2)
theorem tkF_b (fo b : Int32) : tkF fo b = 0 ∨ tkF fo b = 1 := by
  unfold tkF
  split
  · exact Or.inl rfl
  · split
    · exact Or.inl rfl
    · exact Or.inr rfl
theorem here_lt {pd : Nat → Int32} {i n : Nat} (hn : n ≤ 60) (hi : i ≤ n) : gHere pd (nI n) (nI i) = if i < n then pd i else 0 := by
  unfold gHere
  by_cases h : i < n
  · rw [if_pos h, if_neg (nI_ge h (by omega)), nI_clamp (by omega)]
  · rw [if_neg h, if_pos (nI_le (by omega) (by omega))]
theorem here_in {pd : Nat → Int32} {i n : Nat} (hn : n ≤ 60) (hi : i ≤ n) {x : Int32} (h : gHere pd (nI n) (nI i) = x) (hx : x ≠ 0) : i < n := by
  rw [here_lt hn hi] at h
  by_cases h2 : i < n
  · exact h2
  · rw [if_neg h2] at h
    exact absurd h.symm hx
theorem here_d {pd : Nat → Int32} {i n : Nat} (hn : n ≤ 60) (hi : i ≤ n) (h : ¬ gIn (gHere pd (nI n) (nI i)) 48 57 = 0) : i < n :=
  here_in hn hi rfl (fun e => h (by rw [e]; decide))
theorem nB_in {x l : Int32} (h : ¬ nB x l = 0) : ¬ gIn x 48 57 = 0 := by
  intro h2
  unfold nB at h
  rw [if_pos h2] at h
  exact h rfl
theorem tkF_0 {fo b : Int32} (h : ¬ tkF fo b = 0) : ¬ b = 0 := by
  intro h2
  unfold tkF at h
  rw [h2, if_pos rfl] at h
  split at h <;> exact h rfl
theorem nGo_le {pd : Nat → Int32} {n : Nat} {most : Int32} (hn : n ≤ 60) : ∀ f i v, i ≤ n → ∃ j, i ≤ j ∧ j ≤ n ∧ (nGo pd (nI n) most f (nI i) v).1 = nI j := by
  intro f
  induction f with
  | zero => exact fun i v hi => ⟨i, Nat.le_refl _, hi, rfl⟩
  | succ f ih =>
    intro i v hi
    unfold nGo
    split
    · exact ⟨i, Nat.le_refl _, hi, rfl⟩
    · split
      · exact ⟨i, Nat.le_refl _, hi, rfl⟩
      · rename_i h2
        split
        · exact ⟨i, Nat.le_refl _, hi, rfl⟩
        · have h3 := here_d hn hi h2
          obtain ⟨j, h4, h5, h6⟩ := ih (i + 1) (10 * v + gHere pd (nI n) (nI i) - 48) h3
          rw [← nI_succ]
          exact ⟨j, by omega, h5, h6⟩
theorem kNum_le {pd : Nat → Int32} {n i : Nat} {least most fo : Int32} (hn : n ≤ 60) (hi : i ≤ n) : ∃ j, i ≤ j ∧ j ≤ n ∧ (kNum pd (nI n) least most (nI i, fo)).1 = nI j := by
  rw [kNum, kseal_eq]
  unfold tNum
  by_cases h : tkF (nI i, fo).2 (nB (gHere pd (nI n) (nI i, fo).1) least) = 0
  · rw [if_pos h]
    exact ⟨i, Nat.le_refl _, hi, rfl⟩
  · rw [if_neg h]
    have h3 := here_d hn hi (nB_in (tkF_0 h))
    obtain ⟨j, h4, h5, h6⟩ := nGo_le (pd := pd) (most := most) hn 60 (i + 1) (gHere pd (nI n) (nI i) - 48) h3
    refine ⟨j, by omega, h5, ?_⟩
    rw [← h6, nI_succ]
noncomputable def tSl (pd : Nat → Int32) (ln c : Int32) (q : Int32 × Int32 × Int32) : Int32 × Int32 := (q.1 + tkF q.2.1 (gB (gHere pd ln q.1) c), tkF q.2.1 (gB (gHere pd ln q.1) c))
theorem tSl_le {pd : Nat → Int32} {n i : Nat} {c fo b : Int32} (hn : n ≤ 60) (hi : i ≤ n) (hc : ¬ b = 0 → i < n) : ∃ j, i ≤ j ∧ j ≤ n ∧ nI i + tkF fo b = nI j := by
  rcases tkF_b fo b with e | e
  · rw [e, Int32.add_zero]
    exact ⟨i, Nat.le_refl _, hi, rfl⟩
  · rw [e, ← nI_succ]
    exact ⟨i + 1, by omega, hc (tkF_0 (fo := fo) (by rw [e]; decide)), rfl⟩
theorem gB_in {x c : Int32} (h : ¬ gB x c = 0) : x = c := by
  unfold gB at h
  by_cases h2 : x = c
  · exact h2
  · rw [if_neg h2] at h
    exact absurd rfl h
abbrev GSt : Type := Int32 × Int32 × Int32 × Int32 × Int32 × Int32
noncomputable def tEnd (pd : Nat → Int32) (ln : Int32) (q : Int32 × Int32) (ho ta tR : Int32) : GSt := ((kNum pd ln 1 99 q).1, (kNum pd ln 1 99 q).2.1, ho, ta, tR, (kNum pd ln 1 99 q).2.2)
noncomputable def tSeg (pd : Nat → Int32) (ln : Int32) (g : GSt) : GSt := match g with
  | (sp, fo, ho, ta, tR, tm) => if gHere pd ln sp = 104 then tEnd pd ln (sp + tkF fo 1, tkF fo 1) 1 ta tR else tEnd pd ln (tSl pd ln 120 (kNum pd ln 1 100 (tSl pd ln 47 (kNum pd ln 0 1000 (sp, fo))))) 0 (kNum pd ln 0 1000 (sp, fo)).2.2 (kNum pd ln 1 100 (tSl pd ln 47 (kNum pd ln 0 1000 (sp, fo)))).2.2
noncomputable def kSeg (pd : Nat → Int32) (ln : Int32) (g : GSt) : GSt := kseal (tSeg pd ln g)
noncomputable def tProg (pd : Nat → Int32) (ln : Int32) : Nat → GSt → GSt
  | 0, g => g
  | f + 1, (sp, fo, r) => if fo = 0 then (sp, fo, r) else if ln ≤ sp then (sp, fo, r) else if tkF fo (gB (gHere pd ln sp) 59) = 0 then (sp, 0, r) else tProg pd ln f (kSeg pd ln (sp + 1, 1, r))
noncomputable def kProg (pd : Nat → Int32) (ln : Int32) (r : Int32 × Int32 × Int32 × Int32) : GSt := kseal (tProg pd ln 61 (kSeg pd ln (0, 1, r)))
def mG (m : RSt) (g : GSt) : RSt := match m, g with
  | (s, ad, pa, ke, pd, fl, nm, kn, ik, ln, sg, _), (sp, fo, ho, ta, tR, tm) => (s, ad, pa, ke, pd, fl, nm, kn, ik, ln, sg, sp, fo, ho, ta, tR, tm)
noncomputable def rSeg (m : RSt) : RSt := match m with
  | (s, ad, pa, ke, pd, fl, nm, kn, ik, ln, sg, sp, fo, ho, ta, tR, tm) => mG (s, ad, pa, ke, pd, fl, nm, kn, ik, ln, sg, sp, fo, ho, ta, tR, tm) (kSeg pd ln (sp, fo, ho, ta, tR, tm))
noncomputable def rProg (m : RSt) : RSt × Int32 := match m with
  | (s, ad, pa, ke, pd, fl, nm, kn, ik, ln, sg, sp, fo, ho, ta, tR, tm) => (mG (s, ad, pa, ke, pd, fl, nm, kn, ik, ln, sg, sp, fo, ho, ta, tR, tm) (kProg pd ln (ho, ta, tR, tm)), (kProg pd ln (ho, ta, tR, tm)).2.1)
noncomputable def rFault (m : RSt) : RSt × Int32 := match m with
  | (s, ad, pa, ke, pd, fl, nm, kn, ik, ln, sg, sp, fo, ho, ta, tR, tm) => (mG (s, ad, pa, ke, pd, fl, nm, kn, ik, ln, sg, sp, fo, ho, ta, tR, tm) (kProg pd ln (ho, ta, tR, tm)), if (kProg pd ln (ho, ta, tR, tm)).2.1 = 0 then (kProg pd ln (ho, ta, tR, tm)).1 else -4)
noncomputable def S_X7_here : mjSp := fun M as => ((M = mw (rR M) ∧ as = [.ref 0]) ∧ pOk (rR M), none, some (.int (rHere (rR M))))
noncomputable def S_X7_takes : mjSp := fun M as => ((M = mw (rR M) ∧ as = [.ref 0, .int (aI as 1)]) ∧ aOk (rR M), some (mw (rTakes (rR M) (aI as 1))), none)
noncomputable def S_X7_takesNumber : mjSp := fun M as => ((M = mw (rR M) ∧ as = [.ref 0, .int (aI as 1), .int (aI as 2)]) ∧ pOk (rR M), some (mw (rNum (rR M) (aI as 1) (aI as 2)).1), some (.int (rNum (rR M) (aI as 1) (aI as 2)).2))
noncomputable def S_X7_takesSegment : mjSp := fun M as => ((M = mw (rR M) ∧ as = [.ref 0]) ∧ pOk (rR M), some (mw (rSeg (rR M))), none)
noncomputable def S_X7_isProgram : mjSp := fun M as => ((M = mw (rR M) ∧ as = [.ref 0]) ∧ r7Ok (rR M), some (mw (rProg (rR M)).1), some (.int (rProg (rR M)).2))
noncomputable def S_X7_fault : mjSp := fun M as => ((M = mw (rR M) ∧ as = [.ref 0]) ∧ r7Ok (rR M), some (mw (rFault (rR M)).1), some (.int (rFault (rR M)).2))
def rm_X7_here : Room := { frames := 0, cells := 0, slots := 0, locals := 0 }
noncomputable def G_X7_here : mjG := (I_X7_here, F_X7, [], (fun pc => []), Y0, (fun _ => none), (fun _ => none), (some .int), 0, 0, false)
set_option maxHeartbeats 20000000 in
set_option maxRecDepth 100000 in
theorem ok_X7_here : mjOK G_X7_here 1 S_X7_here := by
  intro M as hP T hT
  obtain ⟨⟨s, ad, pa, ke, pd, fl, nm, kn, ik, ln, sg, sp, fo, ho, ta, tR, tm⟩, rfl, rfl, hk⟩ : ∃ m, M = mw m ∧ as = [.ref 0] ∧ pOk m := ⟨_, hP.1.1, hP.1.2, hP.2⟩
  have fin : (S_X7_here (mw (s, ad, pa, ke, pd, fl, nm, kn, ik, ln, sg, sp, fo, ho, ta, tR, tm)) [.ref 0]).2.1 = none := rfl
  have fin2 : (S_X7_here (mw (s, ad, pa, ke, pd, fl, nm, kn, ik, ln, sg, sp, fo, ho, ta, tR, tm)) [.ref 0]).2.2 = some (.int (rHere (s, ad, pa, ke, pd, fl, nm, kn, ik, ln, sg, sp, fo, ho, ta, tR, tm))) := rfl
  rw [rHere] at fin2
  try dsimp only at fin2
  generalize S_X7_here (mw (s, ad, pa, ke, pd, fl, nm, kn, ik, ln, sg, sp, fo, ho, ta, tR, tm)) [.ref 0] = SS at hT fin fin2
  obtain ⟨i, n, hi, hn, rfl, rfl⟩ : ∃ i n : Nat, i ≤ n ∧ n ≤ 60 ∧ sp = nI i ∧ ln = nI n := hk
  refine hT.1 (fun _ => false) 60 _ _ _ _ _ ?_
  refine And.intro (fun (h : nI n ≤ nI i) => ⟨?_, ?_⟩) (fun (h : ¬ nI n ≤ nI i) => mjix_n (by
    rcases Nat.lt_or_ge i n with w | w
    · omega
    · exact absurd (nI_le w (by omega)) h) (by decide) ⟨?_, ?_⟩)
  · rw [fin]; rfl
  · rw [fin2, gHere, if_pos h]
  · rw [fin]; rfl
  · rw [fin2, gHere, if_neg h, nI_clamp (by omega)]
set_option maxRecDepth 10000 in
theorem ct_X7_here (l : Launch) : mjCT l yX7_here cX7_here 1 (some .int) rm_X7_here S_X7_here :=
  mjCT_of (own := RX7) (G := G_X7_here) (plainFor_of_name pn_X7) rfl ok_X7_here (fun meth hm => ⟨fun pc row h => (I_X7_here_ok pc row h).1, F_X7_ok, fun _ h => absurd h List.not_mem_nil, (fun _ _ _ h => by cases h), (fun _ _ h => by cases h), ⟨Nat.le_refl _, Nat.le_refl _⟩, (fun h => by cases h), (fun h => absurd h (by decide))⟩) rfl rfl rfl (fun pc row h => (I_X7_here_ok pc row h).2)
def rm_X7_takes : Room := { frames := 0, cells := 0, slots := 0, locals := 0 }
noncomputable def G_X7_takes : mjG := (I_X7_takes, F_X7, [], (fun pc => []), Y0, (fun _ => none), (fun _ => none), none, 0, 0, false)
set_option maxHeartbeats 20000000 in
set_option maxRecDepth 100000 in
theorem ok_X7_takes : mjOK G_X7_takes 2 S_X7_takes := by
  intro M as hP T hT
  obtain ⟨⟨s, ad, pa, ke, pd, fl, nm, kn, ik, ln, sg, sp, fo, ho, ta, tR, tm⟩, b, rfl, rfl, hk⟩ : ∃ m b, M = mw m ∧ as = [.ref 0, .int b] ∧ aOk m := ⟨_, _, hP.1.1, hP.1.2, hP.2⟩
  have fin : (S_X7_takes (mw (s, ad, pa, ke, pd, fl, nm, kn, ik, ln, sg, sp, fo, ho, ta, tR, tm)) [.ref 0, .int b]).2.1 = some (mw (rTakes (s, ad, pa, ke, pd, fl, nm, kn, ik, ln, sg, sp, fo, ho, ta, tR, tm) b)) := rfl
  have fin2 : (S_X7_takes (mw (s, ad, pa, ke, pd, fl, nm, kn, ik, ln, sg, sp, fo, ho, ta, tR, tm)) [.ref 0, .int b]).2.2 = none := rfl
  rw [rTakes] at fin
  try dsimp only at fin
  generalize S_X7_takes (mw (s, ad, pa, ke, pd, fl, nm, kn, ik, ln, sg, sp, fo, ho, ta, tR, tm)) [.ref 0, .int b] = SS at hT fin fin2
  have s1 : ∀ w, w = tkF fo b → T 17 [some (.ref 0), some (.int b)] [.int w, .ref 0] (mw (s, ad, pa, ke, pd, fl, nm, kn, ik, ln, sg, sp, fo, ho, ta, tR, tm)) (0, 0) := by
    intro w hw
    have hb := tkF_b fo b
    rw [← hw] at fin hb
    refine hT.1 (fun _ => false) 60 _ _ _ _ _ ?_
    refine And.intro hb (And.intro (fun (h : w = 0) => ⟨?_, fin2.symm⟩) (fun (h : ¬ w = 0) => ⟨?_, fin2.symm⟩))
    · rw [fin, h]; rfl
    · rw [fin, hb.resolve_left h]; rfl
  refine hT.1 (fun pc => Nat.beq pc 17) 60 _ _ _ _ _ ?_
  exact And.intro (fun (h : fo = 0) => s1 _ (if_pos h).symm) (fun (h : ¬ fo = 0) => And.intro (fun (h2 : b = 0) => s1 _ (by rw [tkF, if_neg h, if_pos h2])) (fun (h2 : ¬ b = 0) => s1 _ (by rw [tkF, if_neg h, if_neg h2])))
set_option maxRecDepth 10000 in
theorem ct_X7_takes (l : Launch) : mjCT l yX7_takes cX7_takes 2 none rm_X7_takes S_X7_takes :=
  mjCT_of (own := RX7) (G := G_X7_takes) (plainFor_of_name pn_X7) rfl ok_X7_takes (fun meth hm => ⟨fun pc row h => (I_X7_takes_ok pc row h).1, F_X7_ok, fun _ h => absurd h List.not_mem_nil, (fun _ _ _ h => by cases h), (fun _ _ h => by cases h), ⟨Nat.le_refl _, Nat.le_refl _⟩, (fun h => by cases h), (fun h => absurd h (by decide))⟩) rfl rfl rfl (fun pc row h => (I_X7_takes_ok pc row h).2)
def rm_X7_takesNumber : Room := { frames := 1, cells := 0, slots := 0, locals := 22 }
noncomputable def G_X7_takesNumber : mjG := (I_X7_takesNumber, F_X7, [(121, 0, 6, 1, 0, 0, S_X7_here), (43, 1, 0, 3, 0, 0, S_X7_in), (124, 0, 6, 2, 0, 0, S_X7_takes)], (fun pc => bif Nat.beq pc 55 then [] else bif Nat.beq pc 17 then [] else [0, 1, 2, 3, 4, 5, 6, 7]), Y0, (fun _ => none), (fun _ => none), (some .int), 0, 0, false)
set_option maxHeartbeats 20000000 in
set_option maxRecDepth 100000 in
theorem ok_X7_takesNumber : mjOK G_X7_takesNumber 4 S_X7_takesNumber := by
  intro M as hP T hT
  obtain ⟨⟨s, ad, pa, ke, pd, fl, nm, kn, ik, ln, sg, sp, fo, ho, ta, tR, tm⟩, l, u, rfl, rfl, hk⟩ : ∃ m l u, M = mw m ∧ as = [.ref 0, .int l, .int u] ∧ pOk m := ⟨_, _, _, hP.1.1, hP.1.2, hP.2⟩
  have fin : (S_X7_takesNumber (mw (s, ad, pa, ke, pd, fl, nm, kn, ik, ln, sg, sp, fo, ho, ta, tR, tm)) [.ref 0, .int l, .int u]).2.1 = some (mw (rNum (s, ad, pa, ke, pd, fl, nm, kn, ik, ln, sg, sp, fo, ho, ta, tR, tm) l u).1) := rfl
  have fin2 : (S_X7_takesNumber (mw (s, ad, pa, ke, pd, fl, nm, kn, ik, ln, sg, sp, fo, ho, ta, tR, tm)) [.ref 0, .int l, .int u]).2.2 = some (.int (rNum (s, ad, pa, ke, pd, fl, nm, kn, ik, ln, sg, sp, fo, ho, ta, tR, tm) l u).2) := rfl
  rw [rNum] at fin fin2
  try dsimp only at fin fin2
  generalize S_X7_takesNumber (mw (s, ad, pa, ke, pd, fl, nm, kn, ik, ln, sg, sp, fo, ho, ta, tR, tm)) [.ref 0, .int l, .int u] = SS at hT fin fin2
  obtain ⟨i, n, hi, hn, rfl, rfl⟩ : ∃ i n : Nat, i ≤ n ∧ n ≤ 60 ∧ sp = nI i ∧ ln = nI n := hk
  rw [kNum, kseal_eq] at fin fin2
  have s36 : ∀ (R : Int32 × Int32), SS.2.1 = some (mw (s, ad, pa, ke, pd, fl, nm, kn, ik, (nI n), sg, R.1, 1, ho, ta, tR, tm)) → SS.2.2 = some (.int R.2) → ∀ f i v, i ≤ n → n - i ≤ f → nGo pd (nI n) u f (nI i) v = R → T 36 [some (.ref 0), some (.int l), some (.int u), some (.int v)] [] (mw (s, ad, pa, ke, pd, fl, nm, kn, ik, (nI n), sg, (nI i), 1, ho, ta, tR, tm)) (0, 0) := by
    intro R f1 f2 f
    induction f with
    | zero =>
      intro i v hi hf e
      have hk : pOk (s, ad, pa, ke, pd, fl, nm, kn, ik, (nI n), sg, (nI i), 1, ho, ta, tR, tm) := ⟨i, n, hi, hn, rfl, rfl⟩
      have h0 : gHere pd (nI n) (nI i) = 0 := by
        rw [here_lt hn hi, if_neg (by omega)]
      have e : (nI i, v) = R := e
      rw [← e] at f1 f2
      refine hT.1 (fun pc => Nat.beq pc 36) 60 _ _ _ _ _ ?_
      refine And.intro (fun h => absurd h (by decide)) (fun _ => And.intro (fun (h1 : v ≤ 0) => ⟨by rw [f1]; rfl, f2.symm⟩) (fun (h1 : ¬ v ≤ 0) => And.intro ⟨⟨rfl, rfl⟩, hk⟩ (And.intro ⟨rfl, rfl⟩ (And.intro (fun (h2 : gIn (gHere pd (nI n) (nI i)) 48 57 = 0) => ⟨by rw [f1]; rfl, f2.symm⟩) (fun (h2 : ¬ gIn (gHere pd (nI n) (nI i)) 48 57 = 0) => absurd (by rw [h0]; decide) h2)))))
    | succ f ih =>
      intro i v hi hf e
      have hk : pOk (s, ad, pa, ke, pd, fl, nm, kn, ik, (nI n), sg, (nI i), 1, ho, ta, tR, tm) := ⟨i, n, hi, hn, rfl, rfl⟩
      unfold nGo at e
      refine hT.1 (fun pc => Nat.beq pc 36) 60 _ _ _ _ _ ?_
      refine And.intro (fun h => absurd h (by decide)) (fun _ => And.intro (fun (h1 : v ≤ 0) => ?_) (fun (h1 : ¬ v ≤ 0) => And.intro ⟨⟨rfl, rfl⟩, hk⟩ (And.intro ⟨rfl, rfl⟩ (And.intro (fun (h2 : gIn (gHere pd (nI n) (nI i)) 48 57 = 0) => ?_) (fun (h2 : ¬ gIn (gHere pd (nI n) (nI i)) 48 57 = 0) => And.intro ⟨⟨rfl, rfl⟩, hk⟩ (And.intro (fun (h3 : u < 10 * v + gHere pd (nI n) (nI i) - 48) => ?_) (fun (h3 : ¬ u < 10 * v + gHere pd (nI n) (nI i) - 48) => And.intro ⟨⟨rfl, rfl⟩, hk⟩ ?_)))))))
      · rw [if_pos h1] at e
        rw [← e] at f1 f2
        exact ⟨by rw [f1]; rfl, f2.symm⟩
      · rw [if_neg h1, if_pos h2] at e
        rw [← e] at f1 f2
        exact ⟨by rw [f1]; rfl, f2.symm⟩
      · rw [if_neg h1, if_neg h2, if_pos h3] at e
        rw [← e] at f1 f2
        exact ⟨by rw [f1]; rfl, f2.symm⟩
      · rw [if_neg h1, if_neg h2, if_neg h3, ← nI_succ] at e
        have h4 := here_d hn hi h2
        have ih2 := ih (i + 1) (10 * v + gHere pd (nI n) (nI i) - 48) h4 (by omega) e
        rw [nI_succ] at ih2
        exact ih2
  have s33 : ∀ b, b = nB (gHere pd (nI n) (nI i)) l → T 33 [some (.ref 0), some (.int l), some (.int u), some (.int (gHere pd (nI n) (nI i) - 48))] [.int b, .ref 0] (mw (s, ad, pa, ke, pd, fl, nm, kn, ik, (nI n), sg, (nI i), fo, ho, ta, tR, tm)) (0, 0) := by
    intro b hb
    unfold tNum at fin fin2
    dsimp only at fin fin2
    rw [← hb] at fin fin2
    have s1 : ∀ w, w = tkF fo b → T 36 [some (.ref 0), some (.int l), some (.int u), some (.int (gHere pd (nI n) (nI i) - 48))] [] (mw (s, ad, pa, ke, pd, fl, nm, kn, ik, (nI n), sg, (nI i + w), w, ho, ta, tR, tm)) (0, 0) := by
      intro w hw
      have hb2 := tkF_b fo b
      have hlt : ¬ tkF fo b = 0 → i < n := fun h => here_d hn hi (nB_in (by rw [← hb]; exact tkF_0 h))
      rw [← hw] at fin fin2 hb2 hlt
      rcases hb2 with rfl | rfl
      · rw [if_pos rfl] at fin fin2
        refine hT.1 (fun _ => false) 60 _ _ _ _ _ ?_
        exact And.intro (fun _ => ⟨by rw [fin, Int32.add_zero]; rfl, fin2.symm⟩) (fun h => absurd rfl h)
      · rw [if_neg (by decide), ← nI_succ] at fin fin2
        rw [← nI_succ]
        exact s36 _ fin fin2 60 (i + 1) _ (hlt (by decide)) (by omega) rfl
    refine hT.1 (fun pc => Nat.beq pc 36) 60 _ _ _ _ _ ?_
    exact And.intro ⟨⟨rfl, rfl⟩, trivial⟩ (s1 _ rfl)
  have hk : pOk (s, ad, pa, ke, pd, fl, nm, kn, ik, (nI n), sg, (nI i), fo, ho, ta, tR, tm) := ⟨i, n, hi, hn, rfl, rfl⟩
  refine hT.1 (fun pc => Nat.beq pc 33) 60 _ _ _ _ _ ?_
  exact And.intro ⟨⟨rfl, rfl⟩, hk⟩ (And.intro ⟨⟨rfl, rfl⟩, hk⟩ (And.intro ⟨rfl, rfl⟩ (And.intro (fun (h2 : gIn (gHere pd (nI n) (nI i)) 48 57 = 0) => s33 _ (if_pos h2).symm) (fun (h2 : ¬ gIn (gHere pd (nI n) (nI i)) 48 57 = 0) => And.intro (fun (h3 : gHere pd (nI n) (nI i) - 48 < l) => s33 _ (by rw [nB, if_neg h2, if_pos h3])) (fun (h3 : ¬ gHere pd (nI n) (nI i) - 48 < l) => s33 _ (by rw [nB, if_neg h2, if_neg h3]))))))
set_option maxRecDepth 10000 in
theorem ct_X7_takesNumber (l : Launch) : mjCT l yX7_takesNumber cX7_takesNumber 4 (some .int) rm_X7_takesNumber S_X7_takesNumber :=
  mjCT_of (own := RX7) (G := G_X7_takesNumber) (plainFor_of_name pn_X7) rfl ok_X7_takesNumber (fun meth hm => ⟨fun pc row h => (I_X7_takesNumber_ok pc row h).1, F_X7_ok, List.forall_mem_cons.mpr ⟨⟨yX7_here, cX7_here, 1, (some .int), rm_X7_here, ct_X7_here l, ⟨rfl, rfl⟩, ⟨by decide, by decide⟩, by decide, by decide, nk_X7_here, ln_X7_121, im_X7_here, se_X7_here, rfl⟩, List.forall_mem_cons.mpr ⟨⟨yX7_in, cX7_in, 3, (some .boolean), rm_X7_in, ct_X7_in l, ⟨rfl, rfl⟩, ⟨by decide, by decide⟩, by decide, nk_X7_in, ln_X7_43, st_X7_in⟩, List.forall_mem_cons.mpr ⟨⟨yX7_takes, cX7_takes, 2, none, rm_X7_takes, ct_X7_takes l, ⟨rfl, rfl⟩, ⟨by decide, by decide⟩, by decide, by decide, nk_X7_takes, ln_X7_124, im_X7_takes, se_X7_takes, rfl⟩, fun _ h => absurd h List.not_mem_nil⟩⟩⟩, (fun _ _ _ h => by cases h), (fun _ _ h => by cases h), ⟨Nat.le_refl _, Nat.le_refl _⟩, (fun h => by cases h), (fun h => absurd h (by decide))⟩) rfl rfl rfl (fun pc row h => (I_X7_takesNumber_ok pc row h).2)
