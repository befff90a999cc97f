/-! ColdPanes: the other methods -/
noncomputable def kGo (a : PSt) (z : ZSt) : ZSt × Int32 := kseal (zGo (pC a) z 36)
noncomputable def kJo (a : PSt) (z : ZSt) : (Nat → Int32) × Int32 := kseal (zJoin (pC a) z.1 60)
noncomputable def kFault (d : DSt) : DSt × Int32 := kseal (dFault d)
def cParts (c : CSt) (z : ZSt) : CSt := match c with
  | (a, t, s, b, h, d, _, fo) => (a, t, s, b, h, d, z, fo)
def cPad (c : CSt) (d : DSt) : CSt := match c with
  | (a, t, s, b, h, _, r) => (a, t, s, b, h, d, r)
def cTrial (c : CSt) (t : PSt) : CSt := match c with
  | (a, _, r) => (a, t, r)
def dLen (d : DSt) : Int32 := d.2.2.2.2.1
def dSegs (d : DSt) : Int32 := d.2.2.2.2.2.1
def dLen0 (d : DSt) : DSt := match d with
  | (ch, am, rt, mn, _, r) => (ch, am, rt, mn, 0, r)
def pLoss (p : PSt) : Int32 := p.2.2.2.2.2.2.2.2.2.2.1
def pMinutes (p : PSt) : Int32 := p.2.2.2.2.2.2.2.2.2.1
def pFurnace (p : PSt) : Int32 := p.2.2.2.2.1
def pRate (p : PSt) : Int32 := p.2.2.2.2.2.2.1
def pFlames (p : PSt) : Int32 := p.2.2.2.2.2.2.2.2.2.2.2
noncomputable def cAppend (c : CSt) (x : Int32) : CSt × Int32 := if gOut x 33 126 = 0 then (cPad c (kseal (dTake c.2.2.2.2.2.1 (x.toUInt32 % 65536).toInt32)).1, if (kseal (dTake c.2.2.2.2.2.1 (x.toUInt32 % 65536).toInt32)).2 = 0 then -3 else dLen (kseal (dTake c.2.2.2.2.2.1 (x.toUInt32 % 65536).toInt32)).1) else (c, -1)
def cClear (c : CSt) : CSt × Int32 := (cPad c (dLen0 c.2.2.2.2.2.1), dLen c.2.2.2.2.2.1)
noncomputable def cFault (c : CSt) : CSt × Int32 := (cPad c (kFault c.2.2.2.2.2.1).1, (kFault c.2.2.2.2.2.1).2)
noncomputable def fStep (d : DSt) (i : Int32) (a : PSt) : PSt × Int32 := kseal (pPass (if gSeg d.2.1 i (-1) = -1 then a else pSetAim a (gSeg d.2.1 i (-1)) (gSeg d.2.2.1 i 1)) (gSeg d.2.2.2.1 i 0).toNatClampNeg)
/-- the segments of a run: how far, what cracked last, the pane -/
noncomputable def fRun (d : DSt) : Nat → Nat → Int32 → PSt → PSt × Int32
  | 0, i, _, a => (a, nI i)
  | k + 1, i, x, a => if dSegs d ≤ nI i then (a, nI i) else if ¬ x = 0 then (a, nI i) else fRun d k (i + 1) (fStep d (nI i) a).2 (fStep d (nI i) a).1
noncomputable def kRun (d : DSt) (a : PSt) : PSt × Int32 := kseal (fRun d 20 0 0 a)
noncomputable def cRun (c : CSt) : CSt × Int32 := if (kFault c.2.2.2.2.2.1).2 = -4 then (cPad (cNow c (kRun (kFault c.2.2.2.2.2.1).1 c.1).1 (cRec c.1 c.2.2.2.2.1)) (dLen0 (kFault c.2.2.2.2.2.1).1), (kRun (kFault c.2.2.2.2.2.1).1 c.1).2) else (cPad c (kFault c.2.2.2.2.2.1).1, -2)
def rOk (d : DSt) : Prop := (∀ k : Nat, k < 20 → ¬ d.2.2.2.1 k < 0) ∧ dSegs d ≤ 20
noncomputable def cCell (c : CSt) (k w : Int32) : CSt × Int32 := if gIsCell k = 0 then (c, -1) else if w = 0 then (c, gAt 36 (pH c.1) k) else if w = 1 then (cParts c (kGo c.1 c.2.2.2.2.2.2.1).1, gName (kGo c.1 c.2.2.2.2.2.2.1).1.1 k) else if w = 2 then (c, kseal (gWholeOf (pC c.1) k)) else if w = 3 then (c, gRim k) else if w = 4 then (c, kseal (gStrOf (pH c.1) (pC c.1) k)) else (c, -1)
noncomputable def cJoint (c : CSt) (j w : Int32) : CSt × Int32 := if gIsJoint j = 0 then (c, -1) else if w = 0 then (c, gFirst j) else if w = 1 then (c, gSecond j) else if w = 2 then (c, if gWh (pC c.1) j = 0 then 0 else 1) else if w = 3 then (c, gJt (pS c.1) j) else if w = 4 then (c, gStr (pH c.1) j) else if w = 5 then (c, if gWh (pC c.1) j = 0 then gJt (pC c.1) j else -4) else if w = 6 then (c, kseal (gBeside (pC c.1) j)) else (c, -1)
noncomputable def cStrained (c : CSt) (x : Int32) : CSt × Int32 := (c, if 0 ≤ x then kseal (gFind (pH c.1) (pS c.1) (pC c.1) x 0 60) else -1)
noncomputable def cPieces (c : CSt) (x : Int32) : CSt × Int32 := if x = 0 then (cParts c (kGo c.1 c.2.2.2.2.2.2.1).1, (kGo c.1 c.2.2.2.2.2.2.1).2) else if x = 1 then (cParts c ((kJo c.1 c.2.2.2.2.2.2.1).1, c.2.2.2.2.2.2.1.2), (kJo c.1 c.2.2.2.2.2.2.1).2) else (c, -1)
noncomputable def cCount (c : CSt) (x : Int32) : CSt × Int32 := if x = 0 then (c, pFurnace c.1) else if x = 1 then (c, pAim c.1) else if x = 2 then (c, pRate c.1) else if x = 3 then (c, pMinutes c.1) else if x = 4 then (c, kseal (gSum (pH c.1))) else if x = 5 then (c, pLoss c.1) else if x = 6 then (c, kseal (gCracked (pC c.1))) else if x = 7 then (c, kseal (gHot (pH c.1))) else if x = 8 then (c, kseal (gCold (pH c.1))) else if x = 9 then (c, kseal (gStrMax (pH c.1) (pC c.1))) else if x = 10 then (c, kseal (gLeastMar (pH c.1) (pS c.1) (pC c.1))) else if x = 11 then (cParts c (kGo c.1 c.2.2.2.2.2.2.1).1, kseal (gSizeMax (kGo c.1 c.2.2.2.2.2.2.1).1.1)) else if x = 12 then (c, pLead c.1) else if x = 13 then (c, pRim c.1) else if x = 14 then (c, pFlames c.1) else if x = 15 then (c, dLen c.2.2.2.2.2.1) else if x = 16 then (c, c.2.2.2.2.1.1) else (c, -1)
noncomputable def cMeanV (a : PSt) (z : ZSt) (k : Int32) : UInt64 := kseal (if gSize (kGo a z).1.1 (gName (kGo a z).1.1 k) = 0 then 13830554455654793216 else FP.ddiv (mSum (kGo a z).1.1 (pH a) (gName (kGo a z).1.1 k) 36) (FP.i2d (gSize (kGo a z).1.1 (gName (kGo a z).1.1 k))))
noncomputable def cMean (c : CSt) (k : Int32) : CSt × UInt64 := if gIsCell k = 0 then (c, 13830554455654793216) else (cParts c (kGo c.1 c.2.2.2.2.2.2.1).1, cMeanV c.1 c.2.2.2.2.2.2.1 k)
noncomputable def kLook (t : PSt) (m : Int32) : PSt × FSt := kseal (pLook t m.toNatClampNeg)
noncomputable def cIf (c : CSt) (m w : Int32) : CSt × Int32 := if gOut m 1 99 = 0 then (if gOut w 0 3 = 0 then ((c.1, (kLook (pCopy c.2.1 c.1) m).1, c.2.2.1, c.2.2.2.1, c.2.2.2.2.1, c.2.2.2.2.2.1, c.2.2.2.2.2.2.1, (kLook (pCopy c.2.1 c.1) m).2), if w = 0 then (kLook (pCopy c.2.1 c.1) m).2.1 else if w = 1 then (kLook (pCopy c.2.1 c.1) m).2.2.1 else if w = 2 then (kLook (pCopy c.2.1 c.1) m).2.2.2 else pLoss (kLook (pCopy c.2.1 c.1) m).1) else (c, -1)) else (c, -1)
noncomputable def kStay (p : PSt) (m : Int32) : PSt × Int32 := kseal (pStay p m.toNatClampNeg)
noncomputable def fFast (a : PSt) (x m : Int32) : Nat → PSt → PSt × Int32
  | 0, t => (t, -4)
  | r + 1, t => if (kStay (pSetAim (pCopy t a) x (nI (r + 1))) m).2 = 0 then fFast a x m r (kStay (pSetAim (pCopy t a) x (nI (r + 1))) m).1 else ((kStay (pSetAim (pCopy t a) x (nI (r + 1))) m).1, nI (r + 1))
noncomputable def kFast (a : PSt) (x m : Int32) (t : PSt) : PSt × Int32 := kseal (fFast a x m 100 t)
noncomputable def cFast (c : CSt) (x m : Int32) : CSt × Int32 := if gOut x 0 1000 = 0 then (if gOut m 1 99 = 0 then (cTrial c (kFast c.1 x m c.2.1).1, (kFast c.1 x m c.2.1).2) else (c, -1)) else (c, -1)
noncomputable def fEven (x : Int32) : Nat → Nat → PSt → PSt × Int32
  | 0, _, t => (t, -4)
  | k + 1, i, t => if x < kseal (gStrMax (pH t) (pC t)) then fEven x k (i + 1) (kseal (pPass t (1 : Int32).toNatClampNeg)).1 else (t, nI i)
noncomputable def kEven (x : Int32) (t : PSt) : PSt × Int32 := kseal (fEven x 100 0 t)
noncomputable def cEven (c : CSt) (x : Int32) : CSt × Int32 := if gOut x 0 500 = 0 then (cTrial c (kEven x (pCopy c.2.1 c.1)).1, (kEven x (pCopy c.2.1 c.1)).2) else (c, -1)
noncomputable def kTake (a : PSt) (h : HSt) : HSt × PSt := kseal (hTake (zDn h) a)
noncomputable def cUndo (c : CSt) : CSt × Int32 := (cNow c (kTake c.1 c.2.2.2.2.1).2 (zUp (kTake c.1 c.2.2.2.2.1).1), if c.2.2.2.2.1.1 = 0 then -2 else (kTake c.1 c.2.2.2.2.1).1.1)
def cSave (c : CSt) : CSt × Int32 := ((c.1, c.2.1, pCopy c.2.2.1 c.1, 1, c.2.2.2.2), pMinutes c.1)
noncomputable def cRestore (c : CSt) : CSt × Int32 := if c.2.2.2.1 = 0 then (c, -2) else (cNow c (pCopy c.1 c.2.2.1) (cRec c.1 c.2.2.2.2.1), pMinutes (pCopy c.1 c.2.2.1))
abbrev xm0 (V : CSt → CSt × Int32) : mjSp := fun M as => ((M = xw (rX M) ∧ as = [.ref 0]) ∧ xOk (rX M).2.2.2.2.1, some (xw (V (rX M)).1), some (.int (V (rX M)).2))
theorem inX0 {V : CSt → CSt × Int32} {M : mjM} {as : List Value} (h : (xm0 V M as).1) : ∃ c, M = xw c ∧ as = [.ref 0] ∧ xOk c.2.2.2.2.1 := ⟨_, h.1.1, h.1.2, h.2⟩
noncomputable def S_X6_append : mjSp := xm1 cAppend
def S_X6_clear : mjSp := xm0 cClear
noncomputable def S_X6_fault : mjSp := xm0 cFault
noncomputable def S_X6_run : mjSp := fun M as => (((M = xw (rX M) ∧ as = [.ref 0]) ∧ xOk (rX M).2.2.2.2.1) ∧ rOk (kFault (rX M).2.2.2.2.2.1).1, some (xw (cRun (rX M)).1), some (.int (cRun (rX M)).2))
noncomputable def S_X6_cell : mjSp := xm2 cCell
noncomputable def S_X6_joint : mjSp := xm2 cJoint
noncomputable def S_X6_strained : mjSp := xm1 cStrained
noncomputable def S_X6_pieces : mjSp := xm1 cPieces
noncomputable def S_X6_count : mjSp := xm1 cCount
noncomputable def S_X6_mean : mjSp := fun M as => (((M = xw (rX M) ∧ as = [.ref 0, .int (aI as 1)]) ∧ xOk (rX M).2.2.2.2.1) ∧ (¬ gIsCell (aI as 1) = 0 → mOk (kGo (rX M).1 (rX M).2.2.2.2.2.2.1).1.1 (pH (rX M).1) (gName (kGo (rX M).1 (rX M).2.2.2.2.2.2.1).1.1 (aI as 1))), some (xw (cMean (rX M) (aI as 1)).1), some (.double (cMean (rX M) (aI as 1)).2))
noncomputable def S_X6_ifPassed : mjSp := xm2 cIf
noncomputable def S_X6_fastest : mjSp := xm2 cFast
noncomputable def S_X6_evenIn : mjSp := xm1 cEven
noncomputable def S_X6_undo : mjSp := xm0 cUndo
def S_X6_save : mjSp := xm0 cSave
noncomputable def S_X6_restore : mjSp := xm0 cRestore
theorem take_f {f : Nat → Option Nat} {a : PSt} {n : Int32} {q : PSt × PSt × PSt × PSt} (hf : hOk2 f) : mjcut (mjui i27 47) 4 (kseal (hTake (n, mjcut (mjri i27) 4 f, q) a)).1.2.1 = (zUp (kTake a (n, f, q)).1).2.1 := by
  rw [cut_dn hf, cut_up (by
    rw [kseal_eq]
    unfold hTake
    split <;> exact hOk_dn hf)]
  rfl
theorem take_w {T : Nat → mjL → List Value → mjM → Nat × Nat → Prop} {pc : Nat} {L : mjL} {S : List Value} {a t s : PSt} {b n : Int32} {f : Nat → Option Nat} {q : PSt × PSt × PSt × PSt} {r} {u : Nat × Nat} (hf : hOk2 f) (h : ∀ y, y = kTake a (n, f, q) → T pc L S (xw (y.2, t, s, b, zUp y.1, r)) u) :
    T pc L S (xw ((kseal (hTake (n, mjcut (mjri i27) 4 f, q) a)).2, t, s, b, ((kseal (hTake (n, mjcut (mjri i27) 4 f, q) a)).1.1, mjcut (mjui i27 47) 4 (kseal (hTake (n, mjcut (mjri i27) 4 f, q) a)).1.2.1, (kseal (hTake (n, mjcut (mjri i27) 4 f, q) a)).1.2.2), r)) u := by
  rw [take_f hf, cut_dn hf]
  exact h _ rfl

def rm_X6_clear : Room := { frames := 0, cells := 0, slots := 0, locals := 0 }
noncomputable def G_X6_clear : mjG := (I_X6_clear, F_X6, [], (fun pc => []), Y0, (fun _ => none), (fun _ => none), (some .int), 0, 0, false, [])
set_option maxHeartbeats 20000000 in
set_option maxRecDepth 100000 in
theorem ok_X6_clear : mjOK G_X6_clear 2 S_X6_clear := by
  intro M as hP T hT
  obtain ⟨⟨a, t, s, b, ⟨n, f, q⟩, d, z, fo⟩, rfl, rfl, hx⟩ := inX0 hP
  have fin : (S_X6_clear (xw (a, t, s, b, (n, f, q), d, z, fo)) [.ref 0]).2.1 = some (xw (cClear (a, t, s, b, (n, f, q), d, z, fo)).1) := rfl
  have fin2 : (S_X6_clear (xw (a, t, s, b, (n, f, q), d, z, fo)) [.ref 0]).2.2 = some (.int (cClear (a, t, s, b, (n, f, q), d, z, fo)).2) := rfl
  rw [cClear] at fin fin2
  dsimp only [cNow] at fin fin2
  generalize S_X6_clear (xw (a, t, s, b, (n, f, q), d, z, fo)) [.ref 0] = SS at hT fin fin2
  refine hT.1 (fun _ => false) 60 _ _ _ _ _ ?_
  exact ⟨by rw [fin]; rfl, fin2.symm⟩
set_option maxRecDepth 10000 in
theorem ct_X6_clear (l : Launch) : mjCT l yX6_clear cX6_clear 2 (some .int) rm_X6_clear S_X6_clear :=
  mjCT_of (own := RX6) (G := G_X6_clear) (plainFor_of_name pn_X6) rfl ok_X6_clear (fun meth hm => ⟨fun pc row h => (I_X6_clear_ok pc row h).1, F_X6_ok, fun _ h => absurd h List.not_mem_nil, (fun _ _ _ h => by cases h), (fun _ _ h => by cases h), ⟨Nat.le_refl _, Nat.le_refl _⟩, (fun h => by cases h), (fun h => absurd h (by decide)), fun _ h => absurd h List.not_mem_nil⟩) rfl rfl rfl (fun pc row h => (I_X6_clear_ok pc row h).2)
def rm_X6_fault : Room := { frames := 4, cells := 0, slots := 0, locals := 85 }
noncomputable def G_X6_fault : mjG := (I_X6_fault, F_X6, [(123, 0, 2, 1, 0, 0, S_X3_findFault)], (fun pc => [38, 39, 40, 41, 42]), Y0, (fun _ => none), (fun _ => none), (some .int), 0, 0, false, [])
set_option maxHeartbeats 20000000 in
set_option maxRecDepth 100000 in
theorem ok_X6_fault : mjOK G_X6_fault 1 S_X6_fault := by
  intro M as hP T hT
  obtain ⟨⟨a, t, s, b, ⟨n, f, q⟩, d, z, fo⟩, rfl, rfl, hx⟩ := inX0 hP
  have fin : (S_X6_fault (xw (a, t, s, b, (n, f, q), d, z, fo)) [.ref 0]).2.1 = some (xw (cFault (a, t, s, b, (n, f, q), d, z, fo)).1) := rfl
  have fin2 : (S_X6_fault (xw (a, t, s, b, (n, f, q), d, z, fo)) [.ref 0]).2.2 = some (.int (cFault (a, t, s, b, (n, f, q), d, z, fo)).2) := rfl
  rw [cFault] at fin fin2
  dsimp only [cNow] at fin fin2
  generalize S_X6_fault (xw (a, t, s, b, (n, f, q), d, z, fo)) [.ref 0] = SS at hT fin fin2
  refine hT.1 (fun _ => false) 60 _ _ _ _ _ ?_
  exact And.intro ⟨rfl, rfl⟩ ⟨by rw [fin]; rfl, fin2.symm⟩
set_option maxRecDepth 10000 in
theorem ct_X6_fault (l : Launch) : mjCT l yX6_fault cX6_fault 1 (some .int) rm_X6_fault S_X6_fault :=
  mjCT_of (own := RX6) (G := G_X6_fault) (plainFor_of_name pn_X6) rfl ok_X6_fault (fun meth hm => ⟨fun pc row h => (I_X6_fault_ok pc row h).1, F_X6_ok, List.forall_mem_cons.mpr ⟨⟨yX3_findFault, cX3_findFault, 2, (some .int), rm_X3_findFault, ct_X3_findFault l, ⟨rfl, rfl⟩, ⟨by decide, by decide⟩, by decide, by decide, nk_X3_findFault, ln_X6_123, im_X3_findFault, se_X3_findFault, rfl⟩, fun _ h => absurd h List.not_mem_nil⟩, (fun _ _ _ h => by cases h), (fun _ _ h => by cases h), ⟨Nat.le_refl _, Nat.le_refl _⟩, (fun h => by cases h), (fun h => absurd h (by decide)), fun _ h => absurd h List.not_mem_nil⟩) rfl rfl rfl (fun pc row h => (I_X6_fault_ok pc row h).2)
def rm_X6_append : Room := { frames := 1, cells := 0, slots := 0, locals := 22 }
noncomputable def G_X6_append : mjG := (I_X6_append, F_X6, [(54, 1, 0, 3, 0, 0, S_X6_isOutside), (116, 0, 2, 2, 0, 0, S_X3_take)], (fun pc => bif Nat.beq pc 19 then [38, 39, 40, 41, 42] else []), Y0, (fun _ => none), (fun _ => none), (some .int), 0, 0, false, [])
set_option maxHeartbeats 20000000 in
set_option maxRecDepth 100000 in
theorem ok_X6_append : mjOK G_X6_append 2 S_X6_append := by
  intro M as hP T hT
  obtain ⟨⟨a, t, s, b, ⟨n, f, q⟩, d, z, fo⟩, x, rfl, rfl, hx⟩ := inX1 hP
  have fin : (S_X6_append (xw (a, t, s, b, (n, f, q), d, z, fo)) [.ref 0, .int x]).2.1 = some (xw (cAppend (a, t, s, b, (n, f, q), d, z, fo) x).1) := rfl
  have fin2 : (S_X6_append (xw (a, t, s, b, (n, f, q), d, z, fo)) [.ref 0, .int x]).2.2 = some (.int (cAppend (a, t, s, b, (n, f, q), d, z, fo) x).2) := rfl
  rw [cAppend] at fin fin2
  dsimp only [cNow] at fin fin2
  generalize S_X6_append (xw (a, t, s, b, (n, f, q), d, z, fo)) [.ref 0, .int x] = SS at hT fin fin2
  have s1 : gOut x 33 126 = 0 → ∀ y, y = kseal (dTake d (x.toUInt32 % 65536).toInt32) → T 22 [some (.ref 0), some (.int x)] [.int y.2] (xw (a, t, s, b, (n, f, q), y.1, z, fo)) (0, 0) := by
    intro h0 y hy
    rw [if_pos h0, ← hy] at fin fin2
    refine hT.1 (fun _ => false) 60 _ _ _ _ _ ?_
    refine And.intro (fun (h1 : y.2 = 0) => ⟨by rw [fin]; rfl, ?_⟩) (fun (h1 : ¬ y.2 = 0) => ⟨by rw [fin]; rfl, ?_⟩)
    · rw [fin2, if_pos h1]
    · rw [fin2, if_neg h1]
      rfl
  refine hT.1 (fun pc => Nat.beq pc 22) 60 _ _ _ _ _ ?_
  refine And.intro ⟨rfl, rfl⟩ (And.intro (fun (h1 : gOut x 33 126 = 0) => And.intro ⟨rfl, rfl⟩ (s1 h1 _ rfl)) (fun (h1 : ¬ gOut x 33 126 = 0) => ⟨?_, ?_⟩))
  · rw [fin, if_neg h1]; rfl
  · rw [fin2, if_neg h1]
set_option maxRecDepth 10000 in
theorem ct_X6_append (l : Launch) : mjCT l yX6_append cX6_append 2 (some .int) rm_X6_append S_X6_append :=
  mjCT_of (own := RX6) (G := G_X6_append) (plainFor_of_name pn_X6) rfl ok_X6_append (fun meth hm => ⟨fun pc row h => (I_X6_append_ok pc row h).1, F_X6_ok, List.forall_mem_cons.mpr ⟨⟨yX6_isOutside, cX6_isOutside, 3, (some .boolean), rm_X6_isOutside, ct_X6_isOutside l, ⟨rfl, rfl⟩, ⟨by decide, by decide⟩, by decide, nk_X6_isOutside, ln_X6_54, st_X6_isOutside⟩, List.forall_mem_cons.mpr ⟨⟨yX3_take, cX3_take, 2, (some .boolean), rm_X3_take, ct_X3_take l, ⟨rfl, rfl⟩, ⟨by decide, by decide⟩, by decide, by decide, nk_X3_take, ln_X6_116, im_X3_take, se_X3_take, rfl⟩, fun _ h => absurd h List.not_mem_nil⟩⟩, (fun _ _ _ h => by cases h), (fun _ _ h => by cases h), ⟨Nat.le_refl _, Nat.le_refl _⟩, (fun h => by cases h), (fun h => absurd h (by decide)), fun _ h => absurd h List.not_mem_nil⟩) rfl rfl rfl (fun pc row h => (I_X6_append_ok pc row h).2)
def rm_X6_cell : Room := { frames := 5, cells := 0, slots := 0, locals := 112 }
noncomputable def G_X6_cell : mjG := (I_X6_cell, F_X6, [(103, 1, 0, 1, 0, 0, S_X1_isCell), (138, 0, 3, 2, 0, 0, S_X4_heatAt), (141, 0, 4, 2, 0, 0, S_X5_tellByGoing), (145, 0, 4, 2, 0, 0, S_X5_nameOf), (148, 0, 3, 2, 0, 0, S_X4_wholeJointsOf), (151, 1, 0, 1, 0, 0, S_X1_rimSides), (154, 0, 3, 2, 0, 0, S_X4_greatestStressOf)], (fun pc => bif Nat.beq pc 84 then [] else bif Nat.beq pc 70 then [43, 44, 45] else bif Nat.beq pc 61 then [43, 44, 45, 1, 2, 3, 4, 5] else bif Nat.beq pc 1 then [] else [1, 2, 3, 4, 5]), Y_X6_cell, (fun _ => none), (fun _ => none), (some .int), 0, 0, false, [])
set_option maxHeartbeats 20000000 in
set_option maxRecDepth 100000 in
theorem ok_X6_cell : mjOK G_X6_cell 3 S_X6_cell := by
  intro M as hP T hT
  obtain ⟨⟨a, t, s, b, ⟨n, f, q⟩, d, z, fo⟩, x, y, rfl, rfl, hx⟩ := inX2 hP
  have fin : (S_X6_cell (xw (a, t, s, b, (n, f, q), d, z, fo)) [.ref 0, .int x, .int y]).2.1 = some (xw (cCell (a, t, s, b, (n, f, q), d, z, fo) x y).1) := rfl
  have fin2 : (S_X6_cell (xw (a, t, s, b, (n, f, q), d, z, fo)) [.ref 0, .int x, .int y]).2.2 = some (.int (cCell (a, t, s, b, (n, f, q), d, z, fo) x y).2) := rfl
  rw [cCell] at fin fin2
  dsimp only [cNow] at fin fin2
  generalize S_X6_cell (xw (a, t, s, b, (n, f, q), d, z, fo)) [.ref 0, .int x, .int y] = SS at hT fin fin2
  refine hT.1 (fun _ => false) 60 _ _ _ _ _ ?_
  refine And.intro ⟨rfl, rfl⟩ (And.intro (fun (h1 : ¬ gIsCell x = 0) => And.intro (fun (e0 : y = 0) => And.intro ⟨rfl, rfl⟩ ⟨?_, ?_⟩) (fun (n0 : ¬ y = 0) => And.intro (fun (e1 : y = 1) => And.intro ⟨rfl, rfl⟩ (And.intro ⟨rfl, rfl⟩ ⟨?_, ?_⟩)) (fun (n1 : ¬ y = 1) => And.intro (fun (e2 : y = 2) => And.intro ⟨rfl, rfl⟩ ⟨?_, ?_⟩) (fun (n2 : ¬ y = 2) => And.intro (fun (e3 : y = 3) => And.intro ⟨rfl, rfl⟩ ⟨?_, ?_⟩) (fun (n3 : ¬ y = 3) => And.intro (fun (e4 : y = 4) => And.intro ⟨rfl, rfl⟩ ⟨?_, ?_⟩) (fun (n4 : ¬ y = 4) => ⟨?_, ?_⟩)))))) (fun (h1 : gIsCell x = 0) => ⟨?_, ?_⟩))
  · rw [fin, if_neg h1, if_pos e0]; rfl
  · rw [fin2, if_neg h1, if_pos e0]; try rfl
  · rw [fin, if_neg h1, if_neg n0, if_pos e1]; rfl
  · rw [fin2, if_neg h1, if_neg n0, if_pos e1]; try rfl
  · rw [fin, if_neg h1, if_neg n0, if_neg n1, if_pos e2]; rfl
  · rw [fin2, if_neg h1, if_neg n0, if_neg n1, if_pos e2]; try rfl
  · rw [fin, if_neg h1, if_neg n0, if_neg n1, if_neg n2, if_pos e3]; rfl
  · rw [fin2, if_neg h1, if_neg n0, if_neg n1, if_neg n2, if_pos e3]; try rfl
  · rw [fin, if_neg h1, if_neg n0, if_neg n1, if_neg n2, if_neg n3, if_pos e4]; rfl
  · rw [fin2, if_neg h1, if_neg n0, if_neg n1, if_neg n2, if_neg n3, if_pos e4]; try rfl
  · rw [fin, if_neg h1, if_neg n0, if_neg n1, if_neg n2, if_neg n3, if_neg n4]; rfl
  · rw [fin2, if_neg h1, if_neg n0, if_neg n1, if_neg n2, if_neg n3, if_neg n4]; try rfl
  · rw [fin, if_pos h1]; rfl
  · rw [fin2, if_pos h1]
set_option maxRecDepth 10000 in
theorem ct_X6_cell (l : Launch) : mjCT l yX6_cell cX6_cell 3 (some .int) rm_X6_cell S_X6_cell :=
  mjCT_of (own := RX6) (G := G_X6_cell) (plainFor_of_name pn_X6) rfl ok_X6_cell (fun meth hm => ⟨fun pc row h => (I_X6_cell_ok pc row h).1, F_X6_ok, List.forall_mem_cons.mpr ⟨⟨yX1_isCell, cX1_isCell, 1, (some .boolean), rm_X1_isCell, ct_X1_isCell l, ⟨rfl, rfl⟩, ⟨by decide, by decide⟩, by decide, nk_X1_isCell, ln_X6_103, st_X1_isCell⟩, List.forall_mem_cons.mpr ⟨⟨yX4_heatAt, cX4_heatAt, 2, (some .int), rm_X4_heatAt, ct_X4_heatAt l, ⟨rfl, rfl⟩, ⟨by decide, by decide⟩, by decide, by decide, nk_X4_heatAt, ln_X6_138, im_X4_heatAt, se_X4_heatAt, rfl⟩, List.forall_mem_cons.mpr ⟨⟨yX5_tellByGoing, cX5_tellByGoing, 4, (some .int), rm_X5_tellByGoing, ct_X5_tellByGoing l, ⟨rfl, rfl⟩, ⟨by decide, by decide⟩, by decide, by decide, nk_X5_tellByGoing, ln_X6_141, im_X5_tellByGoing, se_X5_tellByGoing, rfl⟩, List.forall_mem_cons.mpr ⟨⟨yX5_nameOf, cX5_nameOf, 2, (some .int), rm_X5_nameOf, ct_X5_nameOf l, ⟨rfl, rfl⟩, ⟨by decide, by decide⟩, by decide, by decide, nk_X5_nameOf, ln_X6_145, im_X5_nameOf, se_X5_nameOf, rfl⟩, List.forall_mem_cons.mpr ⟨⟨yX4_wholeJointsOf, cX4_wholeJointsOf, 4, (some .int), rm_X4_wholeJointsOf, ct_X4_wholeJointsOf l, ⟨rfl, rfl⟩, ⟨by decide, by decide⟩, by decide, by decide, nk_X4_wholeJointsOf, ln_X6_148, im_X4_wholeJointsOf, se_X4_wholeJointsOf, rfl⟩, List.forall_mem_cons.mpr ⟨⟨yX1_rimSides, cX1_rimSides, 5, (some .int), rm_X1_rimSides, ct_X1_rimSides l, ⟨rfl, rfl⟩, ⟨by decide, by decide⟩, by decide, nk_X1_rimSides, ln_X6_151, st_X1_rimSides⟩, List.forall_mem_cons.mpr ⟨⟨yX4_greatestStressOf, cX4_greatestStressOf, 5, (some .int), rm_X4_greatestStressOf, ct_X4_greatestStressOf l, ⟨rfl, rfl⟩, ⟨by decide, by decide⟩, by decide, by decide, nk_X4_greatestStressOf, ln_X6_154, im_X4_greatestStressOf, se_X4_greatestStressOf, rfl⟩, fun _ h => absurd h List.not_mem_nil⟩⟩⟩⟩⟩⟩⟩, (fun _ _ _ h => by cases h), (fun _ _ h => by cases h), ⟨Nat.le_refl _, Nat.le_refl _⟩, (fun h => by cases h), (fun h => absurd h (by decide)), fun _ h => absurd h List.not_mem_nil⟩) rfl rfl rfl (fun pc row h => (I_X6_cell_ok pc row h).2)
def rm_X6_joint : Room := { frames := 4, cells := 0, slots := 0, locals := 85 }
noncomputable def G_X6_joint : mjG := (I_X6_joint, F_X6, [(81, 1, 0, 1, 0, 0, S_X1_isJoint), (87, 0, 3, 2, 0, 0, S_X4_isWhole), (157, 1, 0, 1, 0, 0, S_X1_firstCell), (160, 1, 0, 1, 0, 0, S_X1_secondCell), (90, 0, 3, 2, 0, 0, S_X4_strengthOf), (163, 0, 3, 2, 0, 0, S_X4_stressOf), (166, 0, 3, 2, 0, 0, S_X4_crackedMinuteOf), (169, 0, 3, 2, 0, 0, S_X4_wholeJointsBeside)], (fun pc => bif Nat.beq pc 66 then [] else bif Nat.beq pc 61 then [] else bif Nat.beq pc 1 then [] else [1, 2, 3, 4, 5]), Y_X6_joint, (fun _ => none), (fun _ => none), (some .int), 0, 0, false, [])
set_option maxHeartbeats 20000000 in
set_option maxRecDepth 100000 in
theorem ok_X6_joint : mjOK G_X6_joint 4 S_X6_joint := by
  intro M as hP T hT
  obtain ⟨⟨a, t, s, b, ⟨n, f, q⟩, d, z, fo⟩, x, y, rfl, rfl, hx⟩ := inX2 hP
  have fin : (S_X6_joint (xw (a, t, s, b, (n, f, q), d, z, fo)) [.ref 0, .int x, .int y]).2.1 = some (xw (cJoint (a, t, s, b, (n, f, q), d, z, fo) x y).1) := rfl
  have fin2 : (S_X6_joint (xw (a, t, s, b, (n, f, q), d, z, fo)) [.ref 0, .int x, .int y]).2.2 = some (.int (cJoint (a, t, s, b, (n, f, q), d, z, fo) x y).2) := rfl
  rw [cJoint] at fin fin2
  dsimp only [cNow] at fin fin2
  generalize S_X6_joint (xw (a, t, s, b, (n, f, q), d, z, fo)) [.ref 0, .int x, .int y] = SS at hT fin fin2
  refine hT.1 (fun _ => false) 60 _ _ _ _ _ ?_
  refine And.intro ⟨rfl, rfl⟩ (And.intro (fun (h1 : ¬ gIsJoint x = 0) => And.intro ⟨rfl, rfl⟩ (And.intro (fun (e0 : y = 0) => And.intro ⟨rfl, rfl⟩ ⟨?_, ?_⟩) (fun (n0 : ¬ y = 0) => And.intro (fun (e1 : y = 1) => And.intro ⟨rfl, rfl⟩ ⟨?_, ?_⟩) (fun (n1 : ¬ y = 1) => And.intro (fun (e2 : y = 2) => And.intro (fun (k1 : gWh (pC a) x = 0) => ⟨?_, ?_⟩) (fun (k1 : ¬ gWh (pC a) x = 0) => ⟨?_, ?_⟩)) (fun (n2 : ¬ y = 2) => And.intro (fun (e3 : y = 3) => And.intro ⟨rfl, rfl⟩ ⟨?_, ?_⟩) (fun (n3 : ¬ y = 3) => And.intro (fun (e4 : y = 4) => And.intro ⟨rfl, rfl⟩ ⟨?_, ?_⟩) (fun (n4 : ¬ y = 4) => And.intro (fun (e5 : y = 5) => And.intro (fun (k1 : gWh (pC a) x = 0) => And.intro ⟨rfl, rfl⟩ ⟨?_, ?_⟩) (fun (k1 : ¬ gWh (pC a) x = 0) => ⟨?_, ?_⟩)) (fun (n5 : ¬ y = 5) => And.intro (fun (e6 : y = 6) => And.intro ⟨rfl, rfl⟩ ⟨?_, ?_⟩) (fun (n6 : ¬ y = 6) => ⟨?_, ?_⟩))))))))) (fun (h1 : gIsJoint x = 0) => ⟨?_, ?_⟩))
  · rw [fin, if_neg h1, if_pos e0]; rfl
  · rw [fin2, if_neg h1, if_pos e0]; try rfl
  · rw [fin, if_neg h1, if_neg n0, if_pos e1]; rfl
  · rw [fin2, if_neg h1, if_neg n0, if_pos e1]; try rfl
  · rw [fin, if_neg h1, if_neg n0, if_neg n1, if_pos e2]; rfl
  · rw [fin2, if_neg h1, if_neg n0, if_neg n1, if_pos e2, if_pos k1]; try rfl
  · rw [fin, if_neg h1, if_neg n0, if_neg n1, if_pos e2]; rfl
  · rw [fin2, if_neg h1, if_neg n0, if_neg n1, if_pos e2, if_neg k1]; try rfl
  · rw [fin, if_neg h1, if_neg n0, if_neg n1, if_neg n2, if_pos e3]; rfl
  · rw [fin2, if_neg h1, if_neg n0, if_neg n1, if_neg n2, if_pos e3]; try rfl
  · rw [fin, if_neg h1, if_neg n0, if_neg n1, if_neg n2, if_neg n3, if_pos e4]; rfl
  · rw [fin2, if_neg h1, if_neg n0, if_neg n1, if_neg n2, if_neg n3, if_pos e4]; try rfl
  · rw [fin, if_neg h1, if_neg n0, if_neg n1, if_neg n2, if_neg n3, if_neg n4, if_pos e5]; rfl
  · rw [fin2, if_neg h1, if_neg n0, if_neg n1, if_neg n2, if_neg n3, if_neg n4, if_pos e5, if_pos k1]; try rfl
  · rw [fin, if_neg h1, if_neg n0, if_neg n1, if_neg n2, if_neg n3, if_neg n4, if_pos e5]; rfl
  · rw [fin2, if_neg h1, if_neg n0, if_neg n1, if_neg n2, if_neg n3, if_neg n4, if_pos e5, if_neg k1]; try rfl
  · rw [fin, if_neg h1, if_neg n0, if_neg n1, if_neg n2, if_neg n3, if_neg n4, if_neg n5, if_pos e6]; rfl
  · rw [fin2, if_neg h1, if_neg n0, if_neg n1, if_neg n2, if_neg n3, if_neg n4, if_neg n5, if_pos e6]; try rfl
  · rw [fin, if_neg h1, if_neg n0, if_neg n1, if_neg n2, if_neg n3, if_neg n4, if_neg n5, if_neg n6]; rfl
  · rw [fin2, if_neg h1, if_neg n0, if_neg n1, if_neg n2, if_neg n3, if_neg n4, if_neg n5, if_neg n6]; try rfl
  · rw [fin, if_pos h1]; rfl
  · rw [fin2, if_pos h1]
set_option maxRecDepth 10000 in
theorem ct_X6_joint (l : Launch) : mjCT l yX6_joint cX6_joint 4 (some .int) rm_X6_joint S_X6_joint :=
  mjCT_of (own := RX6) (G := G_X6_joint) (plainFor_of_name pn_X6) rfl ok_X6_joint (fun meth hm => ⟨fun pc row h => (I_X6_joint_ok pc row h).1, F_X6_ok, List.forall_mem_cons.mpr ⟨⟨yX1_isJoint, cX1_isJoint, 1, (some .boolean), rm_X1_isJoint, ct_X1_isJoint l, ⟨rfl, rfl⟩, ⟨by decide, by decide⟩, by decide, nk_X1_isJoint, ln_X6_81, st_X1_isJoint⟩, List.forall_mem_cons.mpr ⟨⟨yX4_isWhole, cX4_isWhole, 2, (some .boolean), rm_X4_isWhole, ct_X4_isWhole l, ⟨rfl, rfl⟩, ⟨by decide, by decide⟩, by decide, by decide, nk_X4_isWhole, ln_X6_87, im_X4_isWhole, se_X4_isWhole, rfl⟩, List.forall_mem_cons.mpr ⟨⟨yX1_firstCell, cX1_firstCell, 1, (some .int), rm_X1_firstCell, ct_X1_firstCell l, ⟨rfl, rfl⟩, ⟨by decide, by decide⟩, by decide, nk_X1_firstCell, ln_X6_157, st_X1_firstCell⟩, List.forall_mem_cons.mpr ⟨⟨yX1_secondCell, cX1_secondCell, 1, (some .int), rm_X1_secondCell, ct_X1_secondCell l, ⟨rfl, rfl⟩, ⟨by decide, by decide⟩, by decide, nk_X1_secondCell, ln_X6_160, st_X1_secondCell⟩, List.forall_mem_cons.mpr ⟨⟨yX4_strengthOf, cX4_strengthOf, 2, (some .int), rm_X4_strengthOf, ct_X4_strengthOf l, ⟨rfl, rfl⟩, ⟨by decide, by decide⟩, by decide, by decide, nk_X4_strengthOf, ln_X6_90, im_X4_strengthOf, se_X4_strengthOf, rfl⟩, List.forall_mem_cons.mpr ⟨⟨yX4_stressOf, cX4_stressOf, 2, (some .int), rm_X4_stressOf, ct_X4_stressOf l, ⟨rfl, rfl⟩, ⟨by decide, by decide⟩, by decide, by decide, nk_X4_stressOf, ln_X6_163, im_X4_stressOf, se_X4_stressOf, rfl⟩, List.forall_mem_cons.mpr ⟨⟨yX4_crackedMinuteOf, cX4_crackedMinuteOf, 2, (some .int), rm_X4_crackedMinuteOf, ct_X4_crackedMinuteOf l, ⟨rfl, rfl⟩, ⟨by decide, by decide⟩, by decide, by decide, nk_X4_crackedMinuteOf, ln_X6_166, im_X4_crackedMinuteOf, se_X4_crackedMinuteOf, rfl⟩, List.forall_mem_cons.mpr ⟨⟨yX4_wholeJointsBeside, cX4_wholeJointsBeside, 4, (some .int), rm_X4_wholeJointsBeside, ct_X4_wholeJointsBeside l, ⟨rfl, rfl⟩, ⟨by decide, by decide⟩, by decide, by decide, nk_X4_wholeJointsBeside, ln_X6_169, im_X4_wholeJointsBeside, se_X4_wholeJointsBeside, rfl⟩, fun _ h => absurd h List.not_mem_nil⟩⟩⟩⟩⟩⟩⟩⟩, (fun _ _ _ h => by cases h), (fun _ _ h => by cases h), ⟨Nat.le_refl _, Nat.le_refl _⟩, (fun h => by cases h), (fun h => absurd h (by decide)), fun _ h => absurd h List.not_mem_nil⟩) rfl rfl rfl (fun pc row h => (I_X6_joint_ok pc row h).2)
def rm_X6_strained : Room := { frames := 5, cells := 0, slots := 0, locals := 110 }
noncomputable def G_X6_strained : mjG := (I_X6_strained, F_X6, [(172, 0, 3, 2, 0, 0, S_X4_strainedAt)], (fun pc => [1, 2, 3, 4, 5]), Y0, (fun _ => none), (fun _ => none), (some .int), 0, 0, false, [])
set_option maxHeartbeats 20000000 in
set_option maxRecDepth 100000 in
theorem ok_X6_strained : mjOK G_X6_strained 2 S_X6_strained := by
  intro M as hP T hT
  obtain ⟨⟨a, t, s, b, ⟨n, f, q⟩, d, z, fo⟩, x, rfl, rfl, hx⟩ := inX1 hP
  have fin : (S_X6_strained (xw (a, t, s, b, (n, f, q), d, z, fo)) [.ref 0, .int x]).2.1 = some (xw (cStrained (a, t, s, b, (n, f, q), d, z, fo) x).1) := rfl
  have fin2 : (S_X6_strained (xw (a, t, s, b, (n, f, q), d, z, fo)) [.ref 0, .int x]).2.2 = some (.int (cStrained (a, t, s, b, (n, f, q), d, z, fo) x).2) := rfl
  rw [cStrained] at fin fin2
  dsimp only [cNow] at fin fin2
  generalize S_X6_strained (xw (a, t, s, b, (n, f, q), d, z, fo)) [.ref 0, .int x] = SS at hT fin fin2
  refine hT.1 (fun _ => false) 60 _ _ _ _ _ ?_
  refine And.intro (fun (h1 : 0 ≤ x) => And.intro ⟨rfl, rfl⟩ ⟨?_, ?_⟩) (fun (h1 : ¬ 0 ≤ x) => ⟨?_, ?_⟩)
  · rw [fin]; rfl
  · rw [fin2, if_pos h1]; try rfl
  · rw [fin]; rfl
  · rw [fin2, if_neg h1]
set_option maxRecDepth 10000 in
theorem ct_X6_strained (l : Launch) : mjCT l yX6_strained cX6_strained 2 (some .int) rm_X6_strained S_X6_strained :=
  mjCT_of (own := RX6) (G := G_X6_strained) (plainFor_of_name pn_X6) rfl ok_X6_strained (fun meth hm => ⟨fun pc row h => (I_X6_strained_ok pc row h).1, F_X6_ok, List.forall_mem_cons.mpr ⟨⟨yX4_strainedAt, cX4_strainedAt, 3, (some .int), rm_X4_strainedAt, ct_X4_strainedAt l, ⟨rfl, rfl⟩, ⟨by decide, by decide⟩, by decide, by decide, nk_X4_strainedAt, ln_X6_172, im_X4_strainedAt, se_X4_strainedAt, rfl⟩, fun _ h => absurd h List.not_mem_nil⟩, (fun _ _ _ h => by cases h), (fun _ _ h => by cases h), ⟨Nat.le_refl _, Nat.le_refl _⟩, (fun h => by cases h), (fun h => absurd h (by decide)), fun _ h => absurd h List.not_mem_nil⟩) rfl rfl rfl (fun pc row h => (I_X6_strained_ok pc row h).2)
def rm_X6_pieces : Room := { frames := 5, cells := 0, slots := 0, locals := 112 }
noncomputable def G_X6_pieces : mjG := (I_X6_pieces, F_X6, [(141, 0, 4, 2, 0, 0, S_X5_tellByGoing), (175, 0, 4, 2, 0, 0, S_X5_tellByJoining)], (fun pc => [43, 44, 45, 1, 2, 3, 4, 5]), Y_X6_pieces, (fun _ => none), (fun _ => none), (some .int), 0, 0, false, [])
set_option maxHeartbeats 20000000 in
set_option maxRecDepth 100000 in
theorem ok_X6_pieces : mjOK G_X6_pieces 2 S_X6_pieces := by
  intro M as hP T hT
  obtain ⟨⟨a, t, s, b, ⟨n, f, q⟩, d, z, fo⟩, x, rfl, rfl, hx⟩ := inX1 hP
  have fin : (S_X6_pieces (xw (a, t, s, b, (n, f, q), d, z, fo)) [.ref 0, .int x]).2.1 = some (xw (cPieces (a, t, s, b, (n, f, q), d, z, fo) x).1) := rfl
  have fin2 : (S_X6_pieces (xw (a, t, s, b, (n, f, q), d, z, fo)) [.ref 0, .int x]).2.2 = some (.int (cPieces (a, t, s, b, (n, f, q), d, z, fo) x).2) := rfl
  rw [cPieces] at fin fin2
  dsimp only [cNow] at fin fin2
  generalize S_X6_pieces (xw (a, t, s, b, (n, f, q), d, z, fo)) [.ref 0, .int x] = SS at hT fin fin2
  refine hT.1 (fun _ => false) 60 _ _ _ _ _ ?_
  refine And.intro (fun (e0 : x = 0) => And.intro ⟨rfl, rfl⟩ ⟨?_, ?_⟩) (fun (n0 : ¬ x = 0) => And.intro (fun (e1 : x = 1) => And.intro ⟨rfl, rfl⟩ ⟨?_, ?_⟩) (fun (n1 : ¬ x = 1) => ⟨?_, ?_⟩))
  · rw [fin, if_pos e0]; rfl
  · rw [fin2, if_pos e0]; try rfl
  · rw [fin, if_neg n0, if_pos e1]; rfl
  · rw [fin2, if_neg n0, if_pos e1]; try rfl
  · rw [fin, if_neg n0, if_neg n1]; rfl
  · rw [fin2, if_neg n0, if_neg n1]; try rfl
set_option maxRecDepth 10000 in
theorem ct_X6_pieces (l : Launch) : mjCT l yX6_pieces cX6_pieces 2 (some .int) rm_X6_pieces S_X6_pieces :=
  mjCT_of (own := RX6) (G := G_X6_pieces) (plainFor_of_name pn_X6) rfl ok_X6_pieces (fun meth hm => ⟨fun pc row h => (I_X6_pieces_ok pc row h).1, F_X6_ok, List.forall_mem_cons.mpr ⟨⟨yX5_tellByGoing, cX5_tellByGoing, 4, (some .int), rm_X5_tellByGoing, ct_X5_tellByGoing l, ⟨rfl, rfl⟩, ⟨by decide, by decide⟩, by decide, by decide, nk_X5_tellByGoing, ln_X6_141, im_X5_tellByGoing, se_X5_tellByGoing, rfl⟩, List.forall_mem_cons.mpr ⟨⟨yX5_tellByJoining, cX5_tellByJoining, 4, (some .int), rm_X5_tellByJoining, ct_X5_tellByJoining l, ⟨rfl, rfl⟩, ⟨by decide, by decide⟩, by decide, by decide, nk_X5_tellByJoining, ln_X6_175, im_X5_tellByJoining, se_X5_tellByJoining, rfl⟩, fun _ h => absurd h List.not_mem_nil⟩⟩, (fun _ _ _ h => by cases h), (fun _ _ h => by cases h), ⟨Nat.le_refl _, Nat.le_refl _⟩, (fun h => by cases h), (fun h => absurd h (by decide)), fun _ h => absurd h List.not_mem_nil⟩) rfl rfl rfl (fun pc row h => (I_X6_pieces_ok pc row h).2)
def rm_X6_count : Room := { frames := 5, cells := 0, slots := 0, locals := 112 }
noncomputable def G_X6_count : mjG := (I_X6_count, F_X6, [(66, 0, 3, 1, 0, 0, S_X4_sumOfHeats), (100, 0, 3, 1, 0, 0, S_X4_crackedJoints), (187, 0, 3, 1, 0, 0, S_X4_greatestHeat), (190, 0, 3, 1, 0, 0, S_X4_leastHeat), (193, 0, 3, 1, 0, 0, S_X4_greatestStress), (196, 0, 3, 1, 0, 0, S_X4_leastMargin), (141, 0, 4, 2, 0, 0, S_X5_tellByGoing), (199, 0, 4, 1, 0, 0, S_X5_greatestSize)], (fun pc => bif Nat.beq pc 188 then [43, 44, 45] else bif Nat.beq pc 180 then [43, 44, 45, 1, 2, 3, 4, 5] else [1, 2, 3, 4, 5]), Y_X6_count, (fun _ => none), (fun _ => none), (some .int), 0, 0, false, [])
set_option maxHeartbeats 20000000 in
set_option maxRecDepth 100000 in
theorem ok_X6_count : mjOK G_X6_count 2 S_X6_count := by
  intro M as hP T hT
  obtain ⟨⟨a, t, s, b, ⟨n, f, q⟩, d, z, fo⟩, x, rfl, rfl, hx⟩ := inX1 hP
  have fin : (S_X6_count (xw (a, t, s, b, (n, f, q), d, z, fo)) [.ref 0, .int x]).2.1 = some (xw (cCount (a, t, s, b, (n, f, q), d, z, fo) x).1) := rfl
  have fin2 : (S_X6_count (xw (a, t, s, b, (n, f, q), d, z, fo)) [.ref 0, .int x]).2.2 = some (.int (cCount (a, t, s, b, (n, f, q), d, z, fo) x).2) := rfl
  rw [cCount] at fin fin2
  dsimp only [cNow] at fin fin2
  generalize S_X6_count (xw (a, t, s, b, (n, f, q), d, z, fo)) [.ref 0, .int x] = SS at hT fin fin2
  refine hT.1 (fun _ => false) 60 _ _ _ _ _ ?_
  refine And.intro (fun (e0 : x = 0) => ⟨?_, ?_⟩) (fun (n0 : ¬ x = 0) => And.intro (fun (e1 : x = 1) => ⟨?_, ?_⟩) (fun (n1 : ¬ x = 1) => And.intro (fun (e2 : x = 2) => ⟨?_, ?_⟩) (fun (n2 : ¬ x = 2) => And.intro (fun (e3 : x = 3) => ⟨?_, ?_⟩) (fun (n3 : ¬ x = 3) => And.intro (fun (e4 : x = 4) => And.intro ⟨rfl, rfl⟩ ⟨?_, ?_⟩) (fun (n4 : ¬ x = 4) => And.intro (fun (e5 : x = 5) => ⟨?_, ?_⟩) (fun (n5 : ¬ x = 5) => And.intro (fun (e6 : x = 6) => And.intro ⟨rfl, rfl⟩ ⟨?_, ?_⟩) (fun (n6 : ¬ x = 6) => And.intro (fun (e7 : x = 7) => And.intro ⟨rfl, rfl⟩ ⟨?_, ?_⟩) (fun (n7 : ¬ x = 7) => And.intro (fun (e8 : x = 8) => And.intro ⟨rfl, rfl⟩ ⟨?_, ?_⟩) (fun (n8 : ¬ x = 8) => And.intro (fun (e9 : x = 9) => And.intro ⟨rfl, rfl⟩ ⟨?_, ?_⟩) (fun (n9 : ¬ x = 9) => And.intro (fun (e10 : x = 10) => And.intro ⟨rfl, rfl⟩ ⟨?_, ?_⟩) (fun (n10 : ¬ x = 10) => And.intro (fun (e11 : x = 11) => And.intro ⟨rfl, rfl⟩ (And.intro ⟨rfl, rfl⟩ ⟨?_, ?_⟩)) (fun (n11 : ¬ x = 11) => And.intro (fun (e12 : x = 12) => ⟨?_, ?_⟩) (fun (n12 : ¬ x = 12) => And.intro (fun (e13 : x = 13) => ⟨?_, ?_⟩) (fun (n13 : ¬ x = 13) => And.intro (fun (e14 : x = 14) => ⟨?_, ?_⟩) (fun (n14 : ¬ x = 14) => And.intro (fun (e15 : x = 15) => ⟨?_, ?_⟩) (fun (n15 : ¬ x = 15) => And.intro (fun (e16 : x = 16) => ⟨?_, ?_⟩) (fun (n16 : ¬ x = 16) => ⟨?_, ?_⟩)))))))))))))))))
  · rw [fin, if_pos e0]; rfl
  · rw [fin2, if_pos e0]; try rfl
  · rw [fin, if_neg n0, if_pos e1]; rfl
  · rw [fin2, if_neg n0, if_pos e1]; try rfl
  · rw [fin, if_neg n0, if_neg n1, if_pos e2]; rfl
  · rw [fin2, if_neg n0, if_neg n1, if_pos e2]; try rfl
  · rw [fin, if_neg n0, if_neg n1, if_neg n2, if_pos e3]; rfl
  · rw [fin2, if_neg n0, if_neg n1, if_neg n2, if_pos e3]; try rfl
  · rw [fin, if_neg n0, if_neg n1, if_neg n2, if_neg n3, if_pos e4]; rfl
  · rw [fin2, if_neg n0, if_neg n1, if_neg n2, if_neg n3, if_pos e4]; try rfl
  · rw [fin, if_neg n0, if_neg n1, if_neg n2, if_neg n3, if_neg n4, if_pos e5]; rfl
  · rw [fin2, if_neg n0, if_neg n1, if_neg n2, if_neg n3, if_neg n4, if_pos e5]; try rfl
  · rw [fin, if_neg n0, if_neg n1, if_neg n2, if_neg n3, if_neg n4, if_neg n5, if_pos e6]; rfl
  · rw [fin2, if_neg n0, if_neg n1, if_neg n2, if_neg n3, if_neg n4, if_neg n5, if_pos e6]; try rfl
  · rw [fin, if_neg n0, if_neg n1, if_neg n2, if_neg n3, if_neg n4, if_neg n5, if_neg n6, if_pos e7]; rfl
  · rw [fin2, if_neg n0, if_neg n1, if_neg n2, if_neg n3, if_neg n4, if_neg n5, if_neg n6, if_pos e7]; try rfl
  · rw [fin, if_neg n0, if_neg n1, if_neg n2, if_neg n3, if_neg n4, if_neg n5, if_neg n6, if_neg n7, if_pos e8]; rfl
  · rw [fin2, if_neg n0, if_neg n1, if_neg n2, if_neg n3, if_neg n4, if_neg n5, if_neg n6, if_neg n7, if_pos e8]; try rfl
  · rw [fin, if_neg n0, if_neg n1, if_neg n2, if_neg n3, if_neg n4, if_neg n5, if_neg n6, if_neg n7, if_neg n8, if_pos e9]; rfl
  · rw [fin2, if_neg n0, if_neg n1, if_neg n2, if_neg n3, if_neg n4, if_neg n5, if_neg n6, if_neg n7, if_neg n8, if_pos e9]; try rfl
  · rw [fin, if_neg n0, if_neg n1, if_neg n2, if_neg n3, if_neg n4, if_neg n5, if_neg n6, if_neg n7, if_neg n8, if_neg n9, if_pos e10]; rfl
  · rw [fin2, if_neg n0, if_neg n1, if_neg n2, if_neg n3, if_neg n4, if_neg n5, if_neg n6, if_neg n7, if_neg n8, if_neg n9, if_pos e10]; try rfl
  · rw [fin, if_neg n0, if_neg n1, if_neg n2, if_neg n3, if_neg n4, if_neg n5, if_neg n6, if_neg n7, if_neg n8, if_neg n9, if_neg n10, if_pos e11]; rfl
  · rw [fin2, if_neg n0, if_neg n1, if_neg n2, if_neg n3, if_neg n4, if_neg n5, if_neg n6, if_neg n7, if_neg n8, if_neg n9, if_neg n10, if_pos e11]; try rfl
  · rw [fin, if_neg n0, if_neg n1, if_neg n2, if_neg n3, if_neg n4, if_neg n5, if_neg n6, if_neg n7, if_neg n8, if_neg n9, if_neg n10, if_neg n11, if_pos e12]; rfl
  · rw [fin2, if_neg n0, if_neg n1, if_neg n2, if_neg n3, if_neg n4, if_neg n5, if_neg n6, if_neg n7, if_neg n8, if_neg n9, if_neg n10, if_neg n11, if_pos e12]; try rfl
  · rw [fin, if_neg n0, if_neg n1, if_neg n2, if_neg n3, if_neg n4, if_neg n5, if_neg n6, if_neg n7, if_neg n8, if_neg n9, if_neg n10, if_neg n11, if_neg n12, if_pos e13]; rfl
  · rw [fin2, if_neg n0, if_neg n1, if_neg n2, if_neg n3, if_neg n4, if_neg n5, if_neg n6, if_neg n7, if_neg n8, if_neg n9, if_neg n10, if_neg n11, if_neg n12, if_pos e13]; try rfl
  · rw [fin, if_neg n0, if_neg n1, if_neg n2, if_neg n3, if_neg n4, if_neg n5, if_neg n6, if_neg n7, if_neg n8, if_neg n9, if_neg n10, if_neg n11, if_neg n12, if_neg n13, if_pos e14]; rfl
  · rw [fin2, if_neg n0, if_neg n1, if_neg n2, if_neg n3, if_neg n4, if_neg n5, if_neg n6, if_neg n7, if_neg n8, if_neg n9, if_neg n10, if_neg n11, if_neg n12, if_neg n13, if_pos e14]; try rfl
  · rw [fin, if_neg n0, if_neg n1, if_neg n2, if_neg n3, if_neg n4, if_neg n5, if_neg n6, if_neg n7, if_neg n8, if_neg n9, if_neg n10, if_neg n11, if_neg n12, if_neg n13, if_neg n14, if_pos e15]; rfl
  · rw [fin2, if_neg n0, if_neg n1, if_neg n2, if_neg n3, if_neg n4, if_neg n5, if_neg n6, if_neg n7, if_neg n8, if_neg n9, if_neg n10, if_neg n11, if_neg n12, if_neg n13, if_neg n14, if_pos e15]; try rfl
  · rw [fin, if_neg n0, if_neg n1, if_neg n2, if_neg n3, if_neg n4, if_neg n5, if_neg n6, if_neg n7, if_neg n8, if_neg n9, if_neg n10, if_neg n11, if_neg n12, if_neg n13, if_neg n14, if_neg n15, if_pos e16]; rfl
  · rw [fin2, if_neg n0, if_neg n1, if_neg n2, if_neg n3, if_neg n4, if_neg n5, if_neg n6, if_neg n7, if_neg n8, if_neg n9, if_neg n10, if_neg n11, if_neg n12, if_neg n13, if_neg n14, if_neg n15, if_pos e16]; try rfl
  · rw [fin, if_neg n0, if_neg n1, if_neg n2, if_neg n3, if_neg n4, if_neg n5, if_neg n6, if_neg n7, if_neg n8, if_neg n9, if_neg n10, if_neg n11, if_neg n12, if_neg n13, if_neg n14, if_neg n15, if_neg n16]; rfl
  · rw [fin2, if_neg n0, if_neg n1, if_neg n2, if_neg n3, if_neg n4, if_neg n5, if_neg n6, if_neg n7, if_neg n8, if_neg n9, if_neg n10, if_neg n11, if_neg n12, if_neg n13, if_neg n14, if_neg n15, if_neg n16]; try rfl
set_option maxRecDepth 10000 in
theorem ct_X6_count (l : Launch) : mjCT l yX6_count cX6_count 2 (some .int) rm_X6_count S_X6_count :=
  mjCT_of (own := RX6) (G := G_X6_count) (plainFor_of_name pn_X6) rfl ok_X6_count (fun meth hm => ⟨fun pc row h => (I_X6_count_ok pc row h).1, F_X6_ok, List.forall_mem_cons.mpr ⟨⟨yX4_sumOfHeats, cX4_sumOfHeats, 3, (some .int), rm_X4_sumOfHeats, ct_X4_sumOfHeats l, ⟨rfl, rfl⟩, ⟨by decide, by decide⟩, by decide, by decide, nk_X4_sumOfHeats, ln_X6_66, im_X4_sumOfHeats, se_X4_sumOfHeats, rfl⟩, List.forall_mem_cons.mpr ⟨⟨yX4_crackedJoints, cX4_crackedJoints, 3, (some .int), rm_X4_crackedJoints, ct_X4_crackedJoints l, ⟨rfl, rfl⟩, ⟨by decide, by decide⟩, by decide, by decide, nk_X4_crackedJoints, ln_X6_100, im_X4_crackedJoints, se_X4_crackedJoints, rfl⟩, List.forall_mem_cons.mpr ⟨⟨yX4_greatestHeat, cX4_greatestHeat, 3, (some .int), rm_X4_greatestHeat, ct_X4_greatestHeat l, ⟨rfl, rfl⟩, ⟨by decide, by decide⟩, by decide, by decide, nk_X4_greatestHeat, ln_X6_187, im_X4_greatestHeat, se_X4_greatestHeat, rfl⟩, List.forall_mem_cons.mpr ⟨⟨yX4_leastHeat, cX4_leastHeat, 3, (some .int), rm_X4_leastHeat, ct_X4_leastHeat l, ⟨rfl, rfl⟩, ⟨by decide, by decide⟩, by decide, by decide, nk_X4_leastHeat, ln_X6_190, im_X4_leastHeat, se_X4_leastHeat, rfl⟩, List.forall_mem_cons.mpr ⟨⟨yX4_greatestStress, cX4_greatestStress, 3, (some .int), rm_X4_greatestStress, ct_X4_greatestStress l, ⟨rfl, rfl⟩, ⟨by decide, by decide⟩, by decide, by decide, nk_X4_greatestStress, ln_X6_193, im_X4_greatestStress, se_X4_greatestStress, rfl⟩, List.forall_mem_cons.mpr ⟨⟨yX4_leastMargin, cX4_leastMargin, 2, (some .int), rm_X4_leastMargin, ct_X4_leastMargin l, ⟨rfl, rfl⟩, ⟨by decide, by decide⟩, by decide, by decide, nk_X4_leastMargin, ln_X6_196, im_X4_leastMargin, se_X4_leastMargin, rfl⟩, List.forall_mem_cons.mpr ⟨⟨yX5_tellByGoing, cX5_tellByGoing, 4, (some .int), rm_X5_tellByGoing, ct_X5_tellByGoing l, ⟨rfl, rfl⟩, ⟨by decide, by decide⟩, by decide, by decide, nk_X5_tellByGoing, ln_X6_141, im_X5_tellByGoing, se_X5_tellByGoing, rfl⟩, List.forall_mem_cons.mpr ⟨⟨yX5_greatestSize, cX5_greatestSize, 3, (some .int), rm_X5_greatestSize, ct_X5_greatestSize l, ⟨rfl, rfl⟩, ⟨by decide, by decide⟩, by decide, by decide, nk_X5_greatestSize, ln_X6_199, im_X5_greatestSize, se_X5_greatestSize, rfl⟩, fun _ h => absurd h List.not_mem_nil⟩⟩⟩⟩⟩⟩⟩⟩, (fun _ _ _ h => by cases h), (fun _ _ h => by cases h), ⟨Nat.le_refl _, Nat.le_refl _⟩, (fun h => by cases h), (fun h => absurd h (by decide)), fun _ h => absurd h List.not_mem_nil⟩) rfl rfl rfl (fun pc row h => (I_X6_count_ok pc row h).2)
def rm_X6_save : Room := { frames := 2, cells := 0, slots := 0, locals := 64 }
noncomputable def G_X6_save : mjG := (I_X6_save, F_X6, [(214, 0, 3, 2, 0, 0, S_X4_copyFrom)], (fun pc => [11, 12, 13, 14, 15, 1, 2, 3, 4, 5]), Y0, (fun _ => none), (fun _ => none), (some .int), 0, 0, false, [])
set_option maxHeartbeats 20000000 in
set_option maxRecDepth 100000 in
theorem ok_X6_save : mjOK G_X6_save 1 S_X6_save := by
  intro M as hP T hT
  obtain ⟨⟨a, t, s, b, ⟨n, f, q⟩, d, z, fo⟩, rfl, rfl, hx⟩ := inX0 hP
  have fin : (S_X6_save (xw (a, t, s, b, (n, f, q), d, z, fo)) [.ref 0]).2.1 = some (xw (cSave (a, t, s, b, (n, f, q), d, z, fo)).1) := rfl
  have fin2 : (S_X6_save (xw (a, t, s, b, (n, f, q), d, z, fo)) [.ref 0]).2.2 = some (.int (cSave (a, t, s, b, (n, f, q), d, z, fo)).2) := rfl
  rw [cSave] at fin fin2
  dsimp only [cNow] at fin fin2
  generalize S_X6_save (xw (a, t, s, b, (n, f, q), d, z, fo)) [.ref 0] = SS at hT fin fin2
  refine hT.1 (fun _ => false) 60 _ _ _ _ _ ?_
  exact And.intro ⟨rfl, rfl⟩ (And.intro (Or.inr rfl) ⟨by rw [fin]; rfl, fin2.symm⟩)
set_option maxRecDepth 10000 in
theorem ct_X6_save (l : Launch) : mjCT l yX6_save cX6_save 1 (some .int) rm_X6_save S_X6_save :=
  mjCT_of (own := RX6) (G := G_X6_save) (plainFor_of_name pn_X6) rfl ok_X6_save (fun meth hm => ⟨fun pc row h => (I_X6_save_ok pc row h).1, F_X6_ok, List.forall_mem_cons.mpr ⟨⟨yX4_copyFrom, cX4_copyFrom, 2, none, rm_X4_copyFrom, ct_X4_copyFrom l, ⟨rfl, rfl⟩, ⟨by decide, by decide⟩, by decide, by decide, nk_X4_copyFrom, ln_X6_214, im_X4_copyFrom, se_X4_copyFrom, rfl⟩, fun _ h => absurd h List.not_mem_nil⟩, (fun _ _ _ h => by cases h), (fun _ _ h => by cases h), ⟨Nat.le_refl _, Nat.le_refl _⟩, (fun h => by cases h), (fun h => absurd h (by decide)), fun _ h => absurd h List.not_mem_nil⟩) rfl rfl rfl (fun pc row h => (I_X6_save_ok pc row h).2)
def rm_X6_restore : Room := { frames := 3, cells := 0, slots := 0, locals := 86 }
noncomputable def G_X6_restore : mjG := (I_X6_restore, F_X6, [(58, 0, 1, 2, 0, 0, S_X2_record), (214, 0, 3, 2, 0, 0, S_X4_copyFrom)], (fun pc => bif Nat.beq pc 29 then [1, 2, 3, 4, 5, 11, 12, 13, 14, 15] else [16, 17, 18, 19, 20, 21, 22, 23, 24, 25, 26, 27, 28, 29, 30, 31, 32, 33, 34, 35, 36, 37, 1, 2, 3, 4, 5]), Y0, (fun _ => none), (fun _ => none), (some .int), 0, 0, false, [])
set_option maxHeartbeats 20000000 in
set_option maxRecDepth 100000 in
theorem ok_X6_restore : mjOK G_X6_restore 1 S_X6_restore := by
  intro M as hP T hT
  obtain ⟨⟨a, t, s, b, ⟨n, f, q⟩, d, z, fo⟩, rfl, rfl, hx⟩ := inX0 hP
  have fin : (S_X6_restore (xw (a, t, s, b, (n, f, q), d, z, fo)) [.ref 0]).2.1 = some (xw (cRestore (a, t, s, b, (n, f, q), d, z, fo)).1) := rfl
  have fin2 : (S_X6_restore (xw (a, t, s, b, (n, f, q), d, z, fo)) [.ref 0]).2.2 = some (.int (cRestore (a, t, s, b, (n, f, q), d, z, fo)).2) := rfl
  rw [cRestore] at fin fin2
  dsimp only [cNow] at fin fin2
  generalize S_X6_restore (xw (a, t, s, b, (n, f, q), d, z, fo)) [.ref 0] = SS at hT fin fin2
  have s1 : ∀ h2, ¬ b = 0 → h2 = cRec a (n, f, q) → T 21 [some (.ref 0)] [] (xw (a, t, s, b, h2, d, z, fo)) (0, 0) := by
    intro h2 h0 e1
    rw [if_neg h0, ← e1] at fin fin2
    refine hT.1 (fun _ => false) 60 _ _ _ _ _ ?_
    exact And.intro ⟨rfl, rfl⟩ ⟨by rw [fin]; rfl, fin2.symm⟩
  refine hT.1 (fun pc => Nat.beq pc 21) 60 _ _ _ _ _ ?_
  refine And.intro (fun (h1 : ¬ b = 0) => And.intro ⟨⟨rfl, rfl⟩, rec_pre hx.1, hx.2⟩ (rec_w hx.1 (fun h2 e => s1 h2 h1 e))) (fun (h1 : b = 0) => ⟨?_, ?_⟩)
  · rw [fin, if_pos h1]; rfl
  · rw [fin2, if_pos h1]
set_option maxRecDepth 10000 in
theorem ct_X6_restore (l : Launch) : mjCT l yX6_restore cX6_restore 1 (some .int) rm_X6_restore S_X6_restore :=
  mjCT_of (own := RX6) (G := G_X6_restore) (plainFor_of_name pn_X6) rfl ok_X6_restore (fun meth hm => ⟨fun pc row h => (I_X6_restore_ok pc row h).1, F_X6_ok, List.forall_mem_cons.mpr ⟨⟨yX2_record, cX2_record, 3, none, rm_X2_record, ct_X2_record l, ⟨rfl, rfl⟩, ⟨by decide, by decide⟩, by decide, by decide, nk_X2_record, ln_X6_58, im_X2_record, se_X2_record, rfl⟩, List.forall_mem_cons.mpr ⟨⟨yX4_copyFrom, cX4_copyFrom, 2, none, rm_X4_copyFrom, ct_X4_copyFrom l, ⟨rfl, rfl⟩, ⟨by decide, by decide⟩, by decide, by decide, nk_X4_copyFrom, ln_X6_214, im_X4_copyFrom, se_X4_copyFrom, rfl⟩, fun _ h => absurd h List.not_mem_nil⟩⟩, (fun _ _ _ h => by cases h), (fun _ _ h => by cases h), ⟨Nat.le_refl _, Nat.le_refl _⟩, (fun h => by cases h), (fun h => absurd h (by decide)), fun _ h => absurd h List.not_mem_nil⟩) rfl rfl rfl (fun pc row h => (I_X6_restore_ok pc row h).2)
def rm_X6_undo : Room := { frames := 3, cells := 0, slots := 0, locals := 86 }
noncomputable def G_X6_undo : mjG := (I_X6_undo, F_X6, [(232, 0, 1, 2, 0, 0, S_X2_takeBack)], (fun pc => [16, 17, 18, 19, 20, 21, 22, 23, 24, 25, 26, 27, 28, 29, 30, 31, 32, 33, 34, 35, 36, 37, 1, 2, 3, 4, 5]), Y0, (fun _ => none), (fun _ => none), (some .int), 0, 0, false, [])
set_option maxHeartbeats 20000000 in
set_option maxRecDepth 100000 in
theorem ok_X6_undo : mjOK G_X6_undo 1 S_X6_undo := by
  intro M as hP T hT
  obtain ⟨⟨a, t, s, b, ⟨n, f, q⟩, d, z, fo⟩, rfl, rfl, hx⟩ := inX0 hP
  have fin : (S_X6_undo (xw (a, t, s, b, (n, f, q), d, z, fo)) [.ref 0]).2.1 = some (xw (cUndo (a, t, s, b, (n, f, q), d, z, fo)).1) := rfl
  have fin2 : (S_X6_undo (xw (a, t, s, b, (n, f, q), d, z, fo)) [.ref 0]).2.2 = some (.int (cUndo (a, t, s, b, (n, f, q), d, z, fo)).2) := rfl
  rw [cUndo] at fin fin2
  dsimp only [cNow] at fin fin2
  generalize S_X6_undo (xw (a, t, s, b, (n, f, q), d, z, fo)) [.ref 0] = SS at hT fin fin2
  have s1 : ∀ y, y = kTake a (n, f, q) → T 11 [some (.ref 0)] [.int (if n = 0 then 0 else 1)] (xw (y.2, t, s, b, zUp y.1, d, z, fo)) (0, 0) := by
    intro y hy
    rw [← hy] at fin fin2
    refine hT.1 (fun _ => false) 60 _ _ _ _ _ ?_
    by_cases h0 : n = 0
    · rw [if_pos h0] at fin2 ⊢
      exact And.intro (fun _ => ⟨by rw [fin]; rfl, fin2.symm⟩) (fun h => absurd rfl h)
    · rw [if_neg h0] at fin2 ⊢
      exact And.intro (fun h => absurd h (by decide)) (fun _ => ⟨by rw [fin]; rfl, fin2.symm⟩)
  refine hT.1 (fun pc => Nat.beq pc 11) 60 _ _ _ _ _ ?_
  exact And.intro ⟨⟨rfl, rfl⟩, rec_pre hx.1, hx.2⟩ (take_w hx.1 s1)
set_option maxRecDepth 10000 in
theorem ct_X6_undo (l : Launch) : mjCT l yX6_undo cX6_undo 1 (some .int) rm_X6_undo S_X6_undo :=
  mjCT_of (own := RX6) (G := G_X6_undo) (plainFor_of_name pn_X6) rfl ok_X6_undo (fun meth hm => ⟨fun pc row h => (I_X6_undo_ok pc row h).1, F_X6_ok, List.forall_mem_cons.mpr ⟨⟨yX2_takeBack, cX2_takeBack, 3, (some .boolean), rm_X2_takeBack, ct_X2_takeBack l, ⟨rfl, rfl⟩, ⟨by decide, by decide⟩, by decide, by decide, nk_X2_takeBack, ln_X6_232, im_X2_takeBack, se_X2_takeBack, rfl⟩, fun _ h => absurd h List.not_mem_nil⟩, (fun _ _ _ h => by cases h), (fun _ _ h => by cases h), ⟨Nat.le_refl _, Nat.le_refl _⟩, (fun h => by cases h), (fun h => absurd h (by decide)), fun _ h => absurd h List.not_mem_nil⟩) rfl rfl rfl (fun pc row h => (I_X6_undo_ok pc row h).2)
