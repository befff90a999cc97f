/-! ColdPanes: its world; begin, aim, pass, scratch, mend, heat, set -/
def rDb (o : Nat) (M : mjM) : DSt := (rA M (o + 1), rA M (o + 2), rA M (o + 3), rA M (o + 4), rF M o 1, rF M o 5, rF M o 6, rF M o 7)
def rZb (o : Nat) (M : mjM) : ZSt := (rA M (o + 1), rA M (o + 2), rF M o 2)
/-- now, trial, snapshot, is there one, history (its places 18, 23, 28, 33), pad, pieces, forecast -/
abbrev CSt : Type := PSt × PSt × PSt × Int32 × HSt × DSt × ZSt × FSt
def xw (c : CSt) : mjM := [.inr (5, [.ref 1, .ref 6, .ref 11, .int c.2.2.2.1, .ref 16, .ref 38, .ref 43, .ref 46]),
  .inr (3, [.ref 2, .ref 3, .ref 4, .ref 5, .int c.1.2.2.2.2.1, .int c.1.2.2.2.2.2.1, .int c.1.2.2.2.2.2.2.1, .int c.1.2.2.2.2.2.2.2.1, .int c.1.2.2.2.2.2.2.2.2.1, .int c.1.2.2.2.2.2.2.2.2.2.1, .int c.1.2.2.2.2.2.2.2.2.2.2.1, .int c.1.2.2.2.2.2.2.2.2.2.2.2]),
  .inl (0, (36, .inl c.1.1)),
  .inl (0, (36, .inl c.1.2.1)),
  .inl (0, (60, .inl c.1.2.2.1)),
  .inl (0, (60, .inl c.1.2.2.2.1)),
  .inr (3, [.ref 7, .ref 8, .ref 9, .ref 10, .int c.2.1.2.2.2.2.1, .int c.2.1.2.2.2.2.2.1, .int c.2.1.2.2.2.2.2.2.1, .int c.2.1.2.2.2.2.2.2.2.1, .int c.2.1.2.2.2.2.2.2.2.2.1, .int c.2.1.2.2.2.2.2.2.2.2.2.1, .int c.2.1.2.2.2.2.2.2.2.2.2.2.1, .int c.2.1.2.2.2.2.2.2.2.2.2.2.2]),
  .inl (0, (36, .inl c.2.1.1)),
  .inl (0, (36, .inl c.2.1.2.1)),
  .inl (0, (60, .inl c.2.1.2.2.1)),
  .inl (0, (60, .inl c.2.1.2.2.2.1)),
  .inr (3, [.ref 12, .ref 13, .ref 14, .ref 15, .int c.2.2.1.2.2.2.2.1, .int c.2.2.1.2.2.2.2.2.1, .int c.2.2.1.2.2.2.2.2.2.1, .int c.2.2.1.2.2.2.2.2.2.2.1, .int c.2.2.1.2.2.2.2.2.2.2.2.1, .int c.2.2.1.2.2.2.2.2.2.2.2.2.1, .int c.2.2.1.2.2.2.2.2.2.2.2.2.2.1, .int c.2.2.1.2.2.2.2.2.2.2.2.2.2.2]),
  .inl (0, (36, .inl c.2.2.1.1)),
  .inl (0, (36, .inl c.2.2.1.2.1)),
  .inl (0, (60, .inl c.2.2.1.2.2.1)),
  .inl (0, (60, .inl c.2.2.1.2.2.2.1)),
  .inr (1, [.ref 17, .int c.2.2.2.2.1.1]),
  .inl (2, (4, .inr (.inr (.inr (.inr c.2.2.2.2.1.2.1))))),
  .inr (3, [.ref 19, .ref 20, .ref 21, .ref 22, .int c.2.2.2.2.1.2.2.1.2.2.2.2.1, .int c.2.2.2.2.1.2.2.1.2.2.2.2.2.1, .int c.2.2.2.2.1.2.2.1.2.2.2.2.2.2.1, .int c.2.2.2.2.1.2.2.1.2.2.2.2.2.2.2.1, .int c.2.2.2.2.1.2.2.1.2.2.2.2.2.2.2.2.1, .int c.2.2.2.2.1.2.2.1.2.2.2.2.2.2.2.2.2.1, .int c.2.2.2.2.1.2.2.1.2.2.2.2.2.2.2.2.2.2.1, .int c.2.2.2.2.1.2.2.1.2.2.2.2.2.2.2.2.2.2.2]),
  .inl (0, (36, .inl c.2.2.2.2.1.2.2.1.1)),
  .inl (0, (36, .inl c.2.2.2.2.1.2.2.1.2.1)),
  .inl (0, (60, .inl c.2.2.2.2.1.2.2.1.2.2.1)),
  .inl (0, (60, .inl c.2.2.2.2.1.2.2.1.2.2.2.1)),
  .inr (3, [.ref 24, .ref 25, .ref 26, .ref 27, .int c.2.2.2.2.1.2.2.2.1.2.2.2.2.1, .int c.2.2.2.2.1.2.2.2.1.2.2.2.2.2.1, .int c.2.2.2.2.1.2.2.2.1.2.2.2.2.2.2.1, .int c.2.2.2.2.1.2.2.2.1.2.2.2.2.2.2.2.1, .int c.2.2.2.2.1.2.2.2.1.2.2.2.2.2.2.2.2.1, .int c.2.2.2.2.1.2.2.2.1.2.2.2.2.2.2.2.2.2.1, .int c.2.2.2.2.1.2.2.2.1.2.2.2.2.2.2.2.2.2.2.1, .int c.2.2.2.2.1.2.2.2.1.2.2.2.2.2.2.2.2.2.2.2]),
  .inl (0, (36, .inl c.2.2.2.2.1.2.2.2.1.1)),
  .inl (0, (36, .inl c.2.2.2.2.1.2.2.2.1.2.1)),
  .inl (0, (60, .inl c.2.2.2.2.1.2.2.2.1.2.2.1)),
  .inl (0, (60, .inl c.2.2.2.2.1.2.2.2.1.2.2.2.1)),
  .inr (3, [.ref 29, .ref 30, .ref 31, .ref 32, .int c.2.2.2.2.1.2.2.2.2.1.2.2.2.2.1, .int c.2.2.2.2.1.2.2.2.2.1.2.2.2.2.2.1, .int c.2.2.2.2.1.2.2.2.2.1.2.2.2.2.2.2.1, .int c.2.2.2.2.1.2.2.2.2.1.2.2.2.2.2.2.2.1, .int c.2.2.2.2.1.2.2.2.2.1.2.2.2.2.2.2.2.2.1, .int c.2.2.2.2.1.2.2.2.2.1.2.2.2.2.2.2.2.2.2.1, .int c.2.2.2.2.1.2.2.2.2.1.2.2.2.2.2.2.2.2.2.2.1, .int c.2.2.2.2.1.2.2.2.2.1.2.2.2.2.2.2.2.2.2.2.2]),
  .inl (0, (36, .inl c.2.2.2.2.1.2.2.2.2.1.1)),
  .inl (0, (36, .inl c.2.2.2.2.1.2.2.2.2.1.2.1)),
  .inl (0, (60, .inl c.2.2.2.2.1.2.2.2.2.1.2.2.1)),
  .inl (0, (60, .inl c.2.2.2.2.1.2.2.2.2.1.2.2.2.1)),
  .inr (3, [.ref 34, .ref 35, .ref 36, .ref 37, .int c.2.2.2.2.1.2.2.2.2.2.2.2.2.2.1, .int c.2.2.2.2.1.2.2.2.2.2.2.2.2.2.2.1, .int c.2.2.2.2.1.2.2.2.2.2.2.2.2.2.2.2.1, .int c.2.2.2.2.1.2.2.2.2.2.2.2.2.2.2.2.2.1, .int c.2.2.2.2.1.2.2.2.2.2.2.2.2.2.2.2.2.2.1, .int c.2.2.2.2.1.2.2.2.2.2.2.2.2.2.2.2.2.2.2.1, .int c.2.2.2.2.1.2.2.2.2.2.2.2.2.2.2.2.2.2.2.2.1, .int c.2.2.2.2.1.2.2.2.2.2.2.2.2.2.2.2.2.2.2.2.2]),
  .inl (0, (36, .inl c.2.2.2.2.1.2.2.2.2.2.1)),
  .inl (0, (36, .inl c.2.2.2.2.1.2.2.2.2.2.2.1)),
  .inl (0, (60, .inl c.2.2.2.2.1.2.2.2.2.2.2.2.1)),
  .inl (0, (60, .inl c.2.2.2.2.1.2.2.2.2.2.2.2.2.1)),
  .inr (2, [.ref 39, .int c.2.2.2.2.2.1.2.2.2.2.1, .ref 40, .ref 41, .ref 42, .int c.2.2.2.2.2.1.2.2.2.2.2.1, .int c.2.2.2.2.2.1.2.2.2.2.2.2.1, .int c.2.2.2.2.2.1.2.2.2.2.2.2.2]),
  .inl (1, (60, .inl c.2.2.2.2.2.1.1)),
  .inl (0, (20, .inl c.2.2.2.2.2.1.2.1)),
  .inl (0, (20, .inl c.2.2.2.2.2.1.2.2.1)),
  .inl (0, (20, .inl c.2.2.2.2.2.1.2.2.2.1)),
  .inr (4, [.ref 44, .ref 45, .int c.2.2.2.2.2.2.1.2.2]),
  .inl (0, (36, .inl c.2.2.2.2.2.2.1.1)),
  .inl (0, (36, .inl c.2.2.2.2.2.2.1.2.1)),
  .inr (0, [.int c.2.2.2.2.2.2.2.1, .int c.2.2.2.2.2.2.2.2.1, .int c.2.2.2.2.2.2.2.2.2])]
def rX (M : mjM) : CSt := (rPb 1 M, rPb 6 M, rPb 11 M, rF M 0 3, (rF M 16 1, rQ M 17, rPb 18 M, rPb 23 M, rPb 28 M, rPb 33 M), rDb 38 M, rZb 43 M, (rF M 46 0, rF M 46 1, rF M 46 2))
def hUp (f : Nat → Option Nat) : Nat → Option Nat := fun k => (f k).map (fun i => i + 16)
def hDn (f : Nat → Option Nat) : Nat → Option Nat := fun k => (f k).map (fun i => i - 16)
def hOk2 (f : Nat → Option Nat) : Prop := (∀ k : Nat, k < 4 → f k = some 18 ∨ f k = some 23 ∨ f k = some 28 ∨ f k = some 33) ∧ ∀ k : Nat, 4 ≤ k → f k = none
theorem hOk_dn {f : Nat → Option Nat} (hf : hOk2 f) : hOk (hDn f) := by
  refine ⟨fun k hk => ?_, fun k hk => ?_⟩
  · unfold hDn
    rcases hf.1 k hk with h | h | h | h <;> rw [h] <;> simp
  · unfold hDn
    rw [hf.2 k hk]
    rfl
theorem hOk_up {f : Nat → Option Nat} (hf : hOk f) : hOk2 (hUp f) := by
  refine ⟨fun k hk => ?_, fun k hk => ?_⟩
  · unfold hUp
    rcases hf.1 k hk with h | h | h | h <;> rw [h] <;> simp
  · unfold hUp
    rw [hf.2 k hk]
    rfl
/-- history, now: the places that go to record and takeBack -/
def i27 : List Nat := [16, 17, 18, 19, 20, 21, 22, 23, 24, 25, 26, 27, 28, 29, 30, 31, 32, 33, 34, 35, 36, 37, 1, 2, 3, 4, 5]
theorem cut_dn {f : Nat → Option Nat} (hf : hOk2 f) : mjcut (mjri i27) 4 f = hDn f := by
  funext k
  unfold mjcut hDn
  by_cases hk : k < 4
  · rw [if_pos hk]
    rcases hf.1 k hk with h | h | h | h <;> (rw [h]; rfl)
  · rw [if_neg hk, hf.2 k (by omega)]
    rfl
theorem cut_up {f : Nat → Option Nat} (hf : hOk f) : mjcut (mjui i27 47) 4 f = hUp f := by
  funext k
  unfold mjcut hUp
  by_cases hk : k < 4
  · rw [if_pos hk]
    rcases hf.1 k hk with h | h | h | h <;> (rw [h]; rfl)
  · rw [if_neg hk, hf.2 k (by omega)]
    rfl
def zDn (z : HSt) : HSt := (z.1, hDn z.2.1, z.2.2)
def zUp (z : HSt) : HSt := (z.1, hUp z.2.1, z.2.2)
noncomputable def cRec (a : PSt) (z : HSt) : HSt := zUp (kseal (hRec a (zDn z)))
def xOk (z : HSt) : Prop := hOk2 z.2.1 ∧ ¬ z.1 < 0 ∧ z.1 ≤ 4
theorem hPut_f (t : Nat) (q : PSt) (z : HSt) : (hPut t q z).2.1 = z.2.1 := rfl
theorem hPut_n (t : Nat) (q : PSt) (z : HSt) : (hPut t q z).1 = z.1 + 1 := rfl
theorem hRec_f {a : PSt} {z : HSt} (hf : hOk z.2.1) : hOk (hRec a z).2.1 := by
  unfold hRec
  split
  · exact hf
  · exact hOk_rot hf
theorem hRec_n {a : PSt} {z : HSt} (h0 : ¬ z.1 < 0) : ¬ (hRec a z).1 < 0 ∧ (hRec a z).1 ≤ 4 := by
  unfold hRec
  split
  · rename_i h4
    obtain ⟨m, hm, e⟩ := nI_of h0
    rw [hPut_n, e]
    rw [e] at h4
    have h5 : m < 4 := (nI_ltI hm (by decide)).mp h4
    rw [show nI m + 1 = nI (m + 1) from (nI_succ m).symm]
    exact ⟨nI_pos (by omega), show nI (m + 1) ≤ nI 4 from (nI_leI (by omega) (by decide)).mpr (by omega)⟩
  · rw [hPut_n]
    exact ⟨show ¬ (3 : Int32) + 1 < 0 by decide, show (3 : Int32) + 1 ≤ 4 by decide⟩
theorem cRec_ok {a : PSt} {z : HSt} (h : xOk z) : xOk (cRec a z) := by
  unfold cRec
  rw [kseal_eq]
  refine ⟨hOk_up (hRec_f (hOk_dn h.1)), ?_⟩
  exact hRec_n (z := zDn z) h.2.1
def pSetAim (p : PSt) (x y : Int32) : PSt := match p with
  | (h, g, s, c, fu, _, _, r) => (h, g, s, c, fu, x, y, r)
def pSetLead (p : PSt) (x : Int32) : PSt := match p with
  | (h, g, s, c, fu, ai, ra, _, r) => (h, g, s, c, fu, ai, ra, x, r)
def pSetRim (p : PSt) (x : Int32) : PSt := match p with
  | (h, g, s, c, fu, ai, ra, le, _, r) => (h, g, s, c, fu, ai, ra, le, x, r)
def pScr (p : PSt) (j x : Int32) : PSt := match p with
  | (h, g, s, c, r) => (h, g, gPut s j x, c, r)
def pWho (p : PSt) (j : Int32) : PSt := match p with
  | (h, g, s, c, r) => (h, g, s, gPut c j 0, r)
def pAim (p : PSt) : Int32 := p.2.2.2.2.2.1
def pLead (p : PSt) : Int32 := p.2.2.2.2.2.2.2.1
def pRim (p : PSt) : Int32 := p.2.2.2.2.2.2.2.2.1
/-- now and the history anew -/
def cNow (c : CSt) (a : PSt) (h : HSt) : CSt := match c with
  | (_, t, s, b, _, r) => (a, t, s, b, h, r)
noncomputable def cBegin (c : CSt) (x : Int32) : CSt × Int32 := if gOut x 0 1000 = 0 then (cNow c (pNew c.1 x) (cRec c.1 c.2.2.2.2.1), kseal (gSum (pH (pNew c.1 x)))) else (c, -1)
noncomputable def cAim (c : CSt) (x y : Int32) : CSt × Int32 := if gOut x 0 1000 = 0 then (if gOut y 1 100 = 0 then (cNow c (pSetAim c.1 x y) (cRec c.1 c.2.2.2.2.1), pAim c.1) else (c, -1)) else (c, -1)
noncomputable def cPass (c : CSt) (x : Int32) : CSt × Int32 := if gOut x 1 99 = 0 then (cNow c (kseal (pPass c.1 x.toNatClampNeg)).1 (cRec c.1 c.2.2.2.2.1), (kseal (pPass c.1 x.toNatClampNeg)).2) else (c, -1)
noncomputable def cScratch (c : CSt) (j x : Int32) : CSt × Int32 := if gIsJoint j = 0 then (c, -1) else if gOut x 1 500 = 0 then (if gWh (pC c.1) j = 0 then (c, -2) else (cNow c (pScr c.1 j x) (cRec c.1 c.2.2.2.2.1), gJt (pS c.1) j)) else (c, -1)
noncomputable def cMend (c : CSt) (j : Int32) : CSt × Int32 := if gIsJoint j = 0 then (c, -1) else if gWh (pC c.1) j = 0 then (cNow c (pScr (pWho c.1 j) j 50) (cRec c.1 c.2.2.2.2.1), kseal (gCracked (pC (pScr (pWho c.1 j) j 50)))) else (c, -2)
noncomputable def cHeat (c : CSt) (k x : Int32) : CSt × Int32 := if gIsCell k = 0 then (c, -1) else if gOut x (-200) 200 = 0 then (cNow c (pFlame c.1 k x) (cRec c.1 c.2.2.2.2.1), gMax 0 (gAt 36 (pH c.1) k + x)) else (c, -1)
noncomputable def cSet (c : CSt) (w x : Int32) : CSt × Int32 := if gOut w 0 1 = 0 then (if gOut x 0 20 = 0 then (if w = 0 then (cNow c (pSetLead c.1 x) (cRec c.1 c.2.2.2.2.1), pLead c.1) else (cNow c (pSetRim c.1 x) (cRec c.1 c.2.2.2.2.1), pRim c.1)) else (c, -1)) else (c, -1)
abbrev xm1 (V : CSt → Int32 → CSt × Int32) : mjSp := fun M as => ((M = xw (rX M) ∧ as = [.ref 0, .int (aI as 1)]) ∧ xOk (rX M).2.2.2.2.1, some (xw (V (rX M) (aI as 1)).1), some (.int (V (rX M) (aI as 1)).2))
abbrev xm2 (V : CSt → Int32 → Int32 → CSt × Int32) : mjSp := fun M as => ((M = xw (rX M) ∧ as = [.ref 0, .int (aI as 1), .int (aI as 2)]) ∧ xOk (rX M).2.2.2.2.1, some (xw (V (rX M) (aI as 1) (aI as 2)).1), some (.int (V (rX M) (aI as 1) (aI as 2)).2))
theorem inX1 {V : CSt → Int32 → CSt × Int32} {M : mjM} {as : List Value} (h : (xm1 V M as).1) : ∃ c x, M = xw c ∧ as = [.ref 0, .int x] ∧ xOk c.2.2.2.2.1 := ⟨_, _, h.1.1, h.1.2, h.2⟩
theorem inX2 {V : CSt → Int32 → Int32 → CSt × Int32} {M : mjM} {as : List Value} (h : (xm2 V M as).1) : ∃ c x y, M = xw c ∧ as = [.ref 0, .int x, .int y] ∧ xOk c.2.2.2.2.1 := ⟨_, _, _, h.1.1, h.1.2, h.2⟩
noncomputable def S_X6_begin : mjSp := xm1 cBegin
noncomputable def S_X6_aim : mjSp := xm2 cAim
noncomputable def S_X6_pass : mjSp := xm1 cPass
noncomputable def S_X6_scratch : mjSp := xm2 cScratch
noncomputable def S_X6_mend : mjSp := xm1 cMend
noncomputable def S_X6_heat : mjSp := xm2 cHeat
noncomputable def S_X6_set : mjSp := xm2 cSet
theorem xw_f {a t s : PSt} {b n : Int32} {f f' : Nat → Option Nat} {q : PSt × PSt × PSt × PSt} {r} (h : f = f') : xw (a, t, s, b, (n, f, q), r) = xw (a, t, s, b, (n, f', q), r) := by rw [h]
/-- behind record: the history's places as they were meant -/
theorem rec_f {f : Nat → Option Nat} {a : PSt} {n : Int32} {q : PSt × PSt × PSt × PSt} (hf : hOk2 f) : mjcut (mjui i27 47) 4 (kseal (hRec a (n, mjcut (mjri i27) 4 f, q))).2.1 = (cRec a (n, f, q)).2.1 := by
  rw [cut_dn hf, cut_up (by rw [kseal_eq]; exact hRec_f (z := (n, hDn f, q)) (hOk_dn hf))]
  rfl
theorem rec_pre {f : Nat → Option Nat} (hf : hOk2 f) : hOk (mjcut (mjri i27) 4 f) := by
  rw [cut_dn hf]
  exact hOk_dn hf
theorem rec_w {T : Nat → mjL → List Value → mjM → Nat × Nat → Prop} {pc : Nat} {L : mjL} {S : List Value} {a t s : PSt} {b n : Int32} {f : Nat → Option Nat} {q : PSt × PSt × PSt × PSt} {r} {u : Nat × Nat} (hf : hOk2 f) (h : ∀ z, z = cRec a (n, f, q) → T pc L S (xw (a, t, s, b, z, r)) u) :
    T pc L S (xw (a, t, s, b, ((kseal (hRec a (n, mjcut (mjri i27) 4 f, q))).1, mjcut (mjui i27 47) 4 (kseal (hRec a (n, mjcut (mjri i27) 4 f, q))).2.1, (kseal (hRec a (n, mjcut (mjri i27) 4 f, q))).2.2), r)) u := by
  rw [rec_f hf, cut_dn hf]
  exact h _ rfl
def rm_X6_begin : Room := { frames := 3, cells := 0, slots := 0, locals := 86 }
noncomputable def G_X6_begin : mjG := (I_X6_begin, F_X6, [(54, 1, 0, 3, 0, 0, S_X6_isOutside), (58, 0, 1, 2, 0, 0, S_X2_record), (62, 0, 3, 2, 0, 0, S_X4_renew), (66, 0, 3, 1, 0, 0, S_X4_sumOfHeats)], (fun pc => bif Nat.beq pc 21 then [16, 17, 18, 19, 20, 21, 22, 23, 24, 25, 26, 27, 28, 29, 30, 31, 32, 33, 34, 35, 36, 37, 1, 2, 3, 4, 5] else bif Nat.beq pc 5 then [] else [1, 2, 3, 4, 5]), Y0, (fun _ => none), (fun _ => none), (some .int), 0, 0, false, [])
set_option maxHeartbeats 20000000 in
set_option maxRecDepth 100000 in
theorem ok_X6_begin : mjOK G_X6_begin 2 S_X6_begin := by
  intro M as hP T hT
  obtain ⟨⟨a, t, s, b, ⟨n, f, q⟩, d, z, fo⟩, x, rfl, rfl, hx⟩ := inX1 hP
  have fin : (S_X6_begin (xw (a, t, s, b, (n, f, q), d, z, fo)) [.ref 0, .int x]).2.1 = some (xw (cBegin (a, t, s, b, (n, f, q), d, z, fo) x).1) := rfl
  have fin2 : (S_X6_begin (xw (a, t, s, b, (n, f, q), d, z, fo)) [.ref 0, .int x]).2.2 = some (.int (cBegin (a, t, s, b, (n, f, q), d, z, fo) x).2) := rfl
  have hz : cBegin (a, t, s, b, (n, f, q), d, z, fo) x = if gOut x 0 1000 = 0 then ((pNew a x, t, s, b, cRec a (n, f, q), d, z, fo), kseal (gSum (pH (pNew a x)))) else ((a, t, s, b, (n, f, q), d, z, fo), -1) := rfl
  rw [hz] at fin fin2
  generalize S_X6_begin (xw (a, t, s, b, (n, f, q), d, z, fo)) [.ref 0, .int x] = SS at hT fin fin2
  have s2 : ∀ h2 a2, gOut x 0 1000 = 0 → h2 = cRec a (n, f, q) → a2 = pNew a x → T 32 [some (.ref 0), some (.int x)] [] (xw (a2, t, s, b, h2, d, z, fo)) (0, 0) := by
    intro h2 a2 h0 e1 e2
    rw [if_pos h0, ← e1, ← e2] at fin fin2
    refine hT.1 (fun _ => false) 60 _ _ _ _ _ ?_
    exact And.intro ⟨rfl, rfl⟩ ⟨by rw [fin]; rfl, fin2.symm⟩
  have s1 : ∀ h2, gOut x 0 1000 = 0 → h2 = cRec a (n, f, q) → T 24 [some (.ref 0), some (.int x)] [] (xw (a, t, s, b, h2, d, z, fo)) (0, 0) := by
    intro h2 h0 e1
    refine hT.1 (fun pc => Nat.beq pc 32) 60 _ _ _ _ _ ?_
    exact And.intro ⟨rfl, rfl⟩ (s2 h2 (pNew a x) h0 e1 rfl)
  refine hT.1 (fun pc => Nat.beq pc 24) 60 _ _ _ _ _ ?_
  refine And.intro ⟨rfl, rfl⟩ (And.intro (fun (h1 : gOut x 0 1000 = 0) => And.intro ⟨⟨rfl, rfl⟩, rec_pre hx.1, hx.2⟩ (rec_w hx.1 (fun h2 e => s1 h2 h1 e))) (fun (h1 : ¬ gOut x 0 1000 = 0) => ⟨?_, ?_⟩))
  · rw [fin, if_neg h1]; rfl
  · rw [fin2, if_neg h1]
set_option maxRecDepth 10000 in
theorem ct_X6_begin (l : Launch) : mjCT l yX6_begin cX6_begin 2 (some .int) rm_X6_begin S_X6_begin :=
  mjCT_of (own := RX6) (G := G_X6_begin) (plainFor_of_name pn_X6) rfl ok_X6_begin (fun meth hm => ⟨fun pc row h => (I_X6_begin_ok pc row h).1, F_X6_ok, List.forall_mem_cons.mpr ⟨⟨yX6_isOutside, cX6_isOutside, 3, (some .boolean), rm_X6_isOutside, ct_X6_isOutside l, ⟨rfl, rfl⟩, ⟨by decide, by decide⟩, by decide, nk_X6_isOutside, ln_X6_54, st_X6_isOutside⟩, List.forall_mem_cons.mpr ⟨⟨yX2_record, cX2_record, 3, none, rm_X2_record, ct_X2_record l, ⟨rfl, rfl⟩, ⟨by decide, by decide⟩, by decide, by decide, nk_X2_record, ln_X6_58, im_X2_record, se_X2_record, rfl⟩, List.forall_mem_cons.mpr ⟨⟨yX4_renew, cX4_renew, 2, none, rm_X4_renew, ct_X4_renew l, ⟨rfl, rfl⟩, ⟨by decide, by decide⟩, by decide, by decide, nk_X4_renew, ln_X6_62, im_X4_renew, se_X4_renew, rfl⟩, List.forall_mem_cons.mpr ⟨⟨yX4_sumOfHeats, cX4_sumOfHeats, 3, (some .int), rm_X4_sumOfHeats, ct_X4_sumOfHeats l, ⟨rfl, rfl⟩, ⟨by decide, by decide⟩, by decide, by decide, nk_X4_sumOfHeats, ln_X6_66, im_X4_sumOfHeats, se_X4_sumOfHeats, rfl⟩, fun _ h => absurd h List.not_mem_nil⟩⟩⟩⟩, (fun _ _ _ h => by cases h), (fun _ _ h => by cases h), ⟨Nat.le_refl _, Nat.le_refl _⟩, (fun h => by cases h), (fun h => absurd h (by decide)), fun _ h => absurd h List.not_mem_nil⟩) rfl rfl rfl (fun pc row h => (I_X6_begin_ok pc row h).2)
def rm_X6_aim : Room := { frames := 3, cells := 0, slots := 0, locals := 86 }
noncomputable def G_X6_aim : mjG := (I_X6_aim, F_X6, [(54, 1, 0, 3, 0, 0, S_X6_isOutside), (58, 0, 1, 2, 0, 0, S_X2_record)], (fun pc => bif Nat.beq pc 31 then [16, 17, 18, 19, 20, 21, 22, 23, 24, 25, 26, 27, 28, 29, 30, 31, 32, 33, 34, 35, 36, 37, 1, 2, 3, 4, 5] else []), Y0, (fun _ => none), (fun _ => none), (some .int), 0, 0, false, [])
set_option maxHeartbeats 20000000 in
set_option maxRecDepth 100000 in
theorem ok_X6_aim : mjOK G_X6_aim 4 S_X6_aim := by
  intro M as hP T hT
  obtain ⟨⟨a, t, s, b, ⟨n, f, q⟩, d, z, fo⟩, x, y, rfl, rfl, hx⟩ := inX2 hP
  have fin : (S_X6_aim (xw (a, t, s, b, (n, f, q), d, z, fo)) [.ref 0, .int x, .int y]).2.1 = some (xw (cAim (a, t, s, b, (n, f, q), d, z, fo) x y).1) := rfl
  have fin2 : (S_X6_aim (xw (a, t, s, b, (n, f, q), d, z, fo)) [.ref 0, .int x, .int y]).2.2 = some (.int (cAim (a, t, s, b, (n, f, q), d, z, fo) x y).2) := rfl
  rw [cAim] at fin fin2
  dsimp only [cNow] at fin fin2
  generalize S_X6_aim (xw (a, t, s, b, (n, f, q), d, z, fo)) [.ref 0, .int x, .int y] = SS at hT fin fin2
  have s0 : ¬ (gOut x 0 1000 = 0 ∧ gOut y 1 100 = 0) → T 21 [some (.ref 0), some (.int x), some (.int y), none] [] (xw (a, t, s, b, (n, f, q), d, z, fo)) (0, 0) := by
    intro h0
    have e : (if gOut x 0 1000 = 0 then (if gOut y 1 100 = 0 then ((pSetAim a x y, t, s, b, cRec a (n, f, q), d, z, fo), pAim a) else ((a, t, s, b, (n, f, q), d, z, fo), -1)) else ((a, t, s, b, (n, f, q), d, z, fo), -1)) = ((a, t, s, b, (n, f, q), d, z, fo), (-1 : Int32)) := by
      by_cases h1 : gOut x 0 1000 = 0
      · rw [if_pos h1, if_neg (fun h2 => h0 ⟨h1, h2⟩)]
      · rw [if_neg h1]
    rw [e] at fin fin2
    refine hT.1 (fun _ => false) 60 _ _ _ _ _ ?_
    exact ⟨by rw [fin]; rfl, fin2.symm⟩
  have s1 : ∀ h2, gOut x 0 1000 = 0 → gOut y 1 100 = 0 → h2 = cRec a (n, f, q) → T 34 [some (.ref 0), some (.int x), some (.int y), none] [] (xw (a, t, s, b, h2, d, z, fo)) (0, 0) := by
    intro h2 h0 h1 e1
    rw [if_pos h0, if_pos h1, ← e1] at fin fin2
    refine hT.1 (fun _ => false) 60 _ _ _ _ _ ?_
    exact ⟨by rw [fin]; rfl, fin2.symm⟩
  refine hT.1 (fun pc => Nat.beq pc 34 || Nat.beq pc 21) 60 _ _ _ _ _ ?_
  exact And.intro ⟨rfl, rfl⟩ (And.intro (fun (h1 : ¬ gOut x 0 1000 = 0) => s0 (fun h => h1 h.1)) (fun (h1 : gOut x 0 1000 = 0) => And.intro ⟨rfl, rfl⟩ (And.intro (fun (h2 : gOut y 1 100 = 0) => And.intro ⟨⟨rfl, rfl⟩, rec_pre hx.1, hx.2⟩ (rec_w hx.1 (fun h3 e => s1 h3 h1 h2 e))) (fun (h2 : ¬ gOut y 1 100 = 0) => s0 (fun h => h2 h.2)))))
set_option maxRecDepth 10000 in
theorem ct_X6_aim (l : Launch) : mjCT l yX6_aim cX6_aim 4 (some .int) rm_X6_aim S_X6_aim :=
  mjCT_of (own := RX6) (G := G_X6_aim) (plainFor_of_name pn_X6) rfl ok_X6_aim (fun meth hm => ⟨fun pc row h => (I_X6_aim_ok pc row h).1, F_X6_ok, List.forall_mem_cons.mpr ⟨⟨yX6_isOutside, cX6_isOutside, 3, (some .boolean), rm_X6_isOutside, ct_X6_isOutside l, ⟨rfl, rfl⟩, ⟨by decide, by decide⟩, by decide, nk_X6_isOutside, ln_X6_54, st_X6_isOutside⟩, List.forall_mem_cons.mpr ⟨⟨yX2_record, cX2_record, 3, none, rm_X2_record, ct_X2_record l, ⟨rfl, rfl⟩, ⟨by decide, by decide⟩, by decide, by decide, nk_X2_record, ln_X6_58, im_X2_record, se_X2_record, rfl⟩, fun _ h => absurd h List.not_mem_nil⟩⟩, (fun _ _ _ h => by cases h), (fun _ _ h => by cases h), ⟨Nat.le_refl _, Nat.le_refl _⟩, (fun h => by cases h), (fun h => absurd h (by decide)), fun _ h => absurd h List.not_mem_nil⟩) rfl rfl rfl (fun pc row h => (I_X6_aim_ok pc row h).2)
def rm_X6_pass : Room := { frames := 6, cells := 0, slots := 0, locals := 131 }
noncomputable def G_X6_pass : mjG := (I_X6_pass, F_X6, [(54, 1, 0, 3, 0, 0, S_X6_isOutside), (58, 0, 1, 2, 0, 0, S_X2_record), (77, 0, 3, 2, 0, 0, S_X4_passMinutes)], (fun pc => bif Nat.beq pc 28 then [1, 2, 3, 4, 5] else bif Nat.beq pc 20 then [16, 17, 18, 19, 20, 21, 22, 23, 24, 25, 26, 27, 28, 29, 30, 31, 32, 33, 34, 35, 36, 37, 1, 2, 3, 4, 5] else []), Y0, (fun _ => none), (fun _ => none), (some .int), 0, 0, false, [])
theorem gOut_0 {x a b : Int32} (h : gOut x a b = 0) : ¬ x < a ∧ x ≤ b := by
  unfold gOut at h
  by_cases h1 : x < a
  · rw [if_pos h1] at h; exact absurd h (by decide)
  · by_cases h2 : x ≤ b
    · exact ⟨h1, h2⟩
    · rw [if_neg h1, if_neg h2] at h; exact absurd h (by decide)
theorem i_nlt {x a : Int32} (ha : ¬ a < 0) (h : ¬ x < a) : ¬ x < 0 := by
  intro h2
  exact h (Int32.lt_of_lt_of_le h2 (Int32.not_lt.mp ha))
set_option maxHeartbeats 20000000 in
set_option maxRecDepth 100000 in
theorem ok_X6_pass : mjOK G_X6_pass 2 S_X6_pass := by
  intro M as hP T hT
  obtain ⟨⟨a, t, s, b, ⟨n, f, q⟩, d, z, fo⟩, x, rfl, rfl, hx⟩ := inX1 hP
  have fin : (S_X6_pass (xw (a, t, s, b, (n, f, q), d, z, fo)) [.ref 0, .int x]).2.1 = some (xw (cPass (a, t, s, b, (n, f, q), d, z, fo) x).1) := rfl
  have fin2 : (S_X6_pass (xw (a, t, s, b, (n, f, q), d, z, fo)) [.ref 0, .int x]).2.2 = some (.int (cPass (a, t, s, b, (n, f, q), d, z, fo) x).2) := rfl
  rw [cPass] at fin fin2
  dsimp only [cNow] at fin fin2
  generalize S_X6_pass (xw (a, t, s, b, (n, f, q), d, z, fo)) [.ref 0, .int x] = SS at hT fin fin2
  have s1 : ∀ h2, gOut x 1 99 = 0 → h2 = cRec a (n, f, q) → T 23 [some (.ref 0), some (.int x)] [] (xw (a, t, s, b, h2, d, z, fo)) (0, 0) := by
    intro h2 h0 e1
    rw [if_pos h0, ← e1] at fin fin2
    refine hT.1 (fun _ => false) 60 _ _ _ _ _ ?_
    exact And.intro ⟨⟨rfl, rfl⟩, i_nlt (by decide) (gOut_0 h0).1⟩ ⟨by rw [fin]; rfl, fin2.symm⟩
  refine hT.1 (fun pc => Nat.beq pc 23) 60 _ _ _ _ _ ?_
  refine And.intro ⟨rfl, rfl⟩ (And.intro (fun (h1 : gOut x 1 99 = 0) => And.intro ⟨⟨rfl, rfl⟩, rec_pre hx.1, hx.2⟩ (rec_w hx.1 (fun h2 e => s1 h2 h1 e))) (fun (h1 : ¬ gOut x 1 99 = 0) => ⟨?_, ?_⟩))
  · rw [fin, if_neg h1]; rfl
  · rw [fin2, if_neg h1]
set_option maxRecDepth 10000 in
theorem ct_X6_pass (l : Launch) : mjCT l yX6_pass cX6_pass 2 (some .int) rm_X6_pass S_X6_pass :=
  mjCT_of (own := RX6) (G := G_X6_pass) (plainFor_of_name pn_X6) rfl ok_X6_pass (fun meth hm => ⟨fun pc row h => (I_X6_pass_ok pc row h).1, F_X6_ok, List.forall_mem_cons.mpr ⟨⟨yX6_isOutside, cX6_isOutside, 3, (some .boolean), rm_X6_isOutside, ct_X6_isOutside l, ⟨rfl, rfl⟩, ⟨by decide, by decide⟩, by decide, nk_X6_isOutside, ln_X6_54, st_X6_isOutside⟩, List.forall_mem_cons.mpr ⟨⟨yX2_record, cX2_record, 3, none, rm_X2_record, ct_X2_record l, ⟨rfl, rfl⟩, ⟨by decide, by decide⟩, by decide, by decide, nk_X2_record, ln_X6_58, im_X2_record, se_X2_record, rfl⟩, List.forall_mem_cons.mpr ⟨⟨yX4_passMinutes, cX4_passMinutes, 4, (some .int), rm_X4_passMinutes, ct_X4_passMinutes l, ⟨rfl, rfl⟩, ⟨by decide, by decide⟩, by decide, by decide, nk_X4_passMinutes, ln_X6_77, im_X4_passMinutes, se_X4_passMinutes, rfl⟩, fun _ h => absurd h List.not_mem_nil⟩⟩⟩, (fun _ _ _ h => by cases h), (fun _ _ h => by cases h), ⟨Nat.le_refl _, Nat.le_refl _⟩, (fun h => by cases h), (fun h => absurd h (by decide)), fun _ h => absurd h List.not_mem_nil⟩) rfl rfl rfl (fun pc row h => (I_X6_pass_ok pc row h).2)
def rm_X6_scratch : Room := { frames := 3, cells := 0, slots := 0, locals := 86 }
noncomputable def G_X6_scratch : mjG := (I_X6_scratch, F_X6, [(81, 1, 0, 1, 0, 0, S_X1_isJoint), (54, 1, 0, 3, 0, 0, S_X6_isOutside), (87, 0, 3, 2, 0, 0, S_X4_isWhole), (58, 0, 1, 2, 0, 0, S_X2_record), (90, 0, 3, 2, 0, 0, S_X4_strengthOf), (93, 0, 3, 3, 0, 0, S_X4_strengthen)], (fun pc => bif Nat.beq pc 42 then [16, 17, 18, 19, 20, 21, 22, 23, 24, 25, 26, 27, 28, 29, 30, 31, 32, 33, 34, 35, 36, 37, 1, 2, 3, 4, 5] else bif Nat.beq pc 12 then [] else bif Nat.beq pc 1 then [] else [1, 2, 3, 4, 5]), Y0, (fun _ => none), (fun _ => none), (some .int), 0, 0, false, [])
set_option maxHeartbeats 20000000 in
set_option maxRecDepth 100000 in
theorem ok_X6_scratch : mjOK G_X6_scratch 4 S_X6_scratch := by
  intro M as hP T hT
  obtain ⟨⟨a, t, s, b, ⟨n, f, q⟩, d, z, fo⟩, x, y, rfl, rfl, hx⟩ := inX2 hP
  have fin : (S_X6_scratch (xw (a, t, s, b, (n, f, q), d, z, fo)) [.ref 0, .int x, .int y]).2.1 = some (xw (cScratch (a, t, s, b, (n, f, q), d, z, fo) x y).1) := rfl
  have fin2 : (S_X6_scratch (xw (a, t, s, b, (n, f, q), d, z, fo)) [.ref 0, .int x, .int y]).2.2 = some (.int (cScratch (a, t, s, b, (n, f, q), d, z, fo) x y).2) := rfl
  rw [cScratch] at fin fin2
  dsimp only [cNow] at fin fin2
  generalize S_X6_scratch (xw (a, t, s, b, (n, f, q), d, z, fo)) [.ref 0, .int x, .int y] = SS at hT fin fin2
  have s1 : ∀ h2, ¬ gIsJoint x = 0 → gOut y 1 500 = 0 → ¬ gWh (pC a) x = 0 → h2 = cRec a (n, f, q) → T 45 [some (.ref 0), some (.int x), some (.int y), none] [] (xw (a, t, s, b, h2, d, z, fo)) (0, 0) := by
    intro h2 h0 h1 h3 e1
    rw [if_neg h0, if_pos h1, if_neg h3, ← e1] at fin fin2
    refine hT.1 (fun _ => false) 60 _ _ _ _ _ ?_
    exact And.intro ⟨rfl, rfl⟩ (And.intro ⟨rfl, rfl⟩ ⟨by rw [fin]; rfl, fin2.symm⟩)
  refine hT.1 (fun pc => Nat.beq pc 45) 60 _ _ _ _ _ ?_
  refine And.intro ⟨rfl, rfl⟩ (And.intro (fun (h1 : gIsJoint x = 0) => ⟨?_, ?_⟩) (fun (h1 : ¬ gIsJoint x = 0) => And.intro ⟨rfl, rfl⟩ (And.intro (fun (h2 : gOut y 1 500 = 0) => And.intro ⟨rfl, rfl⟩ (And.intro (fun (h3 : ¬ gWh (pC a) x = 0) => And.intro ⟨⟨rfl, rfl⟩, rec_pre hx.1, hx.2⟩ (rec_w hx.1 (fun h4 e => s1 h4 h1 h2 h3 e))) (fun (h3 : gWh (pC a) x = 0) => ⟨?_, ?_⟩))) (fun (h2 : ¬ gOut y 1 500 = 0) => ⟨?_, ?_⟩))))
  · rw [fin, if_pos h1]; rfl
  · rw [fin2, if_pos h1]
  · rw [fin, if_neg h1, if_pos h2, if_pos h3]; rfl
  · rw [fin2, if_neg h1, if_pos h2, if_pos h3]
  · rw [fin, if_neg h1, if_neg h2]; rfl
  · rw [fin2, if_neg h1, if_neg h2]
set_option maxRecDepth 10000 in
theorem ct_X6_scratch (l : Launch) : mjCT l yX6_scratch cX6_scratch 4 (some .int) rm_X6_scratch S_X6_scratch :=
  mjCT_of (own := RX6) (G := G_X6_scratch) (plainFor_of_name pn_X6) rfl ok_X6_scratch (fun meth hm => ⟨fun pc row h => (I_X6_scratch_ok pc row h).1, F_X6_ok, List.forall_mem_cons.mpr ⟨⟨yX1_isJoint, cX1_isJoint, 1, (some .boolean), rm_X1_isJoint, ct_X1_isJoint l, ⟨rfl, rfl⟩, ⟨by decide, by decide⟩, by decide, nk_X1_isJoint, ln_X6_81, st_X1_isJoint⟩, List.forall_mem_cons.mpr ⟨⟨yX6_isOutside, cX6_isOutside, 3, (some .boolean), rm_X6_isOutside, ct_X6_isOutside l, ⟨rfl, rfl⟩, ⟨by decide, by decide⟩, by decide, nk_X6_isOutside, ln_X6_54, st_X6_isOutside⟩, List.forall_mem_cons.mpr ⟨⟨yX4_isWhole, cX4_isWhole, 2, (some .boolean), rm_X4_isWhole, ct_X4_isWhole l, ⟨rfl, rfl⟩, ⟨by decide, by decide⟩, by decide, by decide, nk_X4_isWhole, ln_X6_87, im_X4_isWhole, se_X4_isWhole, rfl⟩, List.forall_mem_cons.mpr ⟨⟨yX2_record, cX2_record, 3, none, rm_X2_record, ct_X2_record l, ⟨rfl, rfl⟩, ⟨by decide, by decide⟩, by decide, by decide, nk_X2_record, ln_X6_58, im_X2_record, se_X2_record, rfl⟩, List.forall_mem_cons.mpr ⟨⟨yX4_strengthOf, cX4_strengthOf, 2, (some .int), rm_X4_strengthOf, ct_X4_strengthOf l, ⟨rfl, rfl⟩, ⟨by decide, by decide⟩, by decide, by decide, nk_X4_strengthOf, ln_X6_90, im_X4_strengthOf, se_X4_strengthOf, rfl⟩, List.forall_mem_cons.mpr ⟨⟨yX4_strengthen, cX4_strengthen, 3, none, rm_X4_strengthen, ct_X4_strengthen l, ⟨rfl, rfl⟩, ⟨by decide, by decide⟩, by decide, by decide, nk_X4_strengthen, ln_X6_93, im_X4_strengthen, se_X4_strengthen, rfl⟩, fun _ h => absurd h List.not_mem_nil⟩⟩⟩⟩⟩⟩, (fun _ _ _ h => by cases h), (fun _ _ h => by cases h), ⟨Nat.le_refl _, Nat.le_refl _⟩, (fun h => by cases h), (fun h => absurd h (by decide)), fun _ h => absurd h List.not_mem_nil⟩) rfl rfl rfl (fun pc row h => (I_X6_scratch_ok pc row h).2)
def rm_X6_mend : Room := { frames := 3, cells := 0, slots := 0, locals := 86 }
noncomputable def G_X6_mend : mjG := (I_X6_mend, F_X6, [(81, 1, 0, 1, 0, 0, S_X1_isJoint), (87, 0, 3, 2, 0, 0, S_X4_isWhole), (58, 0, 1, 2, 0, 0, S_X2_record), (97, 0, 3, 2, 0, 0, S_X4_makeWhole), (93, 0, 3, 3, 0, 0, S_X4_strengthen), (100, 0, 3, 1, 0, 0, S_X4_crackedJoints)], (fun pc => bif Nat.beq pc 31 then [16, 17, 18, 19, 20, 21, 22, 23, 24, 25, 26, 27, 28, 29, 30, 31, 32, 33, 34, 35, 36, 37, 1, 2, 3, 4, 5] else bif Nat.beq pc 1 then [] else [1, 2, 3, 4, 5]), Y0, (fun _ => none), (fun _ => none), (some .int), 0, 0, false, [])
set_option maxHeartbeats 20000000 in
set_option maxRecDepth 100000 in
theorem ok_X6_mend : mjOK G_X6_mend 2 S_X6_mend := by
  intro M as hP T hT
  obtain ⟨⟨a, t, s, b, ⟨n, f, q⟩, d, z, fo⟩, x, rfl, rfl, hx⟩ := inX1 hP
  have fin : (S_X6_mend (xw (a, t, s, b, (n, f, q), d, z, fo)) [.ref 0, .int x]).2.1 = some (xw (cMend (a, t, s, b, (n, f, q), d, z, fo) x).1) := rfl
  have fin2 : (S_X6_mend (xw (a, t, s, b, (n, f, q), d, z, fo)) [.ref 0, .int x]).2.2 = some (.int (cMend (a, t, s, b, (n, f, q), d, z, fo) x).2) := rfl
  rw [cMend] at fin fin2
  dsimp only [cNow] at fin fin2
  generalize S_X6_mend (xw (a, t, s, b, (n, f, q), d, z, fo)) [.ref 0, .int x] = SS at hT fin fin2
  have s2 : ∀ h2 a2, ¬ gIsJoint x = 0 → gWh (pC a) x = 0 → h2 = cRec a (n, f, q) → a2 = pScr (pWho a x) x 50 → T 52 [some (.ref 0), some (.int x)] [] (xw (a2, t, s, b, h2, d, z, fo)) (0, 0) := by
    intro h2 a2 h0 h1 e1 e2
    rw [if_neg h0, if_pos h1, ← e1, ← e2] at fin fin2
    refine hT.1 (fun _ => false) 60 _ _ _ _ _ ?_
    exact And.intro ⟨rfl, rfl⟩ ⟨by rw [fin]; rfl, fin2.symm⟩
  have s1 : ∀ h2, ¬ gIsJoint x = 0 → gWh (pC a) x = 0 → h2 = cRec a (n, f, q) → T 34 [some (.ref 0), some (.int x)] [] (xw (a, t, s, b, h2, d, z, fo)) (0, 0) := by
    intro h2 h0 h1 e1
    refine hT.1 (fun pc => Nat.beq pc 52) 60 _ _ _ _ _ ?_
    exact And.intro ⟨rfl, rfl⟩ (And.intro ⟨rfl, rfl⟩ (s2 h2 (pScr (pWho a x) x 50) h0 h1 e1 rfl))
  refine hT.1 (fun pc => Nat.beq pc 34) 60 _ _ _ _ _ ?_
  refine And.intro ⟨rfl, rfl⟩ (And.intro (fun (h1 : ¬ gIsJoint x = 0) => And.intro ⟨rfl, rfl⟩ (And.intro (fun (h2 : gWh (pC a) x = 0) => And.intro ⟨⟨rfl, rfl⟩, rec_pre hx.1, hx.2⟩ (rec_w hx.1 (fun h4 e => s1 h4 h1 h2 e))) (fun (h2 : ¬ gWh (pC a) x = 0) => ⟨?_, ?_⟩))) (fun (h1 : gIsJoint x = 0) => ⟨?_, ?_⟩))
  · rw [fin, if_neg h1, if_neg h2]; rfl
  · rw [fin2, if_neg h1, if_neg h2]
  · rw [fin, if_pos h1]; rfl
  · rw [fin2, if_pos h1]
set_option maxRecDepth 10000 in
theorem ct_X6_mend (l : Launch) : mjCT l yX6_mend cX6_mend 2 (some .int) rm_X6_mend S_X6_mend :=
  mjCT_of (own := RX6) (G := G_X6_mend) (plainFor_of_name pn_X6) rfl ok_X6_mend (fun meth hm => ⟨fun pc row h => (I_X6_mend_ok pc row h).1, F_X6_ok, List.forall_mem_cons.mpr ⟨⟨yX1_isJoint, cX1_isJoint, 1, (some .boolean), rm_X1_isJoint, ct_X1_isJoint l, ⟨rfl, rfl⟩, ⟨by decide, by decide⟩, by decide, nk_X1_isJoint, ln_X6_81, st_X1_isJoint⟩, List.forall_mem_cons.mpr ⟨⟨yX4_isWhole, cX4_isWhole, 2, (some .boolean), rm_X4_isWhole, ct_X4_isWhole l, ⟨rfl, rfl⟩, ⟨by decide, by decide⟩, by decide, by decide, nk_X4_isWhole, ln_X6_87, im_X4_isWhole, se_X4_isWhole, rfl⟩, List.forall_mem_cons.mpr ⟨⟨yX2_record, cX2_record, 3, none, rm_X2_record, ct_X2_record l, ⟨rfl, rfl⟩, ⟨by decide, by decide⟩, by decide, by decide, nk_X2_record, ln_X6_58, im_X2_record, se_X2_record, rfl⟩, List.forall_mem_cons.mpr ⟨⟨yX4_makeWhole, cX4_makeWhole, 2, none, rm_X4_makeWhole, ct_X4_makeWhole l, ⟨rfl, rfl⟩, ⟨by decide, by decide⟩, by decide, by decide, nk_X4_makeWhole, ln_X6_97, im_X4_makeWhole, se_X4_makeWhole, rfl⟩, List.forall_mem_cons.mpr ⟨⟨yX4_strengthen, cX4_strengthen, 3, none, rm_X4_strengthen, ct_X4_strengthen l, ⟨rfl, rfl⟩, ⟨by decide, by decide⟩, by decide, by decide, nk_X4_strengthen, ln_X6_93, im_X4_strengthen, se_X4_strengthen, rfl⟩, List.forall_mem_cons.mpr ⟨⟨yX4_crackedJoints, cX4_crackedJoints, 3, (some .int), rm_X4_crackedJoints, ct_X4_crackedJoints l, ⟨rfl, rfl⟩, ⟨by decide, by decide⟩, by decide, by decide, nk_X4_crackedJoints, ln_X6_100, im_X4_crackedJoints, se_X4_crackedJoints, rfl⟩, fun _ h => absurd h List.not_mem_nil⟩⟩⟩⟩⟩⟩, (fun _ _ _ h => by cases h), (fun _ _ h => by cases h), ⟨Nat.le_refl _, Nat.le_refl _⟩, (fun h => by cases h), (fun h => absurd h (by decide)), fun _ h => absurd h List.not_mem_nil⟩) rfl rfl rfl (fun pc row h => (I_X6_mend_ok pc row h).2)
def rm_X6_heat : Room := { frames := 3, cells := 0, slots := 0, locals := 86 }
noncomputable def G_X6_heat : mjG := (I_X6_heat, F_X6, [(103, 1, 0, 1, 0, 0, S_X1_isCell), (54, 1, 0, 3, 0, 0, S_X6_isOutside), (58, 0, 1, 2, 0, 0, S_X2_record), (106, 0, 3, 3, 0, 0, S_X4_holdFlame)], (fun pc => bif Nat.beq pc 39 then [1, 2, 3, 4, 5] else bif Nat.beq pc 30 then [16, 17, 18, 19, 20, 21, 22, 23, 24, 25, 26, 27, 28, 29, 30, 31, 32, 33, 34, 35, 36, 37, 1, 2, 3, 4, 5] else []), Y0, (fun _ => none), (fun _ => none), (some .int), 0, 0, false, [])
set_option maxHeartbeats 20000000 in
set_option maxRecDepth 100000 in
theorem ok_X6_heat : mjOK G_X6_heat 3 S_X6_heat := by
  intro M as hP T hT
  obtain ⟨⟨a, t, s, b, ⟨n, f, q⟩, d, z, fo⟩, x, y, rfl, rfl, hx⟩ := inX2 hP
  have fin : (S_X6_heat (xw (a, t, s, b, (n, f, q), d, z, fo)) [.ref 0, .int x, .int y]).2.1 = some (xw (cHeat (a, t, s, b, (n, f, q), d, z, fo) x y).1) := rfl
  have fin2 : (S_X6_heat (xw (a, t, s, b, (n, f, q), d, z, fo)) [.ref 0, .int x, .int y]).2.2 = some (.int (cHeat (a, t, s, b, (n, f, q), d, z, fo) x y).2) := rfl
  rw [cHeat] at fin fin2
  dsimp only [cNow] at fin fin2
  generalize S_X6_heat (xw (a, t, s, b, (n, f, q), d, z, fo)) [.ref 0, .int x, .int y] = SS at hT fin fin2
  have s1 : ∀ h2, ¬ gIsCell x = 0 → gOut y (-200) 200 = 0 → h2 = cRec a (n, f, q) → T 33 [some (.ref 0), some (.int x), some (.int y)] [] (xw (a, t, s, b, h2, d, z, fo)) (0, 0) := by
    intro h2 h0 h1 e1
    rw [if_neg h0, if_pos h1, ← e1] at fin fin2
    refine hT.1 (fun _ => false) 60 _ _ _ _ _ ?_
    exact And.intro ⟨rfl, rfl⟩ ⟨by rw [fin]; rfl, fin2.symm⟩
  refine hT.1 (fun pc => Nat.beq pc 33) 60 _ _ _ _ _ ?_
  refine And.intro ⟨rfl, rfl⟩ (And.intro (fun (h1 : gIsCell x = 0) => ⟨?_, ?_⟩) (fun (h1 : ¬ gIsCell x = 0) => And.intro ⟨rfl, rfl⟩ (And.intro (fun (h2 : gOut y (-200) 200 = 0) => And.intro ⟨⟨rfl, rfl⟩, rec_pre hx.1, hx.2⟩ (rec_w hx.1 (fun h4 e => s1 h4 h1 h2 e))) (fun (h2 : ¬ gOut y (-200) 200 = 0) => ⟨?_, ?_⟩))))
  · rw [fin, if_pos h1]; rfl
  · rw [fin2, if_pos h1]
  · rw [fin, if_neg h1, if_neg h2]; rfl
  · rw [fin2, if_neg h1, if_neg h2]
set_option maxRecDepth 10000 in
theorem ct_X6_heat (l : Launch) : mjCT l yX6_heat cX6_heat 3 (some .int) rm_X6_heat S_X6_heat :=
  mjCT_of (own := RX6) (G := G_X6_heat) (plainFor_of_name pn_X6) rfl ok_X6_heat (fun meth hm => ⟨fun pc row h => (I_X6_heat_ok pc row h).1, F_X6_ok, List.forall_mem_cons.mpr ⟨⟨yX1_isCell, cX1_isCell, 1, (some .boolean), rm_X1_isCell, ct_X1_isCell l, ⟨rfl, rfl⟩, ⟨by decide, by decide⟩, by decide, nk_X1_isCell, ln_X6_103, st_X1_isCell⟩, List.forall_mem_cons.mpr ⟨⟨yX6_isOutside, cX6_isOutside, 3, (some .boolean), rm_X6_isOutside, ct_X6_isOutside l, ⟨rfl, rfl⟩, ⟨by decide, by decide⟩, by decide, nk_X6_isOutside, ln_X6_54, st_X6_isOutside⟩, List.forall_mem_cons.mpr ⟨⟨yX2_record, cX2_record, 3, none, rm_X2_record, ct_X2_record l, ⟨rfl, rfl⟩, ⟨by decide, by decide⟩, by decide, by decide, nk_X2_record, ln_X6_58, im_X2_record, se_X2_record, rfl⟩, List.forall_mem_cons.mpr ⟨⟨yX4_holdFlame, cX4_holdFlame, 5, (some .int), rm_X4_holdFlame, ct_X4_holdFlame l, ⟨rfl, rfl⟩, ⟨by decide, by decide⟩, by decide, by decide, nk_X4_holdFlame, ln_X6_106, im_X4_holdFlame, se_X4_holdFlame, rfl⟩, fun _ h => absurd h List.not_mem_nil⟩⟩⟩⟩, (fun _ _ _ h => by cases h), (fun _ _ h => by cases h), ⟨Nat.le_refl _, Nat.le_refl _⟩, (fun h => by cases h), (fun h => absurd h (by decide)), fun _ h => absurd h List.not_mem_nil⟩) rfl rfl rfl (fun pc row h => (I_X6_heat_ok pc row h).2)
def rm_X6_set : Room := { frames := 3, cells := 0, slots := 0, locals := 86 }
noncomputable def G_X6_set : mjG := (I_X6_set, F_X6, [(54, 1, 0, 3, 0, 0, S_X6_isOutside), (58, 0, 1, 2, 0, 0, S_X2_record)], (fun pc => bif Nat.beq pc 29 then [16, 17, 18, 19, 20, 21, 22, 23, 24, 25, 26, 27, 28, 29, 30, 31, 32, 33, 34, 35, 36, 37, 1, 2, 3, 4, 5] else []), Y0, (fun _ => none), (fun _ => none), (some .int), 0, 0, false, [])
set_option maxHeartbeats 20000000 in
set_option maxRecDepth 100000 in
theorem ok_X6_set : mjOK G_X6_set 4 S_X6_set := by
  intro M as hP T hT
  obtain ⟨⟨a, t, s, b, ⟨n, f, q⟩, d, z, fo⟩, x, y, rfl, rfl, hx⟩ := inX2 hP
  have fin : (S_X6_set (xw (a, t, s, b, (n, f, q), d, z, fo)) [.ref 0, .int x, .int y]).2.1 = some (xw (cSet (a, t, s, b, (n, f, q), d, z, fo) x y).1) := rfl
  have fin2 : (S_X6_set (xw (a, t, s, b, (n, f, q), d, z, fo)) [.ref 0, .int x, .int y]).2.2 = some (.int (cSet (a, t, s, b, (n, f, q), d, z, fo) x y).2) := rfl
  rw [cSet] at fin fin2
  dsimp only [cNow] at fin fin2
  generalize S_X6_set (xw (a, t, s, b, (n, f, q), d, z, fo)) [.ref 0, .int x, .int y] = SS at hT fin fin2
  have s0 : ¬ (gOut x 0 1 = 0 ∧ gOut y 0 20 = 0) → T 19 [some (.ref 0), some (.int x), some (.int y), none] [] (xw (a, t, s, b, (n, f, q), d, z, fo)) (0, 0) := by
    intro h0
    have e : ∀ w : CSt × Int32, (if gOut x 0 1 = 0 then (if gOut y 0 20 = 0 then w else ((a, t, s, b, (n, f, q), d, z, fo), -1)) else ((a, t, s, b, (n, f, q), d, z, fo), -1)) = ((a, t, s, b, (n, f, q), d, z, fo), (-1 : Int32)) := by
      intro w
      by_cases h1 : gOut x 0 1 = 0
      · rw [if_pos h1, if_neg (fun h2 => h0 ⟨h1, h2⟩)]
      · rw [if_neg h1]
    rw [e] at fin fin2
    refine hT.1 (fun _ => false) 60 _ _ _ _ _ ?_
    exact ⟨by rw [fin]; rfl, fin2.symm⟩
  have s1 : ∀ h2, gOut x 0 1 = 0 → gOut y 0 20 = 0 → h2 = cRec a (n, f, q) → T 32 [some (.ref 0), some (.int x), some (.int y), none] [] (xw (a, t, s, b, h2, d, z, fo)) (0, 0) := by
    intro h2 h0 h1 e1
    rw [if_pos h0, if_pos h1, ← e1] at fin fin2
    refine hT.1 (fun _ => false) 60 _ _ _ _ _ ?_
    refine And.intro (fun (h3 : ¬ x = 0) => And.intro (fun _ => ⟨?_, ?_⟩) (fun h4 => absurd h4 h3)) (fun (h3 : x = 0) => And.intro (fun h4 => absurd h3 h4) (fun _ => ⟨?_, ?_⟩))
    · rw [fin, if_neg h3]; rfl
    · rw [fin2, if_neg h3]; rfl
    · rw [fin, if_pos h3]; rfl
    · rw [fin2, if_pos h3]; rfl
  refine hT.1 (fun pc => Nat.beq pc 32 || Nat.beq pc 19) 60 _ _ _ _ _ ?_
  exact And.intro ⟨rfl, rfl⟩ (And.intro (fun (h1 : ¬ gOut x 0 1 = 0) => s0 (fun h => h1 h.1)) (fun (h1 : gOut x 0 1 = 0) => And.intro ⟨rfl, rfl⟩ (And.intro (fun (h2 : gOut y 0 20 = 0) => And.intro ⟨⟨rfl, rfl⟩, rec_pre hx.1, hx.2⟩ (rec_w hx.1 (fun h3 e => s1 h3 h1 h2 e))) (fun (h2 : ¬ gOut y 0 20 = 0) => s0 (fun h => h2 h.2)))))
set_option maxRecDepth 10000 in
theorem ct_X6_set (l : Launch) : mjCT l yX6_set cX6_set 4 (some .int) rm_X6_set S_X6_set :=
  mjCT_of (own := RX6) (G := G_X6_set) (plainFor_of_name pn_X6) rfl ok_X6_set (fun meth hm => ⟨fun pc row h => (I_X6_set_ok pc row h).1, F_X6_ok, List.forall_mem_cons.mpr ⟨⟨yX6_isOutside, cX6_isOutside, 3, (some .boolean), rm_X6_isOutside, ct_X6_isOutside l, ⟨rfl, rfl⟩, ⟨by decide, by decide⟩, by decide, nk_X6_isOutside, ln_X6_54, st_X6_isOutside⟩, List.forall_mem_cons.mpr ⟨⟨yX2_record, cX2_record, 3, none, rm_X2_record, ct_X2_record l, ⟨rfl, rfl⟩, ⟨by decide, by decide⟩, by decide, by decide, nk_X2_record, ln_X6_58, im_X2_record, se_X2_record, rfl⟩, fun _ h => absurd h List.not_mem_nil⟩⟩, (fun _ _ _ h => by cases h), (fun _ _ h => by cases h), ⟨Nat.le_refl _, Nat.le_refl _⟩, (fun h => by cases h), (fun h => absurd h (by decide)), fun _ h => absurd h List.not_mem_nil⟩) rfl rfl rfl (fun pc row h => (I_X6_set_ok pc row h).2)
