/-! p26: the looks, by what is behind -/
noncomputable def goN (p : PSt) : Nat → Int32 := (zGo (pC p) (z0, z0, 0) 36).1.1
noncomputable def goC (p : PSt) : Int32 := (zGo (pC p) (z0, z0, 0) 36).2
theorem goN_nrm (p : PSt) : goN (nrm p) = goN p := by
  unfold goN
  rw [show pC (nrm p) = pC p from rfl]
theorem goC_nrm (p : PSt) : goC (nrm p) = goC p := by
  unfold goC
  rw [show pC (nrm p) = pC p from rfl]
theorem goN_is (p : PSt) : isName (pC p) (goN p) := (go_ok (pC p) _).1
theorem goC_is (p : PSt) : goC p = nI (cntR (goN p) 36) := (go_ok (pC p) _).2
theorem kGo_N (p : PSt) (z : ZSt) : ∀ k, k < 36 → (kGo p z).1.1 k = goN p k := by
  intro k hk
  rw [kGo, kseal_eq]
  exact isName_u (go_ok (pC p) z).1 (goN_is p) hk
theorem kGo_C (p : PSt) (z : ZSt) : (kGo p z).2 = goC p := by
  rw [kGo, kseal_eq, (go_ok (pC p) z).2, goC_is]
  exact congrArg nI (cntR_congr 36 (fun k hk => isName_u (go_ok (pC p) z).1 (goN_is p) hk))
theorem kJo_C (p : PSt) (z : ZSt) : (kJo p z).2 = goC p := by
  rw [kJo, kseal_eq, (join_ok (pC p) z.1).2, goC_is]
  exact congrArg nI (cntR_congr 36 (fun k hk => isName_u (join_ok (pC p) z.1).1 (goN_is p) hk))
theorem gName_c {f g : Nat → Int32} (h : ∀ k, k < 36 → f k = g k) (x : Int32) : gName f x = gName g x := by
  unfold gName
  by_cases hx : gIsCell x = 0
  · rw [if_pos hx, if_pos hx]
  · rw [if_neg hx, if_neg hx]
    obtain ⟨i, hi, rfl⟩ := cell_n hx
    rw [nI_clamp (by omega)]
    exact h i hi
theorem gSizeMax_c {f g : Nat → Int32} (h : ∀ k, k < 36 → f k = g k) : gSizeMax f = gSizeMax g := by
  refine nf_congr 36 (fun i hi b => ?_)
  rw [gSize_congr h]
theorem mSum_c {f g h : Nat → Int32} {x : Int32} (e : ∀ k, k < 36 → f k = g k) : ∀ n, n ≤ 36 → mSum f h x n = mSum g h x n := by
  intro n hn
  exact nf_congr n (fun i hi b => by rw [e i (by omega)])
noncomputable def vCell (p : PSt) (k w : Int32) : Int32 := if gIsCell k = 0 then -1 else if w = 0 then gAt 36 (pH p) k else if w = 1 then gName (goN p) k else if w = 2 then gWholeOf (pC p) k else if w = 3 then gRim k else if w = 4 then gStrOf (pH p) (pC p) k else -1
def vJoint (p : PSt) (j w : Int32) : Int32 := if gIsJoint j = 0 then -1 else if w = 0 then gFirst j else if w = 1 then gSecond j else if w = 2 then (if gWh (pC p) j = 0 then 0 else 1) else if w = 3 then gJt (pS p) j else if w = 4 then gStr (pH p) j else if w = 5 then (if gWh (pC p) j = 0 then gJt (pC p) j else -4) else if w = 6 then gBeside (pC p) j else -1
def vStrained (p : PSt) (x : Int32) : Int32 := if 0 ≤ x then gFind (pH p) (pS p) (pC p) x 0 60 else -1
noncomputable def vPieces (p : PSt) (x : Int32) : Int32 := if x = 0 then goC p else if x = 1 then goC p else -1
noncomputable def vCount (q : QSt) (x : Int32) : Int32 := if x = 0 then pFurnace q.1 else if x = 1 then pAim q.1 else if x = 2 then pRate q.1 else if x = 3 then pMinutes q.1 else if x = 4 then gSum (pH q.1) else if x = 5 then pLoss q.1 else if x = 6 then gCracked (pC q.1) else if x = 7 then gHot (pH q.1) else if x = 8 then gCold (pH q.1) else if x = 9 then gStrMax (pH q.1) (pC q.1) else if x = 10 then gLeastMar (pH q.1) (pS q.1) (pC q.1) else if x = 11 then gSizeMax (goN q.1) else if x = 12 then pLead q.1 else if x = 13 then pRim q.1 else if x = 14 then pFlames q.1 else if x = 15 then nI q.2.2.2.length else if x = 16 then nI q.2.2.1.length else -1
noncomputable def vMean (p : PSt) (k : Int32) : UInt64 := if gSize (goN p) (gName (goN p) k) = 0 then 13830554455654793216 else FP.ddiv (mSum (goN p) (pH p) (gName (goN p) k) 36) (FP.i2d (gSize (goN p) (gName (goN p) k)))
/-- a look: nothing of what is behind is changed -/
def LQ {β : Type} (V : CSt × β) (q : QSt) (v : β) : Prop := cOk V.1 ∧ qOf V.1 = q ∧ V.2 = v
theorem lq_parts {c : CSt} (hc : cOk c) (z : ZSt) : cOk (cParts c z) ∧ qOf (cParts c z) = qOf c := by
  obtain ⟨a, t, s, b, h, d, z', fo⟩ := c
  exact ⟨hc, rfl⟩
theorem lq_cell {c : CSt} (k w : Int32) (hc : cOk c) : LQ (cCell c k w) (qOf c) (vCell (qOf c).1 k w) := by
  have hp := lq_parts hc (kGo c.1 c.2.2.2.2.2.2.1).1
  have e1 : (qOf c).1 = nrm c.1 := rfl
  rw [e1]
  unfold cCell vCell
  by_cases h0 : gIsCell k = 0
  · rw [if_pos h0, if_pos h0]; exact ⟨hc, rfl, rfl⟩
  rw [if_neg h0, if_neg h0]
  by_cases w0 : w = 0
  · rw [if_pos w0, if_pos w0]; exact ⟨hc, rfl, rfl⟩
  rw [if_neg w0, if_neg w0]
  by_cases w1 : w = 1
  · rw [if_pos w1, if_pos w1]
    refine ⟨hp.1, hp.2, ?_⟩
    rw [goN_nrm]
    exact gName_c (kGo_N c.1 _) k
  rw [if_neg w1, if_neg w1]
  by_cases w2 : w = 2
  · rw [if_pos w2, if_pos w2, kseal_eq]; exact ⟨hc, rfl, rfl⟩
  rw [if_neg w2, if_neg w2]
  by_cases w3 : w = 3
  · rw [if_pos w3, if_pos w3]; exact ⟨hc, rfl, rfl⟩
  rw [if_neg w3, if_neg w3]
  by_cases w4 : w = 4
  · rw [if_pos w4, if_pos w4, kseal_eq]; exact ⟨hc, rfl, rfl⟩
  rw [if_neg w4, if_neg w4]
  exact ⟨hc, rfl, rfl⟩
theorem lq_joint {c : CSt} (j w : Int32) (hc : cOk c) : LQ (cJoint c j w) (qOf c) (vJoint (qOf c).1 j w) := by
  have e1 : (qOf c).1 = nrm c.1 := rfl
  rw [e1]
  unfold cJoint vJoint
  by_cases h0 : gIsJoint j = 0
  · rw [if_pos h0, if_pos h0]; exact ⟨hc, rfl, rfl⟩
  rw [if_neg h0, if_neg h0]
  by_cases w0 : w = 0
  · rw [if_pos w0, if_pos w0]; exact ⟨hc, rfl, rfl⟩
  rw [if_neg w0, if_neg w0]
  by_cases w1 : w = 1
  · rw [if_pos w1, if_pos w1]; exact ⟨hc, rfl, rfl⟩
  rw [if_neg w1, if_neg w1]
  by_cases w2 : w = 2
  · rw [if_pos w2, if_pos w2]; exact ⟨hc, rfl, rfl⟩
  rw [if_neg w2, if_neg w2]
  by_cases w3 : w = 3
  · rw [if_pos w3, if_pos w3]; exact ⟨hc, rfl, rfl⟩
  rw [if_neg w3, if_neg w3]
  by_cases w4 : w = 4
  · rw [if_pos w4, if_pos w4]; exact ⟨hc, rfl, rfl⟩
  rw [if_neg w4, if_neg w4]
  by_cases w5 : w = 5
  · rw [if_pos w5, if_pos w5]; exact ⟨hc, rfl, rfl⟩
  rw [if_neg w5, if_neg w5]
  by_cases w6 : w = 6
  · rw [if_pos w6, if_pos w6, kseal_eq]; exact ⟨hc, rfl, rfl⟩
  rw [if_neg w6, if_neg w6]
  exact ⟨hc, rfl, rfl⟩
theorem lq_strained {c : CSt} (x : Int32) (hc : cOk c) : LQ (cStrained c x) (qOf c) (vStrained (qOf c).1 x) := by
  refine ⟨hc, rfl, ?_⟩
  show (if 0 ≤ x then kseal (gFind (pH c.1) (pS c.1) (pC c.1) x 0 60) else -1) = _
  rw [kseal_eq]
  rfl
theorem lq_pieces {c : CSt} (x : Int32) (hc : cOk c) : LQ (cPieces c x) (qOf c) (vPieces (qOf c).1 x) := by
  have hp := lq_parts hc (kGo c.1 c.2.2.2.2.2.2.1).1
  have hp2 := lq_parts hc ((kJo c.1 c.2.2.2.2.2.2.1).1, c.2.2.2.2.2.2.1.2)
  have e1 : (qOf c).1 = nrm c.1 := rfl
  rw [e1]
  unfold cPieces vPieces
  by_cases w0 : x = 0
  · rw [if_pos w0, if_pos w0]; exact ⟨hp.1, hp.2, (kGo_C c.1 _).trans (goC_nrm _).symm⟩
  rw [if_neg w0, if_neg w0]
  by_cases w1 : x = 1
  · rw [if_pos w1, if_pos w1]; exact ⟨hp2.1, hp2.2, (kJo_C c.1 _).trans (goC_nrm _).symm⟩
  rw [if_neg w1, if_neg w1]
  exact ⟨hc, rfl, rfl⟩
theorem lq_count {c : CSt} (x : Int32) (hc : cOk c) : LQ (cCount c x) (qOf c) (vCount (qOf c) x) := by
  have hp := lq_parts hc (kGo c.1 c.2.2.2.2.2.2.1).1
  have hn : c.2.2.2.2.1.1 = nI (qOf c).2.2.1.length := by
    obtain ⟨_, _, _, ⟨_, _, n, hn, hz⟩, _⟩ := hc
    show c.2.2.2.2.1.1 = nI (qHist (zDn c.2.2.2.2.1)).length
    rw [qHist_len, hz, nI_clamp (by omega)]
    exact hz
  have hl : dLen c.2.2.2.2.2.1 = nI (qOf c).2.2.2.length := by
    obtain ⟨_, _, _, _, ⟨n, hn, hz⟩, _⟩ := hc
    show _ = nI (qText c.2.2.2.2.2.1).length
    rw [text_len, hz, nI_clamp (by omega)]
  have e1 : (qOf c).1 = nrm c.1 := rfl
  unfold cCount vCount
  rw [e1, show pH (nrm c.1) = pH c.1 from rfl, show pS (nrm c.1) = pS c.1 from rfl, show pC (nrm c.1) = pC c.1 from rfl]
  by_cases w0 : x = 0
  · rw [if_pos w0, if_pos w0]; exact ⟨hc, rfl, rfl⟩
  rw [if_neg w0, if_neg w0]
  by_cases w1 : x = 1
  · rw [if_pos w1, if_pos w1]; exact ⟨hc, rfl, rfl⟩
  rw [if_neg w1, if_neg w1]
  by_cases w2 : x = 2
  · rw [if_pos w2, if_pos w2]; exact ⟨hc, rfl, rfl⟩
  rw [if_neg w2, if_neg w2]
  by_cases w3 : x = 3
  · rw [if_pos w3, if_pos w3]; exact ⟨hc, rfl, rfl⟩
  rw [if_neg w3, if_neg w3]
  by_cases w4 : x = 4
  · rw [if_pos w4, if_pos w4, kseal_eq]; exact ⟨hc, rfl, rfl⟩
  rw [if_neg w4, if_neg w4]
  by_cases w5 : x = 5
  · rw [if_pos w5, if_pos w5]; exact ⟨hc, rfl, rfl⟩
  rw [if_neg w5, if_neg w5]
  by_cases w6 : x = 6
  · rw [if_pos w6, if_pos w6, kseal_eq]; exact ⟨hc, rfl, rfl⟩
  rw [if_neg w6, if_neg w6]
  by_cases w7 : x = 7
  · rw [if_pos w7, if_pos w7, kseal_eq]; exact ⟨hc, rfl, rfl⟩
  rw [if_neg w7, if_neg w7]
  by_cases w8 : x = 8
  · rw [if_pos w8, if_pos w8, kseal_eq]
    refine ⟨hc, rfl, ?_⟩
    generalize gCold (pH c.1) = gg
    rfl
  rw [if_neg w8, if_neg w8]
  by_cases w9 : x = 9
  · rw [if_pos w9, if_pos w9, kseal_eq]; exact ⟨hc, rfl, rfl⟩
  rw [if_neg w9, if_neg w9]
  by_cases w10 : x = 10
  · rw [if_pos w10, if_pos w10, kseal_eq]; exact ⟨hc, rfl, rfl⟩
  rw [if_neg w10, if_neg w10]
  by_cases w11 : x = 11
  · rw [if_pos w11, if_pos w11, kseal_eq]
    refine ⟨hp.1, hp.2, ?_⟩
    rw [goN_nrm]
    exact gSizeMax_c (kGo_N c.1 _)
  rw [if_neg w11, if_neg w11]
  by_cases w12 : x = 12
  · rw [if_pos w12, if_pos w12]; exact ⟨hc, rfl, rfl⟩
  rw [if_neg w12, if_neg w12]
  by_cases w13 : x = 13
  · rw [if_pos w13, if_pos w13]; exact ⟨hc, rfl, rfl⟩
  rw [if_neg w13, if_neg w13]
  by_cases w14 : x = 14
  · rw [if_pos w14, if_pos w14]; exact ⟨hc, rfl, rfl⟩
  rw [if_neg w14, if_neg w14]
  by_cases w15 : x = 15
  · rw [if_pos w15, if_pos w15]; exact ⟨hc, rfl, hl⟩
  rw [if_neg w15, if_neg w15]
  by_cases w16 : x = 16
  · rw [if_pos w16, if_pos w16]; exact ⟨hc, rfl, hn⟩
  rw [if_neg w16, if_neg w16]
  exact ⟨hc, rfl, rfl⟩
theorem lq_mean {c : CSt} (x : Int32) (hc : cOk c) (hx : ¬ gIsCell x = 0) : LQ (cMean c x) (qOf c) (vMean (qOf c).1 x) := by
  have hp := lq_parts hc (kGo c.1 c.2.2.2.2.2.2.1).1
  have e1 : (qOf c).1 = nrm c.1 := rfl
  have hN := kGo_N c.1 c.2.2.2.2.2.2.1
  rw [e1]
  unfold cMean
  rw [if_neg hx]
  refine ⟨hp.1, hp.2, ?_⟩
  unfold cMeanV vMean
  rw [kseal_eq, gName_c hN, gSize_congr hN, mSum_c hN 36 (Nat.le_refl _), goN_nrm, show pH (nrm c.1) = pH c.1 from rfl]
/-! what would be -/
theorem flow_u {p q : PSt} (hp : tOk p) (hq : tOk q) (e : nrm p = nrm q) : pFlow p = pFlow q := by
  rw [flow_nrm hp.2, flow_nrm hq.2, e]
theorem min_u {p q : PSt} (hp : tOk p) (hq : tOk q) (e : nrm p = nrm q) : pMin p = pMin q := by
  rw [min_nrm hp.2, min_nrm hq.2, e]
theorem look_u {p q : PSt} (hp : tOk p) (hq : tOk q) (e : nrm p = nrm q) : ∀ n, tOk (pLook p n).1 ∧ tOk (pLook q n).1 ∧ nrm (pLook p n).1 = nrm (pLook q n).1 ∧ (pLook p n).2 = (pLook q n).2 := by
  intro n
  induction n with
  | zero => exact ⟨hp, hq, e, rfl⟩
  | succ n ih =>
    obtain ⟨i1, i2, i3, i4⟩ := ih
    rw [pLook_s, pLook_s, ← min_u i1 i2 i3, ← flow_u i1 i2 i3, ← i4]
    exact ⟨min_tOk i1, min_tOk i1, rfl, rfl⟩
theorem stay_u : ∀ n {p q : PSt}, tOk p → tOk q → nrm p = nrm q → tOk (pStay p n).1 ∧ (pStay p n).2 = (pStay q n).2 := by
  intro n
  induction n with
  | zero => exact fun hp hq e => ⟨hp, rfl⟩
  | succ n ih =>
    intro p q hp hq e
    unfold pStay
    rw [← min_u hp hq e]
    by_cases h : (pMin p).2 = 0
    · rw [if_pos h]
      exact ih (min_tOk hp) (min_tOk hp) rfl
    · rw [if_neg h]
      exact ⟨min_tOk hp, rfl⟩
noncomputable def vIf (p : PSt) (m w : Int32) : Int32 := if gOut m 1 99 = 0 then (if gOut w 0 3 = 0 then (if w = 0 then (pLook p m.toNatClampNeg).2.1 else if w = 1 then (pLook p m.toNatClampNeg).2.2.1 else if w = 2 then (pLook p m.toNatClampNeg).2.2.2 else pLoss (pLook p m.toNatClampNeg).1) else -1) else -1
noncomputable def gFast (a : PSt) (x m : Int32) : Nat → Int32
  | 0 => -4
  | r + 1 => if (pStay (pSetAim a x (nI (r + 1))) m.toNatClampNeg).2 = 0 then gFast a x m r else nI (r + 1)
noncomputable def vFast (p : PSt) (x m : Int32) : Int32 := if gOut x 0 1000 = 0 then (if gOut m 1 99 = 0 then gFast p x m 100 else -1) else -1
noncomputable def gEven (x : Int32) : Nat → Nat → PSt → Int32
  | 0, _, _ => -4
  | k + 1, i, t => if x < gStrMax (pH t) (pC t) then gEven x k (i + 1) (pMin t).1 else nI i
noncomputable def vEven (p : PSt) (x : Int32) : Int32 := if gOut x 0 500 = 0 then gEven x 100 0 p else -1
theorem lq_if {c : CSt} (m w : Int32) (hc : cOk c) : LQ (cIf c m w) (qOf c) (vIf (qOf c).1 m w) := by
  obtain ⟨a, t, s, b, h, d, z, fo⟩ := c
  have ha : tOk a := hc.1
  have ht : tOk t := hc.2.1
  unfold cIf vIf
  by_cases h1 : gOut m 1 99 = 0
  · rw [if_pos h1, if_pos h1]
    by_cases h2 : gOut w 0 3 = 0
    · rw [if_pos h2, if_pos h2, kLook, kseal_eq]
      obtain ⟨l1, l2, l3, l4⟩ := look_u (copy_tOk ht ha) (nrm_tOk ha) (nrm_copy ht.1 ha.1) m.toNatClampNeg
      have k := aq_same (z' := z) (fo' := (pLook (pCopy t a) m.toNatClampNeg).2) hc l1
      refine ⟨k.1, k.2, ?_⟩
      show (if w = 0 then (pLook (pCopy t a) m.toNatClampNeg).2.1 else if w = 1 then (pLook (pCopy t a) m.toNatClampNeg).2.2.1 else if w = 2 then (pLook (pCopy t a) m.toNatClampNeg).2.2.2 else pLoss (pLook (pCopy t a) m.toNatClampNeg).1) = (if w = 0 then (pLook (nrm a) m.toNatClampNeg).2.1 else if w = 1 then (pLook (nrm a) m.toNatClampNeg).2.2.1 else if w = 2 then (pLook (nrm a) m.toNatClampNeg).2.2.2 else pLoss (pLook (nrm a) m.toNatClampNeg).1)
      have l5 : pLoss (pLook (pCopy t a) m.toNatClampNeg).1 = pLoss (pLook (nrm a) m.toNatClampNeg).1 := by
        have kk : ∀ z : PSt, pLoss z = pLoss (nrm z) := fun _ => rfl
        exact (kk _).trans ((congrArg pLoss l3).trans (kk _).symm)
      rw [l4, l5]
    · rw [if_neg h2, if_neg h2]
      exact ⟨hc, rfl, rfl⟩
  · rw [if_neg h1, if_neg h1]
    exact ⟨hc, rfl, rfl⟩
theorem aim_tOk {p : PSt} {x y : Int32} (h : tOk p) : tOk (pSetAim p x y) := by
  obtain ⟨h1, g, s, c, fu, ai, ra, r⟩ := p
  exact h
theorem aim_nrm {p q : PSt} {x y : Int32} (e : nrm p = nrm q) : nrm (pSetAim p x y) = nrm (pSetAim q x y) := by
  have k : ∀ p : PSt, nrm (pSetAim p x y) = nrm (pSetAim (nrm p) x y) := fun p => rfl
  rw [k, k q, e]
theorem fast_u {a : PSt} (ha : tOk a) (x m : Int32) : ∀ r (t : PSt), tOk t → tOk (fFast a x m r t).1 ∧ (fFast a x m r t).2 = gFast (nrm a) x m r := by
  intro r
  induction r with
  | zero => exact fun t ht => ⟨ht, rfl⟩
  | succ r ih =>
    intro t ht
    unfold fFast gFast
    rw [kStay, kseal_eq]
    obtain ⟨s1, s2⟩ := stay_u m.toNatClampNeg (p := pSetAim (pCopy t a) x (nI (r + 1))) (q := pSetAim (nrm a) x (nI (r + 1))) (aim_tOk (copy_tOk ht ha)) (aim_tOk (nrm_tOk ha)) (aim_nrm (nrm_copy ht.1 ha.1))
    rw [s2]
    by_cases h : (pStay (pSetAim (nrm a) x (nI (r + 1))) m.toNatClampNeg).2 = 0
    · rw [if_pos h, if_pos h]
      exact ih _ s1
    · rw [if_neg h, if_neg h]
      exact ⟨s1, rfl⟩
theorem lq_fast {c : CSt} (x m : Int32) (hc : cOk c) : LQ (cFast c x m) (qOf c) (vFast (qOf c).1 x m) := by
  obtain ⟨a, t, s, b, h, d, z, fo⟩ := c
  have ha : tOk a := hc.1
  have ht : tOk t := hc.2.1
  unfold cFast vFast
  by_cases h1 : gOut x 0 1000 = 0
  · rw [if_pos h1, if_pos h1]
    by_cases h2 : gOut m 1 99 = 0
    · rw [if_pos h2, if_pos h2, kFast, kseal_eq]
      obtain ⟨l1, l2⟩ := fast_u ha x m 100 t ht
      have k := aq_same (z' := z) (fo' := fo) hc l1
      exact ⟨k.1, k.2, l2⟩
    · rw [if_neg h2, if_neg h2]
      exact ⟨hc, rfl, rfl⟩
  · rw [if_neg h1, if_neg h1]
    exact ⟨hc, rfl, rfl⟩
theorem even_u (x : Int32) : ∀ k i {p q : PSt}, tOk p → tOk q → nrm p = nrm q → tOk (fEven x k i p).1 ∧ (fEven x k i p).2 = gEven x k i q := by
  intro k
  induction k with
  | zero => exact fun i p q hp hq e => ⟨hp, rfl⟩
  | succ k ih =>
    intro i p q hp hq e
    unfold fEven gEven
    have e1 : gStrMax (pH p) (pC p) = gStrMax (pH q) (pC q) := by
      have k : ∀ p : PSt, gStrMax (pH p) (pC p) = gStrMax (pH (nrm p)) (pC (nrm p)) := fun p => rfl
      rw [k, k q, e]
    rw [kseal_eq, e1]
    by_cases h : x < gStrMax (pH q) (pC q)
    · rw [if_pos h, if_pos h, kseal_eq]
      have e2 : (pPass p (1 : Int32).toNatClampNeg).1 = (pMin p).1 := rfl
      rw [e2, ← min_u hp hq e]
      exact ih (i + 1) (min_tOk hp) (min_tOk hp) rfl
    · rw [if_neg h, if_neg h]
      exact ⟨hp, rfl⟩
theorem lq_even {c : CSt} (x : Int32) (hc : cOk c) : LQ (cEven c x) (qOf c) (vEven (qOf c).1 x) := by
  obtain ⟨a, t, s, b, h, d, z, fo⟩ := c
  have ha : tOk a := hc.1
  have ht : tOk t := hc.2.1
  unfold cEven vEven
  by_cases h1 : gOut x 0 500 = 0
  · rw [if_pos h1, if_pos h1, kEven, kseal_eq]
    obtain ⟨l1, l2⟩ := even_u x 100 0 (copy_tOk ht ha) (nrm_tOk ha) (nrm_copy ht.1 ha.1)
    have k := aq_same (z' := z) (fo' := fo) hc l1
    exact ⟨k.1, k.2, l2⟩
  · rw [if_neg h1, if_neg h1]
    exact ⟨hc, rfl, rfl⟩
