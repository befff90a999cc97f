/-! p26: the looks' values by places; the changes keep the bounds -/
theorem isJ_n {j : Nat} (hj : j < 60) : ¬ gIsJoint (nI j) = 0 := by
  unfold gIsJoint
  rw [if_neg (nI_pos (by omega)), if_neg (show ¬ (60 : Int32) ≤ nI j from nI_ge hj (by decide))]
  decide
theorem isC_n {j : Nat} (hj : j < 36) : ¬ gIsCell (nI j) = 0 := by
  unfold gIsCell
  rw [if_neg (nI_pos (by omega)), if_neg (show ¬ (36 : Int32) ≤ nI j from nI_ge hj (by decide))]
  decide
theorem vJ0 {p : PSt} {j : Nat} (hj : j < 60) : vJoint p (nI j) 0 = nI (nF j) := by
  unfold vJoint
  rw [if_neg (isJ_n hj), if_pos rfl]
  exact gFirst_n hj
theorem vJ1 {p : PSt} {j : Nat} (hj : j < 60) : vJoint p (nI j) 1 = nI (nS j) := by
  unfold vJoint
  rw [if_neg (isJ_n hj), if_neg (by decide), if_pos rfl]
  exact gSecond_n hj
theorem vJ2w {p : PSt} {j : Nat} (hj : j < 60) (h : pC p j = 0) : vJoint p (nI j) 2 = 1 := by
  unfold vJoint
  rw [if_neg (isJ_n hj), if_neg (by decide), if_neg (by decide), if_pos rfl, gWh_n hj, if_pos h]
  rfl
theorem vJ2c {p : PSt} {j : Nat} (hj : j < 60) (h : ¬ pC p j = 0) : vJoint p (nI j) 2 = 0 := by
  unfold vJoint
  rw [if_neg (isJ_n hj), if_neg (by decide), if_neg (by decide), if_pos rfl, gWh_n hj, if_neg h]
  rfl
theorem vJ3 {p : PSt} {j : Nat} (hj : j < 60) : vJoint p (nI j) 3 = pS p j := by
  unfold vJoint
  rw [if_neg (isJ_n hj), if_neg (by decide), if_neg (by decide), if_neg (by decide), if_pos rfl]
  exact gJt_n hj
theorem vJ4 {p : PSt} {j : Nat} (hj : j < 60) : vJoint p (nI j) 4 = gStr (pH p) (nI j) := by
  unfold vJoint
  rw [if_neg (isJ_n hj), if_neg (by decide), if_neg (by decide), if_neg (by decide), if_neg (by decide), if_pos rfl]
theorem vJ5w {p : PSt} {j : Nat} (hj : j < 60) (h : pC p j = 0) : vJoint p (nI j) 5 = -4 := by
  unfold vJoint
  rw [if_neg (isJ_n hj), if_neg (by decide), if_neg (by decide), if_neg (by decide), if_neg (by decide), if_neg (by decide), if_pos rfl, gWh_n hj, if_pos h]
  rfl
theorem vJ5c {p : PSt} {j : Nat} (hj : j < 60) (h : ¬ pC p j = 0) : vJoint p (nI j) 5 = pC p j := by
  unfold vJoint
  rw [if_neg (isJ_n hj), if_neg (by decide), if_neg (by decide), if_neg (by decide), if_neg (by decide), if_neg (by decide), if_pos rfl, gWh_n hj, if_neg h, if_pos rfl]
  exact gJt_n hj
theorem vJ6 {p : PSt} {j : Nat} (hj : j < 60) : vJoint p (nI j) 6 = gBeside (pC p) (nI j) := by
  unfold vJoint
  rw [if_neg (isJ_n hj), if_neg (by decide), if_neg (by decide), if_neg (by decide), if_neg (by decide), if_neg (by decide), if_neg (by decide), if_pos rfl]
theorem vC0 {p : PSt} {k : Nat} (hk : k < 36) : vCell p (nI k) 0 = pH p k := by
  unfold vCell
  rw [if_neg (isC_n hk), if_pos rfl]
  exact gAt_n hk
theorem vC1 {p : PSt} {k : Nat} (hk : k < 36) : vCell p (nI k) 1 = goN p k := by
  unfold vCell
  rw [if_neg (isC_n hk), if_neg (by decide), if_pos rfl]
  unfold gName
  rw [if_neg (isC_n hk), nI_clamp (by omega)]
theorem vC2 {p : PSt} {k : Nat} (hk : k < 36) : vCell p (nI k) 2 = gWholeOf (pC p) (nI k) := by
  unfold vCell
  rw [if_neg (isC_n hk), if_neg (by decide), if_neg (by decide), if_pos rfl]
theorem vC3 {p : PSt} {k : Nat} (hk : k < 36) : vCell p (nI k) 3 = gRim (nI k) := by
  unfold vCell
  rw [if_neg (isC_n hk), if_neg (by decide), if_neg (by decide), if_neg (by decide), if_pos rfl]
theorem vC4 {p : PSt} {k : Nat} (hk : k < 36) : vCell p (nI k) 4 = gStrOf (pH p) (pC p) (nI k) := by
  unfold vCell
  rw [if_neg (isC_n hk), if_neg (by decide), if_neg (by decide), if_neg (by decide), if_neg (by decide), if_pos rfl]
theorem vN0 {q : QSt} : vCount q 0 = pFurnace q.1 := rfl
theorem vN1 {q : QSt} : vCount q 1 = pAim q.1 := rfl
theorem vN2 {q : QSt} : vCount q 2 = pRate q.1 := rfl
theorem vN3 {q : QSt} : vCount q 3 = pMinutes q.1 := rfl
theorem vN4 {q : QSt} : vCount q 4 = gSum (pH q.1) := by
  unfold vCount
  rw [if_neg (by decide), if_neg (by decide), if_neg (by decide), if_neg (by decide), if_pos rfl]
theorem vN5 {q : QSt} : vCount q 5 = pLoss q.1 := rfl
theorem vN6 {q : QSt} : vCount q 6 = nI (crN (pC q.1) 60) := by
  unfold vCount
  rw [if_neg (by decide), if_neg (by decide), if_neg (by decide), if_neg (by decide), if_neg (by decide), if_neg (by decide), if_pos rfl]
  exact gCracked_n _
theorem vN16 {q : QSt} : vCount q 16 = nI q.2.2.1.length := rfl
theorem vN15 {q : QSt} : vCount q 15 = nI q.2.2.2.length := rfl
theorem vN14 {q : QSt} : vCount q 14 = pFlames q.1 := rfl
theorem vN12 {q : QSt} : vCount q 12 = pLead q.1 := rfl
theorem vN13 {q : QSt} : vCount q 13 = pRim q.1 := rfl
theorem PI_nrm {k : Nat} {p : PSt} (h : PI k p) : PI k (nrm p) := ⟨⟨h.1.1, gZ_z0, h.1.2.2⟩, h.2⟩
theorem push_len (q : QSt) (h : q.2.2.1.length ≤ 4) : (qPush q).length = if q.2.2.1.length < 4 then q.2.2.1.length + 1 else 4 := by
  unfold qPush
  rw [List.length_take, List.length_cons]
  split <;> omega
theorem QI_now {k : Nat} {q : QSt} {p : PSt} (h : QI k q) (hp : PI (k + 1) p) : QI (k + 1) (qNow q p) := by
  refine ⟨PI_nrm hp, fun p hp => PI_mono (h.2.1 p hp), fun p hp => ?_, ?_⟩
  · have := List.mem_of_mem_take (show p ∈ (q.1 :: q.2.2.1).take 4 from hp)
    rcases List.mem_cons.mp this with e | e
    · rw [e]
      exact PI_mono h.1
    · exact PI_mono (h.2.2.1 p e)
  · show (qPush q).length ≤ 4
    rw [push_len q h.2.2.2]
    split <;> omega
theorem bK_1 (k : Nat) : 1000 ≤ bK k := by
  unfold bK
  omega
theorem PI_new {k : Nat} {p : PSt} {x : Int32} (h : PI k p) (hx : 0 ≤ x.toInt ∧ x.toInt ≤ 1000) : PI (k + 1) (pNew p x) := by
  have h1 := pG_new (bK_1 (k + 1)) (pG_mono (bK_le k) h.1) hx
  obtain ⟨hh, g, s, c, fu, ai, ra, le, ri, mi, lo, fl⟩ := p
  refine ⟨h1, ⟨by show (0 : Int) ≤ (0 : Int32).toInt; decide, by show (0 : Int32).toInt ≤ _; rw [show (0 : Int32).toInt = 0 from rfl]; omega⟩, fun j hj => ⟨?_, ?_⟩⟩
  · show 1 ≤ (fillA 60 s 100 j).toInt ∧ (fillA 60 s 100 j).toInt ≤ 500
    rw [show fillA 60 s 100 j = 100 from if_pos hj]
    decide
  · show 0 ≤ (fillA 60 c 0 j).toInt ∧ (fillA 60 c 0 j).toInt ≤ (0 : Int32).toInt
    rw [show fillA 60 c 0 j = 0 from if_pos hj]
    decide
theorem PI_aim {k : Nat} {p : PSt} {x y : Int32} (h : PI k p) (hx : 0 ≤ x.toInt ∧ x.toInt ≤ 1000) (hy : 1 ≤ y.toInt ∧ y.toInt ≤ 100) : PI (k + 1) (pSetAim p x y) := by
  have h0 := PI_mono h
  exact ⟨pG_aim h0.1 hx hy, h0.2⟩
theorem PI_lead {k : Nat} {p : PSt} {x : Int32} (h : PI k p) (hx : 0 ≤ x.toInt ∧ x.toInt ≤ 20) : PI (k + 1) (pSetLead p x) := by
  have h0 := PI_mono h
  obtain ⟨hh, g, s, c, fu, ai, ra, le, ri, mi, lo, fl⟩ := p
  obtain ⟨⟨a1, a2, a3, a4, a5, a6, a7, a8⟩, hr⟩ := h0
  exact ⟨⟨a1, a2, a3, a4, a5, a6, hx, a8⟩, hr⟩
theorem PI_rim {k : Nat} {p : PSt} {x : Int32} (h : PI k p) (hx : 0 ≤ x.toInt ∧ x.toInt ≤ 20) : PI (k + 1) (pSetRim p x) := by
  have h0 := PI_mono h
  obtain ⟨hh, g, s, c, fu, ai, ra, le, ri, mi, lo, fl⟩ := p
  obtain ⟨⟨a1, a2, a3, a4, a5, a6, a7, a8⟩, hr⟩ := h0
  exact ⟨⟨a1, a2, a3, a4, a5, a6, a7, hx⟩, hr⟩
theorem PI_scr {k j : Nat} {p : PSt} {x : Int32} (h : PI k p) (hj : j < 60) (hx : 1 ≤ x.toInt ∧ x.toInt ≤ 500) : PI k (pScr p (nI j) x) := by
  have h1 := pG_scr (x := x) hj h.1
  obtain ⟨hh, g, s, c, r⟩ := p
  refine ⟨h1, h.2.1, fun i hi => ⟨?_, (h.2.2 i hi).2⟩⟩
  show 1 ≤ (gPut s (nI j) x i).toInt ∧ (gPut s (nI j) x i).toInt ≤ 500
  rw [gPut_n hj]
  unfold upd
  split
  · exact hx
  · exact (h.2.2 i hi).1
theorem PI_who {k j : Nat} {p : PSt} (h : PI k p) (hj : j < 60) : PI k (pWho p (nI j)) := by
  have h1 := pG_who hj h.1
  obtain ⟨hh, g, s, c, r⟩ := p
  refine ⟨h1, h.2.1, fun i hi => ⟨(h.2.2 i hi).1, ?_⟩⟩
  show 0 ≤ (gPut c (nI j) 0 i).toInt ∧ (gPut c (nI j) 0 i).toInt ≤ _
  rw [gPut_n hj]
  unfold upd
  split
  · exact ⟨by decide, h.2.1.1⟩
  · exact (h.2.2 i hi).2
theorem flame_v {h y : Int32} (hh : 0 ≤ h.toInt ∧ h.toInt ≤ 200000) (hy : -200 ≤ y.toInt ∧ y.toInt ≤ 200) : (h + y).toInt = h.toInt + y.toInt ∧ (gMax 0 (h + y)).toInt = max 0 (h.toInt + y.toInt) := by
  have e : (h + y).toInt = h.toInt + y.toInt := ti_add (by omega) (by omega)
  refine ⟨e, ?_⟩
  have e0 : (0 : Int32).toInt = 0 := rfl
  unfold gMax
  by_cases w : (0 : Int32) < h + y
  · rw [if_pos w]
    rw [Int32.lt_iff_toInt_lt, e, e0] at w
    omega
  · rw [if_neg w]
    rw [Int32.lt_iff_toInt_lt, e, e0] at w
    omega
theorem PI_flame {k i : Nat} {p : PSt} {y : Int32} (hk : k ≤ 100) (h : PI k p) (hi : i < 36) (hy : -200 ≤ y.toInt ∧ y.toInt ≤ 200) : PI (k + 1) (pFlame p (nI i) y) := by
  have h0 := PI_mono h
  have ht := flame_tOk (x := y) hi (pG_tOk h.1)
  obtain ⟨hh, g, s, c, fu, ai, ra, le, ri, mi, lo, fl⟩ := p
  obtain ⟨⟨a1, a2, a3, a4⟩, hr⟩ := h0
  refine ⟨⟨ht.1, a2, fun j hj => ?_, a4⟩, hr⟩
  have e0 : (pFlame (hh, g, s, c, fu, ai, ra, le, ri, mi, lo, fl) (nI i) y).1 = upd hh i (gMax 0 (hh i + y)) := by
    show (if gIsCell (nI i) = 0 then hh else upd hh (nI i).toNatClampNeg (gMax 0 (gAt 36 hh (nI i) + y))) = _
    rw [if_neg (isC_n hi), nI_clamp (by omega), gAt_n hi]
  rw [e0]
  have hb : 0 ≤ (hh i).toInt ∧ (hh i).toInt ≤ bK k := h.1.2.2.1 i hi
  have hbk : bK (k + 1) = bK k + 200 := by
    unfold bK
    omega
  have hb2 : bK k ≤ 200000 := (bK_ok (by omega)).2
  unfold upd
  split
  · rw [(flame_v (by omega) hy).2]
    omega
  · exact a3 j hj
theorem PI_pass {k n : Nat} {p : PSt} (hk : k ≤ 100) (h : PI k p) (hn : n ≤ 2000) : PI (k + 1) (pPass p n).1 := by
  have := (pass_MI (bK_ok (by omega)) h n (by omega)).1
  exact MI_mono (by omega) (MI_B (bK_le k) this)
/-- what an act does to what is behind: nothing, or a change, and what is told in text -/
def stepQ (q q' : QSt) : Prop := q'.2.1 = q.2.1 ∧ ((q'.1 = q.1 ∧ q'.2.2.1 = q.2.2.1) ∨ q'.2.2.1 = qPush q) ∧ ∀ k : Nat, k ≤ 99 → QI k q → QI (k + 1) q'
theorem step_same {q : QSt} : stepQ q q := ⟨rfl, Or.inl ⟨rfl, rfl⟩, fun _ _ h => QI_mono h⟩
theorem step_now {q : QSt} {p : PSt} (h : ∀ k : Nat, k ≤ 99 → QI k q → PI (k + 1) p) : stepQ q (qNow q p) := ⟨rfl, Or.inr rfl, fun k hk hq => QI_now hq (h k hk hq)⟩
