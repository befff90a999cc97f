/-! p26: the calls that change, by what is behind -/
theorem joint_n {j : Int32} (h : ¬ gIsJoint j = 0) : ∃ i : Nat, i < 60 ∧ j = nI i := by
  unfold gIsJoint at h
  by_cases h1 : j < 0
  · rw [if_pos h1] at h
    exact absurd rfl h
  · by_cases h2 : (60 : Int32) ≤ j
    · rw [if_neg h1, if_pos h2] at h
      exact absurd rfl h
    · obtain ⟨i, hi, rfl⟩ := nI_of h1
      refine ⟨i, ?_, rfl⟩
      rcases Nat.lt_or_ge i 60 with w | w
      · exact w
      · exact absurd (nI_le w hi) h2
theorem cell_n {j : Int32} (h : ¬ gIsCell j = 0) : ∃ i : Nat, i < 36 ∧ j = nI i := by
  unfold gIsCell at h
  by_cases h1 : j < 0
  · rw [if_pos h1] at h
    exact absurd rfl h
  · by_cases h2 : (36 : Int32) ≤ j
    · rw [if_neg h1, if_pos h2] at h
      exact absurd rfl h
    · obtain ⟨i, hi, rfl⟩ := nI_of h1
      refine ⟨i, ?_, rfl⟩
      rcases Nat.lt_or_ge i 36 with w | w
      · exact w
      · exact absurd (nI_le w hi) h2
theorem new_tOk {a : PSt} {x : Int32} (h : tOk a) : tOk (pNew a x) := by
  obtain ⟨h1, g, s, c, fu, ai, ra, le, ri, mi, lo, fl⟩ := a
  obtain ⟨z, hg⟩ := h
  exact ⟨⟨fun k hk => (if_neg (by omega)).trans (z.1 k hk), fun k hk => (if_neg (by omega)).trans (z.2.1 k hk), fun k hk => (if_neg (by omega)).trans (z.2.2 k hk)⟩, hg⟩
theorem scr_tOk {a : PSt} {i : Nat} {x : Int32} (hi : i < 60) (h : tOk a) : tOk (pScr a (nI i) x) := by
  obtain ⟨h1, g, s, c, r⟩ := a
  obtain ⟨z, hg⟩ := h
  refine ⟨⟨z.1, ?_, z.2.2⟩, hg⟩
  show ∀ k : Nat, 60 ≤ k → gPut s (nI i) x k = 0
  rw [gPut_n hi]
  exact upd_z z.2.1 hi
theorem who_tOk {a : PSt} {i : Nat} (hi : i < 60) (h : tOk a) : tOk (pWho a (nI i)) := by
  obtain ⟨h1, g, s, c, r⟩ := a
  obtain ⟨z, hg⟩ := h
  refine ⟨⟨z.1, z.2.1, ?_⟩, hg⟩
  show ∀ k : Nat, 60 ≤ k → gPut c (nI i) 0 k = 0
  rw [gPut_n hi]
  exact upd_z z.2.2 hi
theorem flame_tOk {a : PSt} {i : Nat} {x : Int32} (hi : i < 36) (h : tOk a) : tOk (pFlame a (nI i) x) := by
  obtain ⟨h1, g, s, c, fu, ai, ra, le, ri, mi, lo, fl⟩ := a
  obtain ⟨z, hg⟩ := h
  refine ⟨⟨?_, z.2.1, z.2.2⟩, hg⟩
  show ∀ k : Nat, 36 ≤ k → (if gIsCell (nI i) = 0 then h1 else upd h1 (nI i).toNatClampNeg (gMax 0 (gAt 36 h1 (nI i) + x))) k = 0
  rw [nI_clamp (by omega)]
  intro k hk
  split
  · exact z.1 k hk
  · exact upd_z z.1 hi k hk
def wBegin (q : QSt) (x : Int32) : QSt × Int32 := if gOut x 0 1000 = 0 then (qNow q (pNew q.1 x), gSum (pH (pNew q.1 x))) else (q, -1)
def wAim (q : QSt) (x y : Int32) : QSt × Int32 := if gOut x 0 1000 = 0 then (if gOut y 1 100 = 0 then (qNow q (pSetAim q.1 x y), pAim q.1) else (q, -1)) else (q, -1)
noncomputable def wPass (q : QSt) (x : Int32) : QSt × Int32 := if gOut x 1 99 = 0 then (qNow q (pPass q.1 x.toNatClampNeg).1, (pPass q.1 x.toNatClampNeg).2) else (q, -1)
def wScratch (q : QSt) (j x : Int32) : QSt × Int32 := if gIsJoint j = 0 then (q, -1) else if gOut x 1 500 = 0 then (if gWh (pC q.1) j = 0 then (q, -2) else (qNow q (pScr q.1 j x), gJt (pS q.1) j)) else (q, -1)
def wMend (q : QSt) (j : Int32) : QSt × Int32 := if gIsJoint j = 0 then (q, -1) else if gWh (pC q.1) j = 0 then (qNow q (pScr (pWho q.1 j) j 50), gCracked (pC (pScr (pWho q.1 j) j 50))) else (q, -2)
def wHeat (q : QSt) (k x : Int32) : QSt × Int32 := if gIsCell k = 0 then (q, -1) else if gOut x (-200) 200 = 0 then (qNow q (pFlame q.1 k x), gMax 0 (gAt 36 (pH q.1) k + x)) else (q, -1)
def wSet (q : QSt) (w x : Int32) : QSt × Int32 := if gOut w 0 1 = 0 then (if gOut x 0 20 = 0 then (if w = 0 then (qNow q (pSetLead q.1 x), pLead q.1) else (qNow q (pSetRim q.1 x), pRim q.1)) else (q, -1)) else (q, -1)
def wUndo (q : QSt) : QSt × Int32 := match q.2.2.1 with
  | [] => (q, -2)
  | p :: l => ((p, q.2.1, l, q.2.2.2), nI l.length)
def wSave (q : QSt) : QSt × Int32 := ((q.1, some q.1, q.2.2), pMinutes q.1)
def wRestore (q : QSt) : QSt × Int32 := match q.2.1 with
  | none => (q, -2)
  | some p => (qNow q p, pMinutes p)
def wClear (q : QSt) : QSt × Int32 := ((q.1, q.2.1, q.2.2.1, []), nI q.2.2.2.length)
def wAppend (q : QSt) (x : Int32) : QSt × Int32 := if gOut x 33 126 = 0 then (if q.2.2.2.length < 60 then ((q.1, q.2.1, q.2.2.1, q.2.2.2 ++ [x]), nI (q.2.2.2.length + 1)) else (q, -3)) else (q, -1)
theorem aq_begin {c : CSt} (x : Int32) (hc : cOk c) : AQ (cBegin c x) (wBegin (qOf c) x) := by
  obtain ⟨a, t, s, b, h, d, z, fo⟩ := c
  have ha : tOk a := hc.1
  unfold cBegin wBegin
  by_cases hq : gOut x 0 1000 = 0
  · rw [if_pos hq, if_pos hq, kseal_eq]
    have k := aq_now hc (a' := pNew a x) (a2 := pNew (nrm a) x) (new_tOk ha) rfl
    exact ⟨k.1, k.2, rfl⟩
  · rw [if_neg hq, if_neg hq]
    exact ⟨hc, rfl, rfl⟩
theorem aq_aim {c : CSt} (x y : Int32) (hc : cOk c) : AQ (cAim c x y) (wAim (qOf c) x y) := by
  obtain ⟨a, t, s, b, h, d, z, fo⟩ := c
  have ha : tOk a := hc.1
  unfold cAim wAim
  by_cases hq : gOut x 0 1000 = 0
  · rw [if_pos hq, if_pos hq]
    by_cases hy : gOut y 1 100 = 0
    · rw [if_pos hy, if_pos hy]
      have k := aq_now hc (a' := pSetAim a x y) (a2 := pSetAim (nrm a) x y) ha rfl
      exact ⟨k.1, k.2, rfl⟩
    · rw [if_neg hy, if_neg hy]
      exact ⟨hc, rfl, rfl⟩
  · rw [if_neg hq, if_neg hq]
    exact ⟨hc, rfl, rfl⟩
theorem aq_pass {c : CSt} (x : Int32) (hc : cOk c) : AQ (cPass c x) (wPass (qOf c) x) := by
  obtain ⟨a, t, s, b, h, d, z, fo⟩ := c
  have ha : tOk a := hc.1
  unfold cPass wPass
  by_cases hq : gOut x 1 99 = 0
  · rw [if_pos hq, if_pos hq, kseal_eq]
    have hp := pass_nrm ha x.toNatClampNeg
    have k := aq_now hc (a' := (pPass a x.toNatClampNeg).1) (a2 := (pPass (nrm a) x.toNatClampNeg).1) (pass_tOk ha _) hp.1
    exact ⟨k.1, k.2, hp.2⟩
  · rw [if_neg hq, if_neg hq]
    exact ⟨hc, rfl, rfl⟩
theorem aq_scratch {c : CSt} (j x : Int32) (hc : cOk c) : AQ (cScratch c j x) (wScratch (qOf c) j x) := by
  obtain ⟨a, t, s, b, h, d, z, fo⟩ := c
  have ha : tOk a := hc.1
  unfold cScratch wScratch
  by_cases hj : gIsJoint j = 0
  · rw [if_pos hj, if_pos hj]
    exact ⟨hc, rfl, rfl⟩
  · rw [if_neg hj, if_neg hj]
    obtain ⟨i, hi, rfl⟩ := joint_n hj
    by_cases hy : gOut x 1 500 = 0
    · rw [if_pos hy, if_pos hy]
      by_cases hw : gWh (pC a) (nI i) = 0
      · rw [if_pos (show gWh (pC (a, t, s, b, h, d, z, fo).1) (nI i) = 0 from hw), if_pos (show gWh (pC (qOf (a, t, s, b, h, d, z, fo)).1) (nI i) = 0 from hw)]
        exact ⟨hc, rfl, rfl⟩
      · rw [if_neg (show ¬ gWh (pC (a, t, s, b, h, d, z, fo).1) (nI i) = 0 from hw), if_neg (show ¬ gWh (pC (qOf (a, t, s, b, h, d, z, fo)).1) (nI i) = 0 from hw)]
        have k := aq_now hc (a' := pScr a (nI i) x) (a2 := pScr (nrm a) (nI i) x) (scr_tOk hi ha) rfl
        exact ⟨k.1, k.2, rfl⟩
    · rw [if_neg hy, if_neg hy]
      exact ⟨hc, rfl, rfl⟩
theorem aq_mend {c : CSt} (j : Int32) (hc : cOk c) : AQ (cMend c j) (wMend (qOf c) j) := by
  obtain ⟨a, t, s, b, h, d, z, fo⟩ := c
  have ha : tOk a := hc.1
  unfold cMend wMend
  by_cases hj : gIsJoint j = 0
  · rw [if_pos hj, if_pos hj]
    exact ⟨hc, rfl, rfl⟩
  · rw [if_neg hj, if_neg hj]
    obtain ⟨i, hi, rfl⟩ := joint_n hj
    by_cases hw : gWh (pC a) (nI i) = 0
    · rw [if_pos (show gWh (pC (a, t, s, b, h, d, z, fo).1) (nI i) = 0 from hw), if_pos (show gWh (pC (qOf (a, t, s, b, h, d, z, fo)).1) (nI i) = 0 from hw), kseal_eq]
      have k := aq_now hc (a' := pScr (pWho a (nI i)) (nI i) 50) (a2 := pScr (pWho (nrm a) (nI i)) (nI i) 50) (scr_tOk hi (who_tOk hi ha)) rfl
      exact ⟨k.1, k.2, rfl⟩
    · rw [if_neg (show ¬ gWh (pC (a, t, s, b, h, d, z, fo).1) (nI i) = 0 from hw), if_neg (show ¬ gWh (pC (qOf (a, t, s, b, h, d, z, fo)).1) (nI i) = 0 from hw)]
      exact ⟨hc, rfl, rfl⟩
theorem aq_heat {c : CSt} (j x : Int32) (hc : cOk c) : AQ (cHeat c j x) (wHeat (qOf c) j x) := by
  obtain ⟨a, t, s, b, h, d, z, fo⟩ := c
  have ha : tOk a := hc.1
  unfold cHeat wHeat
  by_cases hj : gIsCell j = 0
  · rw [if_pos hj, if_pos hj]
    exact ⟨hc, rfl, rfl⟩
  · rw [if_neg hj, if_neg hj]
    obtain ⟨i, hi, rfl⟩ := cell_n hj
    by_cases hy : gOut x (-200) 200 = 0
    · rw [if_pos hy, if_pos hy]
      have k := aq_now hc (a' := pFlame a (nI i) x) (a2 := pFlame (nrm a) (nI i) x) (flame_tOk hi ha) rfl
      exact ⟨k.1, k.2, rfl⟩
    · rw [if_neg hy, if_neg hy]
      exact ⟨hc, rfl, rfl⟩
theorem aq_set {c : CSt} (w x : Int32) (hc : cOk c) : AQ (cSet c w x) (wSet (qOf c) w x) := by
  obtain ⟨a, t, s, b, h, d, z, fo⟩ := c
  have ha : tOk a := hc.1
  unfold cSet wSet
  by_cases hq : gOut w 0 1 = 0
  · rw [if_pos hq, if_pos hq]
    by_cases hy : gOut x 0 20 = 0
    · rw [if_pos hy, if_pos hy]
      by_cases hw : w = 0
      · rw [if_pos hw, if_pos hw]
        have k := aq_now hc (a' := pSetLead a x) (a2 := pSetLead (nrm a) x) ha rfl
        exact ⟨k.1, k.2, rfl⟩
      · rw [if_neg hw, if_neg hw]
        have k := aq_now hc (a' := pSetRim a x) (a2 := pSetRim (nrm a) x) ha rfl
        exact ⟨k.1, k.2, rfl⟩
    · rw [if_neg hy, if_neg hy]
      exact ⟨hc, rfl, rfl⟩
  · rw [if_neg hq, if_neg hq]
    exact ⟨hc, rfl, rfl⟩
theorem nI_pred1 (n : Nat) : nI (n + 1) - 1 = nI n := by
  rw [nI_succ, Int32.add_sub_cancel]
theorem nI_ne00 {n : Nat} (h : 0 < n) (h2 : n < 2147483648) : ¬ nI n = 0 := by
  intro e
  have := (nI_eq (a := n) (b := 0) h2 (by decide)).mp e
  omega
theorem aq_undo {c : CSt} (hc : cOk c) : AQ (cUndo c) (wUndo (qOf c)) := by
  obtain ⟨a, t, s, b, h, d, z, fo⟩ := c
  have hc0 := hc
  obtain ⟨h1, h2, h3, ⟨h4, h5⟩, h6⟩ := hc
  dsimp only at h1 h2 h3 h4 h5 h6
  have h50 := h5
  obtain ⟨⟨f1, f2, f3⟩, n, hn, hz⟩ := h5
  have hz' : h.1 = nI n := hz
  unfold cUndo wUndo kTake
  rw [kseal_eq]
  have hq : (qOf (a, t, s, b, h, d, z, fo)).2.2.1 = qHist (zDn h) := rfl
  rw [hq]
  match n, hn, hz, hz' with
  | 0, _, hz, hz' =>
    have e : hTake (zDn h) a = (zDn h, a) := if_pos hz
    have e2 : qHist (zDn h) = [] := by
      unfold qHist
      rw [hz, nI_clamp (by decide)]
      rfl
    rw [e2]
    dsimp only
    rw [e, if_pos (show h.1 = 0 from hz')]
    refine ⟨?_, ?_, rfl⟩
    · show cOk (a, t, s, b, zUp (zDn h), d, z, fo)
      rw [up_dn h4.1]
      exact hc0
    · show qOf (a, t, s, b, zUp (zDn h), d, z, fo) = _
      rw [up_dn h4.1]
  | n + 1, hn, hz, hz' =>
    have hn0 : ¬ h.1 = 0 := by
      rw [hz']
      exact nI_ne00 (by omega) (by omega)
    have e : hTake (zDn h) a = ((nI n, (zDn h).2), pCopy a (hAt (zDn h) n)) := by
      unfold hTake
      rw [if_neg (show ¬ (zDn h).1 = 0 from hn0), show (zDn h).1 - 1 = nI n by rw [hz]; exact nI_pred1 n, nI_clamp (by omega)]
      rfl
    have e2 : qHist (zDn h) = nrm (hAt (zDn h) n) :: qHist (nI n, (zDn h).2) := by
      unfold qHist
      rw [hz, nI_clamp (by omega), nI_clamp (by omega), List.range_succ, List.reverse_append]
      rfl
    have e3 : (qHist (nI n, (zDn h).2)).length = n := by
      rw [qHist_len]
      exact nI_clamp (by omega)
    rw [e2]
    dsimp only
    rw [e, if_neg hn0, e3]
    have ht : tOk (hAt (zDn h) n) := hAll_get f3 _
    refine ⟨⟨copy_tOk h1 ht, h2, h3, ⟨⟨hOk_up f1, show ¬ nI n < 0 from nI_pos (by omega), show nI n ≤ nI 4 from nI_le (by omega) (by omega)⟩, ?_⟩, h6⟩, ?_, rfl⟩
    · show hGood (zDn (zUp (nI n, (zDn h).2)))
      rw [dn_up]
      exact ⟨⟨f1, f2, f3⟩, n, by omega, rfl⟩
    · show (nrm (pCopy a (hAt (zDn h) n)), _, qHist (zDn (zUp (nI n, (zDn h).2))), _) = _
      rw [dn_up, nrm_copy h1.1 ht.1]
      rfl
theorem aq_save {c : CSt} (hc : cOk c) : AQ (cSave c) (wSave (qOf c)) := by
  obtain ⟨a, t, s, b, h, d, z, fo⟩ := c
  obtain ⟨h1, h2, h3, h4, h6⟩ := hc
  dsimp only at h1 h2 h3 h4 h6
  refine ⟨⟨h1, h2, copy_tOk h3 h1, h4, h6⟩, ?_, rfl⟩
  show (nrm a, (if (1 : Int32) = 0 then none else some (nrm (pCopy s a))), qHist (zDn h), qText d) = _
  rw [if_neg (by decide), nrm_copy h3.1 h1.1]
  rfl
theorem aq_restore {c : CSt} (hc : cOk c) : AQ (cRestore c) (wRestore (qOf c)) := by
  obtain ⟨a, t, s, b, h, d, z, fo⟩ := c
  have hc0 := hc
  obtain ⟨h1, h2, h3, h4, h6⟩ := hc
  dsimp only at h1 h2 h3 h4 h6
  unfold cRestore wRestore
  have hq : (qOf (a, t, s, b, h, d, z, fo)).2.1 = if b = 0 then none else some (nrm s) := rfl
  rw [hq]
  by_cases hb : b = 0
  · rw [if_pos hb, if_pos hb]
    exact ⟨hc0, rfl, rfl⟩
  · rw [if_neg hb, if_neg hb]
    have e := nrm_copy (p := a) (q := s) h1.1 h3.1
    have k := aq_now hc0 (a' := pCopy a s) (a2 := nrm s) (copy_tOk h1 h3) e
    refine ⟨k.1, k.2, ?_⟩
    show pMinutes (pCopy a s) = pMinutes (nrm s)
    rw [copy_eq h1.1 h3.1]
    rfl
theorem aq_clear {c : CSt} (hc : cOk c) : AQ (cClear c) (wClear (qOf c)) := by
  obtain ⟨a, t, s, b, h, ⟨ch, am, rt, mn, ln, r⟩, z, fo⟩ := c
  obtain ⟨h1, h2, h3, h4, ⟨n, hn, hl⟩, h7⟩ := hc
  have hl : ln = nI n := hl
  refine ⟨⟨h1, h2, h3, h4, ⟨0, by omega, rfl⟩, h7⟩, rfl, ?_⟩
  show ln = nI ((List.range ln.toNatClampNeg).map ch).length
  rw [List.length_map, List.length_range, hl, nI_clamp (by omega)]
theorem text_len {d : DSt} : (qText d).length = (dLen d).toNatClampNeg := by
  unfold qText
  rw [List.length_map, List.length_range]
theorem aq_append {c : CSt} (x : Int32) (hc : cOk c) : AQ (cAppend c x) (wAppend (qOf c) x) := by
  obtain ⟨a, t, s, b, h, ⟨ch, am, rt, mn, ln, r⟩, z, fo⟩ := c
  have hc0 := hc
  obtain ⟨h1, h2, h3, h4, ⟨n, hn, hl⟩, h7⟩ := hc
  have hl : ln = nI n := hl
  subst hl
  unfold cAppend wAppend
  by_cases hq : gOut x 33 126 = 0
  · rw [if_pos hq, if_pos hq, kseal_eq]
    have hb := out_bd hq
    have hx : ∃ j : Nat, j < 127 ∧ x = nI j := by
      rw [show (33 : Int32).toInt = 33 from rfl, show (126 : Int32).toInt = 126 from rfl] at hb
      obtain ⟨j, hj, rfl⟩ := nI_of (show ¬ x < 0 by rw [Int32.lt_iff_toInt_lt, show (0 : Int32).toInt = 0 from rfl]; omega)
      rw [nI_toInt hj] at hb
      exact ⟨j, by omega, rfl⟩
    obtain ⟨j, hj, rfl⟩ := hx
    rw [char_ok j hj]
    have hlen : (qOf (a, t, s, b, h, (ch, am, rt, mn, nI n, r), z, fo)).2.2.2.length = n := by
      show (qText (ch, am, rt, mn, nI n, r)).length = n
      rw [text_len]
      exact nI_clamp (by omega)
    rw [hlen]
    have eT : dTake (ch, am, rt, mn, nI n, r) (nI j) = if n < 60 then ((upd ch n (nI j), am, rt, mn, nI (n + 1), r), 1) else ((ch, am, rt, mn, nI n, r), 0) := by
      obtain ⟨sg, pt, nu⟩ := r
      unfold dTake
      dsimp only
      rw [if_neg (nI_pos (by omega)), nI_clamp (by omega), nar_ok j hj, nI_succ]
      by_cases h60 : n < 60
      · rw [if_pos h60, if_pos (show nI n < (60 : Int32) from show nI n < nI 60 from nI_lt h60 (by decide))]
      · rw [if_neg h60, if_neg (show ¬ nI n < (60 : Int32) from show ¬ nI n < nI 60 from nI_nlt (by omega) (by omega))]
    show AQ (cPad _ (dTake (ch, am, rt, mn, nI n, r) (nI j)).1, if (dTake (ch, am, rt, mn, nI n, r) (nI j)).2 = 0 then (-3 : Int32) else dLen (dTake (ch, am, rt, mn, nI n, r) (nI j)).1) _
    rw [eT]
    by_cases h60 : n < 60
    · rw [if_pos h60, if_pos h60, if_neg (show ¬ (1 : Int32) = 0 by decide)]
      refine ⟨⟨h1, h2, h3, h4, ⟨n + 1, by omega, rfl⟩, h7⟩, ?_, rfl⟩
      show (nrm a, _, qHist (zDn h), qText (upd ch n (nI j), am, rt, mn, nI (n + 1), r)) = _
      have et : qText (upd ch n (nI j), am, rt, mn, nI (n + 1), r) = qText (ch, am, rt, mn, nI n, r) ++ [nI j] := by
        unfold qText dLen
        dsimp only
        rw [nI_clamp (by omega), nI_clamp (by omega), List.range_succ, List.map_append]
        congr 1
        · refine List.map_congr_left (fun i hi => ?_)
          have := List.mem_range.mp hi
          exact if_neg (by omega)
        · show [upd ch n (nI j) n] = [nI j]
          rw [show upd ch n (nI j) n = nI j from if_pos rfl]
      rw [et]
      rfl
    · rw [if_neg h60, if_neg h60, if_pos rfl]
      exact ⟨hc0, rfl, rfl⟩
  · rw [if_neg hq, if_neg hq]
    exact ⟨hc0, rfl, rfl⟩
