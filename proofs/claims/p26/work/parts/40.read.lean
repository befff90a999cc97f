/-! p26: the reader, and a run of a program -/
abbrev RdS : Type := Int32 × Int32 × Int32
def rEnd (r : RdS) : RdS := if r.2.1 = 1 then (r.1, 2, -1) else if r.2.1 = 2 then (r.1, 3, -1) else (r.1 + 1, 0, -1)
def rOt (r : RdS) (x : Int32) : RdS × Int32 := if r.2.1 = 0 then (if x = 104 then ((r.1, 3, r.2.2), 1) else (r, 0)) else if r.2.2 = -1 then (r, 0) else if x = dEndC r.2.1 then (rEnd r, 1) else (r, 0)
def rDg (r : RdS) (y : Int32) : RdS × Int32 := if r.2.2 = 0 then ((r.1, dPt r.2.1, r.2.2), 0) else ((r.1, dPt r.2.1, dNu r.2.2 y), if dNu r.2.2 y < dLeast (dPt r.2.1) then 0 else if dMost (dPt r.2.1) < dNu r.2.2 y then 0 else 1)
def rNx (r : RdS) (x : Int32) : RdS × Int32 := if x < 48 then rOt r x else if 57 < x then rOt r x else rDg r (x - 48)
/-- what stands in the rows -/
abbrev RwS : Type := (Nat → Int32) × (Nat → Int32) × (Nat → Int32)
def wEnd (r : RdS) (w : RwS) : RwS := if r.2.1 = 1 then (dKeep r.1 w.1 r.2.2, w.2.1, w.2.2) else if r.2.1 = 2 then (w.1, dKeep r.1 w.2.1 r.2.2, w.2.2) else (w.1, w.2.1, dKeep r.1 w.2.2 r.2.2)
def wOt (r : RdS) (w : RwS) (x : Int32) : RwS := if r.2.1 = 0 then (if x = 104 then (dKeep r.1 w.1 (-1), w.2.1, w.2.2) else w) else if r.2.2 = -1 then w else if x = dEndC r.2.1 then wEnd r w else w
def wNx (r : RdS) (w : RwS) (x : Int32) : RwS := if x < 48 then wOt r w x else if 57 < x then wOt r w x else w
def mkD (ch : Nat → Int32) (w : RwS) (ln : Int32) (r : RdS) : DSt := (ch, w.1, w.2.1, w.2.2, ln, r)
theorem end_is (ch : Nat → Int32) (w : RwS) (ln : Int32) (r : RdS) : dEnd (mkD ch w ln r) = mkD ch (wEnd r w) ln (rEnd r) := by
  obtain ⟨sg, pt, nu⟩ := r
  unfold dEnd mkD wEnd rEnd
  dsimp only
  by_cases p1 : pt = 1
  · rw [if_pos p1, if_pos p1, if_pos p1]
  · rw [if_neg p1, if_neg p1, if_neg p1]
    by_cases p2 : pt = 2
    · rw [if_pos p2, if_pos p2, if_pos p2]
    · rw [if_neg p2, if_neg p2, if_neg p2]
theorem other_is (ch : Nat → Int32) (w : RwS) (ln x : Int32) (r : RdS) : dOther (mkD ch w ln r) x = (mkD ch (wOt r w x) ln (rOt r x).1, (rOt r x).2) := by
  have e1 : dPart (mkD ch w ln r) = r.2.1 := rfl
  have e2 : dNum (mkD ch w ln r) = r.2.2 := rfl
  unfold dOther
  rw [e1, e2]
  unfold wOt rOt
  by_cases h0 : r.2.1 = 0
  · rw [if_pos h0, if_pos h0, if_pos h0, kHold, kseal_eq]
    unfold dHold mkD
    dsimp only
    by_cases hx : x = 104
    · rw [if_pos hx, if_pos hx, if_pos hx]
    · rw [if_neg hx, if_neg hx, if_neg hx]
  · rw [if_neg h0, if_neg h0, if_neg h0]
    by_cases h1 : r.2.2 = -1
    · rw [if_pos h1, if_pos h1, if_pos h1]
    · rw [if_neg h1, if_neg h1, if_neg h1]
      by_cases hx : x = dEndC r.2.1
      · rw [if_pos hx, if_pos hx, if_pos hx, kEnd, kseal_eq, end_is]
      · rw [if_neg hx, if_neg hx, if_neg hx]
theorem reads_is (ch : Nat → Int32) (w : RwS) (ln x : Int32) (r : RdS) : kReads (mkD ch w ln r) x = (mkD ch (wNx r w x) ln (rNx r x).1, (rNx r x).2) := by
  rw [kReads, kseal_eq]
  unfold dReads rNx wNx
  by_cases h1 : x < 48
  · rw [if_pos h1, if_pos h1, if_pos h1]
    exact other_is ch w ln x r
  · rw [if_neg h1, if_neg h1, if_neg h1]
    by_cases h2 : (57 : Int32) < x
    · rw [if_pos h2, if_pos h2, if_pos h2]
      exact other_is ch w ln x r
    · rw [if_neg h2, if_neg h2, if_neg h2, kDigit, kseal_eq]
      obtain ⟨sg, pt, nu⟩ := r
      unfold dDigit rDg mkD
      dsimp only
      by_cases h3 : nu = 0
      · rw [if_pos h3, if_pos h3]
      · rw [if_neg h3, if_neg h3]
theorem fin_is (ch : Nat → Int32) (w : RwS) (ln : Int32) (r : RdS) : dFin (mkD ch w ln r) = if r.2.1 = 3 then (if r.2.2 = -1 then (mkD ch w ln r, ln) else (mkD ch (wEnd r w) ln (rEnd r), -4)) else (mkD ch w ln r, ln) := by
  unfold dFin
  rw [show dPart (mkD ch w ln r) = r.2.1 from rfl, show dNum (mkD ch w ln r) = r.2.2 from rfl, kEnd, kseal_eq, end_is]
  rfl
theorem scan_is (ch : Nat → Int32) (w : RwS) (n : Nat) (r : RdS) (k i : Nat) (hi : i ≤ 60) (hn : n ≤ 60) : dScan (k + 1) i (mkD ch w (nI n) r) = if n ≤ i then dFin (mkD ch w (nI n) r) else if (rNx r (ch i)).2 = 0 then (mkD ch (wNx r w (ch i)) (nI n) (rNx r (ch i)).1, nI i) else dScan k (i + 1) (mkD ch (wNx r w (ch i)) (nI n) (rNx r (ch i)).1) := by
  rw [dScan_s]
  show (if nI n ≤ nI i then _ else if (kReads (mkD ch w (nI n) r) (ch i)).2 = 0 then ((kReads (mkD ch w (nI n) r) (ch i)).1, nI i) else dScan k (i + 1) (kReads (mkD ch w (nI n) r) (ch i)).1) = _
  rw [reads_is]
  by_cases h : n ≤ i
  · rw [if_pos (nI_le h (by omega)), if_pos h]
  · rw [if_neg (nI_ge (by omega) (by omega)), if_neg h]
/-- the answer of fault is the text's alone -/
theorem scan_u {n : Nat} {ch ch' : Nat → Int32} (hc : ∀ i : Nat, i < n → ch i = ch' i) (hn : n ≤ 60) : ∀ k i (w w' : RwS) (r : RdS), i + k ≤ 60 → (dScan k i (mkD ch w (nI n) r)).2 = (dScan k i (mkD ch' w' (nI n) r)).2 := by
  intro k
  induction k with
  | zero =>
    intro i w w' r _
    show (dFin _).2 = (dFin _).2
    rw [fin_is, fin_is]
    split
    · split <;> rfl
    · rfl
  | succ k ih =>
    intro i w w' r hk
    rw [scan_is ch w n r k i (by omega) hn, scan_is ch' w' n r k i (by omega) hn]
    by_cases h : n ≤ i
    · rw [if_pos h, if_pos h, fin_is, fin_is]
      split
      · split <;> rfl
      · rfl
    · rw [if_neg h, if_neg h, hc i (by omega)]
      split
      · rfl
      · exact ih (i + 1) _ _ _ (by omega)
/-- how many ';' -/
def cS (ch : Nat → Int32) : Nat → Nat
  | 0 => 0
  | n + 1 => cS ch n + (if ch n = 59 then 1 else 0)
theorem cS_s (ch : Nat → Int32) (n : Nat) : cS ch (n + 1) = cS ch n + (if ch n = 59 then 1 else 0) := rfl
theorem cS_list (ch : Nat → Int32) : ∀ n, cS ch n = ((List.range n).map ch).count 59 := by
  intro n
  induction n with
  | zero => rfl
  | succ n ih =>
    rw [cS_s, List.range_succ, List.map_append, List.count_append, ← ih, List.map_singleton, List.count_singleton]
    by_cases h : ch n = 59
    · rw [if_pos h, if_pos (by rw [h]; rfl)]
    · rw [if_neg h, if_neg (by intro e; exact h (eq_of_beq e))]
/-- the rows, as far as they are read -/
def wOk (w : RwS) (s : Nat) (pt : Int32) : Prop := (∀ k : Nat, k < 20 → ¬ w.2.2 k < 0) ∧ (∀ k : Nat, k < s → 1 ≤ (w.2.2 k).toInt ∧ (w.2.2 k).toInt ≤ 99) ∧ (∀ k : Nat, k < s → w.1 k = -1 ∨ ((0 ≤ (w.1 k).toInt ∧ (w.1 k).toInt ≤ 1000) ∧ 1 ≤ (w.2.1 k).toInt ∧ (w.2.1 k).toInt ≤ 100)) ∧ (pt = 2 → 0 ≤ (w.1 s).toInt ∧ (w.1 s).toInt ≤ 1000) ∧ (pt = 3 → w.1 s = -1 ∨ ((0 ≤ (w.1 s).toInt ∧ (w.1 s).toInt ≤ 1000) ∧ 1 ≤ (w.2.1 s).toInt ∧ (w.2.1 s).toInt ≤ 100))
/-- what the reader stands in, behind i characters -/
def rOkI (r : RdS) (s i : Nat) : Prop := r.1 = nI s ∧ ((r.2.1 = 0 ∧ r.2.2 = -1 ∧ 3 * s ≤ i) ∨ (r.2.1 = 1 ∧ (0 ≤ r.2.2.toInt ∧ r.2.2.toInt ≤ 1000) ∧ 3 * s + 1 ≤ i) ∨ (r.2.1 = 2 ∧ (r.2.2 = -1 ∨ (1 ≤ r.2.2.toInt ∧ r.2.2.toInt ≤ 100)) ∧ 3 * s + 2 ≤ i) ∨ (r.2.1 = 3 ∧ ((r.2.2 = -1 ∧ 3 * s + 1 ≤ i) ∨ ((1 ≤ r.2.2.toInt ∧ r.2.2.toInt ≤ 99) ∧ 3 * s + 2 ≤ i))))
theorem keep_in {s : Nat} {f : Nat → Int32} {v : Int32} (hs : s < 20) : dKeep (nI s) f v = upd f s v := by
  unfold dKeep
  rw [if_neg (nI_pos (by omega)), if_neg (show ¬ (20 : Int32) ≤ nI s from nI_ge hs (by decide)), nI_clamp (by omega)]
theorem upd_at (f : Nat → Int32) (s : Nat) (v : Int32) : upd f s v s = v := if_pos rfl
theorem upd_ne {f : Nat → Int32} {s k : Nat} {v : Int32} (h : ¬ k = s) : upd f s v k = f k := if_neg h
theorem toInt_ne {x : Int32} (h : 0 ≤ x.toInt) : ¬ x = -1 := by
  intro e
  rw [e, show (-1 : Int32).toInt = -1 from rfl] at h
  omega
/-- the end of a number that stands -/
theorem end_ok {r : RdS} {w : RwS} {s i : Nat} (hs : s < 20) (hr : rOkI r s i) (hw : wOk w s r.2.1) (h0 : ¬ r.2.1 = 0) (h1 : ¬ r.2.2 = -1) :
    wOk (wEnd r w) (if r.2.1 = 3 then s + 1 else s) (rEnd r).2.1 ∧ rOkI (rEnd r) (if r.2.1 = 3 then s + 1 else s) (i + 1) ∧ (r.2.1 = 3 → (rEnd r).2.1 = 0 ∧ 3 * s + 2 ≤ i) := by
  obtain ⟨sg, pt, nu⟩ := r
  obtain ⟨e, hr⟩ := hr
  dsimp only at e hr hw h0 h1 ⊢
  subst e
  obtain ⟨w1, w2, w3, w4, w5⟩ := hw
  have z3 : ¬ (2 : Int32) = 3 := by decide
  rcases hr with ⟨p, _⟩ | ⟨p, a, b⟩ | ⟨p, a, b⟩ | ⟨p, a⟩
  · exact absurd p h0
  · subst p
    have e1 : wEnd (nI s, 1, nu) w = (upd w.1 s nu, w.2.1, w.2.2) := by
      unfold wEnd
      rw [if_pos rfl, keep_in hs]
    have e2 : rEnd (nI s, 1, nu) = (nI s, 2, -1) := if_pos rfl
    rw [e1, e2, if_neg (show ¬ (1 : Int32) = 3 by decide)]
    refine ⟨⟨w1, w2, fun k hk => ?_, fun _ => ?_, fun h => absurd h z3⟩, ⟨rfl, Or.inr (Or.inr (Or.inl ⟨rfl, Or.inl rfl, by omega⟩))⟩, fun h => absurd h (by decide)⟩
    · dsimp only
      rw [upd_ne (by omega)]
      exact w3 k hk
    · dsimp only
      rw [upd_at]
      exact a
  · subst p
    have a := a.resolve_left h1
    have e1 : wEnd (nI s, 2, nu) w = (w.1, upd w.2.1 s nu, w.2.2) := by
      unfold wEnd
      rw [if_neg (show ¬ (2 : Int32) = 1 by decide), if_pos rfl, keep_in hs]
    have e2 : rEnd (nI s, 2, nu) = (nI s, 3, -1) := by
      unfold rEnd
      rw [if_neg (show ¬ (2 : Int32) = 1 by decide), if_pos rfl]
    rw [e1, e2, if_neg z3]
    refine ⟨⟨w1, w2, fun k hk => ?_, fun h => absurd h (show ¬ (3 : Int32) = 2 by decide), fun _ => Or.inr ⟨w4 rfl, ?_⟩⟩, ⟨rfl, Or.inr (Or.inr (Or.inr ⟨rfl, Or.inl ⟨rfl, by omega⟩⟩))⟩, fun h => absurd h z3⟩
    · dsimp only
      rw [upd_ne (by omega)]
      exact w3 k hk
    · dsimp only
      rw [upd_at]
      exact a
  · subst p
    have a := a.resolve_left (fun h => h1 h.1)
    have e1 : wEnd (nI s, 3, nu) w = (w.1, w.2.1, upd w.2.2 s nu) := by
      unfold wEnd
      rw [if_neg (show ¬ (3 : Int32) = 1 by decide), if_neg (show ¬ (3 : Int32) = 2 by decide), keep_in hs]
    have e2 : rEnd (nI s, 3, nu) = (nI (s + 1), 0, -1) := by
      unfold rEnd
      rw [if_neg (show ¬ (3 : Int32) = 1 by decide), if_neg (show ¬ (3 : Int32) = 2 by decide), nI_succ]
    rw [e1, e2, if_pos rfl]
    refine ⟨⟨fun k hk => ?_, fun k hk => ?_, fun k hk => ?_, fun h => absurd h (show ¬ (0 : Int32) = 2 by decide), fun h => absurd h (show ¬ (0 : Int32) = 3 by decide)⟩, ⟨rfl, Or.inl ⟨rfl, rfl, by omega⟩⟩, fun _ => ⟨rfl, a.2⟩⟩
    · dsimp only
      by_cases e : k = s
      · rw [e, upd_at, Int32.lt_iff_toInt_lt, show (0 : Int32).toInt = 0 from rfl]
        omega
      · rw [upd_ne e]
        exact w1 k hk
    · dsimp only
      by_cases e : k = s
      · rw [e, upd_at]
        exact a.1
      · rw [upd_ne e]
        exact w2 k (by omega)
    · dsimp only
      by_cases e : k = s
      · rw [e]
        exact w5 rfl
      · exact w3 k (by omega)
theorem dNu_ti {nu y : Int32} (hn : nu = -1 ∨ (0 ≤ nu.toInt ∧ nu.toInt ≤ 1000)) (hy : 0 ≤ y.toInt ∧ y.toInt ≤ 9) : 0 ≤ (dNu nu y).toInt := by
  unfold dNu
  by_cases h : nu = -1
  · rw [if_pos h]
    exact hy.1
  · rw [if_neg h]
    have hn := hn.resolve_left h
    have e10 : (10 : Int32).toInt = 10 := rfl
    have e1 : (10 * nu).toInt = 10 * nu.toInt := by
      rw [ti_mul (by rw [e10]; omega) (by rw [e10]; omega), e10]
    rw [ti_add (by rw [e1]; omega) (by rw [e1]; omega), e1]
    omega
/-- a character -/
theorem nx_ok {r : RdS} {w : RwS} {s i : Nat} {x : Int32} (hs : s < 20) (hr : rOkI r s i) (hw : wOk w s r.2.1) :
    ((rNx r x).2 = 0 ∧ (∀ k : Nat, k < 20 → ¬ (wNx r w x).2.2 k < 0) ∧ (rNx r x).1.1 = nI s) ∨
    (¬ (rNx r x).2 = 0 ∧ wOk (wNx r w x) (if x = 59 then s + 1 else s) (rNx r x).1.2.1 ∧ rOkI (rNx r x).1 (if x = 59 then s + 1 else s) (i + 1) ∧ (x = 59 → (rNx r x).1.2.1 = 0)) := by
  have ot : x < 48 ∨ 57 < x → rNx r x = rOt r x ∧ wNx r w x = wOt r w x := by
    intro h
    unfold rNx wNx
    by_cases h1 : x < 48
    · rw [if_pos h1, if_pos h1]
      exact ⟨rfl, rfl⟩
    · rw [if_neg h1, if_neg h1, if_pos (h.resolve_left h1), if_pos (h.resolve_left h1)]
      exact ⟨rfl, rfl⟩
  by_cases hd : x < 48 ∨ 57 < x
  · rw [(ot hd).1, (ot hd).2]
    unfold rOt wOt
    by_cases h0 : r.2.1 = 0
    · rw [if_pos h0, if_pos h0]
      by_cases hx : x = 104
      · rw [if_pos hx, if_pos hx, if_neg (show ¬ x = 59 by rw [hx]; decide)]
        obtain ⟨sg, pt, nu⟩ := r
        obtain ⟨e, hr⟩ := hr
        dsimp only at e hr hw h0 ⊢
        subst e
        subst h0
        have hr := hr.resolve_right (by
          rintro (⟨a, _⟩ | ⟨a, _⟩ | ⟨a, _⟩)
          · exact absurd a (by decide)
          · exact absurd a (by decide)
          · exact absurd a (by decide))
        obtain ⟨w1, w2, w3, w4, w5⟩ := hw
        refine Or.inr ⟨by decide, ⟨w1, w2, fun k hk => ?_, fun h => absurd h (by decide), fun _ => Or.inl ?_⟩, ⟨rfl, Or.inr (Or.inr (Or.inr ⟨rfl, Or.inl ⟨hr.2.1, by omega⟩⟩))⟩, fun h => absurd (hx.symm.trans h) (by decide)⟩
        · dsimp only
          rw [keep_in hs, upd_ne (by omega)]
          exact w3 k hk
        · dsimp only
          rw [keep_in hs, upd_at]
      · rw [if_neg hx, if_neg hx]
        exact Or.inl ⟨rfl, hw.1, hr.1⟩
    · rw [if_neg h0, if_neg h0]
      by_cases h1 : r.2.2 = -1
      · rw [if_pos h1, if_pos h1]
        exact Or.inl ⟨rfl, hw.1, hr.1⟩
      · rw [if_neg h1, if_neg h1]
        by_cases hx : x = dEndC r.2.1
        · rw [if_pos hx, if_pos hx]
          obtain ⟨e1, e2, e3⟩ := end_ok hs hr hw h0 h1
          have key : (x = 59 ↔ r.2.1 = 3) := by
            rw [hx]
            rcases hr.2 with ⟨p, _⟩ | ⟨p, _⟩ | ⟨p, _⟩ | ⟨p, _⟩
            · exact absurd p h0
            · rw [p]; decide
            · rw [p]; decide
            · rw [p]; decide
          have ei : (if x = 59 then s + 1 else s) = (if r.2.1 = 3 then s + 1 else s) := by
            by_cases h3 : r.2.1 = 3
            · rw [if_pos h3, if_pos (key.mpr h3)]
            · rw [if_neg h3, if_neg (fun h => h3 (key.mp h))]
          rw [ei]
          exact Or.inr ⟨by show ¬ (1 : Int32) = 0; decide, e1, e2, fun h => (e3 (key.mp h)).1⟩
        · rw [if_neg hx, if_neg hx]
          exact Or.inl ⟨rfl, hw.1, hr.1⟩
  · have h1 : ¬ x < 48 := fun h => hd (Or.inl h)
    have h2 : ¬ (57 : Int32) < x := fun h => hd (Or.inr h)
    have en : rNx r x = rDg r (x - 48) := by
      unfold rNx
      rw [if_neg h1, if_neg h2]
    have ew : wNx r w x = w := by
      unfold wNx
      rw [if_neg h1, if_neg h2]
    rw [en, ew]
    have hy : 0 ≤ (x - 48).toInt ∧ (x - 48).toInt ≤ 9 := by
      rw [Int32.lt_iff_toInt_lt, show (48 : Int32).toInt = 48 from rfl] at h1
      rw [Int32.lt_iff_toInt_lt, show (57 : Int32).toInt = 57 from rfl] at h2
      rw [ti_sub] <;> rw [show (48 : Int32).toInt = 48 from rfl] <;> omega
    have h59 : ¬ x = 59 := fun e => h2 (by rw [e]; decide)
    rw [if_neg h59]
    generalize x - 48 = y at hy ⊢
    obtain ⟨sg, pt, nu⟩ := r
    obtain ⟨e, hr⟩ := hr
    dsimp only at e hr hw
    subst e
    unfold rDg
    dsimp only
    by_cases h0 : nu = 0
    · rw [if_pos h0]
      exact Or.inl ⟨rfl, hw.1, rfl⟩
    · rw [if_neg h0]
      have hnu : nu = -1 ∨ (0 ≤ nu.toInt ∧ nu.toInt ≤ 1000) := by
        rcases hr with ⟨_, a, _⟩ | ⟨_, a, _⟩ | ⟨_, a, _⟩ | ⟨_, a⟩
        · exact Or.inl a
        · exact Or.inr a
        · rcases a with a | a
          · exact Or.inl a
          · exact Or.inr (by omega)
        · rcases a with ⟨a, _⟩ | ⟨a, _⟩
          · exact Or.inl a
          · exact Or.inr (by omega)
      have hv := dNu_ti hnu hy
      generalize dNu nu y = v at hv ⊢
      dsimp only
      by_cases hl : v < dLeast (dPt pt)
      · rw [if_pos hl]
        exact Or.inl ⟨rfl, hw.1, rfl⟩
      · rw [if_neg hl]
        by_cases hm : dMost (dPt pt) < v
        · rw [if_pos hm]
          exact Or.inl ⟨rfl, hw.1, rfl⟩
        · rw [if_neg hm]
          rw [Int32.lt_iff_toInt_lt] at hl hm
          refine Or.inr ⟨by decide, ?_⟩
          obtain ⟨w1, w2, w3, w4, w5⟩ := hw
          rcases hr with ⟨p, _, b⟩ | ⟨p, _, b⟩ | ⟨p, _, b⟩ | ⟨p, a⟩
          · subst p
            rw [show (dMost (dPt 0)).toInt = 1000 from rfl] at hm
            have hv2 : v.toInt ≤ 1000 := by omega
            exact ⟨⟨w1, w2, w3, fun h => absurd h (by decide), fun h => absurd h (by decide)⟩, ⟨rfl, Or.inr (Or.inl ⟨rfl, ⟨hv, hv2⟩, by omega⟩)⟩, fun h => absurd h h59⟩
          · subst p
            rw [show (dMost (dPt 1)).toInt = 1000 from rfl] at hm
            have hv2 : v.toInt ≤ 1000 := by omega
            exact ⟨⟨w1, w2, w3, fun h => absurd h (by decide), fun h => absurd h (by decide)⟩, ⟨rfl, Or.inr (Or.inl ⟨rfl, ⟨hv, hv2⟩, by omega⟩)⟩, fun h => absurd h h59⟩
          · subst p
            rw [show (dMost (dPt 2)).toInt = 100 from rfl] at hm
            rw [show (dLeast (dPt 2)).toInt = 1 from rfl] at hl
            have hv2 : 1 ≤ v.toInt ∧ v.toInt ≤ 100 := by omega
            exact ⟨⟨w1, w2, w3, fun _ => w4 rfl, fun h => absurd h (by decide)⟩, ⟨rfl, Or.inr (Or.inr (Or.inl ⟨rfl, Or.inr hv2, by omega⟩))⟩, fun h => absurd h h59⟩
          · subst p
            rw [show (dMost (dPt 3)).toInt = 99 from rfl] at hm
            rw [show (dLeast (dPt 3)).toInt = 1 from rfl] at hl
            have hv2 : 1 ≤ v.toInt ∧ v.toInt ≤ 99 := by omega
            exact ⟨⟨w1, w2, w3, fun h => absurd h (by decide), fun _ => w5 rfl⟩, ⟨rfl, Or.inr (Or.inr (Or.inr ⟨rfl, Or.inr ⟨hv2, by rcases a with ⟨_, a⟩ | ⟨_, a⟩ <;> omega⟩⟩))⟩, fun h => absurd h h59⟩
/-- a text that is a program, and what stands in the rows then -/
def prog (d : DSt) (ch : Nat → Int32) (n : Nat) : Prop := dSegs d = nI (cS ch n + 1) ∧ cS ch n + 1 ≤ 20 ∧ 1 ≤ n ∧ ¬ ch (n - 1) = 59 ∧ (∀ k : Nat, k < cS ch n + 1 → 1 ≤ (d.2.2.2.1 k).toInt ∧ (d.2.2.2.1 k).toInt ≤ 99) ∧ (∀ k : Nat, k < cS ch n + 1 → d.2.1 k = -1 ∨ ((0 ≤ (d.2.1 k).toInt ∧ (d.2.1 k).toInt ≤ 1000) ∧ 1 ≤ (d.2.2.1 k).toInt ∧ (d.2.2.1 k).toInt ≤ 100))
def padE (d : DSt) (ch : Nat → Int32) (n : Nat) : Prop := d.1 = ch ∧ dLen d = nI n
theorem fin_ok {ch : Nat → Int32} {n : Nat} (hn : n ≤ 60) {w : RwS} {r : RdS} (hr : rOkI r (cS ch n) n) (hw : wOk w (cS ch n) r.2.1) (hl : 1 ≤ n → ch (n - 1) = 59 → r.2.1 = 0) :
    (rOk (dFin (mkD ch w (nI n) r)).1 ∧ padE (dFin (mkD ch w (nI n) r)).1 ch n) ∧ (((dFin (mkD ch w (nI n) r)).2 = -4 ∧ prog (dFin (mkD ch w (nI n) r)).1 ch n) ∨ (dFin (mkD ch w (nI n) r)).2 = nI n) := by
  have hs20 : 3 * cS ch n ≤ n := by
    rcases hr.2 with ⟨_, _, a⟩ | ⟨_, _, a⟩ | ⟨_, _, a⟩ | ⟨_, ⟨_, a⟩ | ⟨_, a⟩⟩ <;> omega
  have stay : (rOk (mkD ch w (nI n) r) ∧ padE (mkD ch w (nI n) r) ch n) := by
    refine ⟨⟨hw.1, ?_⟩, rfl, rfl⟩
    show r.1 ≤ 20
    rw [hr.1]
    exact show nI (cS ch n) ≤ nI 20 from nI_le (by omega) (by decide)
  rw [fin_is]
  by_cases h3 : r.2.1 = 3
  · rw [if_pos h3]
    by_cases h1 : r.2.2 = -1
    · rw [if_pos h1]
      exact ⟨stay, Or.inr rfl⟩
    · rw [if_neg h1]
      have h0 : ¬ r.2.1 = 0 := by rw [h3]; decide
      have hs : cS ch n < 20 := by
        rcases hr.2 with ⟨a, _⟩ | ⟨a, _⟩ | ⟨a, _⟩ | ⟨_, ⟨a, _⟩ | ⟨_, a⟩⟩
        · exact absurd a h0
        · exact absurd (h3.symm.trans a) (by decide)
        · exact absurd (h3.symm.trans a) (by decide)
        · exact absurd a h1
        · omega
      obtain ⟨e1, e2, e3⟩ := end_ok hs hr hw h0 h1
      rw [if_pos h3] at e1 e2
      have e4 : 1 ≤ n := by
        have := (e3 h3).2
        omega
      refine ⟨⟨⟨e1.1, ?_⟩, rfl, rfl⟩, Or.inl ⟨rfl, e2.1, by omega, e4, fun h => h0 (hl e4 h), e1.2.1, e1.2.2.1⟩⟩
      show (rEnd r).1 ≤ 20
      rw [e2.1]
      exact show nI (cS ch n + 1) ≤ nI 20 from nI_le (by omega) (by decide)
  · rw [if_neg h3]
    exact ⟨stay, Or.inr rfl⟩
theorem scan_ok {ch : Nat → Int32} {n : Nat} (hn : n ≤ 60) : ∀ k i (w : RwS) (r : RdS), i + k = 60 → i ≤ n → rOkI r (cS ch i) i → wOk w (cS ch i) r.2.1 → (1 ≤ i → ch (i - 1) = 59 → r.2.1 = 0) →
    (rOk (dScan k i (mkD ch w (nI n) r)).1 ∧ padE (dScan k i (mkD ch w (nI n) r)).1 ch n) ∧ (((dScan k i (mkD ch w (nI n) r)).2 = -4 ∧ prog (dScan k i (mkD ch w (nI n) r)).1 ch n) ∨ ∃ j : Nat, j ≤ n ∧ (dScan k i (mkD ch w (nI n) r)).2 = nI j) := by
  intro k
  induction k with
  | zero =>
    intro i w r hk hi hr hw hl
    have e : i = n := by omega
    subst e
    obtain ⟨a, b⟩ := fin_ok hn hr hw hl
    exact ⟨a, b.imp id (fun h => ⟨i, Nat.le_refl i, h⟩)⟩
  | succ k ih =>
    intro i w r hk hi hr hw hl
    rw [scan_is ch w n r k i (by omega) hn]
    by_cases h : n ≤ i
    · have e : i = n := by omega
      subst e
      rw [if_pos h]
      obtain ⟨a, b⟩ := fin_ok hn hr hw hl
      exact ⟨a, b.imp id (fun h => ⟨i, Nat.le_refl i, h⟩)⟩
    · rw [if_neg h]
      have hs : cS ch i < 20 := by
        rcases hr.2 with ⟨_, _, a⟩ | ⟨_, _, a⟩ | ⟨_, _, a⟩ | ⟨_, ⟨_, a⟩ | ⟨_, a⟩⟩ <;> omega
      rcases nx_ok (x := ch i) hs hr hw with ⟨a, b, c⟩ | ⟨a, b, c, d⟩
      · rw [if_pos a]
        refine ⟨⟨⟨b, ?_⟩, rfl, rfl⟩, Or.inr ⟨i, by omega, rfl⟩⟩
        show (rNx r (ch i)).1.1 ≤ 20
        rw [c]
        exact show nI (cS ch i) ≤ nI 20 from nI_le (by omega) (by decide)
      · rw [if_neg a]
        have ec : (if ch i = 59 then cS ch i + 1 else cS ch i) = cS ch (i + 1) := by
          rw [cS_s]
          split <;> omega
        rw [ec] at b c
        exact ih (i + 1) _ _ (by omega) (by omega) c b (fun _ h => d (by rw [Nat.add_sub_cancel] at h; exact h))
