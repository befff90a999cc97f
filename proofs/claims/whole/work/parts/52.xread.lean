/-! class and model: reading a number -/
theorem scan_end {d : DSt} {n : Nat} (hn : n ≤ 60) (hd : d.2.2.2.2.1 = nI n) : dScan (60 - n) n d = dFin d := by
  by_cases h : n = 60
  · subst h
    rfl
  · obtain ⟨k, hk⟩ : ∃ k, 60 - n = k + 1 := ⟨60 - n - 1, by omega⟩
    have hle : d.2.2.2.2.1 ≤ nI n := by
      rw [hd]
      exact nI_le (Nat.le_refl _) (by omega)
    rw [hk]
    unfold dScan
    rw [if_pos hle]
theorem scan_go {d : DSt} {n i : Nat} (hn : n ≤ 60) (hi : i < n) (hd : d.2.2.2.2.1 = nI n) : dScan (60 - i) i d = if (kReads d (d.1 i)).2 = 0 then ((kReads d (d.1 i)).1, nI i) else dScan (60 - (i + 1)) (i + 1) (kReads d (d.1 i)).1 := by
  obtain ⟨k, hk⟩ : ∃ k, 60 - i = k + 1 := ⟨60 - i - 1, by omega⟩
  have hk2 : 60 - (i + 1) = k := by omega
  have hle : ¬ d.2.2.2.2.1 ≤ nI i := by
    rw [hd]
    exact nI_ge hi (by omega)
  rw [hk, hk2]
  show (if d.2.2.2.2.1 ≤ nI i then dFin d else if (kReads d (d.1 i)).2 = 0 then ((kReads d (d.1 i)).1, nI i) else dScan k (i + 1) (kReads d (d.1 i)).1) = _
  rw [if_neg hle]
theorem dig_cases (x : Int32) : (gIn x 48 57 = 0 ∧ ∀ d, dReads d x = dOther d x) ∨ (¬ gIn x 48 57 = 0 ∧ (∀ d, dReads d x = kDigit d (x - 48)) ∧ 48 ≤ x.toInt ∧ x.toInt ≤ 57) := by
  unfold gIn gOut dReads
  by_cases h1 : x < 48
  · rw [if_pos h1]
    exact Or.inl ⟨rfl, fun d => if_pos h1⟩
  · rw [if_neg h1]
    by_cases h2 : x ≤ 57
    · rw [if_pos h2]
      have a : ¬ (57 : Int32) < x := Int32.not_lt.mpr h2
      refine Or.inr ⟨by decide, fun d => by rw [if_neg h1, if_neg a], ?_⟩
      have b := Int32.le_iff_toInt_le.mp h2
      have c := Int32.le_iff_toInt_le.mp (Int32.not_lt.mp h1)
      rw [show (57 : Int32).toInt = 57 from rfl] at b
      rw [show (48 : Int32).toInt = 48 from rfl] at c
      omega
    · rw [if_neg h2]
      exact Or.inl ⟨rfl, fun d => by rw [if_neg h1, if_pos (Int32.not_le.mp h2)]⟩
/-- the parts of a segment: their number, the least, the most -/
def isPt (pt : Int32) (L M : Int) : Prop := (pt = 1 ∧ L = 0 ∧ M = 1000) ∨ (pt = 2 ∧ L = 1 ∧ M = 100) ∨ (pt = 3 ∧ L = 1 ∧ M = 99)
theorem isPt_n {pt : Int32} {L M : Int} (h : isPt pt L M) : ¬ pt = 0 ∧ dPt pt = pt ∧ (dLeast pt).toInt = L ∧ (dMost pt).toInt = M ∧ 0 ≤ L ∧ L ≤ 1 ∧ 99 ≤ M ∧ M ≤ 1000 ∧ gIn (dEndC pt) 48 57 = 0 := by
  rcases h with ⟨rfl, rfl, rfl⟩ | ⟨rfl, rfl, rfl⟩ | ⟨rfl, rfl, rfl⟩ <;> decide
/-- what is common: the text -/
def tX (ch pd : Nat → Int32) (n : Nat) : Prop := n ≤ 60 ∧ ∀ k : Nat, k < n → ch k = pd k ∧ 33 ≤ (pd k).toInt ∧ (pd k).toInt ≤ 126
/-- a number goes no further -/
def stopP (pd : Nat → Int32) (n : Nat) (pt : Int32) (i : Nat) (v : Int32) : Prop := v.toInt = 0 ∨ i = n ∨ gIn (pd i) 48 57 = 0 ∨ dMost pt < 10 * v + pd i - 48
theorem here_at {pd : Nat → Int32} {n i : Nat} (hn : n ≤ 60) (hi : i < n) : gHere pd (nI n) (nI i) = pd i := by
  rw [here_lt hn (by omega), if_pos hi]
theorem here_end {pd : Nat → Int32} {n : Nat} (hn : n ≤ 60) : gHere pd (nI n) (nI n) = 0 := by
  rw [here_lt hn (Nat.le_refl _), if_neg (Nat.lt_irrefl n)]
theorem ten_ti {v x : Int32} (hv : 0 ≤ v.toInt ∧ v.toInt ≤ 1000) (hx : 0 ≤ x.toInt ∧ x.toInt ≤ 126) : (10 * v + x - 48).toInt = 10 * v.toInt + x.toInt - 48 ∧ 10 * v + (x - 48) = 10 * v + x - 48 := by
  have e10 : (10 : Int32).toInt = 10 := rfl
  have e48 : (48 : Int32).toInt = 48 := rfl
  have h1 : (10 * v).toInt = 10 * v.toInt := by
    rw [ti_mul (by rw [e10]; omega) (by rw [e10]; omega), e10]
  have h2 : (10 * v + x).toInt = 10 * v.toInt + x.toInt := by
    rw [ti_add (by rw [h1]; omega) (by rw [h1]; omega), h1]
  refine ⟨?_, ?_⟩
  · rw [ti_sub (by rw [h2, e48]; omega) (by rw [h2, e48]; omega), h2, e48]
  · rw [Int32.sub_eq_add_neg, Int32.sub_eq_add_neg, Int32.add_assoc]
theorem nGo_s (pd : Nat → Int32) (ln most : Int32) (f : Nat) (sp v : Int32) : nGo pd ln most (f + 1) sp v = if v ≤ 0 then (sp, v) else if gIn (gHere pd ln sp) 48 57 = 0 then (sp, v) else if most < 10 * v + gHere pd ln sp - 48 then (sp, v) else nGo pd ln most f (sp + 1) (10 * v + gHere pd ln sp - 48) := rfl
theorem le0 {v : Int32} (h : 0 ≤ v.toInt) : v ≤ 0 ↔ v.toInt = 0 := by
  rw [Int32.le_iff_toInt_le, show (0 : Int32).toInt = 0 from rfl]
  omega
theorem go_num {ch pd : Nat → Int32} {n : Nat} {pt : Int32} {L M : Int} (hX : tX ch pd n) (hpt : isPt pt L M) : ∀ f i v, i ≤ n → n - i ≤ f → L ≤ v.toInt → v.toInt ≤ M → ∃ i' v', i ≤ i' ∧ i' ≤ n ∧ nGo pd (nI n) (dMost pt) f (nI i) v = (nI i', v') ∧ L ≤ v'.toInt ∧ v'.toInt ≤ M ∧ stopP pd n pt i' v' ∧ ∀ am rt mn s, dScan (60 - i) i (ch, am, rt, mn, nI n, s, pt, v) = dScan (60 - i') i' (ch, am, rt, mn, nI n, s, pt, v') := by
  obtain ⟨hn, hc⟩ := hX
  obtain ⟨p0, p1, p2, p3, p4, p5, p6, p7, p8⟩ := isPt_n hpt
  intro f
  induction f with
  | zero =>
    intro i v hi hf hl hm
    exact ⟨i, v, Nat.le_refl _, hi, rfl, hl, hm, Or.inr (Or.inl (by omega)), fun _ _ _ _ => rfl⟩
  | succ f ih =>
    intro i v hi hf hl hm
    have stop : nGo pd (nI n) (dMost pt) (f + 1) (nI i) v = (nI i, v) → stopP pd n pt i v → ∃ i' v', i ≤ i' ∧ i' ≤ n ∧ nGo pd (nI n) (dMost pt) (f + 1) (nI i) v = (nI i', v') ∧ L ≤ v'.toInt ∧ v'.toInt ≤ M ∧ stopP pd n pt i' v' ∧ ∀ am rt mn s, dScan (60 - i) i (ch, am, rt, mn, nI n, s, pt, v) = dScan (60 - i') i' (ch, am, rt, mn, nI n, s, pt, v') :=
      fun h1 h2 => ⟨i, v, Nat.le_refl _, hi, h1, hl, hm, h2, fun _ _ _ _ => rfl⟩
    rw [nGo_s] at stop ⊢
    by_cases h0 : v ≤ 0
    · rw [if_pos h0] at stop ⊢
      exact stop rfl (Or.inl ((le0 (by omega)).mp h0))
    rw [if_neg h0] at stop ⊢
    have hv0 : ¬ v.toInt = 0 := fun e => h0 ((le0 (by omega)).mpr e)
    by_cases hin : i = n
    · rw [hin, here_end hn, if_pos (show gIn 0 48 57 = 0 by decide)] at stop ⊢
      exact stop rfl (Or.inr (Or.inl rfl))
    have hlt : i < n := by omega
    obtain ⟨hc1, hc2⟩ := hc i hlt
    rw [here_at hn hlt] at stop ⊢
    rcases dig_cases (pd i) with ⟨g1, g2⟩ | ⟨g1, g2, g3⟩
    · rw [if_pos g1] at stop ⊢
      exact stop rfl (Or.inr (Or.inr (Or.inl g1)))
    · rw [if_neg g1] at stop ⊢
      obtain ⟨t1, t2⟩ := ten_ti (v := v) (x := pd i) (by omega) (by omega)
      by_cases hmo : dMost pt < 10 * v + pd i - 48
      · rw [if_pos hmo] at stop ⊢
        exact stop rfl (Or.inr (Or.inr (Or.inr hmo)))
      · rw [if_neg hmo] at stop ⊢
        have hmo2 : (10 * v + pd i - 48).toInt ≤ M := by
          have := Int32.le_iff_toInt_le.mp (Int32.not_lt.mp hmo)
          rw [p3] at this
          exact this
        rw [← nI_succ]
        obtain ⟨i', v', a1, a2, a3, a4, a5, a6, a7⟩ := ih (i + 1) (10 * v + pd i - 48) (by omega) (by omega) (by rw [t1]; omega) hmo2
        refine ⟨i', v', by omega, a2, a3, a4, a5, a6, fun am rt mn s => ?_⟩
        rw [← a7 am rt mn s, scan_go hn hlt rfl]
        have er : kReads (ch, am, rt, mn, nI n, s, pt, v) (pd i) = ((ch, am, rt, mn, nI n, s, pt, 10 * v + pd i - 48), 1) := by
          rw [kReads, kseal_eq, g2, kDigit, kseal_eq]
          unfold dDigit
          dsimp only
          have hv1 : ¬ v = 0 := fun e => hv0 (by rw [e]; rfl)
          have hv2 : ¬ v = -1 := fun e => by
            rw [e] at hl
            have : (-1 : Int32).toInt = -1 := rfl
            omega
          have en : dNu v (pd i - 48) = 10 * v + pd i - 48 := by
            unfold dNu
            rw [if_neg hv2, t2]
          have hle : ¬ 10 * v + pd i - 48 < dLeast pt := by
            rw [Int32.lt_iff_toInt_lt, p2, t1]
            omega
          rw [if_neg hv1, p1, en, if_neg hle, if_neg hmo]
        show (if (kReads (ch, am, rt, mn, nI n, s, pt, v) (ch i)).2 = 0 then _ else dScan (60 - (i + 1)) (i + 1) (kReads (ch, am, rt, mn, nI n, s, pt, v) (ch i)).1) = _
        rw [hc1, er, if_neg (show ¬ (1 : Int32) = 0 by decide)]
/-- where a part's number may begin: its own part, or ahead of an aim -/
def isP0 (pd : Nat → Int32) (i n : Nat) (pt p : Int32) : Prop := p = pt ∨ (p = 0 ∧ pt = 1 ∧ (i < n → ¬ pd i = 104))
theorem fin_no {ch am rt mn : Nat → Int32} {n : Nat} {s p : Int32} : dFin (ch, am, rt, mn, nI n, s, p, -1) = ((ch, am, rt, mn, nI n, s, p, -1), nI n) := by
  unfold dFin dPart dNum
  dsimp only
  by_cases h : p = 3
  · rw [if_pos h, if_pos rfl]
  · rw [if_neg h]
theorem num_rel {ch pd : Nat → Int32} {n i : Nat} {pt p : Int32} {L M : Int} (hX : tX ch pd n) (hpt : isPt pt L M) (hi : i ≤ n) (hp : isP0 pd i n pt p) :
    ((∃ v, kNum pd (nI n) (dLeast pt) (dMost pt) (nI i, 1) = (nI i, 0, v)) ∧ ∀ am rt mn s, ∃ p' nu, dScan (60 - i) i (ch, am, rt, mn, nI n, s, p, -1) = ((ch, am, rt, mn, nI n, s, p', nu), nI i)) ∨
    (∃ i' v, i < i' ∧ i' ≤ n ∧ kNum pd (nI n) (dLeast pt) (dMost pt) (nI i, 1) = (nI i', 1, v) ∧ L ≤ v.toInt ∧ v.toInt ≤ M ∧ stopP pd n pt i' v ∧ ∀ am rt mn s, dScan (60 - i) i (ch, am, rt, mn, nI n, s, p, -1) = dScan (60 - i') i' (ch, am, rt, mn, nI n, s, pt, v)) := by
  have hX0 := hX
  obtain ⟨hn, hc⟩ := hX
  obtain ⟨p0, p1, p2, p3, p4, p5, p6, p7, p8⟩ := isPt_n hpt
  rw [kNum, kseal_eq]
  unfold tNum
  dsimp only
  have hdp : dPt p = pt := by
    rcases hp with e | ⟨e, e2, _⟩
    · rw [e]
      exact p1
    · rw [e, e2]
      rfl
  by_cases hin : i = n
  · subst hin
    refine Or.inl ⟨⟨gHere pd (nI i) (nI i) - 48, ?_⟩, fun am rt mn s => ⟨p, -1, ?_⟩⟩
    · rw [here_end hn, if_pos (show tkF 1 (nB 0 (dLeast pt)) = 0 by rfl)]
    · rw [scan_end hn rfl]
      exact fin_no
  have hlt : i < n := by omega
  obtain ⟨hc1, hc2⟩ := hc i hlt
  rw [here_at hn hlt]
  have e48 : (48 : Int32).toInt = 48 := rfl
  rcases dig_cases (pd i) with ⟨g1, g2⟩ | ⟨g1, g2, g3⟩
  · have eb : nB (pd i) (dLeast pt) = 0 := by
      unfold nB
      rw [if_pos g1]
    rw [eb, if_pos (show tkF 1 0 = 0 by rfl)]
    refine Or.inl ⟨⟨_, rfl⟩, fun am rt mn s => ⟨p, -1, ?_⟩⟩
    rw [scan_go hn hlt rfl]
    have er : kReads (ch, am, rt, mn, nI n, s, p, -1) (pd i) = ((ch, am, rt, mn, nI n, s, p, -1), 0) := by
      rw [kReads, kseal_eq, g2]
      unfold dOther dPart dNum
      dsimp only
      rcases hp with e | ⟨e, e2, e3⟩
      · rw [if_neg (by rw [e]; exact p0), if_pos rfl]
      · rw [if_pos e, kHold, kseal_eq]
        unfold dHold
        dsimp only
        rw [if_neg (e3 hlt)]
    show (if (kReads (ch, am, rt, mn, nI n, s, p, -1) (ch i)).2 = 0 then ((kReads (ch, am, rt, mn, nI n, s, p, -1) (ch i)).1, nI i) else _) = _
    rw [hc1, er, if_pos rfl]
  · have e1 : (pd i - 48).toInt = (pd i).toInt - 48 := by
      rw [ti_sub (by rw [e48]; omega) (by rw [e48]; omega), e48]
    have er : ∀ am rt mn s, kReads (ch, am, rt, mn, nI n, s, p, -1) (pd i) = ((ch, am, rt, mn, nI n, s, pt, pd i - 48), if pd i - 48 < dLeast pt then 0 else 1) := by
      intro am rt mn s
      rw [kReads, kseal_eq, g2, kDigit, kseal_eq]
      unfold dDigit
      dsimp only
      have en : dNu (-1) (pd i - 48) = pd i - 48 := if_pos rfl
      have hmo : ¬ dMost pt < pd i - 48 := by
        rw [Int32.lt_iff_toInt_lt, p3, e1]
        omega
      rw [if_neg (show ¬ (-1 : Int32) = 0 by decide), hdp, en, if_neg hmo]
    by_cases hl : pd i - 48 < dLeast pt
    · have eb : nB (pd i) (dLeast pt) = 0 := by
        unfold nB
        rw [if_neg g1, if_pos hl]
      rw [eb, if_pos (show tkF 1 0 = 0 by rfl)]
      refine Or.inl ⟨⟨_, rfl⟩, fun am rt mn s => ⟨pt, pd i - 48, ?_⟩⟩
      rw [scan_go hn hlt rfl]
      show (if (kReads (ch, am, rt, mn, nI n, s, p, -1) (ch i)).2 = 0 then ((kReads (ch, am, rt, mn, nI n, s, p, -1) (ch i)).1, nI i) else _) = _
      rw [hc1, er, if_pos hl, if_pos rfl]
    · have eb : nB (pd i) (dLeast pt) = 1 := by
        unfold nB
        rw [if_neg g1, if_neg hl]
      rw [eb, if_neg (show ¬ tkF 1 1 = 0 by decide), ← nI_succ]
      have hl2 : L ≤ (pd i - 48).toInt := by
        have := Int32.le_iff_toInt_le.mp (Int32.not_lt.mp hl)
        rw [p2] at this
        exact this
      obtain ⟨i', v', a1, a2, a3, a4, a5, a6, a7⟩ := go_num hX0 hpt 60 (i + 1) (pd i - 48) (by omega) (by omega) hl2 (by rw [e1]; omega)
      refine Or.inr ⟨i', v', by omega, a2, by rw [a3], a4, a5, a6, fun am rt mn s => ?_⟩
      rw [← a7 am rt mn s, scan_go hn hlt rfl]
      show (if (kReads (ch, am, rt, mn, nI n, s, p, -1) (ch i)).2 = 0 then _ else dScan (60 - (i + 1)) (i + 1) (kReads (ch, am, rt, mn, nI n, s, p, -1) (ch i)).1) = _
      rw [hc1, er, if_neg hl, if_neg (show ¬ (1 : Int32) = 0 by decide)]
/-- behind a number: what ends it, or a fault -/
theorem end_rel {ch pd : Nat → Int32} {n i : Nat} {pt v : Int32} {L M : Int} (hX : tX ch pd n) (hpt : isPt pt L M) (hi : i ≤ n) (hv : L ≤ v.toInt ∧ v.toInt ≤ M) (hs : stopP pd n pt i v) :
    ((i < n ∧ pd i = dEndC pt) ∧ ∀ am rt mn s, dScan (60 - i) i (ch, am, rt, mn, nI n, s, pt, v) = dScan (60 - (i + 1)) (i + 1) (dEnd (ch, am, rt, mn, nI n, s, pt, v))) ∨
    (i = n) ∨
    ((i < n ∧ ¬ pd i = dEndC pt) ∧ ∀ am rt mn s, ∃ p' nu, dScan (60 - i) i (ch, am, rt, mn, nI n, s, pt, v) = ((ch, am, rt, mn, nI n, s, p', nu), nI i)) := by
  obtain ⟨hn, hc⟩ := hX
  obtain ⟨p0, p1, p2, p3, p4, p5, p6, p7, p8⟩ := isPt_n hpt
  by_cases hin : i = n
  · exact Or.inr (Or.inl hin)
  have hlt : i < n := by omega
  obtain ⟨hc1, hc2⟩ := hc i hlt
  have hv2 : ¬ v = -1 := fun e => by
    rw [e] at hv
    have : (-1 : Int32).toInt = -1 := rfl
    omega
  by_cases hx : pd i = dEndC pt
  · refine Or.inl ⟨⟨hlt, hx⟩, fun am rt mn s => ?_⟩
    rw [scan_go hn hlt rfl]
    have er : kReads (ch, am, rt, mn, nI n, s, pt, v) (pd i) = (dEnd (ch, am, rt, mn, nI n, s, pt, v), 1) := by
      rcases dig_cases (pd i) with ⟨g1, g2⟩ | ⟨g1, _⟩
      · rw [kReads, kseal_eq, g2]
        unfold dOther dPart dNum
        dsimp only
        rw [if_neg p0, if_neg hv2, if_pos hx, kEnd, kseal_eq]
      · rw [hx] at g1
        exact absurd p8 g1
    show (if (kReads (ch, am, rt, mn, nI n, s, pt, v) (ch i)).2 = 0 then _ else dScan (60 - (i + 1)) (i + 1) (kReads (ch, am, rt, mn, nI n, s, pt, v) (ch i)).1) = _
    rw [hc1, er, if_neg (show ¬ (1 : Int32) = 0 by decide)]
  · refine Or.inr (Or.inr ⟨⟨hlt, hx⟩, fun am rt mn s => ?_⟩)
    have er : ∃ p' nu, kReads (ch, am, rt, mn, nI n, s, pt, v) (pd i) = ((ch, am, rt, mn, nI n, s, p', nu), 0) := by
      rcases dig_cases (pd i) with ⟨g1, g2⟩ | ⟨g1, g2, g3⟩
      · rw [kReads, kseal_eq, g2]
        unfold dOther dPart dNum
        dsimp only
        rw [if_neg p0, if_neg hv2, if_neg hx]
        exact ⟨pt, v, rfl⟩
      · rw [kReads, kseal_eq, g2, kDigit, kseal_eq]
        unfold dDigit
        dsimp only
        by_cases hv0 : v = 0
        · rw [if_pos hv0, p1]
          exact ⟨pt, v, rfl⟩
        · rw [if_neg hv0, p1]
          obtain ⟨t1, t2⟩ := ten_ti (v := v) (x := pd i) (by omega) (by omega)
          have en : dNu v (pd i - 48) = 10 * v + pd i - 48 := by
            unfold dNu
            rw [if_neg hv2, t2]
          have hv00 : ¬ v.toInt = 0 := fun e => hv0 (Int32.toInt_inj.mp e)
          have hle : ¬ 10 * v + pd i - 48 < dLeast pt := by
            rw [Int32.lt_iff_toInt_lt, p2, t1]
            omega
          have hmo : dMost pt < 10 * v + pd i - 48 := by
            rcases hs with w | w | w | w
            · exact absurd w hv00
            · exact absurd w hin
            · exact absurd w g1
            · exact w
          rw [en, if_neg hle, if_pos hmo]
          exact ⟨pt, _, rfl⟩
    obtain ⟨p', nu, er⟩ := er
    refine ⟨p', nu, ?_⟩
    rw [scan_go hn hlt rfl]
    show (if (kReads (ch, am, rt, mn, nI n, s, pt, v) (ch i)).2 = 0 then ((kReads (ch, am, rt, mn, nI n, s, pt, v) (ch i)).1, nI i) else _) = _
    rw [hc1, er, if_pos rfl]
