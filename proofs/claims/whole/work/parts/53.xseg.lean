/-! class and model: a segment -/
theorem kNum_0 (pd : Nat → Int32) (ln l m sp : Int32) : kNum pd ln l m (sp, 0) = (sp, 0, gHere pd ln sp - 48) := by
  rw [kNum, kseal_eq]
  unfold tNum
  dsimp only
  rw [if_pos (show tkF 0 _ = 0 from if_pos rfl)]
theorem tSl_0 (pd : Nat → Int32) (ln c sp v : Int32) : tSl pd ln c (sp, 0, v) = (sp, 0) := by
  unfold tSl
  dsimp only
  rw [show tkF 0 (gB (gHere pd ln sp) c) = 0 from if_pos rfl, Int32.add_zero]
theorem chain1 (pd : Nat → Int32) (ln sp ho a b : Int32) : (tEnd pd ln (sp, 0) ho a b).1 = sp ∧ (tEnd pd ln (sp, 0) ho a b).2.1 = 0 := by
  unfold tEnd
  rw [kNum_0]
  exact ⟨rfl, rfl⟩
theorem chain0 (pd : Nat → Int32) (ln sp a b : Int32) : (tEnd pd ln (tSl pd ln 120 (kNum pd ln 1 100 (sp, 0))) 0 a b).1 = sp ∧ (tEnd pd ln (tSl pd ln 120 (kNum pd ln 1 100 (sp, 0))) 0 a b).2.1 = 0 := by
  rw [kNum_0, tSl_0]
  exact chain1 _ _ _ _ _ _
theorem tSl_1 {pd : Nat → Int32} {n i : Nat} {c v : Int32} (hn : n ≤ 60) (hi : i < n) (h : pd i = c) : tSl pd (nI n) c (nI i, 1, v) = (nI (i + 1), 1) := by
  unfold tSl
  dsimp only
  rw [here_at hn hi, show gB (pd i) c = 1 from if_pos h, show tkF 1 1 = 1 from rfl, nI_succ]
theorem tSl_no {pd : Nat → Int32} {n i : Nat} {c v : Int32} (hn : n ≤ 60) (hi : i < n) (h : ¬ pd i = c) : tSl pd (nI n) c (nI i, 1, v) = (nI i, 0) := by
  unfold tSl
  dsimp only
  rw [here_at hn hi, show gB (pd i) c = 0 from if_neg h, show tkF 1 0 = 0 from rfl, Int32.add_zero]
theorem tSl_end {pd : Nat → Int32} {n : Nat} {c v : Int32} (hn : n ≤ 60) (hc : ¬ (0 : Int32) = c) : tSl pd (nI n) c (nI n, 1, v) = (nI n, 0) := by
  unfold tSl
  dsimp only
  rw [here_end hn, show gB 0 c = 0 from if_neg hc, show tkF 1 0 = 0 from rfl, Int32.add_zero]
theorem fin_12 {ch am rt mn : Nat → Int32} {n : Nat} {s p v : Int32} (hp : ¬ p = 3) : dFin (ch, am, rt, mn, nI n, s, p, v) = ((ch, am, rt, mn, nI n, s, p, v), nI n) := by
  unfold dFin dPart dNum
  dsimp only
  rw [if_neg hp]
def segNo (pd : Nat → Int32) (n i i' : Nat) : Prop := ∀ r, (kSeg pd (nI n) (nI i, 1, r)).1 = nI i' ∧ (kSeg pd (nI n) (nI i, 1, r)).2.1 = 0
def segIs (pd : Nat → Int32) (n i i' : Nat) (ho ta tR tm : Int32) : Prop := ∀ r0 r1 r2 r3 : Int32, kSeg pd (nI n) (nI i, 1, r0, r1, r2, r3) = (nI i', 1, ho, if ho = 0 then ta else r1, if ho = 0 then tR else r2, tm)
theorem seg_rel {ch pd : Nat → Int32} {n i : Nat} (hX : tX ch pd n) (hi : i ≤ n) :
    (∃ i', i ≤ i' ∧ i' ≤ n ∧ segNo pd n i i' ∧ ∀ am rt mn s, ∃ am' rt' p' nu, dScan (60 - i) i (ch, am, rt, mn, nI n, s, 0, -1) = ((ch, am', rt', mn, nI n, s, p', nu), nI i')) ∨
    (∃ i' ho ta tR tm, i + 2 ≤ i' ∧ i' ≤ n ∧ (ho = 0 ∨ ho = 1) ∧ segIs pd n i i' ho ta tR tm ∧ (0 ≤ ta.toInt ∧ ta.toInt ≤ 1000) ∧ (1 ≤ tR.toInt ∧ tR.toInt ≤ 100) ∧ (1 ≤ tm.toInt ∧ tm.toInt ≤ 99) ∧ stopP pd n 3 i' tm ∧
      ∀ am rt mn s, dScan (60 - i) i (ch, am, rt, mn, nI n, s, 0, -1) = dScan (60 - i') i' (ch, dKeep s am (if ho = 0 then ta else -1), if ho = 0 then dKeep s rt tR else rt, mn, nI n, s, 3, tm)) := by
  have hn := hX.1
  have p1 : isPt 1 0 1000 := Or.inl ⟨rfl, rfl, rfl⟩
  have p2 : isPt 2 1 100 := Or.inr (Or.inl ⟨rfl, rfl, rfl⟩)
  have p3 : isPt 3 1 99 := Or.inr (Or.inr ⟨rfl, rfl, rfl⟩)
  have l1 : dLeast 1 = 0 := rfl
  have m1 : dMost 1 = 1000 := rfl
  have l2 : dLeast 2 = 1 := rfl
  have m2 : dMost 2 = 100 := rfl
  have l3 : dLeast 3 = 1 := rfl
  have m3 : dMost 3 = 99 := rfl
  unfold segNo segIs
  by_cases hh : gHere pd (nI n) (nI i) = 104
  · have hlt : i < n := here_in hn hi hh (by decide)
    have hx : pd i = 104 := by
      rw [here_at hn hlt] at hh
      exact hh
    have eS : ∀ r0 r1 r2 r3 : Int32, kSeg pd (nI n) (nI i, 1, r0, r1, r2, r3) = tEnd pd (nI n) (nI (i + 1), 1) 1 r1 r2 := by
      intro r0 r1 r2 r3
      rw [kSeg, kseal_eq]
      unfold tSeg
      dsimp only
      rw [if_pos hh, show tkF 1 1 = 1 from rfl, ← nI_succ]
    have eC : ∀ am rt mn s, dScan (60 - i) i (ch, am, rt, mn, nI n, s, 0, -1) = dScan (60 - (i + 1)) (i + 1) (ch, dKeep s am (-1), rt, mn, nI n, s, 3, -1) := by
      intro am rt mn s
      rw [scan_go hn hlt rfl]
      have er : kReads (ch, am, rt, mn, nI n, s, 0, -1) (pd i) = ((ch, dKeep s am (-1), rt, mn, nI n, s, 3, -1), 1) := by
        rw [hx]
        rcases dig_cases 104 with ⟨g1, g2⟩ | ⟨g1, _⟩
        · rw [kReads, kseal_eq, g2]
          unfold dOther dPart
          dsimp only
          rw [if_pos rfl, kHold, kseal_eq]
          unfold dHold
          dsimp only
          rw [if_pos rfl]
        · exact absurd (by decide) g1
      show (if (kReads (ch, am, rt, mn, nI n, s, 0, -1) (ch i)).2 = 0 then _ else dScan (60 - (i + 1)) (i + 1) (kReads (ch, am, rt, mn, nI n, s, 0, -1) (ch i)).1) = _
      rw [(hX.2 i hlt).1, er, if_neg (show ¬ (1 : Int32) = 0 by decide)]
    rcases num_rel hX p3 (show i + 1 ≤ n by omega) (Or.inl rfl) with ⟨⟨v, k1⟩, k2⟩ | ⟨i', v, a1, a2, k1, a3, a4, a5, k2⟩
    · rw [l3, m3] at k1
      refine Or.inl ⟨i + 1, by omega, by omega, fun r => ?_, fun am rt mn s => ?_⟩
      · obtain ⟨r0, r1, r2, r3⟩ := r
        rw [eS]
        unfold tEnd
        rw [k1]
        exact ⟨rfl, rfl⟩
      · obtain ⟨p', nu, k3⟩ := k2 (dKeep s am (-1)) rt mn s
        exact ⟨_, _, p', nu, by rw [eC, k3]⟩
    · rw [l3, m3] at k1
      refine Or.inr ⟨i', 1, 0, 1, v, by omega, a2, Or.inr rfl, fun r0 r1 r2 r3 => ?_, by decide, by decide, ⟨a3, a4⟩, a5, fun am rt mn s => ?_⟩
      · rw [eS]
        unfold tEnd
        rw [k1]
        rfl
      · rw [eC, k2, if_neg (show ¬ (1 : Int32) = 0 by decide), if_neg (show ¬ (1 : Int32) = 0 by decide)]
  · have eS : ∀ r0 r1 r2 r3 : Int32, kSeg pd (nI n) (nI i, 1, r0, r1, r2, r3) = tEnd pd (nI n) (tSl pd (nI n) 120 (kNum pd (nI n) 1 100 (tSl pd (nI n) 47 (kNum pd (nI n) 0 1000 (nI i, 1))))) 0 (kNum pd (nI n) 0 1000 (nI i, 1)).2.2 (kNum pd (nI n) 1 100 (tSl pd (nI n) 47 (kNum pd (nI n) 0 1000 (nI i, 1)))).2.2 := by
      intro r0 r1 r2 r3
      rw [kSeg, kseal_eq]
      unfold tSeg
      dsimp only
      rw [if_neg hh]
    have hp0 : isP0 pd i n 1 0 := Or.inr ⟨rfl, rfl, fun hlt e => hh (by rw [here_at hn hlt]; exact e)⟩
    rcases num_rel hX p1 hi hp0 with ⟨⟨v, k1⟩, k2⟩ | ⟨i1, va, a1, a2, k1, a3, a4, a5, k2⟩
    · rw [l1, m1] at k1
      refine Or.inl ⟨i, Nat.le_refl _, hi, fun r => ?_, fun am rt mn s => ?_⟩
      · obtain ⟨r0, r1, r2, r3⟩ := r
        rw [eS, k1, tSl_0]
        exact chain0 _ _ _ _ _
      · obtain ⟨p', nu, k3⟩ := k2 am rt mn s
        exact ⟨_, _, p', nu, k3⟩
    rw [l1, m1] at k1
    rcases end_rel hX p1 a2 ⟨a3, a4⟩ a5 with ⟨⟨b1, b2⟩, b3⟩ | b1 | ⟨⟨b1, b2⟩, b3⟩
    · have b2 : pd i1 = 47 := b2
      have t1 : tSl pd (nI n) 47 (nI i1, 1, va) = (nI (i1 + 1), 1) := tSl_1 hn b1 b2
      have b4 : ∀ am rt mn s, dScan (60 - i) i (ch, am, rt, mn, nI n, s, 0, -1) = dScan (60 - (i1 + 1)) (i1 + 1) (ch, dKeep s am va, rt, mn, nI n, s, 2, -1) := fun am rt mn s => by
        rw [k2, b3]
        rfl
      rcases num_rel hX p2 (show i1 + 1 ≤ n by omega) (Or.inl rfl) with ⟨⟨v, c1⟩, c2⟩ | ⟨i2, vr, c0, c0', c1, c3, c4, c5, c2⟩
      · rw [l2, m2] at c1
        refine Or.inl ⟨i1 + 1, by omega, by omega, fun r => ?_, fun am rt mn s => ?_⟩
        · obtain ⟨r0, r1, r2, r3⟩ := r
          rw [eS, k1, t1, c1, tSl_0]
          exact chain1 _ _ _ _ _ _
        · obtain ⟨p', nu, k3⟩ := c2 (dKeep s am va) rt mn s
          exact ⟨_, _, p', nu, by rw [b4, k3]⟩
      rw [l2, m2] at c1
      rcases end_rel hX p2 c0' ⟨c3, c4⟩ c5 with ⟨⟨d1, d2⟩, d3⟩ | d1 | ⟨⟨d1, d2⟩, d3⟩
      · have d2 : pd i2 = 120 := d2
        have t2 : tSl pd (nI n) 120 (nI i2, 1, vr) = (nI (i2 + 1), 1) := tSl_1 hn d1 d2
        have d4 : ∀ am rt mn s, dScan (60 - i) i (ch, am, rt, mn, nI n, s, 0, -1) = dScan (60 - (i2 + 1)) (i2 + 1) (ch, dKeep s am va, dKeep s rt vr, mn, nI n, s, 3, -1) := fun am rt mn s => by
          rw [b4, c2, d3]
          rfl
        rcases num_rel hX p3 (show i2 + 1 ≤ n by omega) (Or.inl rfl) with ⟨⟨v, f1⟩, f2⟩ | ⟨i3, vm, f0, f0', f1, f3, f4, f5, f2⟩
        · rw [l3, m3] at f1
          refine Or.inl ⟨i2 + 1, by omega, by omega, fun r => ?_, fun am rt mn s => ?_⟩
          · obtain ⟨r0, r1, r2, r3⟩ := r
            rw [eS, k1, t1, c1, t2]
            unfold tEnd
            rw [f1]
            exact ⟨rfl, rfl⟩
          · obtain ⟨p', nu, k3⟩ := f2 (dKeep s am va) (dKeep s rt vr) mn s
            exact ⟨_, _, p', nu, by rw [d4, k3]⟩
        · rw [l3, m3] at f1
          refine Or.inr ⟨i3, 0, va, vr, vm, by omega, f0', Or.inl rfl, fun r0 r1 r2 r3 => ?_, ⟨a3, a4⟩, ⟨c3, c4⟩, ⟨f3, f4⟩, f5, fun am rt mn s => ?_⟩
          · rw [eS, k1, t1, c1, t2]
            unfold tEnd
            rw [f1]
            rfl
          · rw [d4, f2, if_pos rfl, if_pos rfl]
      · subst d1
        refine Or.inl ⟨i2, by omega, Nat.le_refl _, fun r => ?_, fun am rt mn s => ?_⟩
        · obtain ⟨r0, r1, r2, r3⟩ := r
          rw [eS, k1, t1, c1, tSl_end hn (by decide)]
          exact chain1 _ _ _ _ _ _
        · exact ⟨_, _, _, _, by rw [b4, c2, scan_end hn rfl, fin_12 (by decide)]⟩
      · have d2 : ¬ pd i2 = 120 := d2
        refine Or.inl ⟨i2, by omega, by omega, fun r => ?_, fun am rt mn s => ?_⟩
        · obtain ⟨r0, r1, r2, r3⟩ := r
          rw [eS, k1, t1, c1, tSl_no hn d1 d2]
          exact chain1 _ _ _ _ _ _
        · obtain ⟨p', nu, k3⟩ := d3 (dKeep s am va) rt mn s
          exact ⟨_, _, p', nu, by rw [b4, c2, k3]⟩
    · subst b1
      refine Or.inl ⟨i1, by omega, Nat.le_refl _, fun r => ?_, fun am rt mn s => ?_⟩
      · obtain ⟨r0, r1, r2, r3⟩ := r
        rw [eS, k1, tSl_end hn (by decide)]
        exact chain0 _ _ _ _ _
      · exact ⟨_, _, _, _, by rw [k2, scan_end hn rfl, fin_12 (by decide)]⟩
    · have b2 : ¬ pd i1 = 47 := b2
      refine Or.inl ⟨i1, by omega, by omega, fun r => ?_, fun am rt mn s => ?_⟩
      · obtain ⟨r0, r1, r2, r3⟩ := r
        rw [eS, k1, tSl_no hn b1 b2]
        exact chain0 _ _ _ _ _
      · obtain ⟨p', nu, k3⟩ := b3 am rt mn s
        exact ⟨_, _, p', nu, by rw [k2, k3]⟩
