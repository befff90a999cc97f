/-! class and model: a minute -/
def gZ (g : Nat → Int32) : Prop := ∀ k : Nat, 36 ≤ k → g k = 0
theorem fill_gZ {g : Nat → Int32} (h : gZ g) : fillA 36 g 0 = z0 := by
  funext k
  unfold fillA
  by_cases hk : k < 36
  · rw [if_pos hk]; rfl
  · rw [if_neg hk, h k (by omega)]; rfl
theorem gZ_z0 : gZ z0 := fun _ _ => rfl
theorem gZ_upd {g : Nat → Int32} {k : Nat} {x : Int32} (h : gZ g) (hk : k < 36) : gZ (upd g k x) := by
  intro i hi
  unfold upd
  rw [if_neg (by omega)]
  exact h i hi
theorem gain_F {g : Nat → Int32} {i : Nat} {x : Int32} (hi : i < 60) : gGain g (gFirst (nI i)) x = upd g (nF i) (g (nF i) + x) := by
  rw [gFirst_n hi, gain_n (nF_lt hi)]
theorem gain_S {g : Nat → Int32} {i : Nat} {x : Int32} (hi : i < 60) : gGain g (gSecond (nI i)) x = upd g (nS i) (g (nS i) + x) := by
  rw [gSecond_n hi, gain_n (nS_lt hi)]
theorem gJo_z {h c : Nat → Int32} {le : Int32} {g : Nat → Int32} (hg : gZ g) : ∀ i, i ≤ 60 → gZ (gJo h c le g i) := by
  intro i
  induction i with
  | zero => exact fun _ => hg
  | succ i ih =>
    intro hi
    have hz := ih (by omega)
    rw [gJo_s]
    split
    · exact hz
    · rw [gain_F (by omega), gain_S (by omega)]
      exact gZ_upd (gZ_upd hz (nF_lt (by omega))) (nS_lt (by omega))
theorem gRi_z {h : Nat → Int32} {fu ri : Int32} {a : (Nat → Int32) × Int32} (hg : gZ a.1) : ∀ i, i ≤ 36 → gZ (gRi h fu ri a i).1 := by
  intro i
  induction i with
  | zero => exact fun _ => hg
  | succ i ih =>
    intro hi
    rw [gRi_s]
    exact gZ_upd (ih (by omega)) (by omega)
theorem flow_eq {h g g' s c : Nat → Int32} {fu ai ra le ri mi lo fl : Int32} (hg : gZ g) (hg' : gZ g') (hf : gFur fu ai ra = mFur fu ai ra) : pFlow (h, g, s, c, fu, ai, ra, le, ri, mi, lo, fl) = pTick (kFl (pSetFur (h, g', s, c, fu, ai, ra, le, ri, mi, lo, fl))) := by
  rw [kFl, kseal_eq]
  unfold pFlow
  simp only [kseal_eq]
  rw [fill_gZ hg, hf]
  unfold pSetFur
  dsimp only
  unfold pFl
  dsimp only
  rw [fill_gZ hg']
  rfl
theorem gWorst_s (h s c : Nat → Int32) (i : Nat) : gWorst h s c (i + 1) = if gWh c (nI i) = 0 then gWorst h s c i else if (gWorst h s c i).1 = -1 then (nI i, gMar h s (nI i)) else if (gWorst h s c i).2 ≤ gMar h s (nI i) then gWorst h s c i else (nI i, gMar h s (nI i)) := rfl
theorem mWorst_s (h s c : Nat → Int32) (i : Nat) : mWorst h s c (i + 1) = if gWh c (nI i) = 0 then mWorst h s c i else if 0 ≤ gMar h s (nI i) then mWorst h s c i else if mWorst h s c i = -4 then nI i else if gMar h s (mWorst h s c i) ≤ gMar h s (nI i) then mWorst h s c i else nI i := rfl
theorem nI_nm {i : Nat} (h : i < 60) : nI i ≠ -1 ∧ nI i ≠ -4 := by
  refine ⟨fun e => ?_, fun e => ?_⟩
  · have := nI_pos (n := i) (by omega)
    rw [e] at this
    exact this (by decide)
  · have := nI_pos (n := i) (by omega)
    rw [e] at this
    exact this (by decide)
theorem gWh_c {c : Nat → Int32} {i : Nat} (h : i < 60) (hw : ¬ gWh c (nI i) = 0) : c i = 0 := by
  rw [gWh_n h] at hw
  by_cases e : c i = 0
  · exact e
  · rw [if_neg e] at hw
    exact absurd rfl hw
theorem worst_rel (h s c : Nat → Int32) : ∀ i, i ≤ 60 → ((gWorst h s c i).1 = -1 ∧ mWorst h s c i = -4) ∨ ∃ j, j < i ∧ c j = 0 ∧ gWorst h s c i = (nI j, gMar h s (nI j)) ∧ mWorst h s c i = if gMar h s (nI j) < 0 then nI j else -4 := by
  intro i
  induction i with
  | zero => exact fun _ => Or.inl ⟨rfl, rfl⟩
  | succ i ih =>
    intro hi
    rw [gWorst_s, mWorst_s]
    by_cases hw : gWh c (nI i) = 0
    · rw [if_pos hw, if_pos hw]
      rcases ih (by omega) with h1 | ⟨j, h1, h2⟩
      · exact Or.inl h1
      · exact Or.inr ⟨j, by omega, h2⟩
    · rw [if_neg hw, if_neg hw]
      have hc := gWh_c (by omega) hw
      have hnm := nI_nm (i := i) (by omega)
      rcases ih (by omega) with ⟨h1, h2⟩ | ⟨j, hj, hcj, h3, h4⟩
      · rw [if_pos h1, h2]
        refine Or.inr ⟨i, by omega, hc, rfl, ?_⟩
        by_cases hm : 0 ≤ gMar h s (nI i)
        · rw [if_pos hm, if_neg (Int32.not_lt.mpr hm)]
        · rw [if_neg hm, if_pos rfl, if_pos (Int32.not_le.mp hm)]
      · have hnj := nI_nm (i := j) (by omega)
        rw [h3]
        dsimp only
        rw [if_neg hnj.1, h4]
        by_cases hle : gMar h s (nI j) ≤ gMar h s (nI i)
        · rw [if_pos hle]
          refine Or.inr ⟨j, by omega, hcj, rfl, ?_⟩
          by_cases hm : 0 ≤ gMar h s (nI i)
          · rw [if_pos hm]
          · rw [if_neg hm]
            have hj0 : gMar h s (nI j) < 0 := Int32.lt_of_le_of_lt hle (Int32.not_le.mp hm)
            rw [if_pos hj0, if_neg hnj.2, if_pos hle]
        · rw [if_neg hle]
          refine Or.inr ⟨i, by omega, hc, rfl, ?_⟩
          by_cases hm : 0 ≤ gMar h s (nI i)
          · rw [if_pos hm, if_neg (Int32.not_lt.mpr hm)]
            have : ¬ gMar h s (nI j) < 0 := fun h5 => hle (Int32.le_of_lt (Int32.lt_of_lt_of_le h5 hm))
            rw [if_neg this]
          · rw [if_neg hm, if_pos (Int32.not_le.mp hm)]
            by_cases hj0 : gMar h s (nI j) < 0
            · rw [if_pos hj0, if_neg hnj.2, if_neg hle]
            · rw [if_neg hj0, if_pos rfl]
theorem touch_sym : ∀ i, i < 60 → ∀ j, j < 60 → gTouch (nI i) (nI j) = gTouch (nI j) (nI i) := by decide +kernel
theorem mWk_eq (x : Int32) : gMax 1 (x * 9 / 10) = mWk x := by
  unfold gMax mWk
  rw [Int32.mul_comm x 9]
  generalize 9 * x / 10 = y
  by_cases h : (1 : Int32) < y
  · rw [if_pos h, if_pos (Int32.le_of_lt h)]
  · rw [if_neg h]
    by_cases h2 : (1 : Int32) ≤ y
    · rw [if_pos h2]
      exact Int32.le_antisymm h2 (Int32.not_lt.mp h)
    · rw [if_neg h2]
theorem gWeak_s (c : Nat → Int32) (w : Int32) (s : Nat → Int32) (i : Nat) : gWeak c w s (i + 1) = if gWh c (nI i) = 0 then gWeak c w s i else if gTouch (nI i) w = 0 then gWeak c w s i else upd (gWeak c w s i) i (gMax 1 (gWeak c w s i i * 9 / 10)) := rfl
theorem gWeak_0 (c : Nat → Int32) (w : Int32) (s : Nat → Int32) : gWeak c w s 0 = s := rfl
theorem mWeak_0 (c : Nat → Int32) (w : Int32) (s : Nat → Int32) : mWeak c w s 0 = s := rfl
theorem weak_eq (c s : Nat → Int32) {j : Nat} (hj : j < 60) : ∀ i, i ≤ 60 → gWeak c (nI j) s i = mWeak c (nI j) s i := by
  intro i
  induction i with
  | zero =>
    intro _
    rw [gWeak_0, mWeak_0]
  | succ i ih =>
    intro hi
    rw [gWeak_s, mWeak_s, ih (by omega), touch_sym i (by omega) j hj, mWk_eq]
theorem crack_eq (p : PSt) : pCrack p = ((pCr7 p).1, if (pCr7 p).2.2 < 0 then 0 else 1) := by
  obtain ⟨h, g, s, c, fu, ai, ra, le, ri, mi, lo, fl⟩ := p
  have e7 : pCr7 (h, g, s, c, fu, ai, ra, le, ri, mi, lo, fl) = (if mWorst h s c 60 < 0 then (h, g, s, c, fu, ai, ra, le, ri, mi, lo, fl) else pBreak (h, g, s, c, fu, ai, ra, le, ri, mi, lo, fl) (mWorst h s c 60), gStrMax h c, mWorst h s c 60) := rfl
  rw [e7]
  unfold pCrack
  dsimp only
  rcases worst_rel h s c 60 (Nat.le_refl _) with ⟨h1, h2⟩ | ⟨j, hj, hc, h3, h4⟩
  · rw [h1, h2, if_pos (show gWh c (-1) = 0 from rfl), if_pos (by decide), if_pos (by decide)]
  · rw [h3, h4]
    dsimp only
    have hw : ¬ gWh c (nI j) = 0 := by
      rw [gWh_n hj, if_pos hc]
      decide
    rw [if_neg hw]
    by_cases hm : gMar h s (nI j) < 0
    · have hn : ¬ nI j < 0 := nI_pos (by omega)
      rw [if_pos hm, if_pos hm, if_neg hn, if_neg hn, weak_eq _ _ hj 60 (Nat.le_refl _)]
      rfl
    · rw [if_neg hm, if_neg hm, if_pos (by decide), if_pos (by decide)]
theorem min_eq {h g g' s c : Nat → Int32} {fu ai ra le ri mi lo fl : Int32} (hg : gZ g) (hg' : gZ g') (hf : gFur fu ai ra = mFur fu ai ra) : pMin (h, g, s, c, fu, ai, ra, le, ri, mi, lo, fl) = ((kMin7 (h, g', s, c, fu, ai, ra, le, ri, mi, lo, fl)).1, if (kMin7 (h, g', s, c, fu, ai, ra, le, ri, mi, lo, fl)).2.2 < 0 then 0 else 1) ∧ (kMin7 (h, g', s, c, fu, ai, ra, le, ri, mi, lo, fl)).2.1 = gStrMax (pH (pFlow (h, g, s, c, fu, ai, ra, le, ri, mi, lo, fl))) (pC (pFlow (h, g, s, c, fu, ai, ra, le, ri, mi, lo, fl))) := by
  have e := flow_eq (h := h) (s := s) (c := c) (le := le) (ri := ri) (mi := mi) (lo := lo) (fl := fl) hg hg' hf
  rw [pMin, kseal_eq, kMin7, kseal_eq, e, crack_eq]
  exact ⟨rfl, rfl⟩
/-! bounds -/
def cntJ : Nat → Nat → Nat
  | 0, _ => 0
  | i + 1, k => cntJ i k + (if nF i = k then 1 else 0) + (if nS i = k then 1 else 0)
theorem cntJ_le : ∀ i k, cntJ i k ≤ 2 * i := by
  intro i k
  induction i with
  | zero => exact Nat.le_refl 0
  | succ i ih =>
    have e : cntJ (i + 1) k = cntJ i k + (if nF i = k then 1 else 0) + (if nS i = k then 1 else 0) := rfl
    rw [e]
    split <;> split <;> omega
def rimN (k : Nat) : Nat := (gRim (nI k)).toNatClampNeg
theorem rim_ok : ∀ k, k < 36 → (gRim (nI k) = nI (rimN k) ∧ rimN k ≤ 2) ∧ cntJ 60 k + rimN k = 4 := by decide +kernel
theorem gRi_at {h : Nat → Int32} {fu ri : Int32} {a : (Nat → Int32) × Int32} : ∀ i k, (gRi h fu ri a i).1 k = if k < i then a.1 k - gFr h fu ri k else a.1 k := by
  intro i
  induction i with
  | zero => exact fun k => (if_neg (Nat.not_lt_zero k)).symm
  | succ i ih =>
    intro k
    rw [gRi_s]
    show upd (gRi h fu ri a i).1 i _ k = _
    unfold upd
    by_cases hk : k = i
    · subst hk
      rw [if_pos rfl, if_pos (by omega), ih k, if_neg (by omega)]
    · rw [if_neg hk, ih k]
      by_cases h2 : k < i
      · rw [if_pos h2, if_pos (by omega)]
      · rw [if_neg h2, if_neg (by omega)]
theorem gHe_at {g h : Nat → Int32} : ∀ i k, gHe g h i k = if k < i then h k + g k else h k := by
  intro i
  induction i with
  | zero => exact fun k => (if_neg (Nat.not_lt_zero k)).symm
  | succ i ih =>
    intro k
    rw [gHe_s]
    unfold upd
    by_cases hk : k = i
    · subst hk
      rw [if_pos rfl, if_pos (by omega), ih k, if_neg (by omega)]
    · rw [if_neg hk, ih k]
      by_cases h2 : k < i
      · rw [if_pos h2, if_pos (by omega)]
      · rw [if_neg h2, if_neg (by omega)]
def hB (B : Int) (h : Nat → Int32) : Prop := ∀ k, k < 36 → 0 ≤ (h k).toInt ∧ (h k).toInt ≤ B
theorem gJo_bd {h c : Nat → Int32} {le : Int32} {B : Int} (hB0 : 1000 ≤ B) (hB1 : B ≤ 200000) (hh : hB B h) (hl : 0 ≤ le.toInt ∧ le.toInt ≤ 20) : ∀ i, i ≤ 60 → ∀ k, k < 36 → -((cntJ i k : Int) * (h k).toInt) ≤ 5 * (gJo h c le z0 i k).toInt ∧ 5 * (gJo h c le z0 i k).toInt ≤ (cntJ i k : Int) * (B - (h k).toInt) := by
  intro i
  induction i with
  | zero =>
    intro _ k _
    show -(((0 : Nat) : Int) * _) ≤ 5 * (0 : Int32).toInt ∧ 5 * (0 : Int32).toInt ≤ ((0 : Nat) : Int) * _
    simp
  | succ i ih =>
    intro hi k hk
    have ih := ih (by omega) k hk
    have hi60 : i < 60 := by omega
    have hcl := cntJ_le i k
    have hhk := hh k hk
    have hne := nFS_ne i hi60
    have hF := hh _ (nF_lt hi60)
    have hS := hh _ (nS_lt hi60)
    have hfx := fx_bd hB1 hF hS hl
    have ec : cntJ (i + 1) k = cntJ i k + (if nF i = k then 1 else 0) + (if nS i = k then 1 else 0) := rfl
    have hp : 0 ≤ (cntJ i k : Int) * (h k).toInt ∧ (cntJ i k : Int) * (h k).toInt ≤ 24000000 := by
      refine ⟨Int.mul_nonneg (by omega) hhk.1, ?_⟩
      have := Int.mul_le_mul (show (cntJ i k : Int) ≤ 120 by omega) (show (h k).toInt ≤ 200000 by omega) hhk.1 (by decide)
      omega
    have hq : 0 ≤ (cntJ i k : Int) * (B - (h k).toInt) ∧ (cntJ i k : Int) * (B - (h k).toInt) ≤ 24000000 := by
      refine ⟨Int.mul_nonneg (by omega) (by omega), ?_⟩
      have := Int.mul_le_mul (show (cntJ i k : Int) ≤ 120 by omega) (show B - (h k).toInt ≤ 200000 by omega) (by omega) (by decide)
      omega
    have m1 : ((cntJ i k + 1 : Nat) : Int) * (h k).toInt = (cntJ i k : Int) * (h k).toInt + (h k).toInt := by
      rw [Int.natCast_add, Int.add_mul]
      simp
    have m2 : ((cntJ i k + 1 : Nat) : Int) * (B - (h k).toInt) = (cntJ i k : Int) * (B - (h k).toInt) + (B - (h k).toInt) := by
      rw [Int.natCast_add, Int.add_mul]
      simp
    rw [gJo_s]
    generalize hG : gJo h c le z0 i = g at ih ⊢
    by_cases hkF : nF i = k
    · have hkS : ¬ nS i = k := fun e => hne (hkF.trans e.symm)
      rw [ec, if_pos hkF, if_neg hkS, Nat.add_zero, m1, m2]
      by_cases hw : gWh c (nI i) = 0
      · rw [if_pos hw]
        omega
      · rw [if_neg hw, gain_F hi60, gain_S hi60]
        have e1 : upd (upd g (nF i) (g (nF i) + -gFx h le (nI i))) (nS i) (upd g (nF i) (g (nF i) + -gFx h le (nI i)) (nS i) + gFx h le (nI i)) k = g k + -gFx h le (nI i) := by
          unfold upd
          rw [if_neg (fun e => hkS e.symm), if_pos hkF.symm, hkF]
        rw [e1, fx_n hi60]
        rw [hkF] at hfx hF ⊢
        generalize ((h k - h (nS i)) * le / 100) = f at hfx ⊢
        have hfb : -(h k).toInt ≤ -(5 * f.toInt) ∧ -(5 * f.toInt) ≤ B - (h k).toInt := by
          by_cases h0 : 0 ≤ (h k).toInt - (h (nS i)).toInt
          · have := hfx.1 h0
            omega
          · have := hfx.2 (by omega)
            omega
        have e2 : (-f).toInt = -f.toInt := ti_neg (by omega)
        rw [ti_add (by rw [e2]; omega) (by rw [e2]; omega), e2]
        omega
    · by_cases hkS : nS i = k
      · rw [ec, if_neg hkF, if_pos hkS, Nat.add_zero, m1, m2]
        by_cases hw : gWh c (nI i) = 0
        · rw [if_pos hw]
          omega
        · rw [if_neg hw, gain_F hi60, gain_S hi60]
          have e1 : upd (upd g (nF i) (g (nF i) + -gFx h le (nI i))) (nS i) (upd g (nF i) (g (nF i) + -gFx h le (nI i)) (nS i) + gFx h le (nI i)) k = g k + gFx h le (nI i) := by
            unfold upd
            rw [if_pos hkS.symm, if_neg (Ne.symm hne), hkS]
          rw [e1, fx_n hi60]
          rw [hkS] at hfx hS ⊢
          generalize ((h (nF i) - h k) * le / 100) = f at hfx ⊢
          have hfb : -(h k).toInt ≤ 5 * f.toInt ∧ 5 * f.toInt ≤ B - (h k).toInt := by
            by_cases h0 : 0 ≤ (h (nF i)).toInt - (h k).toInt
            · have := hfx.1 h0
              omega
            · have := hfx.2 (by omega)
              omega
          rw [ti_add (by omega) (by omega)]
          omega
      · rw [ec, if_neg hkF, if_neg hkS, Nat.add_zero]
        by_cases hw : gWh c (nI i) = 0
        · rw [if_pos hw]
          exact ih
        · rw [if_neg hw, gain_F hi60, gain_S hi60]
          have e1 : upd (upd g (nF i) (g (nF i) + -gFx h le (nI i))) (nS i) (upd g (nF i) (g (nF i) + -gFx h le (nI i)) (nS i) + gFx h le (nI i)) k = g k := by
            unfold upd
            rw [if_neg (fun e => hkS e.symm), if_neg (fun e => hkF e.symm)]
          rw [e1]
          exact ih
theorem heat_bd {h c : Nat → Int32} {fu le ri lo : Int32} {B : Int} (hB0 : 1000 ≤ B) (hB1 : B ≤ 200000) (hh : hB B h) (hl : 0 ≤ le.toInt ∧ le.toInt ≤ 20) (hr : 0 ≤ ri.toInt ∧ ri.toInt ≤ 20) (hf : 0 ≤ fu.toInt ∧ fu.toInt ≤ 1000) : hB B (gHe (gRi h fu ri (gJo h c le z0 60, lo) 36).1 h 36) := by
  intro k hk
  rw [gHe_at, if_pos hk, gRi_at, if_pos hk]
  show 0 ≤ (h k + (gJo h c le z0 60 k - gFr h fu ri k)).toInt ∧ (h k + (gJo h c le z0 60 k - gFr h fu ri k)).toInt ≤ B
  have h1 := gJo_bd (c := c) hB0 hB1 hh hl 60 (Nat.le_refl _) k hk
  obtain ⟨⟨er, r2⟩, hc⟩ := rim_ok k hk
  have hhk := hh k hk
  have hfx := fx_bd hB1 hhk (show 0 ≤ fu.toInt ∧ fu.toInt ≤ B by omega) hr
  have eg : gFr h fu ri k = (h k - fu) * ri / 100 * gRim (nI k) := rfl
  rw [eg, er]
  generalize hf1 : ((h k - fu) * ri / 100) = f at hfx ⊢
  have hfb : -(h k).toInt ≤ -(5 * f.toInt) ∧ -(5 * f.toInt) ≤ B - (h k).toInt := by
    by_cases h0 : 0 ≤ (h k).toInt - fu.toInt
    · have := hfx.1 h0
      omega
    · have := hfx.2 (by omega)
      omega
  have hfr : (f * nI (rimN k)).toInt = f.toInt * (rimN k : Int) := by
    rw [ti_mul, nI_toInt (by omega)]
    · rw [nI_toInt (by omega)]
      rcases (show rimN k = 0 ∨ rimN k = 1 ∨ rimN k = 2 by omega) with e | e | e <;> rw [e] <;> simp <;> omega
    · rw [nI_toInt (by omega)]
      rcases (show rimN k = 0 ∨ rimN k = 1 ∨ rimN k = 2 by omega) with e | e | e <;> rw [e] <;> simp <;> omega
  generalize gJo h c le z0 60 k = g at h1 ⊢
  have fin : (h k + (g - f * nI (rimN k))).toInt = (h k).toInt + (g.toInt - f.toInt * (rimN k : Int)) ∧ 0 ≤ (h k).toInt + (g.toInt - f.toInt * (rimN k : Int)) ∧ (h k).toInt + (g.toInt - f.toInt * (rimN k : Int)) ≤ B := by
    have hcc : cntJ 60 k = 4 - rimN k := by omega
    rw [hcc] at h1
    have key : -(h k).toInt * 4 ≤ 5 * g.toInt - 5 * (f.toInt * (rimN k : Int)) ∧ 5 * g.toInt - 5 * (f.toInt * (rimN k : Int)) ≤ 4 * (B - (h k).toInt) ∧ -1000000 ≤ 5 * (f.toInt * (rimN k : Int)) ∧ 5 * (f.toInt * (rimN k : Int)) ≤ 1000000 := by
      rcases (show rimN k = 0 ∨ rimN k = 1 ∨ rimN k = 2 by omega) with e | e | e <;> rw [e] at h1 ⊢ <;> simp at h1 ⊢ <;> omega
    have e1 : (g - f * nI (rimN k)).toInt = g.toInt - f.toInt * (rimN k : Int) := by
      rw [ti_sub (by rw [hfr]; omega) (by rw [hfr]; omega), hfr]
    refine ⟨?_, by omega, by omega⟩
    rw [ti_add (by rw [e1]; omega) (by rw [e1]; omega), e1]
  rw [fin.1]
  exact fin.2
