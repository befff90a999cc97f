/-! class and model: minutes -/
def pG (B : Int) (p : PSt) : Prop := pZ p ∧ gZ p.2.1 ∧ hB B p.1 ∧ (0 ≤ p.2.2.2.2.1.toInt ∧ p.2.2.2.2.1.toInt ≤ 1000) ∧ (0 ≤ p.2.2.2.2.2.1.toInt ∧ p.2.2.2.2.2.1.toInt ≤ 1000) ∧ (1 ≤ p.2.2.2.2.2.2.1.toInt ∧ p.2.2.2.2.2.2.1.toInt ≤ 100) ∧ (0 ≤ p.2.2.2.2.2.2.2.1.toInt ∧ p.2.2.2.2.2.2.2.1.toInt ≤ 20) ∧ (0 ≤ p.2.2.2.2.2.2.2.2.1.toInt ∧ p.2.2.2.2.2.2.2.2.1.toInt ≤ 20)
/-- alike but for the flows -/
def pE (p q : PSt) : Prop := p.1 = q.1 ∧ p.2.2 = q.2.2
def bOk (B : Int) : Prop := 1000 ≤ B ∧ B ≤ 200000
theorem pE_refl (p : PSt) : pE p p := ⟨rfl, rfl⟩
theorem crack_same (p : PSt) : ∃ s c, (pCr7 p).1 = (p.1, p.2.1, s, c, p.2.2.2.2) := by
  obtain ⟨h, g, s, c, fu, ai, ra, le, ri, mi, lo, fl⟩ := p
  show ∃ s' c', (if mWorst h s c 60 < 0 then (h, g, s, c, fu, ai, ra, le, ri, mi, lo, fl) else pBreak (h, g, s, c, fu, ai, ra, le, ri, mi, lo, fl) (mWorst h s c 60)) = _
  split
  · exact ⟨s, c, rfl⟩
  · exact ⟨_, _, rfl⟩
theorem min_step {B : Int} {p q : PSt} (hb : bOk B) (hp : pG B p) (he : pE p q) (hq : gZ q.2.1) : (pMin p).1 = (kMin7 q).1 ∧ (pMin p).2 = (if (kMin7 q).2.2 < 0 then 0 else 1) ∧ (kMin7 q).2.1 = gStrMax (pH (pFlow p)) (pC (pFlow p)) ∧ pG B (pMin p).1 ∧ gZ (kMin7 q).1.2.1 := by
  obtain ⟨h, g, s, c, fu, ai, ra, le, ri, mi, lo, fl⟩ := p
  obtain ⟨h', g', r'⟩ := q
  obtain ⟨e1, e2⟩ := he
  dsimp only at e1 e2 hq
  subst e1
  subst e2
  obtain ⟨hz, hg, hh, hf, ha, hr, hl, hri⟩ := hp
  have hfu := fur_eq hf ha hr
  have hm := min_eq (h := h) (s := s) (c := c) (le := le) (ri := ri) (mi := mi) (lo := lo) (fl := fl) hg hq hfu.1
  have hz7 : pZ (kMin7 (h, g', s, c, fu, ai, ra, le, ri, mi, lo, fl)).1 := pZ_min7 (p := (h, g', s, c, fu, ai, ra, le, ri, mi, lo, fl)) hz
  have e3 : (pMin (h, g, s, c, fu, ai, ra, le, ri, mi, lo, fl)).1 = (kMin7 (h, g', s, c, fu, ai, ra, le, ri, mi, lo, fl)).1 := congrArg Prod.fst hm.1
  have e4 : (pMin (h, g, s, c, fu, ai, ra, le, ri, mi, lo, fl)).2 = if (kMin7 (h, g', s, c, fu, ai, ra, le, ri, mi, lo, fl)).2.2 < 0 then 0 else 1 := congrArg Prod.snd hm.1
  have hf2 : ∃ h2 g2 lo2, pFlow (h, g, s, c, fu, ai, ra, le, ri, mi, lo, fl) = (h2, g2, s, c, gFur fu ai ra, ai, ra, le, ri, mi + 1, lo2, fl) ∧ hB B h2 ∧ gZ g2 := by
    unfold pFlow
    simp only [kseal_eq]
    refine ⟨_, _, _, rfl, ?_, ?_⟩
    · rw [fill_gZ hg]
      exact heat_bd hb.1 hb.2 hh hl hri hfu.2
    · exact gRi_z (gJo_z (by rw [fill_gZ hg]; exact gZ_z0) 60 (Nat.le_refl _)) 36 (Nat.le_refl _)
  obtain ⟨h2, g2, lo2, e5, hh2, hg2⟩ := hf2
  have hpm : ∃ s' c', (pMin (h, g, s, c, fu, ai, ra, le, ri, mi, lo, fl)).1 = (h2, g2, s', c', gFur fu ai ra, ai, ra, le, ri, mi + 1, lo2, fl) := by
    rw [pMin, kseal_eq, e5, crack_eq]
    exact crack_same _
  refine ⟨e3, e4, hm.2, ?_, ?_⟩
  · have hz8 := hz7
    rw [← e3] at hz8
    obtain ⟨s', c', e6⟩ := hpm
    rw [e6] at hz8 ⊢
    exact ⟨hz8, hg2, hh2, hfu.2, ha, hr, hl, hri⟩
  · obtain ⟨s', c', e6⟩ := hpm
    rw [← e3, e6]
    exact hg2
theorem pPass_s2 (p : PSt) (n : Nat) : pPass p (n + 1) = ((pMin (pPass p n).1).1, if (pMin (pPass p n).1).2 = 0 then (pPass p n).2 else (pPass p n).2 + 1) := rfl
theorem mPass_s2 (p : PSt) (x : Int32) (n : Nat) : mPass p x (n + 1) = ((kMin7 (mPass p x n).1).1, (kMin7 (mPass p x n).1).2.1, if 0 ≤ (kMin7 (mPass p x n).1).2.2 then (mPass p x n).2.2 + 1 else (mPass p x n).2.2) := rfl
theorem pass_rel {B : Int} {p q : PSt} {x : Int32} (hb : bOk B) (hp : pG B p) (he : pE p q) (hq : gZ q.2.1) : ∀ n, pE (pPass p n).1 (mPass q x n).1 ∧ gZ (mPass q x n).1.2.1 ∧ pG B (pPass p n).1 ∧ (pPass p n).2 = (mPass q x n).2.2 := by
  intro n
  induction n with
  | zero => exact ⟨he, hq, hp, rfl⟩
  | succ n ih =>
    obtain ⟨i1, i2, i3, i4⟩ := ih
    obtain ⟨m1, m2, m3, m4, m5⟩ := min_step hb i3 i1 i2
    rw [pPass_s2, mPass_s2]
    refine ⟨?_, m5, m4, ?_⟩
    · show pE (pMin (pPass p n).1).1 (kMin7 (mPass q x n).1).1
      rw [m1]
      exact pE_refl _
    · show (if (pMin (pPass p n).1).2 = 0 then (pPass p n).2 else (pPass p n).2 + 1) = if 0 ≤ (kMin7 (mPass q x n).1).2.2 then (mPass q x n).2.2 + 1 else (mPass q x n).2.2
      rw [m2, i4]
      by_cases hn : (kMin7 (mPass q x n).1).2.2 < 0
      · rw [if_pos hn, if_pos rfl, if_neg (Int32.not_le.mpr hn)]
      · rw [if_neg hn, if_neg (by decide), if_pos (Int32.not_lt.mp hn)]
theorem stay_rel {B : Int} (hb : bOk B) : ∀ n {p q : PSt} {x : Int32}, pG B p → pE p q → gZ q.2.1 → pE (pStay p n).1 (uHarm n q x).1 ∧ gZ (uHarm n q x).1.2.1 ∧ pG B (pStay p n).1 ∧ (pStay p n).2 = (uHarm n q x).2.2 := by
  intro n
  induction n with
  | zero => exact fun hp he hq => ⟨he, hq, hp, rfl⟩
  | succ n ih =>
    intro p q x hp he hq
    obtain ⟨m1, m2, m3, m4, m5⟩ := min_step hb hp he hq
    unfold pStay uHarm
    rw [m2]
    by_cases hn : (kMin7 q).2.2 < 0
    · rw [if_pos hn, if_pos rfl, if_neg (Int32.not_le.mpr hn)]
      exact ih m4 (by rw [m1]; exact pE_refl _) m5
    · rw [if_neg hn, if_neg (by decide), if_pos (Int32.not_lt.mp hn)]
      exact ⟨by rw [m1]; exact pE_refl _, m5, m4, rfl⟩
theorem look_rel {B : Int} {p q : PSt} {x : Int32} (hb : bOk B) (hp : pG B p) (he : pE p q) (hq : gZ q.2.1) : ∀ n, n < 1000 → pE (pLook p n).1 (uIf q x n).1 ∧ gZ (uIf q x n).1.2.1 ∧ pG B (pLook p n).1 ∧ (pLook p n).2 = (uIf q x n).2.2 ∧ ((pLook p n).2.2.1 = -4 ∨ 0 ≤ (pLook p n).2.2.1) := by
  intro n
  induction n with
  | zero => exact fun _ => ⟨he, hq, hp, rfl, Or.inl rfl⟩
  | succ n ih =>
    intro hn9
    obtain ⟨i1, i2, i3, i4, i5⟩ := ih (by omega)
    obtain ⟨m1, m2, m3, m4, m5⟩ := min_step hb i3 i1 i2
    rw [pLook_s, uIf_s]
    have em : ∀ a b : Int32, gMax a b = if b ≤ a then a else b := by
      intro a b
      unfold gMax
      by_cases h : a < b
      · rw [if_pos h, if_neg (Int32.not_le.mpr h)]
      · rw [if_neg h, if_pos (Int32.not_lt.mp h)]
    have h1 : (uIf q x n).2.2 = ((pLook p n).2.1, (pLook p n).2.2.1, (pLook p n).2.2.2) := i4.symm
    have h2 : (uIf q x n).2.2.1 = (pLook p n).2.1 := congrArg Prod.fst h1
    have h3 : (uIf q x n).2.2.2.1 = (pLook p n).2.2.1 := congrArg (fun z => z.2.1) h1
    have h4 : (uIf q x n).2.2.2.2 = (pLook p n).2.2.2 := congrArg (fun z => z.2.2) h1
    refine ⟨?_, m5, m4, ?_, ?_⟩
    · show pE (pMin (pLook p n).1).1 (kMin7 (uIf q x n).1).1
      rw [m1]
      exact pE_refl _
    · show (if (pMin (pLook p n).1).2 = 0 then ((pLook p n).2.1, (pLook p n).2.2.1, gMax (pLook p n).2.2.2 (kseal (gStrMax (pH (pFlow (pLook p n).1)) (pC (pFlow (pLook p n).1))))) else ((pLook p n).2.1 + 1, if (pLook p n).2.2.1 = -4 then nI (n + 1) else (pLook p n).2.2.1, gMax (pLook p n).2.2.2 (kseal (gStrMax (pH (pFlow (pLook p n).1)) (pC (pFlow (pLook p n).1)))))) = ((uIf q x n).2.2.1 + (if 0 ≤ (kMin7 (uIf q x n).1).2.2 then 1 else 0), (if (kMin7 (uIf q x n).1).2.2 < 0 then (uIf q x n).2.2.2.1 else if 0 ≤ (uIf q x n).2.2.2.1 then (uIf q x n).2.2.2.1 else nI (n + 1)), (if (kMin7 (uIf q x n).1).2.1 ≤ (uIf q x n).2.2.2.2 then (uIf q x n).2.2.2.2 else (kMin7 (uIf q x n).1).2.1))
      rw [kseal_eq, ← m3, em, m2, h2, h3, h4]
      by_cases hn : (kMin7 (uIf q x n).1).2.2 < 0
      · rw [if_pos hn, if_pos rfl, if_neg (Int32.not_le.mpr hn), if_pos hn, i_add0]
      · rw [if_neg hn, if_neg (by decide), if_pos (Int32.not_lt.mp hn), if_neg hn]
        rcases i5 with e | e
        · rw [e, if_pos rfl, if_neg (show ¬ (0 : Int32) ≤ -4 by decide)]
        · rw [if_pos e, if_neg (fun e2 => by rw [e2] at e; exact absurd e (by decide))]
    · show (if (pMin (pLook p n).1).2 = 0 then ((pLook p n).2.1, (pLook p n).2.2.1, gMax (pLook p n).2.2.2 (kseal (gStrMax (pH (pFlow (pLook p n).1)) (pC (pFlow (pLook p n).1))))) else ((pLook p n).2.1 + 1, if (pLook p n).2.2.1 = -4 then nI (n + 1) else (pLook p n).2.2.1, gMax (pLook p n).2.2.2 (kseal (gStrMax (pH (pFlow (pLook p n).1)) (pC (pFlow (pLook p n).1)))))).2.1 = -4 ∨ 0 ≤ (if (pMin (pLook p n).1).2 = 0 then ((pLook p n).2.1, (pLook p n).2.2.1, gMax (pLook p n).2.2.2 (kseal (gStrMax (pH (pFlow (pLook p n).1)) (pC (pFlow (pLook p n).1))))) else ((pLook p n).2.1 + 1, if (pLook p n).2.2.1 = -4 then nI (n + 1) else (pLook p n).2.2.1, gMax (pLook p n).2.2.2 (kseal (gStrMax (pH (pFlow (pLook p n).1)) (pC (pFlow (pLook p n).1)))))).2.1
      by_cases h0 : (pMin (pLook p n).1).2 = 0
      · rw [if_pos h0]
        exact i5
      · rw [if_neg h0]
        show (if (pLook p n).2.2.1 = -4 then nI (n + 1) else (pLook p n).2.2.1) = -4 ∨ 0 ≤ (if (pLook p n).2.2.1 = -4 then nI (n + 1) else (pLook p n).2.2.1)
        by_cases h5 : (pLook p n).2.2.1 = -4
        · rw [if_pos h5]
          exact Or.inr (nI_pos' (by omega))
        · rw [if_neg h5]
          exact Or.inr (i5.resolve_left h5)
theorem even_rel {B : Int} (hb : bOk B) (y : Int32) : ∀ r i {p q : PSt} {x : Int32}, i + r = 100 → pG B p → pE p q → gZ q.2.1 → gZ (uEven y r q x (nI i)).1.2.1 ∧ pG B (fEven y r i p).1 ∧ (fEven y r i p).2 = (if (uEven y r q x (nI i)).2.2 ≤ 99 then (uEven y r q x (nI i)).2.2 else -4) := by
  intro r
  induction r with
  | zero =>
    intro i p q x hi hp he hq
    have e : i = 100 := by omega
    subst e
    exact ⟨hq, hp, rfl⟩
  | succ r ih =>
    intro i p q x hi hp he hq
    obtain ⟨m1, m2, m3, m4, m5⟩ := min_step hb hp he hq
    unfold fEven uEven
    have e1 : kseal (gStrMax q.1 q.2.2.2.1) = kseal (gStrMax (pH p) (pC p)) := by
      unfold pH pC
      rw [he.1, he.2]
    rw [e1]
    by_cases h : y < kseal (gStrMax (pH p) (pC p))
    · rw [if_pos h, if_neg (Int32.not_le.mpr h)]
      have e2 : (kseal (pPass p (1 : Int32).toNatClampNeg)).1 = (pMin p).1 := by
        rw [kseal_eq]
        rfl
      rw [e2, ← nI_succ]
      exact ih (i + 1) (by omega) m4 (by rw [m1]; exact pE_refl _) m5
    · rw [if_neg h, if_pos (Int32.not_lt.mp h)]
      refine ⟨hq, hp, ?_⟩
      show nI i = if nI i ≤ 99 then nI i else -4
      have h9 : nI i ≤ 99 := show nI i ≤ nI 99 from nI_le (by omega) (by omega)
      rw [if_pos h9]
