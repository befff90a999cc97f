/-! p26: what minutes do: bounds, cracked joints, the sum of heats and the loss -/
def crN (c : Nat → Int32) : Nat → Nat
  | 0 => 0
  | n + 1 => crN c n + (if c n = 0 then 0 else 1)
theorem crN_s (c : Nat → Int32) (n : Nat) : crN c (n + 1) = crN c n + (if c n = 0 then 0 else 1) := rfl
theorem crN_le (c : Nat → Int32) : ∀ n, crN c n ≤ n := by
  intro n
  induction n with
  | zero => exact Nat.le_refl 0
  | succ n ih =>
    rw [crN_s]
    split <;> omega
theorem crN_upd {c : Nat → Int32} {j : Nat} {x : Int32} (hc : c j = 0) (hx : ¬ x = 0) : ∀ n, crN (upd c j x) n = crN c n + (if j < n then 1 else 0) := by
  intro n
  induction n with
  | zero => rfl
  | succ n ih =>
    rw [crN_s, crN_s, ih]
    by_cases e : n = j
    · subst e
      rw [show upd c n x n = x from if_pos rfl, if_neg hx, if_pos hc, if_neg (Nat.lt_irrefl n), if_pos (Nat.lt_succ_self n)]
    · rw [show upd c j x n = c n from if_neg e]
      by_cases h : j < n
      · rw [if_pos h, if_pos (show j < n + 1 by omega)]
        omega
      · rw [if_neg h, if_neg (show ¬ j < n + 1 by omega)]
        omega
theorem crN_un {c : Nat → Int32} {j : Nat} (hc : ¬ c j = 0) : ∀ n, crN (upd c j 0) n + (if j < n then 1 else 0) = crN c n := by
  intro n
  induction n with
  | zero => rfl
  | succ n ih =>
    rw [crN_s, crN_s]
    by_cases e : n = j
    · subst e
      rw [if_neg (Nat.lt_irrefl n)] at ih
      rw [show upd c n 0 n = 0 from if_pos rfl, if_pos rfl, if_neg hc, if_pos (Nat.lt_succ_self n)]
      omega
    · rw [show upd c j 0 n = c n from if_neg e]
      by_cases h : j < n
      · rw [if_pos h] at ih
        rw [if_pos (show j < n + 1 by omega)]
        omega
      · rw [if_neg h] at ih
        rw [if_neg (show ¬ j < n + 1 by omega)]
        omega
theorem gCracked_n (c : Nat → Int32) : gCracked c = nI (crN c 60) := by
  have key : ∀ n, n ≤ 60 → nf (fun i a => if gWh c (nI i) = 0 then a + 1 else a) (0 : Int32) n = nI (crN c n) := by
    intro n
    induction n with
    | zero => exact fun _ => rfl
    | succ n ih =>
      intro hn
      show (if gWh c (nI n) = 0 then nf _ (0 : Int32) n + 1 else nf _ (0 : Int32) n) = _
      rw [ih (by omega), crN_s]
      by_cases h : c n = 0
      · rw [if_neg (fun e => (gWh_0 (by omega)).mp e h), if_pos h, Nat.add_zero]
      · rw [if_pos ((gWh_0 (by omega)).mpr h), if_neg h, nI_succ]
  exact key 60 (Nat.le_refl _)
/-! sums -/
def sumN (f : Nat → Int32) : Nat → Int32 := nf (fun i a => a + f i) 0
theorem sumN_s (f : Nat → Int32) (n : Nat) : sumN f (n + 1) = sumN f n + f n := rfl
theorem gSum_N (f : Nat → Int32) : gSum f = sumN f 36 := rfl
theorem sumN_congr {f g : Nat → Int32} : ∀ n, (∀ k, k < n → f k = g k) → sumN f n = sumN g n := by
  intro n h
  exact nf_congr n (fun i hi b => by rw [h i hi])
theorem sumN_upd {f : Nat → Int32} {j : Nat} {x : Int32} : ∀ n, sumN (upd f j (f j + x)) n = if j < n then sumN f n + x else sumN f n := by
  intro n
  induction n with
  | zero => rfl
  | succ n ih =>
    rw [sumN_s, sumN_s, ih]
    by_cases e : n = j
    · subst e
      rw [show upd f n (f n + x) n = f n + x from if_pos rfl, if_neg (Nat.lt_irrefl n), if_pos (Nat.lt_succ_self n), Int32.add_assoc]
    · rw [show upd f j (f j + x) n = f n from if_neg e]
      by_cases h : j < n
      · rw [if_pos h, if_pos (show j < n + 1 by omega), Int32.add_assoc, Int32.add_comm x, ← Int32.add_assoc]
      · rw [if_neg h, if_neg (show ¬ j < n + 1 by omega)]
theorem sumN_add {f g : Nat → Int32} : ∀ n, sumN (fun k => f k + g k) n = sumN f n + sumN g n := by
  intro n
  induction n with
  | zero => rfl
  | succ n ih =>
    rw [sumN_s, sumN_s, sumN_s, ih]
    show sumN f n + sumN g n + (f n + g n) = sumN f n + f n + (sumN g n + g n)
    rw [Int32.add_assoc, Int32.add_assoc, ← Int32.add_assoc (sumN g n), Int32.add_comm (sumN g n) (f n), Int32.add_assoc (f n)]
theorem sum_z0 : ∀ n, sumN z0 n = 0 := by
  intro n
  induction n with
  | zero => rfl
  | succ n ih =>
    rw [sumN_s, ih]
    rfl
theorem sum_Jo {h c : Nat → Int32} {le : Int32} : ∀ i, i ≤ 60 → sumN (gJo h c le z0 i) 36 = 0 := by
  intro i
  induction i with
  | zero => exact fun _ => sum_z0 36
  | succ i ih =>
    intro hi
    have i60 : i < 60 := by omega
    rw [gJo_s]
    split
    · exact ih (by omega)
    · rw [gain_F i60, gain_S i60, sumN_upd, if_pos (nS_lt i60), sumN_upd, if_pos (nF_lt i60), ih (by omega), Int32.zero_add]
      exact Int32.add_left_neg _
theorem sum_Ri {h : Nat → Int32} {fu ri : Int32} {a : (Nat → Int32) × Int32} : ∀ i, i ≤ 36 → sumN (gRi h fu ri a i).1 36 + (gRi h fu ri a i).2 = sumN a.1 36 + a.2 := by
  intro i
  induction i with
  | zero => exact fun _ => rfl
  | succ i ih =>
    intro hi
    rw [gRi_s]
    show sumN (upd (gRi h fu ri a i).1 i ((gRi h fu ri a i).1 i - gFr h fu ri i)) 36 + ((gRi h fu ri a i).2 + gFr h fu ri i) = _
    rw [Int32.sub_eq_add_neg, sumN_upd, if_pos (show i < 36 by omega), ← ih (by omega), Int32.add_assoc, Int32.add_comm (gRi h fu ri a i).2, ← Int32.add_assoc (-gFr h fu ri i), Int32.add_left_neg, Int32.zero_add]
theorem sum_He {g h : Nat → Int32} : sumN (gHe g h 36) 36 = sumN h 36 + sumN g 36 := by
  rw [← sumN_add]
  refine sumN_congr 36 (fun k hk => ?_)
  rw [gHe_at, if_pos hk]
/-! a pane in its bounds -/
def jI (m : Int) (s c : Nat → Int32) : Prop := ∀ j : Nat, j < 60 → (1 ≤ (s j).toInt ∧ (s j).toInt ≤ 500) ∧ (0 ≤ (c j).toInt ∧ (c j).toInt ≤ m)
def MI (B m : Int) (p : PSt) : Prop := pG B p ∧ (0 ≤ (pMinutes p).toInt ∧ (pMinutes p).toInt ≤ m) ∧ jI (pMinutes p).toInt (pS p) (pC p)
theorem MI_tOk {B m : Int} {p : PSt} (h : MI B m p) : tOk p := pG_tOk h.1
theorem nine {x : Int32} (h : 1 ≤ x.toInt ∧ x.toInt ≤ 500) : 1 ≤ (gMax 1 (x * 9 / 10)).toInt ∧ (gMax 1 (x * 9 / 10)).toInt ≤ 500 := by
  have e9 : (9 : Int32).toInt = 9 := rfl
  have e10 : (10 : Int32).toInt = 10 := rfl
  have e1 : (1 : Int32).toInt = 1 := rfl
  have h1 : (x * 9).toInt = x.toInt * 9 := by
    rw [ti_mul (by rw [e9]; omega) (by rw [e9]; omega), e9]
  have h2 : (x * 9 / 10).toInt = x.toInt * 9 / 10 := by
    rw [div_ti (by rw [h1]; omega) (by decide), h1, e10]
  unfold gMax
  by_cases w : (1 : Int32) < x * 9 / 10
  · rw [if_pos w]
    rw [Int32.lt_iff_toInt_lt, h2, e1] at w
    rw [h2]
    omega
  · rw [if_neg w, e1]
    omega
theorem weak_bd {c s : Nat → Int32} {w : Int32} (hs : ∀ j : Nat, j < 60 → 1 ≤ (s j).toInt ∧ (s j).toInt ≤ 500) : ∀ i, i ≤ 60 → ∀ j : Nat, j < 60 → 1 ≤ (gWeak c w s i j).toInt ∧ (gWeak c w s i j).toInt ≤ 500 := by
  intro i
  induction i with
  | zero => exact fun _ => hs
  | succ i ih =>
    intro hi j hj
    have ih := ih (by omega)
    rw [gWeak_s]
    split
    · exact ih j hj
    · split
      · exact ih j hj
      · unfold upd
        split
        · rename_i e
          exact nine (ih i (by omega))
        · exact ih j hj
theorem flow_MI {B m : Int} (hb : bOk B) (hm : m ≤ 1000000) {p : PSt} (h : MI B m p) : pG B (pFlow p) ∧ (pMinutes (pFlow p)).toInt = (pMinutes p).toInt + 1 ∧ pMinutes (pFlow p) = pMinutes p + 1 ∧ pS (pFlow p) = pS p ∧ pC (pFlow p) = pC p ∧ gSum (pH (pFlow p)) + pLoss (pFlow p) = gSum (pH p) + pLoss p := by
  obtain ⟨hh, g, s, c, fu, ai, ra, le, ri, mi, lo, fl⟩ := p
  obtain ⟨⟨hz, hg, h1, hf, ha, hr, hl, hri⟩, hmi, hj⟩ := h
  have hmi : 0 ≤ mi.toInt ∧ mi.toInt ≤ m := hmi
  have hfu := fur_eq hf ha hr
  have ht := flow_tOk (p := (hh, g, s, c, fu, ai, ra, le, ri, mi, lo, fl)) ⟨hz, hg⟩
  rw [flow_is hg] at ht ⊢
  have em : (mi + 1).toInt = mi.toInt + 1 := by
    rw [ti_add] <;> rw [show (1 : Int32).toInt = 1 from rfl] <;> omega
  refine ⟨⟨ht.1, ht.2, heat_bd hb.1 hb.2 h1 hl hri hfu.2, hfu.2, ha, hr, hl, hri⟩, em, rfl, rfl, rfl, ?_⟩
  show gSum (gHe _ hh 36) + (gRi hh (gFur fu ai ra) ri (gJo hh c le z0 60, lo) 36).2 = gSum hh + lo
  rw [gSum_N, gSum_N, sum_He, Int32.add_assoc, sum_Ri 36 (Nat.le_refl _)]
  show sumN hh 36 + (sumN (gJo hh c le z0 60) 36 + lo) = _
  rw [sum_Jo 60 (Nat.le_refl _), Int32.zero_add]
theorem crack_is (p : PSt) : (pCrack p = (p, 0)) ∨ ∃ j : Nat, j < 60 ∧ pC p j = 0 ∧ pCrack p = ((pH p, p.2.1, gWeak (upd (pC p) j (pMinutes p)) (nI j) (pS p) 60, upd (pC p) j (pMinutes p), p.2.2.2.2), 1) := by
  obtain ⟨hh, g, s, c, fu, ai, ra, le, ri, mi, lo, fl⟩ := p
  unfold pCrack
  dsimp only
  rcases worst_least hh s c 60 (Nat.le_refl _) with ⟨h1, h2⟩ | ⟨j, hj, hcj, h3, h4⟩
  · rw [h1, if_pos (show gWh c (-1) = 0 from rfl)]
    exact Or.inl rfl
  · rw [h3]
    dsimp only
    split
    · exact Or.inl rfl
    · split
      · rw [nI_clamp (by omega)]
        exact Or.inr ⟨j, hj, hcj, rfl⟩
      · exact Or.inl rfl
/-- a minute, of a pane in its bounds -/
theorem min_MI {B m : Int} (hb : bOk B) (hm : m ≤ 1000000) {p : PSt} (h : MI B m p) : MI B (m + 1) (pMin p).1 ∧ (pMinutes (pMin p).1 = pMinutes p + 1 ∧ (pMinutes (pMin p).1).toInt = (pMinutes p).toInt + 1) ∧ gSum (pH (pMin p).1) + pLoss (pMin p).1 = gSum (pH p) + pLoss p ∧
    (((pMin p).2 = 0 ∧ crN (pC (pMin p).1) 60 = crN (pC p) 60) ∨ ((pMin p).2 = 1 ∧ crN (pC (pMin p).1) 60 = crN (pC p) 60 + 1)) := by
  obtain ⟨f1, f2, f3, f4, f5, f6⟩ := flow_MI hb hm h
  obtain ⟨hG, hmi, hj⟩ := h
  have ht := crack_tOk (pG_tOk f1)
  rw [pMin, kseal_eq]
  rcases crack_is (pFlow p) with e | ⟨j, j1, j2, e⟩
  · rw [e]
    refine ⟨⟨f1, by dsimp only; rw [f2]; omega, ?_⟩, ⟨f3, f2⟩, f6, Or.inl ⟨rfl, by dsimp only; rw [f5]⟩⟩
    dsimp only
    rw [f4, f5, f2]
    exact fun j hj1 => ⟨(hj j hj1).1, by have := (hj j hj1).2; omega⟩
  · rw [e] at ht ⊢
    have hz : ¬ pMinutes (pFlow p) = 0 := by
      intro e0
      have : (pMinutes (pFlow p)).toInt = 0 := by rw [e0]; rfl
      omega
    refine ⟨⟨⟨ht.1, ht.2, f1.2.2⟩, ?_, ?_⟩, ⟨f3, f2⟩, f6, Or.inr ⟨rfl, ?_⟩⟩
    · show 0 ≤ (pMinutes (pFlow p)).toInt ∧ (pMinutes (pFlow p)).toInt ≤ m + 1
      rw [f2]
      omega
    · show jI (pMinutes (pFlow p)).toInt (gWeak (upd (pC (pFlow p)) j (pMinutes (pFlow p))) (nI j) (pS (pFlow p)) 60) (upd (pC (pFlow p)) j (pMinutes (pFlow p)))
      intro k hk
      refine ⟨weak_bd (by rw [f4]; exact fun i hi => (hj i hi).1) 60 (Nat.le_refl _) k hk, ?_⟩
      unfold upd
      split
      · omega
      · rw [f5, f2]
        have := (hj k hk).2
        omega
    · show crN (upd (pC (pFlow p)) j (pMinutes (pFlow p))) 60 = _
      rw [crN_upd j2 hz, if_pos j1, f5]
theorem MI_mono {B m m' : Int} (hm : m ≤ m') {p : PSt} (h : MI B m p) : MI B m' p := ⟨h.1, ⟨h.2.1.1, Int.le_trans h.2.1.2 hm⟩, h.2.2⟩
theorem MI_B {B B' m : Int} (hb : B ≤ B') {p : PSt} (h : MI B m p) : MI B' m p := ⟨pG_mono hb h.1, h.2⟩
/-- minutes together -/
theorem pass_MI {B m : Int} (hb : bOk B) {p : PSt} (h : MI B m p) : ∀ n : Nat, m + n ≤ 1000000 → MI B (m + n) (pPass p n).1 ∧ pMinutes (pPass p n).1 = pMinutes p + nI n ∧ (pMinutes (pPass p n).1).toInt = (pMinutes p).toInt + n ∧ gSum (pH (pPass p n).1) + pLoss (pPass p n).1 = gSum (pH p) + pLoss p ∧ ∃ k : Nat, k ≤ n ∧ (pPass p n).2 = nI k ∧ crN (pC (pPass p n).1) 60 = crN (pC p) 60 + k := by
  intro n
  induction n with
  | zero => exact fun _ => ⟨by rw [show m + ((0 : Nat) : Int) = m by omega]; exact h, (Int32.add_zero _).symm, by show (pMinutes p).toInt = (pMinutes p).toInt + ((0 : Nat) : Int); omega, rfl, 0, Nat.le_refl 0, rfl, rfl⟩
  | succ n ih =>
    intro hn
    obtain ⟨i1, i2, i3, i4, k, k1, k2, k3⟩ := ih (by omega)
    obtain ⟨m1, m2, m3, m4⟩ := min_MI hb (by omega) i1
    rw [pPass_s2]
    have e : m + ((n + 1 : Nat) : Int) = m + n + 1 := by omega
    rw [e]
    refine ⟨m1, ?_, ?_, m3.trans i4, ?_⟩
    · show pMinutes (pMin (pPass p n).1).1 = _
      rw [m2.1, i2, nI_succ, Int32.add_assoc]
    · show (pMinutes (pMin (pPass p n).1).1).toInt = _
      rw [m2.2, i3]
      omega
    · show ∃ k' : Nat, k' ≤ n + 1 ∧ (if (pMin (pPass p n).1).2 = 0 then (pPass p n).2 else (pPass p n).2 + 1) = nI k' ∧ crN (pC (pMin (pPass p n).1).1) 60 = crN (pC p) 60 + k'
      rcases m4 with ⟨a, b⟩ | ⟨a, b⟩
      · rw [if_pos a]
        exact ⟨k, by omega, k2, by omega⟩
      · rw [if_neg (by rw [a]; decide), k2]
        exact ⟨k + 1, by omega, (nI_succ k).symm, by omega⟩
