/-! p26: what would be: its bounds; numbers out of low -/
theorem and_nn (x : Int32) : 0 ≤ (x &&& 2147483647).toInt := by
  have h : (x &&& 2147483647).toBitVec.msb = false := by
    rw [Int32.toBitVec_and, BitVec.msb_and, show (2147483647 : Int32).toBitVec.msb = false by decide, Bool.and_false]
  show 0 ≤ (x &&& 2147483647).toBitVec.toInt
  rw [BitVec.toInt_eq_toNat_of_msb h]
  omega
theorem rem_ti {x n : Int32} (hx : 0 ≤ x.toInt) (hn : 0 < n.toInt) : (x - x / n * n).toInt = x.toInt % n.toInt := by
  have h1 := x.toInt_lt
  have h0 := Int.emod_add_mul_ediv x.toInt n.toInt
  have h3 := Int.emod_nonneg x.toInt (show n.toInt ≠ 0 by omega)
  have h4 := Int.mul_nonneg (Int.le_of_lt hn) (Int.ediv_nonneg hx (Int.le_of_lt hn))
  have e1 : (x / n).toInt = x.toInt / n.toInt := div_ti hx hn
  have e0 : x.toInt / n.toInt * n.toInt = n.toInt * (x.toInt / n.toInt) := Int.mul_comm _ _
  have e2 : (x / n * n).toInt = x.toInt / n.toInt * n.toInt := by
    rw [ti_mul (by rw [e1]; omega) (by rw [e1]; omega), e1]
  rw [ti_sub (by rw [e2]; omega) (by rw [e2]; omega), e2]
  omega
theorem low_n (x : Int32) (n : Nat) (hn : 0 < n) (h : n < 2147483648) : ∃ j : Nat, j < n ∧ lowV x (nI n) = nI j := by
  have e := nI_toInt h
  have h1 := rem_ti (and_nn x) (show 0 < (nI n).toInt by rw [e]; omega)
  rw [e] at h1
  have h2 := Int.emod_nonneg (x &&& 2147483647).toInt (show (n : Int) ≠ 0 by omega)
  have h3 := Int.emod_lt_of_pos (x &&& 2147483647).toInt (show (0 : Int) < n by omega)
  refine ⟨((x &&& 2147483647).toInt % n).toNat, by omega, Int32.toInt_inj.mp ?_⟩
  rw [nI_toInt (by omega)]
  show ((x &&& 2147483647) - (x &&& 2147483647) / nI n * nI n).toInt = _
  rw [h1]
  omega
theorem look_pass (p : PSt) : ∀ n, n < 1000 → (pLook p n).1 = (pPass p n).1 ∧ (pLook p n).2.1 = (pPass p n).2 ∧ ((pLook p n).2.2.1 = -4 ∨ ∃ i : Nat, 1 ≤ i ∧ i ≤ n ∧ (pLook p n).2.2.1 = nI i) ∧ 0 ≤ ((pLook p n).2.2.2).toInt := by
  intro n
  induction n with
  | zero => exact fun _ => ⟨rfl, rfl, Or.inl rfl, by show (0 : Int) ≤ (0 : Int32).toInt; decide⟩
  | succ n ih =>
    intro hn
    obtain ⟨i1, i2, i3, i4⟩ := ih (by omega)
    rw [pLook_s, pPass_s2, ← i1, ← i2]
    have hm : ∀ y : Int32, 0 ≤ (gMax (pLook p n).2.2.2 y).toInt := by
      intro y
      unfold gMax
      split
      · rename_i h
        rw [Int32.lt_iff_toInt_lt] at h
        omega
      · exact i4
    by_cases h0 : (pMin (pLook p n).1).2 = 0
    · rw [if_pos h0, if_pos h0]
      refine ⟨rfl, rfl, ?_, hm _⟩
      rcases i3 with h | ⟨i, a, b, c⟩
      · exact Or.inl h
      · exact Or.inr ⟨i, a, by omega, c⟩
    · rw [if_neg h0, if_neg h0]
      refine ⟨rfl, rfl, ?_, hm _⟩
      show (if (pLook p n).2.2.1 = -4 then nI (n + 1) else (pLook p n).2.2.1) = -4 ∨ ∃ i : Nat, 1 ≤ i ∧ i ≤ n + 1 ∧ (if (pLook p n).2.2.1 = -4 then nI (n + 1) else (pLook p n).2.2.1) = nI i
      by_cases h4 : (pLook p n).2.2.1 = -4
      · rw [if_pos h4]
        exact Or.inr ⟨n + 1, by omega, by omega, rfl⟩
      · rw [if_neg h4]
        rcases i3 with h | ⟨i, a, b, c⟩
        · exact absurd h h4
        · exact Or.inr ⟨i, a, by omega, c⟩
theorem fast_bd (a : PSt) (x m : Int32) : ∀ r, gFast a x m r = -4 ∨ ∃ i : Nat, 1 ≤ i ∧ i ≤ r ∧ gFast a x m r = nI i := by
  intro r
  induction r with
  | zero => exact Or.inl rfl
  | succ r ih =>
    unfold gFast
    split
    · rcases ih with h | ⟨i, a, b, c⟩
      · exact Or.inl h
      · exact Or.inr ⟨i, a, by omega, c⟩
    · exact Or.inr ⟨r + 1, by omega, by omega, rfl⟩
theorem even_bd (x : Int32) : ∀ k i (p : PSt), gEven x k i p = -4 ∨ ∃ j : Nat, i ≤ j ∧ j < i + k ∧ gEven x k i p = nI j := by
  intro k
  induction k with
  | zero => exact fun i p => Or.inl rfl
  | succ k ih =>
    intro i p
    unfold gEven
    split
    · rcases ih (i + 1) (pMin p).1 with h | ⟨j, a, b, c⟩
      · exact Or.inl h
      · exact Or.inr ⟨j, by omega, by omega, c⟩
    · exact Or.inr ⟨i, by omega, by omega, rfl⟩
theorem even_0 (x : Int32) (p : PSt) : (gEven x 100 0 p = 0 ↔ gStrMax (pH p) (pC p) ≤ x) := by
  unfold gEven
  by_cases h : x < gStrMax (pH p) (pC p)
  · rw [if_pos h]
    refine ⟨fun e => ?_, fun e => absurd h (Int32.not_lt.mpr e)⟩
    rcases even_bd x 99 1 (pMin p).1 with h2 | ⟨j, a, b, c⟩
    · rw [h2] at e
      exact absurd e (by decide)
    · rw [c] at e
      exact absurd e (nI_ne00 (by omega) (by omega))
  · rw [if_neg h]
    exact ⟨fun _ => Int32.not_lt.mp h, fun _ => rfl⟩
theorem gOut_of {x a b : Int32} (h : a.toInt ≤ x.toInt ∧ x.toInt ≤ b.toInt) : gOut x a b = 0 := by
  unfold gOut
  rw [if_neg (by rw [Int32.lt_iff_toInt_lt]; omega), if_pos (by rw [Int32.le_iff_toInt_le]; omega)]
theorem gOut_no {x a b : Int32} (h : x.toInt < a.toInt ∨ b.toInt < x.toInt) : ¬ gOut x a b = 0 := by
  intro e
  have := out_bd e
  omega
/-- what ifPassed answers, of what is asked well -/
theorem if_ok {B m : Int} (hb : bOk B) {p : PSt} (h : MI B m p) (hm : m ≤ 900000) {n w : Nat} (hn : 1 ≤ n) (hn2 : n ≤ 99) (hw : w ≤ 3) :
    (w = 0 → ∃ k : Nat, k ≤ n ∧ k ≤ 60 ∧ vIf p (nI n) (nI w) = nI k) ∧ (w = 1 → vIf p (nI n) (nI w) = -4 ∨ ∃ i : Nat, 1 ≤ i ∧ i ≤ n ∧ vIf p (nI n) (nI w) = nI i) ∧ (w = 2 → 0 ≤ (vIf p (nI n) (nI w)).toInt) := by
  have g1 : gOut (nI n) 1 99 = 0 := gOut_of (by rw [nI_toInt (by omega), show (1 : Int32).toInt = 1 from rfl, show (99 : Int32).toInt = 99 from rfl]; omega)
  have g2 : gOut (nI w) 0 3 = 0 := gOut_of (by rw [nI_toInt (by omega), show (0 : Int32).toInt = 0 from rfl, show (3 : Int32).toInt = 3 from rfl]; omega)
  obtain ⟨l1, l2, l3, l4⟩ := look_pass p n (by omega)
  have hp := pass_MI hb h n (by omega)
  unfold vIf
  rw [if_pos g1, if_pos g2, nI_clamp (by omega)]
  refine ⟨fun e => ?_, fun e => ?_, fun e => ?_⟩
  · subst e
    rw [if_pos (show nI 0 = 0 from rfl), l2]
    obtain ⟨_, _, _, _, k, k1, k2, k3⟩ := hp
    have := crN_le (pC (pPass p n).1) 60
    exact ⟨k, k1, by omega, k2⟩
  · subst e
    rw [if_neg (show ¬ nI 1 = 0 by decide), if_pos (show nI 1 = 1 from rfl)]
    exact l3
  · subst e
    rw [if_neg (show ¬ nI 2 = 0 by decide), if_neg (show ¬ nI 2 = 1 by decide), if_pos (show nI 2 = 2 from rfl)]
    exact l4
theorem if_bad {p : PSt} {m w : Int32} (h : ¬ (gOut m 1 99 = 0 ∧ gOut w 0 3 = 0)) : vIf p m w = -1 := by
  unfold vIf
  by_cases h1 : gOut m 1 99 = 0
  · rw [if_pos h1, if_neg (fun h2 => h ⟨h1, h2⟩)]
  · rw [if_neg h1]
