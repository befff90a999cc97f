/-! class and model: numbers, the furnace, a minute -/
theorem bm_id {z : Int} (h1 : -2147483648 ≤ z) (h2 : z < 2147483648) : z.bmod (2 ^ 32) = z := by
  have e : z.bmod 4294967296 = z := by
    simp only [Int.bmod]
    split <;> omega
  exact e
theorem ti_add {x y : Int32} (h1 : -2147483648 ≤ x.toInt + y.toInt) (h2 : x.toInt + y.toInt < 2147483648) : (x + y).toInt = x.toInt + y.toInt := by
  rw [Int32.toInt_add]
  exact bm_id h1 h2
theorem ti_sub {x y : Int32} (h1 : -2147483648 ≤ x.toInt - y.toInt) (h2 : x.toInt - y.toInt < 2147483648) : (x - y).toInt = x.toInt - y.toInt := by
  rw [Int32.toInt_sub]
  exact bm_id h1 h2
theorem ti_neg {x : Int32} (h1 : -2147483648 < x.toInt) : (-x).toInt = -x.toInt := by
  rw [Int32.toInt_neg]
  have := x.toInt_lt
  exact bm_id (by omega) (by omega)
theorem ti_mul {x y : Int32} (h1 : -2147483648 ≤ x.toInt * y.toInt) (h2 : x.toInt * y.toInt < 2147483648) : (x * y).toInt = x.toInt * y.toInt := by
  rw [Int32.toInt_mul]
  exact bm_id h1 h2
theorem ti_div100 {x : Int32} : (x / 100).toInt = x.toInt.tdiv 100 := by
  rw [Int32.toInt_div]
  have h1 := x.toInt_lt
  have h2 := x.le_toInt
  have e : x.toInt.tdiv (Int32.toInt 100) = x.toInt.tdiv 100 := rfl
  rw [e]
  by_cases h : 0 ≤ x.toInt
  · rw [Int.tdiv_eq_ediv_of_nonneg h]
    exact bm_id (by omega) (by omega)
  · have h3 : x.toInt = -(-x.toInt) := by omega
    rw [h3, Int.neg_tdiv, Int.tdiv_eq_ediv_of_nonneg (by omega)]
    exact bm_id (by omega) (by omega)
/-- what goes over a joint is of the sign of the difference, and at most a fifth of it -/
theorem fx_bd {a b le : Int32} {B : Int} (hB : B ≤ 200000) (ha : 0 ≤ a.toInt ∧ a.toInt ≤ B) (hb : 0 ≤ b.toInt ∧ b.toInt ≤ B) (hl : 0 ≤ le.toInt ∧ le.toInt ≤ 20) :
    (0 ≤ a.toInt - b.toInt → 0 ≤ ((a - b) * le / 100).toInt ∧ 5 * ((a - b) * le / 100).toInt ≤ a.toInt - b.toInt) ∧ (a.toInt - b.toInt ≤ 0 → ((a - b) * le / 100).toInt ≤ 0 ∧ a.toInt - b.toInt ≤ 5 * ((a - b) * le / 100).toInt) := by
  have hd : (a - b).toInt = a.toInt - b.toInt := ti_sub (by omega) (by omega)
  generalize hdd : a.toInt - b.toInt = d at hd ⊢
  have h1 : -200000 ≤ d ∧ d ≤ 200000 := by omega
  have hm : -4000000 ≤ d * le.toInt ∧ d * le.toInt ≤ 4000000 ∧ (0 ≤ d → 0 ≤ d * le.toInt ∧ d * le.toInt ≤ 20 * d) ∧ (d ≤ 0 → d * le.toInt ≤ 0 ∧ 20 * d ≤ d * le.toInt) := by
    have key : ∀ z : Int, 0 ≤ z → z ≤ 200000 → 0 ≤ z * le.toInt ∧ z * le.toInt ≤ 20 * z := by
      intro z hz _
      refine ⟨Int.mul_nonneg hz hl.1, ?_⟩
      rw [Int.mul_comm 20 z]
      exact Int.mul_le_mul_of_nonneg_left hl.2 hz
    by_cases h0 : 0 ≤ d
    · have := key d h0 h1.2
      refine ⟨by omega, by omega, fun _ => this, fun h => ?_⟩
      have : d = 0 := by omega
      subst this
      simp
    · have h2 := key (-d) (by omega) (by omega)
      rw [Int.neg_mul] at h2
      refine ⟨by omega, by omega, fun h => absurd h h0, fun _ => ⟨by omega, by omega⟩⟩
  have he : ((a - b) * le).toInt = d * le.toInt := by
    rw [ti_mul (by rw [hd]; omega) (by rw [hd]; omega), hd]
  rw [ti_div100, he]
  generalize d * le.toInt = e at hm ⊢
  refine ⟨fun h0 => ?_, fun h0 => ?_⟩
  · have := hm.2.2.1 h0
    rw [Int.tdiv_eq_ediv_of_nonneg this.1]
    omega
  · have := hm.2.2.2 h0
    have h3 : e = -(-e) := by omega
    rw [h3, Int.neg_tdiv, Int.tdiv_eq_ediv_of_nonneg (by omega)]
    omega
/-- what each side of a cell brings it: five times that lies between what would empty and what would fill it -/
def sideB (B : Int) (hk : Int) (n : Int) (x : Int32) : Prop := -(n * hk) ≤ 5 * x.toInt ∧ 5 * x.toInt ≤ n * (B - hk)
theorem fur_eq {fu ai ra : Int32} (h1 : 0 ≤ fu.toInt ∧ fu.toInt ≤ 1000) (h2 : 0 ≤ ai.toInt ∧ ai.toInt ≤ 1000) (h3 : 1 ≤ ra.toInt ∧ ra.toInt ≤ 100) : gFur fu ai ra = mFur fu ai ra ∧ (0 ≤ (gFur fu ai ra).toInt ∧ (gFur fu ai ra).toInt ≤ 1000) := by
  have e1 : (ai - fu).toInt = ai.toInt - fu.toInt := ti_sub (by omega) (by omega)
  have e2 : (fu - ra).toInt = fu.toInt - ra.toInt := ti_sub (by omega) (by omega)
  have e3 : (fu + ra).toInt = fu.toInt + ra.toInt := ti_add (by omega) (by omega)
  have e4 : (-(ai - fu)).toInt = -(ai.toInt - fu.toInt) := by rw [ti_neg (by rw [e1]; omega), e1]
  have e5 : (-ra).toInt = -ra.toInt := ti_neg (by omega)
  have e6 : (-(-(ai - fu))).toInt = ai.toInt - fu.toInt := by
    rw [ti_neg (by rw [e4]; omega), e4]
    omega
  have z : (0 : Int32).toInt = 0 := rfl
  have hE : (gFur fu ai ra).toInt = (mFur fu ai ra).toInt ∧ (0 ≤ (gFur fu ai ra).toInt ∧ (gFur fu ai ra).toInt ≤ 1000) := by
    unfold gFur mFur mStep gAbs gMax gMin
    simp only [Int32.le_iff_toInt_le, Int32.lt_iff_toInt_lt, z]
    by_cases c1 : ai.toInt ≤ fu.toInt
    · rw [if_pos c1]
      by_cases c0 : 0 ≤ (ai - fu).toInt
      · rw [if_pos c0, if_pos c0]
        rw [e1] at c0
        by_cases c2 : ai.toInt < (fu - ra).toInt
        · rw [e2] at c2
          omega
        · rw [if_neg c2]
          rw [if_neg (show ¬ ra.toInt ≤ (ai - fu).toInt by rw [e1]; omega), ti_add (by rw [e1]; omega) (by rw [e1]; omega), e1]
          omega
      · rw [if_neg c0, if_neg c0]
        rw [e1] at c0
        by_cases c2 : ai.toInt < (fu - ra).toInt
        · rw [if_pos c2]
          rw [e2] at c2
          rw [if_pos (show ra.toInt ≤ (-(ai - fu)).toInt by rw [e4]; omega), ti_add (by rw [e5]; omega) (by rw [e5]; omega), e5, e2]
          omega
        · rw [if_neg c2]
          rw [e2] at c2
          by_cases c3 : ra.toInt ≤ (-(ai - fu)).toInt
          · rw [if_pos c3]
            rw [e4] at c3
            rw [ti_add (by rw [e5]; omega) (by rw [e5]; omega), e5]
            omega
          · rw [if_neg c3, ti_add (by rw [e6]; omega) (by rw [e6]; omega), e6]
            omega
    · rw [if_neg c1]
      rw [if_pos (show 0 ≤ (ai - fu).toInt by rw [e1]; omega), if_pos (show 0 ≤ (ai - fu).toInt by rw [e1]; omega)]
      by_cases c2 : (fu + ra).toInt < ai.toInt
      · rw [if_pos c2]
        rw [e3] at c2
        rw [if_pos (show ra.toInt ≤ (ai - fu).toInt by rw [e1]; omega), e3]
        omega
      · rw [if_neg c2]
        rw [e3] at c2
        by_cases c3 : ra.toInt ≤ (ai - fu).toInt
        · rw [if_pos c3]
          rw [e1] at c3
          rw [e3]
          omega
        · rw [if_neg c3, ti_add (by rw [e1]; omega) (by rw [e1]; omega), e1]
          omega
  exact ⟨Int32.toInt_inj.mp hE.1, hE.2⟩
