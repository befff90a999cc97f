/-! numbers, the grid, a minute: rows of whole's proof that speak of the class alone -/
def pZ (p : PSt) : Prop := (∀ k : Nat, 36 ≤ k → p.1 k = 0) ∧ (∀ k : Nat, 60 ≤ k → p.2.2.1 k = 0) ∧ (∀ k : Nat, 60 ≤ k → p.2.2.2.1 k = 0)
def nF (i : Nat) : Nat := (gFirst (nI i)).toNatClampNeg
def nS (i : Nat) : Nat := (gSecond (nI i)).toNatClampNeg
theorem nFS_ok : ∀ i, i < 60 → (gFirst (nI i) = nI (nF i) ∧ nF i < 36) ∧ gSecond (nI i) = nI (nS i) ∧ nS i < 36 := by decide +kernel
theorem gFirst_n {i : Nat} (h : i < 60) : gFirst (nI i) = nI (nF i) := (nFS_ok i h).1.1
theorem nF_lt {i : Nat} (h : i < 60) : nF i < 36 := (nFS_ok i h).1.2
theorem gSecond_n {i : Nat} (h : i < 60) : gSecond (nI i) = nI (nS i) := (nFS_ok i h).2.1
theorem nS_lt {i : Nat} (h : i < 60) : nS i < 36 := (nFS_ok i h).2.2
theorem gAt_n {f : Nat → Int32} {i : Nat} (h : i < 36) : gAt 36 f (nI i) = f i := by
  unfold gAt
  rw [if_neg (nI_pos (by omega)), if_neg (show ¬ (36 : Int32) ≤ nI i from nI_ge h (by decide)), nI_clamp (by omega)]
theorem gWh_n {c : Nat → Int32} {i : Nat} (h : i < 60) : gWh c (nI i) = if c i = 0 then 1 else 0 := by
  unfold gWh
  rw [if_neg (nI_pos (by omega)), if_neg (show ¬ (60 : Int32) ≤ nI i from nI_ge h (by decide)), nI_clamp (by omega)]
theorem gJt_n {c : Nat → Int32} {i : Nat} (h : i < 60) : gJt c (nI i) = c i := by
  unfold gJt gIsJoint
  rw [if_neg (nI_pos (by omega)), if_neg (show ¬ (60 : Int32) ≤ nI i from nI_ge h (by decide)), if_neg (by decide), nI_clamp (by omega)]
theorem le35 {x : Int32} : (x ≤ 35) ↔ ¬ 36 ≤ x := by
  rw [Int32.le_iff_toInt_le, Int32.le_iff_toInt_le, show (35 : Int32).toInt = 35 from rfl, show (36 : Int32).toInt = 36 from rfl]
  omega
theorem i_add0 {a : Int32} : a + 0 = a := Int32.add_zero a
theorem gain_n {g : Nat → Int32} {k : Nat} {x : Int32} (hk : k < 36) : gGain g (nI k) x = upd g k (g k + x) := by
  unfold gGain gIsCell
  rw [if_neg (nI_pos (by omega)), if_neg (show ¬ (36 : Int32) ≤ nI k from nI_ge hk (by decide)), if_neg (by decide), nI_clamp (by omega)]
theorem fx_n {h : Nat → Int32} {le : Int32} {i : Nat} (hi : i < 60) : gFx h le (nI i) = (h (nF i) - h (nS i)) * le / 100 := by
  unfold gFx
  rw [gFirst_n hi, gSecond_n hi, gAt_n (nF_lt hi), gAt_n (nS_lt hi)]
theorem upd_z {c : Nat → Int32} {n j : Nat} {x : Int32} (hz : ∀ k : Nat, n ≤ k → c k = 0) (hj : j < n) : ∀ k : Nat, n ≤ k → upd c j x k = 0 := by
  intro k hk
  unfold upd
  rw [if_neg (by omega)]
  exact hz k hk
def mStep (fu ai ra : Int32) : Int32 := if ra ≤ gAbs (ai - fu) then ra else gAbs (ai - fu)
def mFur (fu ai ra : Int32) : Int32 := fu + (if 0 ≤ ai - fu then mStep fu ai ra else -(mStep fu ai ra))
theorem gRi_s (h : Nat → Int32) (fu ri : Int32) (a : (Nat → Int32) × Int32) (i : Nat) : gRi h fu ri a (i + 1) = (upd (gRi h fu ri a i).1 i ((gRi h fu ri a i).1 i - gFr h fu ri i), (gRi h fu ri a i).2 + gFr h fu ri i) := rfl
theorem gJo_s (h c : Nat → Int32) (le : Int32) (g : Nat → Int32) (i : Nat) : gJo h c le g (i + 1) = if gWh c (nI i) = 0 then gJo h c le g i else gGain (gGain (gJo h c le g i) (gFirst (nI i)) (-(gFx h le (nI i)))) (gSecond (nI i)) (gFx h le (nI i)) := rfl
theorem gHe_s (g h : Nat → Int32) (i : Nat) : gHe g h (i + 1) = upd (gHe g h i) i (gHe g h i i + g i) := rfl
theorem nFS_ne : ∀ j, j < 60 → nF j ≠ nS j := by decide +kernel
theorem bm_id {z : Int} (h1 : -2147483648 ≤ z) (h2 : z < 2147483648) : z.bmod (2 ^ 32) = z := by
  have e : z.bmod 4294967296 = z := by
    simp only [Int.bmod]
    split <;> omega
  exact e
theorem ti_add {x y : Int32} (h1 : -2147483648 ≤ x.toInt + y.toInt) (h2 : x.toInt + y.toInt < 2147483648) : (x + y).toInt = x.toInt + y.toInt := by
  rw [Int32.toInt_add]
  exact bm_id h1 h2
theorem ti_sub {x y : Int32} (h1 : -2147483648 ≤ x.toInt - y.toInt) (h2 : x.toInt - y.toInt < 2147483648) : (x - y).toInt = x.toInt - y.toInt := by
  rw [Int32.toInt_sub]
  exact bm_id h1 h2
theorem ti_neg {x : Int32} (h1 : -2147483648 < x.toInt) : (-x).toInt = -x.toInt := by
  rw [Int32.toInt_neg]
  have := x.toInt_lt
  exact bm_id (by omega) (by omega)
theorem ti_mul {x y : Int32} (h1 : -2147483648 ≤ x.toInt * y.toInt) (h2 : x.toInt * y.toInt < 2147483648) : (x * y).toInt = x.toInt * y.toInt := by
  rw [Int32.toInt_mul]
  exact bm_id h1 h2
theorem ti_div100 {x : Int32} : (x / 100).toInt = x.toInt.tdiv 100 := by
  rw [Int32.toInt_div]
  have h1 := x.toInt_lt
  have h2 := x.le_toInt
  have e : x.toInt.tdiv (Int32.toInt 100) = x.toInt.tdiv 100 := rfl
  rw [e]
  by_cases h : 0 ≤ x.toInt
  · rw [Int.tdiv_eq_ediv_of_nonneg h]
    exact bm_id (by omega) (by omega)
  · have h3 : x.toInt = -(-x.toInt) := by omega
    rw [h3, Int.neg_tdiv, Int.tdiv_eq_ediv_of_nonneg (by omega)]
    exact bm_id (by omega) (by omega)
/-- what goes over a joint is of the sign of the difference, and at most a fifth of it -/
theorem fx_bd {a b le : Int32} {B : Int} (hB : B ≤ 200000) (ha : 0 ≤ a.toInt ∧ a.toInt ≤ B) (hb : 0 ≤ b.toInt ∧ b.toInt ≤ B) (hl : 0 ≤ le.toInt ∧ le.toInt ≤ 20) :
    (0 ≤ a.toInt - b.toInt → 0 ≤ ((a - b) * le / 100).toInt ∧ 5 * ((a - b) * le / 100).toInt ≤ a.toInt - b.toInt) ∧ (a.toInt - b.toInt ≤ 0 → ((a - b) * le / 100).toInt ≤ 0 ∧ a.toInt - b.toInt ≤ 5 * ((a - b) * le / 100).toInt) := by
  have hd : (a - b).toInt = a.toInt - b.toInt := ti_sub (by omega) (by omega)
  generalize hdd : a.toInt - b.toInt = d at hd ⊢
  have h1 : -200000 ≤ d ∧ d ≤ 200000 := by omega
  have hm : -4000000 ≤ d * le.toInt ∧ d * le.toInt ≤ 4000000 ∧ (0 ≤ d → 0 ≤ d * le.toInt ∧ d * le.toInt ≤ 20 * d) ∧ (d ≤ 0 → d * le.toInt ≤ 0 ∧ 20 * d ≤ d * le.toInt) := by
    have key : ∀ z : Int, 0 ≤ z → z ≤ 200000 → 0 ≤ z * le.toInt ∧ z * le.toInt ≤ 20 * z := by
      intro z hz _
      refine ⟨Int.mul_nonneg hz hl.1, ?_⟩
      rw [Int.mul_comm 20 z]
      exact Int.mul_le_mul_of_nonneg_left hl.2 hz
    by_cases h0 : 0 ≤ d
    · have := key d h0 h1.2
      refine ⟨by omega, by omega, fun _ => this, fun h => ?_⟩
      have : d = 0 := by omega
      subst this
      simp
    · have h2 := key (-d) (by omega) (by omega)
      rw [Int.neg_mul] at h2
      refine ⟨by omega, by omega, fun h => absurd h h0, fun _ => ⟨by omega, by omega⟩⟩
  have he : ((a - b) * le).toInt = d * le.toInt := by
    rw [ti_mul (by rw [hd]; omega) (by rw [hd]; omega), hd]
  rw [ti_div100, he]
  generalize d * le.toInt = e at hm ⊢
  refine ⟨fun h0 => ?_, fun h0 => ?_⟩
  · have := hm.2.2.1 h0
    rw [Int.tdiv_eq_ediv_of_nonneg this.1]
    omega
  · have := hm.2.2.2 h0
    have h3 : e = -(-e) := by omega
    rw [h3, Int.neg_tdiv, Int.tdiv_eq_ediv_of_nonneg (by omega)]
    omega
/-- what each side of a cell brings it: five times that lies between what would empty and what would fill it -/
def sideB (B : Int) (hk : Int) (n : Int) (x : Int32) : Prop := -(n * hk) ≤ 5 * x.toInt ∧ 5 * x.toInt ≤ n * (B - hk)
theorem fur_eq {fu ai ra : Int32} (h1 : 0 ≤ fu.toInt ∧ fu.toInt ≤ 1000) (h2 : 0 ≤ ai.toInt ∧ ai.toInt ≤ 1000) (h3 : 1 ≤ ra.toInt ∧ ra.toInt ≤ 100) : gFur fu ai ra = mFur fu ai ra ∧ (0 ≤ (gFur fu ai ra).toInt ∧ (gFur fu ai ra).toInt ≤ 1000) := by
  have e1 : (ai - fu).toInt = ai.toInt - fu.toInt := ti_sub (by omega) (by omega)
  have e2 : (fu - ra).toInt = fu.toInt - ra.toInt := ti_sub (by omega) (by omega)
  have e3 : (fu + ra).toInt = fu.toInt + ra.toInt := ti_add (by omega) (by omega)
  have e4 : (-(ai - fu)).toInt = -(ai.toInt - fu.toInt) := by rw [ti_neg (by rw [e1]; omega), e1]
  have e5 : (-ra).toInt = -ra.toInt := ti_neg (by omega)
  have e6 : (-(-(ai - fu))).toInt = ai.toInt - fu.toInt := by
    rw [ti_neg (by rw [e4]; omega), e4]
    omega
  have z : (0 : Int32).toInt = 0 := rfl
  have hE : (gFur fu ai ra).toInt = (mFur fu ai ra).toInt ∧ (0 ≤ (gFur fu ai ra).toInt ∧ (gFur fu ai ra).toInt ≤ 1000) := by
    unfold gFur mFur mStep gAbs gMax gMin
    simp only [Int32.le_iff_toInt_le, Int32.lt_iff_toInt_lt, z]
    by_cases c1 : ai.toInt ≤ fu.toInt
    · rw [if_pos c1]
      by_cases c0 : 0 ≤ (ai - fu).toInt
      · rw [if_pos c0, if_pos c0]
        rw [e1] at c0
        by_cases c2 : ai.toInt < (fu - ra).toInt
        · rw [e2] at c2
          omega
        · rw [if_neg c2]
          rw [if_neg (show ¬ ra.toInt ≤ (ai - fu).toInt by rw [e1]; omega), ti_add (by rw [e1]; omega) (by rw [e1]; omega), e1]
          omega
      · rw [if_neg c0, if_neg c0]
        rw [e1] at c0
        by_cases c2 : ai.toInt < (fu - ra).toInt
        · rw [if_pos c2]
          rw [e2] at c2
          rw [if_pos (show ra.toInt ≤ (-(ai - fu)).toInt by rw [e4]; omega), ti_add (by rw [e5]; omega) (by rw [e5]; omega), e5, e2]
          omega
        · rw [if_neg c2]
          rw [e2] at c2
          by_cases c3 : ra.toInt ≤ (-(ai - fu)).toInt
          · rw [if_pos c3]
            rw [e4] at c3
            rw [ti_add (by rw [e5]; omega) (by rw [e5]; omega), e5]
            omega
          · rw [if_neg c3, ti_add (by rw [e6]; omega) (by rw [e6]; omega), e6]
            omega
    · rw [if_neg c1]
      rw [if_pos (show 0 ≤ (ai - fu).toInt by rw [e1]; omega), if_pos (show 0 ≤ (ai - fu).toInt by rw [e1]; omega)]
      by_cases c2 : (fu + ra).toInt < ai.toInt
      · rw [if_pos c2]
        rw [e3] at c2
        rw [if_pos (show ra.toInt ≤ (ai - fu).toInt by rw [e1]; omega), e3]
        omega
      · rw [if_neg c2]
        rw [e3] at c2
        by_cases c3 : ra.toInt ≤ (ai - fu).toInt
        · rw [if_pos c3]
          rw [e1] at c3
          rw [e3]
          omega
        · rw [if_neg c3, ti_add (by rw [e1]; omega) (by rw [e1]; omega), e1]
          omega
  exact ⟨Int32.toInt_inj.mp hE.1, hE.2⟩
def gZ (g : Nat → Int32) : Prop := ∀ k : Nat, 36 ≤ k → g k = 0
theorem fill_gZ {g : Nat → Int32} (h : gZ g) : fillA 36 g 0 = z0 := by
  funext k
  unfold fillA
  by_cases hk : k < 36
  · rw [if_pos hk]; rfl
  · rw [if_neg hk, h k (by omega)]; rfl
theorem gZ_z0 : gZ z0 := fun _ _ => rfl
theorem gZ_upd {g : Nat → Int32} {k : Nat} {x : Int32} (h : gZ g) (hk : k < 36) : gZ (upd g k x) := by
  intro i hi
  unfold upd
  rw [if_neg (by omega)]
  exact h i hi
theorem gain_F {g : Nat → Int32} {i : Nat} {x : Int32} (hi : i < 60) : gGain g (gFirst (nI i)) x = upd g (nF i) (g (nF i) + x) := by
  rw [gFirst_n hi, gain_n (nF_lt hi)]
theorem gain_S {g : Nat → Int32} {i : Nat} {x : Int32} (hi : i < 60) : gGain g (gSecond (nI i)) x = upd g (nS i) (g (nS i) + x) := by
  rw [gSecond_n hi, gain_n (nS_lt hi)]
theorem gJo_z {h c : Nat → Int32} {le : Int32} {g : Nat → Int32} (hg : gZ g) : ∀ i, i ≤ 60 → gZ (gJo h c le g i) := by
  intro i
  induction i with
  | zero => exact fun _ => hg
  | succ i ih =>
    intro hi
    have hz := ih (by omega)
    rw [gJo_s]
    split
    · exact hz
    · rw [gain_F (by omega), gain_S (by omega)]
      exact gZ_upd (gZ_upd hz (nF_lt (by omega))) (nS_lt (by omega))
theorem gRi_z {h : Nat → Int32} {fu ri : Int32} {a : (Nat → Int32) × Int32} (hg : gZ a.1) : ∀ i, i ≤ 36 → gZ (gRi h fu ri a i).1 := by
  intro i
  induction i with
  | zero => exact fun _ => hg
  | succ i ih =>
    intro hi
    rw [gRi_s]
    exact gZ_upd (ih (by omega)) (by omega)
theorem gWorst_s (h s c : Nat → Int32) (i : Nat) : gWorst h s c (i + 1) = if gWh c (nI i) = 0 then gWorst h s c i else if (gWorst h s c i).1 = -1 then (nI i, gMar h s (nI i)) else if (gWorst h s c i).2 ≤ gMar h s (nI i) then gWorst h s c i else (nI i, gMar h s (nI i)) := rfl
theorem nI_nm {i : Nat} (h : i < 60) : nI i ≠ -1 ∧ nI i ≠ -4 := by
  refine ⟨fun e => ?_, fun e => ?_⟩
  · have := nI_pos (n := i) (by omega)
    rw [e] at this
    exact this (by decide)
  · have := nI_pos (n := i) (by omega)
    rw [e] at this
    exact this (by decide)
theorem gWh_c {c : Nat → Int32} {i : Nat} (h : i < 60) (hw : ¬ gWh c (nI i) = 0) : c i = 0 := by
  rw [gWh_n h] at hw
  by_cases e : c i = 0
  · exact e
  · rw [if_neg e] at hw
    exact absurd rfl hw
theorem touch_sym : ∀ i, i < 60 → ∀ j, j < 60 → gTouch (nI i) (nI j) = gTouch (nI j) (nI i) := by decide +kernel
theorem gWeak_s (c : Nat → Int32) (w : Int32) (s : Nat → Int32) (i : Nat) : gWeak c w s (i + 1) = if gWh c (nI i) = 0 then gWeak c w s i else if gTouch (nI i) w = 0 then gWeak c w s i else upd (gWeak c w s i) i (gMax 1 (gWeak c w s i i * 9 / 10)) := rfl
theorem gWeak_0 (c : Nat → Int32) (w : Int32) (s : Nat → Int32) : gWeak c w s 0 = s := rfl
def cntJ : Nat → Nat → Nat
  | 0, _ => 0
  | i + 1, k => cntJ i k + (if nF i = k then 1 else 0) + (if nS i = k then 1 else 0)
theorem cntJ_le : ∀ i k, cntJ i k ≤ 2 * i := by
  intro i k
  induction i with
  | zero => exact Nat.le_refl 0
  | succ i ih =>
    have e : cntJ (i + 1) k = cntJ i k + (if nF i = k then 1 else 0) + (if nS i = k then 1 else 0) := rfl
    rw [e]
    split <;> split <;> omega
def rimN (k : Nat) : Nat := (gRim (nI k)).toNatClampNeg
theorem rim_ok : ∀ k, k < 36 → (gRim (nI k) = nI (rimN k) ∧ rimN k ≤ 2) ∧ cntJ 60 k + rimN k = 4 := by decide +kernel
theorem gRi_at {h : Nat → Int32} {fu ri : Int32} {a : (Nat → Int32) × Int32} : ∀ i k, (gRi h fu ri a i).1 k = if k < i then a.1 k - gFr h fu ri k else a.1 k := by
  intro i
  induction i with
  | zero => exact fun k => (if_neg (Nat.not_lt_zero k)).symm
  | succ i ih =>
    intro k
    rw [gRi_s]
    show upd (gRi h fu ri a i).1 i _ k = _
    unfold upd
    by_cases hk : k = i
    · subst hk
      rw [if_pos rfl, if_pos (by omega), ih k, if_neg (by omega)]
    · rw [if_neg hk, ih k]
      by_cases h2 : k < i
      · rw [if_pos h2, if_pos (by omega)]
      · rw [if_neg h2, if_neg (by omega)]
theorem gHe_at {g h : Nat → Int32} : ∀ i k, gHe g h i k = if k < i then h k + g k else h k := by
  intro i
  induction i with
  | zero => exact fun k => (if_neg (Nat.not_lt_zero k)).symm
  | succ i ih =>
    intro k
    rw [gHe_s]
    unfold upd
    by_cases hk : k = i
    · subst hk
      rw [if_pos rfl, if_pos (by omega), ih k, if_neg (by omega)]
    · rw [if_neg hk, ih k]
      by_cases h2 : k < i
      · rw [if_pos h2, if_pos (by omega)]
      · rw [if_neg h2, if_neg (by omega)]
def hB (B : Int) (h : Nat → Int32) : Prop := ∀ k, k < 36 → 0 ≤ (h k).toInt ∧ (h k).toInt ≤ B
theorem gJo_bd {h c : Nat → Int32} {le : Int32} {B : Int} (hB0 : 1000 ≤ B) (hB1 : B ≤ 200000) (hh : hB B h) (hl : 0 ≤ le.toInt ∧ le.toInt ≤ 20) : ∀ i, i ≤ 60 → ∀ k, k < 36 → -((cntJ i k : Int) * (h k).toInt) ≤ 5 * (gJo h c le z0 i k).toInt ∧ 5 * (gJo h c le z0 i k).toInt ≤ (cntJ i k : Int) * (B - (h k).toInt) := by
  intro i
  induction i with
  | zero =>
    intro _ k _
    show -(((0 : Nat) : Int) * _) ≤ 5 * (0 : Int32).toInt ∧ 5 * (0 : Int32).toInt ≤ ((0 : Nat) : Int) * _
    simp
  | succ i ih =>
    intro hi k hk
    have ih := ih (by omega) k hk
    have hi60 : i < 60 := by omega
    have hcl := cntJ_le i k
    have hhk := hh k hk
    have hne := nFS_ne i hi60
    have hF := hh _ (nF_lt hi60)
    have hS := hh _ (nS_lt hi60)
    have hfx := fx_bd hB1 hF hS hl
    have ec : cntJ (i + 1) k = cntJ i k + (if nF i = k then 1 else 0) + (if nS i = k then 1 else 0) := rfl
    have hp : 0 ≤ (cntJ i k : Int) * (h k).toInt ∧ (cntJ i k : Int) * (h k).toInt ≤ 24000000 := by
      refine ⟨Int.mul_nonneg (by omega) hhk.1, ?_⟩
      have := Int.mul_le_mul (show (cntJ i k : Int) ≤ 120 by omega) (show (h k).toInt ≤ 200000 by omega) hhk.1 (by decide)
      omega
    have hq : 0 ≤ (cntJ i k : Int) * (B - (h k).toInt) ∧ (cntJ i k : Int) * (B - (h k).toInt) ≤ 24000000 := by
      refine ⟨Int.mul_nonneg (by omega) (by omega), ?_⟩
      have := Int.mul_le_mul (show (cntJ i k : Int) ≤ 120 by omega) (show B - (h k).toInt ≤ 200000 by omega) (by omega) (by decide)
      omega
    have m1 : ((cntJ i k + 1 : Nat) : Int) * (h k).toInt = (cntJ i k : Int) * (h k).toInt + (h k).toInt := by
      rw [Int.natCast_add, Int.add_mul]
      simp
    have m2 : ((cntJ i k + 1 : Nat) : Int) * (B - (h k).toInt) = (cntJ i k : Int) * (B - (h k).toInt) + (B - (h k).toInt) := by
      rw [Int.natCast_add, Int.add_mul]
      simp
    rw [gJo_s]
    generalize hG : gJo h c le z0 i = g at ih ⊢
    by_cases hkF : nF i = k
    · have hkS : ¬ nS i = k := fun e => hne (hkF.trans e.symm)
      rw [ec, if_pos hkF, if_neg hkS, Nat.add_zero, m1, m2]
      by_cases hw : gWh c (nI i) = 0
      · rw [if_pos hw]
        omega
      · rw [if_neg hw, gain_F hi60, gain_S hi60]
        have e1 : upd (upd g (nF i) (g (nF i) + -gFx h le (nI i))) (nS i) (upd g (nF i) (g (nF i) + -gFx h le (nI i)) (nS i) + gFx h le (nI i)) k = g k + -gFx h le (nI i) := by
          unfold upd
          rw [if_neg (fun e => hkS e.symm), if_pos hkF.symm, hkF]
        rw [e1, fx_n hi60]
        rw [hkF] at hfx hF ⊢
        generalize ((h k - h (nS i)) * le / 100) = f at hfx ⊢
        have hfb : -(h k).toInt ≤ -(5 * f.toInt) ∧ -(5 * f.toInt) ≤ B - (h k).toInt := by
          by_cases h0 : 0 ≤ (h k).toInt - (h (nS i)).toInt
          · have := hfx.1 h0
            omega
          · have := hfx.2 (by omega)
            omega
        have e2 : (-f).toInt = -f.toInt := ti_neg (by omega)
        rw [ti_add (by rw [e2]; omega) (by rw [e2]; omega), e2]
        omega
    · by_cases hkS : nS i = k
      · rw [ec, if_neg hkF, if_pos hkS, Nat.add_zero, m1, m2]
        by_cases hw : gWh c (nI i) = 0
        · rw [if_pos hw]
          omega
        · rw [if_neg hw, gain_F hi60, gain_S hi60]
          have e1 : upd (upd g (nF i) (g (nF i) + -gFx h le (nI i))) (nS i) (upd g (nF i) (g (nF i) + -gFx h le (nI i)) (nS i) + gFx h le (nI i)) k = g k + gFx h le (nI i) := by
            unfold upd
            rw [if_pos hkS.symm, if_neg (Ne.symm hne), hkS]
          rw [e1, fx_n hi60]
          rw [hkS] at hfx hS ⊢
          generalize ((h (nF i) - h k) * le / 100) = f at hfx ⊢
          have hfb : -(h k).toInt ≤ 5 * f.toInt ∧ 5 * f.toInt ≤ B - (h k).toInt := by
            by_cases h0 : 0 ≤ (h (nF i)).toInt - (h k).toInt
            · have := hfx.1 h0
              omega
            · have := hfx.2 (by omega)
              omega
          rw [ti_add (by omega) (by omega)]
          omega
      · rw [ec, if_neg hkF, if_neg hkS, Nat.add_zero]
        by_cases hw : gWh c (nI i) = 0
        · rw [if_pos hw]
          exact ih
        · rw [if_neg hw, gain_F hi60, gain_S hi60]
          have e1 : upd (upd g (nF i) (g (nF i) + -gFx h le (nI i))) (nS i) (upd g (nF i) (g (nF i) + -gFx h le (nI i)) (nS i) + gFx h le (nI i)) k = g k := by
            unfold upd
            rw [if_neg (fun e => hkS e.symm), if_neg (fun e => hkF e.symm)]
          rw [e1]
          exact ih
theorem heat_bd {h c : Nat → Int32} {fu le ri lo : Int32} {B : Int} (hB0 : 1000 ≤ B) (hB1 : B ≤ 200000) (hh : hB B h) (hl : 0 ≤ le.toInt ∧ le.toInt ≤ 20) (hr : 0 ≤ ri.toInt ∧ ri.toInt ≤ 20) (hf : 0 ≤ fu.toInt ∧ fu.toInt ≤ 1000) : hB B (gHe (gRi h fu ri (gJo h c le z0 60, lo) 36).1 h 36) := by
  intro k hk
  rw [gHe_at, if_pos hk, gRi_at, if_pos hk]
  show 0 ≤ (h k + (gJo h c le z0 60 k - gFr h fu ri k)).toInt ∧ (h k + (gJo h c le z0 60 k - gFr h fu ri k)).toInt ≤ B
  have h1 := gJo_bd (c := c) hB0 hB1 hh hl 60 (Nat.le_refl _) k hk
  obtain ⟨⟨er, r2⟩, hc⟩ := rim_ok k hk
  have hhk := hh k hk
  have hfx := fx_bd hB1 hhk (show 0 ≤ fu.toInt ∧ fu.toInt ≤ B by omega) hr
  have eg : gFr h fu ri k = (h k - fu) * ri / 100 * gRim (nI k) := rfl
  rw [eg, er]
  generalize hf1 : ((h k - fu) * ri / 100) = f at hfx ⊢
  have hfb : -(h k).toInt ≤ -(5 * f.toInt) ∧ -(5 * f.toInt) ≤ B - (h k).toInt := by
    by_cases h0 : 0 ≤ (h k).toInt - fu.toInt
    · have := hfx.1 h0
      omega
    · have := hfx.2 (by omega)
      omega
  have hfr : (f * nI (rimN k)).toInt = f.toInt * (rimN k : Int) := by
    rw [ti_mul, nI_toInt (by omega)]
    · rw [nI_toInt (by omega)]
      rcases (show rimN k = 0 ∨ rimN k = 1 ∨ rimN k = 2 by omega) with e | e | e <;> rw [e] <;> simp <;> omega
    · rw [nI_toInt (by omega)]
      rcases (show rimN k = 0 ∨ rimN k = 1 ∨ rimN k = 2 by omega) with e | e | e <;> rw [e] <;> simp <;> omega
  generalize gJo h c le z0 60 k = g at h1 ⊢
  have fin : (h k + (g - f * nI (rimN k))).toInt = (h k).toInt + (g.toInt - f.toInt * (rimN k : Int)) ∧ 0 ≤ (h k).toInt + (g.toInt - f.toInt * (rimN k : Int)) ∧ (h k).toInt + (g.toInt - f.toInt * (rimN k : Int)) ≤ B := by
    have hcc : cntJ 60 k = 4 - rimN k := by omega
    rw [hcc] at h1
    have key : -(h k).toInt * 4 ≤ 5 * g.toInt - 5 * (f.toInt * (rimN k : Int)) ∧ 5 * g.toInt - 5 * (f.toInt * (rimN k : Int)) ≤ 4 * (B - (h k).toInt) ∧ -1000000 ≤ 5 * (f.toInt * (rimN k : Int)) ∧ 5 * (f.toInt * (rimN k : Int)) ≤ 1000000 := by
      rcases (show rimN k = 0 ∨ rimN k = 1 ∨ rimN k = 2 by omega) with e | e | e <;> rw [e] at h1 ⊢ <;> simp at h1 ⊢ <;> omega
    have e1 : (g - f * nI (rimN k)).toInt = g.toInt - f.toInt * (rimN k : Int) := by
      rw [ti_sub (by rw [hfr]; omega) (by rw [hfr]; omega), hfr]
    refine ⟨?_, by omega, by omega⟩
    rw [ti_add (by rw [e1]; omega) (by rw [e1]; omega), e1]
  rw [fin.1]
  exact fin.2
def pG (B : Int) (p : PSt) : Prop := pZ p ∧ gZ p.2.1 ∧ hB B p.1 ∧ (0 ≤ p.2.2.2.2.1.toInt ∧ p.2.2.2.2.1.toInt ≤ 1000) ∧ (0 ≤ p.2.2.2.2.2.1.toInt ∧ p.2.2.2.2.2.1.toInt ≤ 1000) ∧ (1 ≤ p.2.2.2.2.2.2.1.toInt ∧ p.2.2.2.2.2.2.1.toInt ≤ 100) ∧ (0 ≤ p.2.2.2.2.2.2.2.1.toInt ∧ p.2.2.2.2.2.2.2.1.toInt ≤ 20) ∧ (0 ≤ p.2.2.2.2.2.2.2.2.1.toInt ∧ p.2.2.2.2.2.2.2.2.1.toInt ≤ 20)
/-- alike but for the flows -/
def pE (p q : PSt) : Prop := p.1 = q.1 ∧ p.2.2 = q.2.2
def bOk (B : Int) : Prop := 1000 ≤ B ∧ B ≤ 200000
theorem pE_refl (p : PSt) : pE p p := ⟨rfl, rfl⟩
theorem pPass_s2 (p : PSt) (n : Nat) : pPass p (n + 1) = ((pMin (pPass p n).1).1, if (pMin (pPass p n).1).2 = 0 then (pPass p n).2 else (pPass p n).2 + 1) := rfl
theorem out_bd {x a b : Int32} (h : gOut x a b = 0) : a.toInt ≤ x.toInt ∧ x.toInt ≤ b.toInt := by
  unfold gOut at h
  by_cases h1 : x < a
  · rw [if_pos h1] at h
    exact absurd h (by decide)
  · rw [if_neg h1] at h
    by_cases h2 : x ≤ b
    · exact ⟨Int32.le_iff_toInt_le.mp (Int32.not_lt.mp h1), Int32.le_iff_toInt_le.mp h2⟩
    · rw [if_neg h2] at h
      exact absurd h (by decide)
theorem gSum_fill (h : Nat → Int32) (x : Int32) : gSum (fillA 36 h x) = 36 * x := by
  have key : ∀ i, i ≤ 36 → nf (fun i a => a + fillA 36 h x i) (0 : Int32) i = nI i * x := by
    intro i
    induction i with
    | zero => exact fun _ => (Int32.zero_mul).symm
    | succ i ih =>
      intro hi
      show nf (fun i a => a + fillA 36 h x i) (0 : Int32) i + fillA 36 h x i = _
      rw [ih (by omega), nI_succ, Int32.add_mul, Int32.one_mul, show fillA 36 h x i = x from if_pos (by omega)]
  exact key 36 (Nat.le_refl _)
theorem pG_new {B : Int} (hb : 1000 ≤ B) {a : PSt} {x : Int32} (h : pG B a) (hx : 0 ≤ x.toInt ∧ x.toInt ≤ 1000) : pG B (pNew a x) := by
  obtain ⟨h1, g, s, c, fu, ai, ra, le, ri, mi, lo, fl⟩ := a
  obtain ⟨z, hg, hh, hf, ha, hr⟩ := h
  refine ⟨⟨fun k hk => (if_neg (by omega)).trans (z.1 k hk), fun k hk => (if_neg (by omega)).trans (z.2.1 k hk), fun k hk => (if_neg (by omega)).trans (z.2.2 k hk)⟩, hg, fun k hk => ?_, hx, hx, hr⟩
  show 0 ≤ (fillA 36 h1 x k).toInt ∧ (fillA 36 h1 x k).toInt ≤ B
  rw [show fillA 36 h1 x k = x from if_pos hk]
  omega
theorem pG_aim {B : Int} {a : PSt} {x y : Int32} (h : pG B a) (hx : 0 ≤ x.toInt ∧ x.toInt ≤ 1000) (hy : 1 ≤ y.toInt ∧ y.toInt ≤ 100) : pG B (pSetAim a x y) := by
  obtain ⟨h1, g, s, c, fu, ai, ra, le, ri, mi, lo, fl⟩ := a
  obtain ⟨z, hg, hh, hf, ha, hr, r⟩ := h
  exact ⟨z, hg, hh, hf, hx, hy, r⟩
theorem gPut_n {f : Nat → Int32} {i : Nat} {x : Int32} (hi : i < 60) : gPut f (nI i) x = upd f i x := by
  unfold gPut gIsJoint
  rw [if_neg (nI_pos (by omega)), if_neg (show ¬ (60 : Int32) ≤ nI i from nI_ge hi (by decide)), if_neg (by decide), nI_clamp (by omega)]
theorem pG_scr {B : Int} {a : PSt} {i : Nat} {x : Int32} (hi : i < 60) (h : pG B a) : pG B (pScr a (nI i) x) := by
  obtain ⟨h1, g, s, c, r⟩ := a
  obtain ⟨z, r⟩ := h
  refine ⟨⟨z.1, ?_, z.2.2⟩, r⟩
  show ∀ k : Nat, 60 ≤ k → gPut s (nI i) x k = 0
  rw [gPut_n hi]
  exact upd_z z.2.1 hi
theorem pG_who {B : Int} {a : PSt} {i : Nat} (hi : i < 60) (h : pG B a) : pG B (pWho a (nI i)) := by
  obtain ⟨h1, g, s, c, r⟩ := a
  obtain ⟨z, r⟩ := h
  refine ⟨⟨z.1, z.2.1, ?_⟩, r⟩
  show ∀ k : Nat, 60 ≤ k → gPut c (nI i) 0 k = 0
  rw [gPut_n hi]
  exact upd_z z.2.2 hi
theorem gMax0 (x : Int32) : gMax 0 x = if 0 ≤ x then x else 0 := by
  unfold gMax
  by_cases h : 0 < x
  · rw [if_pos h, if_pos (Int32.le_of_lt h)]
  · rw [if_neg h]
    by_cases h2 : 0 ≤ x
    · rw [if_pos h2]
      exact Int32.le_antisymm h2 (Int32.not_lt.mp h)
    · rw [if_neg h2]
theorem char_ok : ∀ j, j < 127 → ((nI j).toUInt32 % 65536).toInt32 = nI j := by decide +kernel
theorem nar_ok : ∀ j, j < 127 → vp_nar .char (nI j) = nI j := by decide +kernel
theorem clamp_le {x : Int32} {n : Nat} (h1 : 0 ≤ x.toInt) (h2 : x.toInt ≤ n) : x.toNatClampNeg ≤ n := by
  have e : x.toNatClampNeg = x.toInt.toNat := rfl
  omega
