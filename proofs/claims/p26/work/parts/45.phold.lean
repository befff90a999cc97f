/-! p26: what holds of a pane in its bounds -/
theorem rim_side : ∀ k, k < 36 → ((List.range 4).filter (sVal k)).length + rimN k = 4 := by decide +kernel
/-- whole joints at a cell's sides -/
def wN (c : Nat → Int32) (k : Nat) : Nat → Nat
  | 0 => 0
  | d + 1 => wN c k d + (if gWh c (gJointAt (nI k) (nI d)) = 0 then 0 else 1)
theorem wN_s (c : Nat → Int32) (k d : Nat) : wN c k (d + 1) = wN c k d + (if gWh c (gJointAt (nI k) (nI d)) = 0 then 0 else 1) := rfl
theorem wN_is (c : Nat → Int32) (k : Nat) : gWholeOf c (nI k) = nI (wN c k 4) := by
  have key : ∀ d, nf (fun i a => if gWh c (gJointAt (nI k) (nI i)) = 0 then a else a + 1) (0 : Int32) d = nI (wN c k d) := by
    intro d
    induction d with
    | zero => rfl
    | succ d ih =>
      show (if gWh c (gJointAt (nI k) (nI d)) = 0 then nf _ (0 : Int32) d else nf _ (0 : Int32) d + 1) = _
      rw [ih, wN_s]
      by_cases h : gWh c (gJointAt (nI k) (nI d)) = 0
      · rw [if_pos h, if_pos h, Nat.add_zero]
      · rw [if_neg h, if_neg h, nI_succ]
  exact key 4
theorem wN_le {c : Nat → Int32} {k : Nat} (hk : k < 36) : ∀ d, d ≤ 4 → wN c k d ≤ ((List.range d).filter (sVal k)).length := by
  intro d
  induction d with
  | zero => exact fun _ => Nat.le_refl 0
  | succ d ih =>
    intro hd
    have ih := ih (by omega)
    rw [wN_s, List.range_succ, List.filter_append, List.length_append]
    cases hv : sVal k d with
    | true =>
      rw [show [d].filter (sVal k) = [d] by rw [List.filter_cons_of_pos hv]; rfl]
      show _ ≤ _ + 1
      split <;> omega
    | false =>
      rw [(sJo_ok k hk d (by omega)).2 hv, if_pos (show gWh c (-1) = 0 from rfl)]
      omega
theorem whole_le {c : Nat → Int32} {k : Nat} (hk : k < 36) : gWholeOf c (nI k) ≤ 4 - gRim (nI k) := by
  have h1 := wN_le (c := c) hk 4 (Nat.le_refl 4)
  have h2 := rim_side k hk
  obtain ⟨⟨e, h3⟩, _⟩ := rim_ok k hk
  rw [wN_is, e, Int32.le_iff_toInt_le, nI_toInt (by omega), ti_sub] <;> rw [nI_toInt (by omega), show (4 : Int32).toInt = 4 from rfl] <;> omega
/-- stresses aren't negative -/
theorem str_nn {B : Int} (hB1 : B ≤ 200000) {h : Nat → Int32} (hh : hB B h) {j : Nat} (hj : j < 60) : 0 ≤ (gStr h (nI j)).toInt ∧ (gStr h (nI j)).toInt ≤ 200000 := by
  unfold gStr
  rw [gFirst_n hj, gSecond_n hj, gAt_n (nF_lt hj), gAt_n (nS_lt hj)]
  have a := hh _ (nF_lt hj)
  have b := hh _ (nS_lt hj)
  have e : (h (nF j) - h (nS j)).toInt = (h (nF j)).toInt - (h (nS j)).toInt := ti_sub (by omega) (by omega)
  unfold gAbs
  by_cases w : (0 : Int32) ≤ h (nF j) - h (nS j)
  · rw [if_pos w, e]
    rw [Int32.le_iff_toInt_le, e, show (0 : Int32).toInt = 0 from rfl] at w
    omega
  · rw [if_neg w, ti_neg (by rw [e]; omega), e]
    rw [Int32.le_iff_toInt_le, e, show (0 : Int32).toInt = 0 from rfl] at w
    omega
theorem str_gap {B : Int} (hB1 : B ≤ 200000) {h : Nat → Int32} (hh : hB B h) {j : Nat} (hj : j < 60) : gStr h (nI j) = if h (nS j) < h (nF j) then h (nF j) - h (nS j) else h (nS j) - h (nF j) := by
  unfold gStr
  rw [gFirst_n hj, gSecond_n hj, gAt_n (nF_lt hj), gAt_n (nS_lt hj)]
  have a := hh _ (nF_lt hj)
  have b := hh _ (nS_lt hj)
  have e : (h (nF j) - h (nS j)).toInt = (h (nF j)).toInt - (h (nS j)).toInt := ti_sub (by omega) (by omega)
  unfold gAbs
  by_cases w : h (nS j) < h (nF j)
  · rw [if_pos w, if_pos]
    rw [Int32.lt_iff_toInt_lt] at w
    rw [Int32.le_iff_toInt_le, e, show (0 : Int32).toInt = 0 from rfl]
    omega
  · rw [if_neg w]
    have hn : -(h (nF j) - h (nS j)) = h (nS j) - h (nF j) := Int32.neg_sub
    by_cases w2 : (0 : Int32) ≤ h (nF j) - h (nS j)
    · rw [if_pos w2, ← hn]
      rw [Int32.lt_iff_toInt_lt] at w
      rw [Int32.le_iff_toInt_le, e, show (0 : Int32).toInt = 0 from rfl] at w2
      refine Int32.toInt_inj.mp ?_
      rw [ti_neg (by rw [e]; omega), e]
      omega
    · rw [if_neg w2, hn]
/-- the greatest stress -/
def mxA (h c : Nat → Int32) : Nat → Int32 := nf (fun i a => if gWh c (nI i) = 0 then a else gMax a (gStr h (nI i))) (-4)
theorem mxA_s (h c : Nat → Int32) (n : Nat) : mxA h c (n + 1) = if gWh c (nI n) = 0 then mxA h c n else gMax (mxA h c n) (gStr h (nI n)) := rfl
theorem gMax_ti (a b : Int32) : (gMax a b).toInt = max a.toInt b.toInt := by
  unfold gMax
  by_cases h : a < b
  · rw [if_pos h]
    rw [Int32.lt_iff_toInt_lt] at h
    omega
  · rw [if_neg h]
    rw [Int32.lt_iff_toInt_lt] at h
    omega
theorem gMin_ti (a b : Int32) : (gMin a b).toInt = min a.toInt b.toInt := by
  unfold gMin
  by_cases h : b < a
  · rw [if_pos h]
    rw [Int32.lt_iff_toInt_lt] at h
    omega
  · rw [if_neg h]
    rw [Int32.lt_iff_toInt_lt] at h
    omega
theorem mxA_ge (h c : Nat → Int32) : ∀ n, n ≤ 60 → -4 ≤ (mxA h c n).toInt ∧ ∀ j : Nat, j < n → c j = 0 → (gStr h (nI j)).toInt ≤ (mxA h c n).toInt := by
  intro n
  induction n with
  | zero => exact fun _ => ⟨by show (-4 : Int) ≤ (-4 : Int32).toInt; decide, fun j hj => absurd hj (Nat.not_lt_zero j)⟩
  | succ n ih =>
    intro hn
    obtain ⟨i1, i2⟩ := ih (by omega)
    rw [mxA_s]
    by_cases hw : gWh c (nI n) = 0
    · rw [if_pos hw]
      refine ⟨i1, fun j hj hc => ?_⟩
      by_cases e : j = n
      · rw [e] at hc
        exact absurd hc ((gWh_0 (by omega)).mp hw)
      · exact i2 j (by omega) hc
    · rw [if_neg hw, gMax_ti]
      refine ⟨by omega, fun j hj hc => ?_⟩
      by_cases e : j = n
      · rw [e]
        omega
      · have := i2 j (by omega) hc
        omega
/-- a cell's greatest stress -/
def csA (h c : Nat → Int32) (k : Nat) : Nat → Int32 := nf (fun i a => if gWh c (gJointAt (nI k) (nI i)) = 0 then a else gMax a (gStr h (gJointAt (nI k) (nI i)))) (-4)
theorem csA_s (h c : Nat → Int32) (k n : Nat) : csA h c k (n + 1) = if gWh c (gJointAt (nI k) (nI n)) = 0 then csA h c k n else gMax (csA h c k n) (gStr h (gJointAt (nI k) (nI n))) := rfl
theorem wh_joint {c : Nat → Int32} {j : Int32} (h : ¬ gWh c j = 0) : ∃ i : Nat, i < 60 ∧ j = nI i ∧ c i = 0 := by
  obtain ⟨a, b, _⟩ := gWh_ne h
  obtain ⟨i, hi, rfl⟩ := nI_of a
  have hi2 : i < 60 := by
    rcases Nat.lt_or_ge i 60 with w | w
    · exact w
    · exact absurd (nI_le w hi) b
  exact ⟨i, hi2, rfl, gWh_c hi2 h⟩
theorem csA_ok {B : Int} (hB1 : B ≤ 200000) {h : Nat → Int32} (hh : hB B h) (c : Nat → Int32) (k : Nat) : ∀ d, (wN c k d = 0 → csA h c k d = -4) ∧ (¬ wN c k d = 0 → 0 ≤ (csA h c k d).toInt) ∧ (csA h c k d).toInt ≤ (mxA h c 60).toInt := by
  intro d
  have g := mxA_ge h c 60 (Nat.le_refl _)
  induction d with
  | zero => exact ⟨fun _ => rfl, fun h => absurd rfl h, by show (-4 : Int32).toInt ≤ _; rw [show (-4 : Int32).toInt = -4 from rfl]; exact g.1⟩
  | succ d ih =>
    obtain ⟨i1, i2, i3⟩ := ih
    rw [wN_s, csA_s]
    by_cases hw : gWh c (gJointAt (nI k) (nI d)) = 0
    · rw [if_pos hw, if_pos hw, Nat.add_zero]
      exact ⟨i1, i2, i3⟩
    · rw [if_neg hw, if_neg hw]
      obtain ⟨j, j1, j2, j3⟩ := wh_joint hw
      rw [j2, gMax_ti]
      have a := str_nn hB1 hh j1
      have b := g.2 j j1 j3
      exact ⟨fun h => absurd h (by omega), fun _ => by omega, by omega⟩
/-- a cell alone -/
theorem alone_conn {c : Nat → Int32} {k : Nat} (hk : k < 36) (h0 : wN c k 4 = 0) {b : Nat} (hc : cConn c k b) : b = k := by
  have none : ∀ d, d < 4 → gWh c (gJointAt (nI k) (nI d)) = 0 := by
    have key : ∀ n, n ≤ 4 → wN c k n = 0 → ∀ d, d < n → gWh c (gJointAt (nI k) (nI d)) = 0 := by
      intro n
      induction n with
      | zero => exact fun _ _ d hd => absurd hd (Nat.not_lt_zero d)
      | succ n ih =>
        intro hn h d hd
        rw [wN_s] at h
        by_cases e : d = n
        · rw [e]
          by_cases hw : gWh c (gJointAt (nI k) (nI n)) = 0
          · exact hw
          · rw [if_neg hw] at h
            omega
        · exact ih (by omega) (by omega) d (by omega)
    exact key 4 (Nat.le_refl 4) h0
  refine hc (fun x => x = k) rfl (fun j hj hw => ?_)
  obtain ⟨⟨d1, a1, a2, _⟩, d2, b1, b2, _⟩ := side_to j hj
  have hn : ¬ nF j = k := by
    intro e
    rw [e] at a2
    have := none d1 a1
    rw [a2] at this
    exact (gWh_0 hj).mp this hw
  have hs : ¬ nS j = k := by
    intro e
    rw [e] at b2
    have := none d2 b1
    rw [b2] at this
    exact (gWh_0 hj).mp this hw
  exact ⟨fun h => absurd h hn, fun h => absurd h hs⟩
theorem alone_name {p : PSt} {k : Nat} (hk : k < 36) (h0 : wN (pC p) k 4 = 0) : goN p k = nI k ∧ ∀ i, i < 36 → goN p i = nI k → i = k := by
  obtain ⟨n1, n2⟩ := goN_is p
  refine ⟨?_, fun i hi e => ?_⟩
  · obtain ⟨r, r1, r2, r3⟩ := n1 k hk
    rw [r2, alone_conn hk h0 r3]
  · obtain ⟨r, r1, r2, r3⟩ := n1 i hi
    have : r = k := nI_inj (by omega) (by omega) (r2.symm.trans e)
    rw [this] at r3
    exact alone_conn hk h0 (cc_symm r3)
theorem name_le {p : PSt} {k : Nat} (hk : k < 36) : goN p k ≤ nI k := by
  obtain ⟨r, r1, r2, r3⟩ := (goN_is p).1 k hk
  rw [r2]
  exact nI_le r1 (by omega)
/-! touching joints -/
def tN (j : Nat) (n : Nat) : Nat := ((List.range n).filter (fun i => !(gTouch (nI i) (nI j) == 0))).length
theorem t6 : ∀ j, j < 60 → tN j 60 ≤ 6 := by decide +kernel
theorem beside_le (c : Nat → Int32) {j : Nat} (hj : j < 60) : gBeside c (nI j) ≤ 6 := by
  have key : ∀ n, n ≤ 60 → ∃ m : Nat, m ≤ tN j n ∧ m ≤ n ∧ nf (fun i a => if gWh c (nI i) = 0 then a else if gTouch (nI i) (nI j) = 0 then a else a + 1) (0 : Int32) n = nI m := by
    intro n
    induction n with
    | zero => exact fun _ => ⟨0, Nat.le_refl 0, Nat.le_refl 0, rfl⟩
    | succ n ih =>
      intro hn
      obtain ⟨m, m1, m3, m2⟩ := ih (by omega)
      have et : tN j (n + 1) = tN j n + (if gTouch (nI n) (nI j) = 0 then 0 else 1) := by
        unfold tN
        rw [List.range_succ, List.filter_append, List.length_append]
        congr 1
        by_cases h : gTouch (nI n) (nI j) = 0
        · rw [if_pos h, List.filter_cons_of_neg (by rw [h]; decide)]
          rfl
        · rw [if_neg h, List.filter_cons_of_pos (by simpa using h)]
          rfl
      show ∃ m' : Nat, m' ≤ tN j (n + 1) ∧ m' ≤ n + 1 ∧ (if gWh c (nI n) = 0 then nf _ (0 : Int32) n else if gTouch (nI n) (nI j) = 0 then nf _ (0 : Int32) n else nf _ (0 : Int32) n + 1) = nI m'
      rw [m2, et]
      by_cases hw : gWh c (nI n) = 0
      · rw [if_pos hw]
        exact ⟨m, by omega, by omega, rfl⟩
      · rw [if_neg hw]
        by_cases ht : gTouch (nI n) (nI j) = 0
        · rw [if_pos ht, if_pos ht]
          exact ⟨m, by omega, by omega, rfl⟩
        · rw [if_neg ht, if_neg ht]
          exact ⟨m + 1, by omega, by omega, (nI_succ m).symm⟩
  obtain ⟨m, m1, m3, m2⟩ := key 60 (Nat.le_refl _)
  have := t6 j hj
  show nf _ (0 : Int32) 60 ≤ 6
  rw [m2]
  exact show nI m ≤ nI 6 from nI_le (by omega) (by decide)
/-! the greatest, the least -/
def hoA (h : Nat → Int32) : Nat → Int32 := nf (fun i a => gMax a (h i)) 0
def coA (h : Nat → Int32) : Nat → Int32 := nf (fun i a => gMin a (h i)) 1000000
theorem hoA_s (h : Nat → Int32) (n : Nat) : hoA h (n + 1) = gMax (hoA h n) (h n) := rfl
theorem coA_s (h : Nat → Int32) (n : Nat) : coA h (n + 1) = gMin (coA h n) (h n) := rfl
theorem hot_is {B : Int} (hB1 : B ≤ 200000) {h : Nat → Int32} (hh : hB B h) : hoA h 36 = gHot h := by
  have key : ∀ n, hoA h (n + 1) = nf (fun i a => gMax a (h (i + 1))) (h 0) n := by
    intro n
    induction n with
    | zero =>
      show gMax 0 (h 0) = h 0
      refine Int32.toInt_inj.mp ?_
      rw [gMax_ti, show (0 : Int32).toInt = 0 from rfl]
      have := hh 0 (by decide)
      omega
    | succ n ih => rw [hoA_s, ih]; rfl
  exact key 35
theorem cold_is {B : Int} (hB1 : B ≤ 200000) {h : Nat → Int32} (hh : hB B h) : coA h 36 = gCold h := by
  have key : ∀ n, coA h (n + 1) = nf (fun i a => gMin a (h (i + 1))) (h 0) n := by
    intro n
    induction n with
    | zero =>
      show gMin 1000000 (h 0) = h 0
      refine Int32.toInt_inj.mp ?_
      rw [gMin_ti, show (1000000 : Int32).toInt = 1000000 from rfl]
      have := hh 0 (by decide)
      omega
    | succ n ih => rw [coA_s, ih]; rfl
  exact key 35
/-! places -/
theorem cP_cr {h s c : Nat → Int32} {j : Nat} (hc : c j = 0) : ∀ n, cP h s c j n + (if j < n then 1 else 0) + crN c n ≤ n := by
  intro n
  induction n with
  | zero => exact Nat.le_refl 0
  | succ n ih =>
    rw [cP_s, crN_s]
    by_cases e : n = j
    · subst e
      rw [if_neg (Nat.lt_irrefl n)] at ih
      rw [if_neg (fun e => bef_irrefl e.2), if_pos (Nat.lt_succ_self n), if_pos hc]
      omega
    · have e2 : (if j < n + 1 then 1 else 0) = (if j < n then 1 else 0) := by
        by_cases w : j < n
        · rw [if_pos w, if_pos (by omega)]
        · rw [if_neg w, if_neg (by omega)]
      rw [e2]
      by_cases hz : c n = 0
      · rw [if_pos hz]
        split <;> omega
      · rw [if_neg (fun e => hz e.1), if_neg hz]
        omega
theorem str_last (p : PSt) : vStrained p (60 - nI (crN (pC p) 60)) = -4 := by
  have hcr := crN_le (pC p) 60
  have e : (60 : Int32) - nI (crN (pC p) 60) = nI (60 - crN (pC p) 60) := by
    refine Int32.toInt_inj.mp ?_
    rw [ti_sub] <;> rw [nI_toInt (by omega), show (60 : Int32).toInt = 60 from rfl]
    · rw [nI_toInt (by omega)]
      omega
    · omega
    · omega
  rw [e]
  unfold vStrained
  rw [if_pos (show (0 : Int32) ≤ nI (60 - crN (pC p) 60) from Int32.not_lt.mp (nI_pos (by omega)))]
  rcases gFind_spec (pH p) (pS p) (pC p) (nI (60 - crN (pC p) 60)) 60 0 rfl with ⟨a, _⟩ | ⟨j, j1, ⟨j2, j3⟩, _⟩
  · exact a
  · have h1 := cP_cr (h := pH p) (s := pS p) j2 60
    rw [if_pos j1] at h1
    have := (nI_eq (by omega) (by omega)).mp j3
    omega
theorem cr_all {c : Nat → Int32} (h : ∀ j : Nat, j < 60 → ¬ c j = 0) : crN c 60 = 60 := by
  have key : ∀ n, n ≤ 60 → crN c n = n := by
    intro n
    induction n with
    | zero => exact fun _ => rfl
    | succ n ih =>
      intro hn
      rw [crN_s, ih (by omega), if_neg (h n (by omega))]
  exact key 60 (Nat.le_refl _)
theorem first_is (p : PSt) : (crN (pC p) 60 = 60 ∧ vStrained p 0 = -4 ∧ gLeastMar (pH p) (pS p) (pC p) = -4) ∨ (¬ crN (pC p) 60 = 60 ∧ ∃ j : Nat, j < 60 ∧ pC p j = 0 ∧ vStrained p 0 = nI j ∧ gLeastMar (pH p) (pS p) (pC p) = pS p j - gStr (pH p) (nI j)) := by
  have ev : vStrained p 0 = gFind (pH p) (pS p) (pC p) 0 0 60 := if_pos (by decide)
  rw [ev]
  rcases worst_least (pH p) (pS p) (pC p) 60 (Nat.le_refl _) with ⟨a, b⟩ | ⟨j, j1, j2, j3, j4⟩
  · refine Or.inl ⟨cr_all b, ?_, ?_⟩
    · rcases gFind_spec (pH p) (pS p) (pC p) 0 60 0 rfl with ⟨a, _⟩ | ⟨j, j1, ⟨j2, _⟩, _⟩
      · exact a
      · exact absurd j2 (b j j1)
    · unfold gLeastMar
      rw [if_pos a]
  · have hp : isPl (pH p) (pS p) (pC p) 0 j := ⟨j2, by rw [cP_zero 60 j4]; rfl⟩
    refine Or.inr ⟨fun h => ?_, j, j1, j2, ?_, ?_⟩
    · have h1 := cP_cr (h := pH p) (s := pS p) j2 60
      rw [if_pos j1] at h1
      omega
    · rcases gFind_spec (pH p) (pS p) (pC p) 0 60 0 rfl with ⟨_, b⟩ | ⟨i, i1, i2, i3⟩
      · exact absurd hp (b j (Nat.zero_le j) j1)
      · rw [i3, isPl_u i1 j1 i2 hp]
    · unfold gLeastMar
      rw [j3]
      dsimp only
      rw [if_neg (nI_nm j1).1]
      unfold gMar
      rw [gJt_n j1]
/-! the joints' ends, as the law reckons them -/
theorem law_a : ∀ j, j < 60 → (nI j < 30 → nI j / 5 * 6 + (nI j - nI j / 5 * 5) = nI (nF j) ∧ nI (nF j) + 1 = nI (nS j)) ∧ (¬ nI j < 30 → nI j - 30 = nI (nF j) ∧ nI (nF j) + 6 = nI (nS j)) := by decide +kernel
theorem cell_lt {p : PSt} {k : Nat} (h : ¬ gIsCell (nI k) = 0) : True := trivial
