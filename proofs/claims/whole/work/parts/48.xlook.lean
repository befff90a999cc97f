/-! class and model: places, sides -/
abbrev bef (h s : Nat → Int32) (i j : Nat) : Prop := gMar h s (nI i) < gMar h s (nI j) ∨ (gMar h s (nI i) = gMar h s (nI j) ∧ i < j)
def cP (h s c : Nat → Int32) (j : Nat) : Nat → Nat
  | 0 => 0
  | i + 1 => cP h s c j i + (if c i = 0 ∧ bef h s i j then 1 else 0)
theorem cP_s (h s c : Nat → Int32) (j i : Nat) : cP h s c j (i + 1) = cP h s c j i + (if c i = 0 ∧ bef h s i j then 1 else 0) := rfl
theorem cP_le (h s c : Nat → Int32) (j : Nat) : ∀ i, cP h s c j i ≤ i := by
  intro i
  induction i with
  | zero => exact Nat.le_refl 0
  | succ i ih =>
    rw [cP_s]
    split <;> omega
theorem gWh_0 {c : Nat → Int32} {i : Nat} (h : i < 60) : gWh c (nI i) = 0 ↔ ¬ c i = 0 := by
  rw [gWh_n h]
  by_cases e : c i = 0
  · rw [if_pos e]
    exact ⟨fun h => absurd h (by decide), fun h => absurd e h⟩
  · rw [if_neg e]
    exact ⟨fun _ => e, fun _ => rfl⟩
theorem lt_ne {x y : Int32} (h : x < y) : x ≠ y := by
  intro e
  rw [e] at h
  exact Int32.lt_irrefl h
theorem gPlace_n (h s c : Nat → Int32) {j : Nat} (hj : j < 60) : gPlace h s c (nI j) = nI (cP h s c j 60) := by
  have key : ∀ i, i ≤ 60 → nf (fun i a => if gWh c (nI i) = 0 then a else if gMar h s (nI i) < gMar h s (nI j) then a + 1 else if gMar h s (nI i) = gMar h s (nI j) then (if nI j ≤ nI i then a else a + 1) else a) (0 : Int32) i = nI (cP h s c j i) := by
    intro i
    induction i with
    | zero => exact fun _ => rfl
    | succ i ih =>
      intro hi
      show (if gWh c (nI i) = 0 then nf _ (0 : Int32) i else if gMar h s (nI i) < gMar h s (nI j) then nf _ (0 : Int32) i + 1 else if gMar h s (nI i) = gMar h s (nI j) then (if nI j ≤ nI i then nf _ (0 : Int32) i else nf _ (0 : Int32) i + 1) else nf _ (0 : Int32) i) = _
      rw [ih (by omega), cP_s]
      by_cases hw : c i = 0
      · rw [if_neg (fun e => (gWh_0 (by omega)).mp e hw)]
        by_cases h1 : gMar h s (nI i) < gMar h s (nI j)
        · rw [if_pos h1, if_pos ⟨hw, Or.inl h1⟩, nI_succ]
        · rw [if_neg h1]
          by_cases h2 : gMar h s (nI i) = gMar h s (nI j)
          · rw [if_pos h2]
            by_cases h3 : i < j
            · rw [if_neg (nI_ge h3 (by omega)), if_pos ⟨hw, Or.inr ⟨h2, h3⟩⟩, nI_succ]
            · rw [if_pos (nI_le (by omega) (by omega)), if_neg (fun e => e.2.elim h1 (fun e => h3 e.2)), Nat.add_zero]
          · rw [if_neg h2, if_neg (fun e => e.2.elim h1 (fun e => h2 e.1)), Nat.add_zero]
      · rw [if_pos ((gWh_0 (by omega)).mpr hw), if_neg (fun e => hw e.1), Nat.add_zero]
  exact key 60 (Nat.le_refl _)
theorem kPlace_n (h s c : Nat → Int32) {j : Nat} (hj : j < 60) : kPlace h s c (nI j) = nI (cP h s c j 60) := by
  rw [kPlace, kseal_eq]
  have key : ∀ i, i ≤ 60 → mPlace h s c (nI j) i = nI (cP h s c j i) := by
    intro i
    induction i with
    | zero => exact fun _ => rfl
    | succ i ih =>
      intro hi
      have e : mPlace h s c (nI j) (i + 1) = if gWh c (nI i) = 0 then mPlace h s c (nI j) i else if gAhead h s (nI i) (nI j) = 0 then mPlace h s c (nI j) i else mPlace h s c (nI j) i + 1 := rfl
      rw [e, ih (by omega), cP_s]
      by_cases hw : c i = 0
      · rw [if_neg (fun e => (gWh_0 (by omega)).mp e hw)]
        unfold gAhead
        by_cases h1 : gMar h s (nI i) < gMar h s (nI j)
        · rw [if_pos h1, if_neg (by decide), if_pos ⟨hw, Or.inl h1⟩, nI_succ]
        · rw [if_neg h1]
          by_cases h2 : gMar h s (nI i) = gMar h s (nI j)
          · rw [if_pos h2]
            by_cases h3 : i < j
            · rw [if_neg (nI_ge h3 (by omega)), if_neg (by decide), if_pos ⟨hw, Or.inr ⟨h2, h3⟩⟩, nI_succ]
            · rw [if_pos (nI_le (by omega) (by omega)), if_pos rfl, if_neg (fun e => e.2.elim h1 (fun e => h3 e.2)), Nat.add_zero]
          · rw [if_neg h2, if_pos rfl, if_neg (fun e => e.2.elim h1 (fun e => h2 e.1)), Nat.add_zero]
      · rw [if_pos ((gWh_0 (by omega)).mpr hw), if_neg (fun e => hw e.1), Nat.add_zero]
  exact key 60 (Nat.le_refl _)
theorem bef_trans {h s : Nat → Int32} {i j k : Nat} (h1 : bef h s i j) (h2 : bef h s j k) : bef h s i k := by
  rcases h1 with a | ⟨a, b⟩
  · rcases h2 with c | ⟨c, d⟩
    · exact Or.inl (Int32.lt_trans a c)
    · exact Or.inl (by rw [← c]; exact a)
  · rcases h2 with c | ⟨c, d⟩
    · exact Or.inl (by rw [a]; exact c)
    · exact Or.inr ⟨a.trans c, by omega⟩
theorem bef_irrefl {h s : Nat → Int32} {i : Nat} : ¬ bef h s i i := by
  intro h1
  rcases h1 with a | ⟨_, b⟩
  · exact Int32.lt_irrefl a
  · omega
theorem bef_total {h s : Nat → Int32} {i j : Nat} (hne : i ≠ j) : bef h s i j ∨ bef h s j i := by
  by_cases h1 : gMar h s (nI i) < gMar h s (nI j)
  · exact Or.inl (Or.inl h1)
  · by_cases h2 : gMar h s (nI j) < gMar h s (nI i)
    · exact Or.inr (Or.inl h2)
    · have e : gMar h s (nI i) = gMar h s (nI j) := Int32.le_antisymm (Int32.not_lt.mp h2) (Int32.not_lt.mp h1)
      rcases Nat.lt_or_ge i j with w | w
      · exact Or.inl (Or.inr ⟨e, w⟩)
      · exact Or.inr (Or.inr ⟨e.symm, by omega⟩)
theorem cP_lt {h s c : Nat → Int32} {j k : Nat} (hc : c j = 0) (hb : bef h s j k) : ∀ i, cP h s c j i + (if j < i then 1 else 0) ≤ cP h s c k i := by
  intro i
  induction i with
  | zero => exact Nat.le_refl 0
  | succ i ih =>
    rw [cP_s, cP_s]
    by_cases e : i = j
    · subst e
      rw [if_neg (fun e => bef_irrefl e.2), if_pos (by omega), if_pos ⟨hc, hb⟩]
      rw [if_neg (by omega)] at ih
      omega
    · have e2 : (if j < i + 1 then 1 else 0) = (if j < i then 1 else 0) := by
        by_cases w : j < i
        · rw [if_pos w, if_pos (by omega)]
        · rw [if_neg w, if_neg (by omega)]
      rw [e2]
      clear e2
      generalize (if j < i then 1 else 0) = q at ih ⊢
      by_cases w : c i = 0 ∧ bef h s i j
      · rw [if_pos w, if_pos (show c i = 0 ∧ bef h s i k from ⟨w.1, bef_trans w.2 hb⟩)]
        omega
      · rw [if_neg w]
        by_cases v : c i = 0 ∧ bef h s i k
        · rw [if_pos v]
          omega
        · rw [if_neg v]
          omega
theorem cP_u {h s c : Nat → Int32} {i j : Nat} (hi : i < 60) (hj : j < 60) (ci : c i = 0) (cj : c j = 0) (e : cP h s c i 60 = cP h s c j 60) : i = j := by
  rcases Nat.decEq i j with hne | he
  · rcases bef_total (h := h) (s := s) hne with w | w
    · have := cP_lt ci w 60
      rw [if_pos hi] at this
      omega
    · have := cP_lt cj w 60
      rw [if_pos hj] at this
      omega
  · exact he
def isPl (h s c : Nat → Int32) (x : Int32) (j : Nat) : Prop := c j = 0 ∧ nI (cP h s c j 60) = x
theorem isPl_u {h s c : Nat → Int32} {x : Int32} {i j : Nat} (hi : i < 60) (hj : j < 60) (h1 : isPl h s c x i) (h2 : isPl h s c x j) : i = j := by
  have a := cP_le h s c i 60
  have b := cP_le h s c j 60
  exact cP_u hi hj h1.1 h2.1 ((nI_eq (by omega) (by omega)).mp (h1.2.trans h2.2.symm))
theorem gFind_spec (h s c : Nat → Int32) (x : Int32) : ∀ d i, i + d = 60 → (gFind h s c x i d = -4 ∧ ∀ j, i ≤ j → j < 60 → ¬ isPl h s c x j) ∨ ∃ j, j < 60 ∧ isPl h s c x j ∧ gFind h s c x i d = nI j := by
  intro d
  induction d with
  | zero => exact fun i hi => Or.inl ⟨rfl, fun j h1 h2 => absurd h1 (by omega)⟩
  | succ d ih =>
    intro i hi
    have e : gFind h s c x i (d + 1) = if gWh c (nI i) = 0 then gFind h s c x (i + 1) d else if gPlace h s c (nI i) = x then nI i else gFind h s c x (i + 1) d := rfl
    rw [e, gPlace_n h s c (show i < 60 by omega)]
    have next : ¬ isPl h s c x i → (gFind h s c x (i + 1) d = -4 ∧ ∀ j, i ≤ j → j < 60 → ¬ isPl h s c x j) ∨ ∃ j, j < 60 ∧ isPl h s c x j ∧ gFind h s c x (i + 1) d = nI j := by
      intro hn
      rcases ih (i + 1) (by omega) with ⟨a, b⟩ | a
      · refine Or.inl ⟨a, fun j h1 h2 => ?_⟩
        by_cases e : j = i
        · rw [e]
          exact hn
        · exact b j (by omega) h2
      · exact Or.inr a
    by_cases hw : gWh c (nI i) = 0
    · rw [if_pos hw]
      exact next (fun h1 => (gWh_0 (by omega)).mp hw h1.1)
    · rw [if_neg hw]
      by_cases hx : nI (cP h s c i 60) = x
      · rw [if_pos hx]
        exact Or.inr ⟨i, by omega, ⟨gWh_c (by omega) hw, hx⟩, rfl⟩
      · rw [if_neg hx]
        exact next (fun h1 => hx h1.2)
theorem mFound_spec (h s c : Nat → Int32) (x : Int32) : ∀ i, i ≤ 60 → (mFound h s c x i = -4 ∧ ∀ j, j < i → ¬ isPl h s c x j) ∨ ∃ j, j < i ∧ isPl h s c x j ∧ mFound h s c x i = nI j := by
  intro i
  induction i with
  | zero => exact fun _ => Or.inl ⟨rfl, fun j h => absurd h (by omega)⟩
  | succ i ih =>
    intro hi
    have e : mFound h s c x (i + 1) = if gWh c (nI i) = 0 then mFound h s c x i else if kPlace h s c (nI i) = x then nI i else mFound h s c x i := rfl
    rw [e, kPlace_n h s c (show i < 60 by omega)]
    have next : ¬ isPl h s c x i → (mFound h s c x i = -4 ∧ ∀ j, j < i + 1 → ¬ isPl h s c x j) ∨ ∃ j, j < i + 1 ∧ isPl h s c x j ∧ mFound h s c x i = nI j := by
      intro hn
      rcases ih (by omega) with ⟨a, b⟩ | ⟨j, a, b⟩
      · refine Or.inl ⟨a, fun j h1 => ?_⟩
        by_cases e : j = i
        · rw [e]
          exact hn
        · exact b j (by omega)
      · exact Or.inr ⟨j, by omega, b⟩
    by_cases hw : gWh c (nI i) = 0
    · rw [if_pos hw]
      exact next (fun h1 => (gWh_0 (by omega)).mp hw h1.1)
    · rw [if_neg hw]
      by_cases hx : nI (cP h s c i 60) = x
      · rw [if_pos hx]
        exact Or.inr ⟨i, by omega, ⟨gWh_c (by omega) hw, hx⟩, rfl⟩
      · rw [if_neg hx]
        exact next (fun h1 => hx h1.2)
theorem find_eq (h s c : Nat → Int32) (x : Int32) : gFind h s c x 0 60 = kFound h s c x := by
  rw [kFound, kseal_eq]
  rcases gFind_spec h s c x 60 0 rfl with ⟨a, b⟩ | ⟨j, j1, j2, j3⟩
  · rcases mFound_spec h s c x 60 (Nat.le_refl _) with ⟨a', b'⟩ | ⟨i, i1, i2, i3⟩
    · rw [a, a']
    · exact absurd i2 (b i (Nat.zero_le _) i1)
  · rcases mFound_spec h s c x 60 (Nat.le_refl _) with ⟨a', b'⟩ | ⟨i, i1, i2, i3⟩
    · exact absurd j2 (b' j j1)
    · rw [j3, i3, isPl_u j1 i1 j2 i2]
theorem worst_least (h s c : Nat → Int32) : ∀ i, i ≤ 60 → ((gWorst h s c i).1 = -1 ∧ ∀ j, j < i → ¬ c j = 0) ∨ ∃ j, j < i ∧ c j = 0 ∧ gWorst h s c i = (nI j, gMar h s (nI j)) ∧ ∀ l, l < i → c l = 0 → ¬ bef h s l j := by
  intro i
  induction i with
  | zero => exact fun _ => Or.inl ⟨rfl, fun j h => absurd h (by omega)⟩
  | succ i ih =>
    intro hi
    rw [gWorst_s]
    by_cases hw : gWh c (nI i) = 0
    · have hc := (gWh_0 (show i < 60 by omega)).mp hw
      rw [if_pos hw]
      rcases ih (by omega) with ⟨a, b⟩ | ⟨j, j1, j2, j3, j4⟩
      · refine Or.inl ⟨a, fun j h1 => ?_⟩
        by_cases e : j = i
        · rw [e]
          exact hc
        · exact b j (by omega)
      · refine Or.inr ⟨j, by omega, j2, j3, fun l h1 h2 => ?_⟩
        by_cases e : l = i
        · rw [e] at h2
          exact absurd h2 hc
        · exact j4 l (by omega) h2
    · have hc := gWh_c (show i < 60 by omega) hw
      rw [if_neg hw]
      rcases ih (by omega) with ⟨a, b⟩ | ⟨j, j1, j2, j3, j4⟩
      · rw [if_pos a]
        refine Or.inr ⟨i, by omega, hc, rfl, fun l h1 h2 => ?_⟩
        by_cases e : l = i
        · rw [e]
          exact bef_irrefl
        · exact absurd h2 (b l (by omega))
      · rw [j3]
        dsimp only
        rw [if_neg (nI_nm (show j < 60 by omega)).1]
        by_cases hle : gMar h s (nI j) ≤ gMar h s (nI i)
        · rw [if_pos hle]
          refine Or.inr ⟨j, by omega, j2, rfl, fun l h1 h2 => ?_⟩
          by_cases e : l = i
          · rw [e]
            intro hb
            rcases hb with w | ⟨_, w⟩
            · exact Int32.not_lt.mpr hle w
            · omega
          · exact j4 l (by omega) h2
        · rw [if_neg hle]
          refine Or.inr ⟨i, by omega, hc, rfl, fun l h1 h2 => ?_⟩
          by_cases e : l = i
          · rw [e]
            exact bef_irrefl
          · intro hb
            exact j4 l (by omega) h2 (bef_trans hb (Or.inl (Int32.not_le.mp hle)))
theorem cP_zero {h s c : Nat → Int32} {j : Nat} : ∀ n, (∀ l, l < n → c l = 0 → ¬ bef h s l j) → cP h s c j n = 0 := by
  intro n
  induction n with
  | zero => exact fun _ => rfl
  | succ n ih =>
    intro hh
    rw [cP_s, ih (fun l hl => hh l (by omega)), if_neg (fun e => hh n (by omega) e.1 e.2)]
theorem least_eq (h s c : Nat → Int32) : gLeastMar h s c = mLeastMar h s c := by
  unfold gLeastMar mLeastMar
  rw [kFound, kseal_eq]
  rcases worst_least h s c 60 (Nat.le_refl _) with ⟨a, b⟩ | ⟨j, j1, j2, j3, j4⟩
  · rw [if_pos a]
    rcases mFound_spec h s c 0 60 (Nat.le_refl _) with ⟨a', b'⟩ | ⟨i, i1, i2, i3⟩
    · rw [a', if_neg (by decide)]
    · exact absurd i2.1 (b i i1)
  · rw [j3]
    dsimp only
    rw [if_neg (nI_nm j1).1]
    have hp : isPl h s c 0 j := ⟨j2, by rw [cP_zero 60 j4]; rfl⟩
    rcases mFound_spec h s c 0 60 (Nat.le_refl _) with ⟨a', b'⟩ | ⟨i, i1, i2, i3⟩
    · exact absurd hp (b' j j1)
    · rw [i3, isPl_u i1 j1 i2 hp, if_pos (nI_pos' (by omega))]
/-! sides -/
theorem nf_filter {α : Type} (P : Nat → Bool) (G : Nat → α → α) (a : α) : ∀ n, nf (fun i a => if P i = true then G i a else a) a n = ((List.range n).filter P).foldl (fun a i => G i a) a := by
  intro n
  induction n with
  | zero => rfl
  | succ n ih =>
    rw [List.range_succ, List.filter_append, List.foldl_append, ← ih]
    show (if P n = true then G n (nf _ a n) else nf _ a n) = _
    by_cases h : P n = true
    · rw [if_pos h, List.filter_cons_of_pos h]
      rfl
    · rw [if_neg h, List.filter_cons_of_neg h]
      rfl
def sEnd (k j : Nat) : Bool := !(gIsEnd (nI k) (nI j) == 0)
def sVal (k d : Nat) : Bool := !(gJointAt (nI k) (nI d) == -1)
def sJo (k d : Nat) : Nat := (gJointAt (nI k) (nI d)).toNatClampNeg
theorem sides_ok : ∀ k, k < 36 → (List.range 60).filter (sEnd k) = ((List.range 4).filter (sVal k)).map (sJo k) := by decide +kernel
theorem sJo_ok : ∀ k, k < 36 → ∀ d, d < 4 → (sVal k d = true → gJointAt (nI k) (nI d) = nI (sJo k d) ∧ sJo k d < 60) ∧ (sVal k d = false → gJointAt (nI k) (nI d) = -1) := by decide +kernel
theorem nf_sides {α : Type} (G : Nat → α → α) (a : α) {k : Nat} (hk : k < 36) : nf (fun j a => if sEnd k j = true then G j a else a) a 60 = nf (fun d a => if sVal k d = true then G (sJo k d) a else a) a 4 := by
  rw [nf_filter, nf_filter (sVal k) (fun d a => G (sJo k d) a), sides_ok k hk, List.foldl_map]
theorem nf_congr {α : Type} {F G : Nat → α → α} {a : α} : ∀ n, (∀ i, i < n → ∀ b, F i b = G i b) → nf F a n = nf G a n := by
  intro n
  induction n with
  | zero => exact fun _ => rfl
  | succ n ih =>
    intro h
    show F n (nf F a n) = G n (nf G a n)
    rw [ih (fun i hi => h i (by omega)), h n (by omega)]
theorem side_gen {α : Type} (c : Nat → Int32) (V : Int32 → α → α) (a : α) {k : Nat} (hk : k < 36) : nf (fun i a => if gWh c (gJointAt (nI k) (nI i)) = 0 then a else V (gJointAt (nI k) (nI i)) a) a 4 = nf (fun i a => if gWh c (nI i) = 0 then a else if gIsEnd (nI k) (nI i) = 0 then a else V (nI i) a) a 60 := by
  have e1 : nf (fun i a => if gWh c (nI i) = 0 then a else if gIsEnd (nI k) (nI i) = 0 then a else V (nI i) a) a 60 = nf (fun j a => if sEnd k j = true then (if gWh c (nI j) = 0 then a else V (nI j) a) else a) a 60 := by
    refine nf_congr 60 (fun i hi b => ?_)
    by_cases h : gIsEnd (nI k) (nI i) = 0
    · have hs : sEnd k i = false := by
        unfold sEnd
        rw [h]
        rfl
      rw [hs, if_neg (show ¬ false = true by decide), if_pos h]
      split <;> rfl
    · have hs : sEnd k i = true := by
        unfold sEnd
        cases hb : (gIsEnd (nI k) (nI i) == 0) with
        | true => exact absurd (eq_of_beq hb) h
        | false => rfl
      rw [hs, if_neg h, if_pos rfl]
  rw [e1, nf_sides (fun j a => if gWh c (nI j) = 0 then a else V (nI j) a) a hk]
  refine nf_congr 4 (fun d hd b => ?_)
  cases hv : sVal k d with
  | true =>
    rw [if_pos rfl, ((sJo_ok k hk d hd).1 hv).1]
  | false =>
    rw [(sJo_ok k hk d hd).2 hv, if_pos (show gWh c (-1) = 0 from rfl), if_neg (show ¬ false = true by decide)]
theorem wholeOf_eq (c : Nat → Int32) {k : Nat} (hk : k < 36) : gWholeOf c (nI k) = mWhole1 c (nI k) 60 := side_gen c (fun _ a => a + 1) (0 : Int32) hk
theorem stressOf_eq (h c : Nat → Int32) {k : Nat} (hk : k < 36) : gStrOf h c (nI k) = mStress1 h c (nI k) 60 := side_gen c (fun j a => gMax a (gStr h j)) (-4 : Int32) hk
theorem beside_eq (c : Nat → Int32) {j : Nat} (hj : j < 60) : gBeside c (nI j) = mTouch1 c (nI j) 60 := by
  refine nf_congr (F := fun i a => if gWh c (nI i) = 0 then a else if gTouch (nI i) (nI j) = 0 then a else a + 1) (G := fun i a => if gWh c (nI i) = 0 then a else if gTouch (nI j) (nI i) = 0 then a else a + 1) (a := (0 : Int32)) 60 (fun i hi b => ?_)
  show (if gWh c (nI i) = 0 then b else if gTouch (nI i) (nI j) = 0 then b else b + 1) = _
  rw [touch_sym i hi j hj]
