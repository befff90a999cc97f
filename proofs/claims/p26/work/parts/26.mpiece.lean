/-! places, sides, pieces: rows of whole's proof that speak of the class alone -/
/-- two cells of one piece: whatever holds of one, and goes over whole joints, holds of the other -/
def cConn (c : Nat → Int32) (a b : Nat) : Prop := ∀ P : Nat → Prop, P a → (∀ j, j < 60 → c j = 0 → (P (nF j) ↔ P (nS j))) → P b
theorem cc_refl {c : Nat → Int32} (a : Nat) : cConn c a a := fun _ h _ => h
theorem cc_trans {c : Nat → Int32} {a b d : Nat} (h1 : cConn c a b) (h2 : cConn c b d) : cConn c a d := fun P h h3 => h2 P (h1 P h h3) h3
theorem cc_joint {c : Nat → Int32} {j : Nat} (hj : j < 60) (h : c j = 0) : cConn c (nF j) (nS j) := fun _ hp hc => (hc j hj h).mp hp
theorem cc_joint' {c : Nat → Int32} {j : Nat} (hj : j < 60) (h : c j = 0) : cConn c (nS j) (nF j) := fun _ hp hc => (hc j hj h).mpr hp
theorem cc_symm {c : Nat → Int32} {a b : Nat} (h : cConn c a b) : cConn c b a :=
  h (fun x => cConn c x a) (cc_refl a) (fun j hj hw => ⟨fun h2 => cc_trans (cc_joint' hj hw) h2, fun h2 => cc_trans (cc_joint hj hw) h2⟩)
/-- each cell's name is a cell of its piece, not behind it -/
def nmOk (c f : Nat → Int32) : Prop := ∀ k : Nat, k < 36 → ∃ r : Nat, r ≤ k ∧ f k = nI r ∧ cConn c k r
def nmEq (c f : Nat → Int32) : Prop := ∀ j : Nat, j < 60 → c j = 0 → f (nF j) = f (nS j)
def isName (c f : Nat → Int32) : Prop := nmOk c f ∧ nmEq c f
theorem nm_conn {c f : Nat → Int32} (h : nmEq c f) {a b : Nat} (hc : cConn c a b) : f b = f a :=
  hc (fun x => f x = f a) rfl (fun j hj hw => by rw [h j hj hw])
theorem isName_le {c f g : Nat → Int32} (hf : isName c f) (hg : isName c g) {k a b : Nat} (hk : k < 36) (ha : f k = nI a) (ca : cConn c k a) (hb : g k = nI b) (cb : cConn c k b) (hbk : b ≤ k) (ha2 : a < 36) : a ≤ b := by
  have e : f b = f k := nm_conn hf.2 cb
  obtain ⟨r, r1, r2, _⟩ := hf.1 b (by omega)
  rw [r2, ha] at e
  have := (nI_eq (by omega) (by omega)).mp e
  omega
theorem isName_u {c f g : Nat → Int32} (hf : isName c f) (hg : isName c g) {k : Nat} (hk : k < 36) : f k = g k := by
  obtain ⟨a, a1, a2, a3⟩ := hf.1 k hk
  obtain ⟨b, b1, b2, b3⟩ := hg.1 k hk
  have h1 := isName_le hf hg hk a2 a3 b2 b3 b1 (by omega)
  have h2 := isName_le hg hf hk b2 b3 a2 a3 a1 (by omega)
  rw [a2, b2, show a = b by omega]
abbrev bef (h s : Nat → Int32) (i j : Nat) : Prop := gMar h s (nI i) < gMar h s (nI j) ∨ (gMar h s (nI i) = gMar h s (nI j) ∧ i < j)
def cP (h s c : Nat → Int32) (j : Nat) : Nat → Nat
  | 0 => 0
  | i + 1 => cP h s c j i + (if c i = 0 ∧ bef h s i j then 1 else 0)
theorem cP_s (h s c : Nat → Int32) (j i : Nat) : cP h s c j (i + 1) = cP h s c j i + (if c i = 0 ∧ bef h s i j then 1 else 0) := rfl
theorem cP_le (h s c : Nat → Int32) (j : Nat) : ∀ i, cP h s c j i ≤ i := by
  intro i
  induction i with
  | zero => exact Nat.le_refl 0
  | succ i ih =>
    rw [cP_s]
    split <;> omega
theorem gWh_0 {c : Nat → Int32} {i : Nat} (h : i < 60) : gWh c (nI i) = 0 ↔ ¬ c i = 0 := by
  rw [gWh_n h]
  by_cases e : c i = 0
  · rw [if_pos e]
    exact ⟨fun h => absurd h (by decide), fun h => absurd e h⟩
  · rw [if_neg e]
    exact ⟨fun _ => e, fun _ => rfl⟩
theorem lt_ne {x y : Int32} (h : x < y) : x ≠ y := by
  intro e
  rw [e] at h
  exact Int32.lt_irrefl h
theorem gPlace_n (h s c : Nat → Int32) {j : Nat} (hj : j < 60) : gPlace h s c (nI j) = nI (cP h s c j 60) := by
  have key : ∀ i, i ≤ 60 → nf (fun i a => if gWh c (nI i) = 0 then a else if gMar h s (nI i) < gMar h s (nI j) then a + 1 else if gMar h s (nI i) = gMar h s (nI j) then (if nI j ≤ nI i then a else a + 1) else a) (0 : Int32) i = nI (cP h s c j i) := by
    intro i
    induction i with
    | zero => exact fun _ => rfl
    | succ i ih =>
      intro hi
      show (if gWh c (nI i) = 0 then nf _ (0 : Int32) i else if gMar h s (nI i) < gMar h s (nI j) then nf _ (0 : Int32) i + 1 else if gMar h s (nI i) = gMar h s (nI j) then (if nI j ≤ nI i then nf _ (0 : Int32) i else nf _ (0 : Int32) i + 1) else nf _ (0 : Int32) i) = _
      rw [ih (by omega), cP_s]
      by_cases hw : c i = 0
      · rw [if_neg (fun e => (gWh_0 (by omega)).mp e hw)]
        by_cases h1 : gMar h s (nI i) < gMar h s (nI j)
        · rw [if_pos h1, if_pos ⟨hw, Or.inl h1⟩, nI_succ]
        · rw [if_neg h1]
          by_cases h2 : gMar h s (nI i) = gMar h s (nI j)
          · rw [if_pos h2]
            by_cases h3 : i < j
            · rw [if_neg (nI_ge h3 (by omega)), if_pos ⟨hw, Or.inr ⟨h2, h3⟩⟩, nI_succ]
            · rw [if_pos (nI_le (by omega) (by omega)), if_neg (fun e => e.2.elim h1 (fun e => h3 e.2)), Nat.add_zero]
          · rw [if_neg h2, if_neg (fun e => e.2.elim h1 (fun e => h2 e.1)), Nat.add_zero]
      · rw [if_pos ((gWh_0 (by omega)).mpr hw), if_neg (fun e => hw e.1), Nat.add_zero]
  exact key 60 (Nat.le_refl _)
theorem bef_trans {h s : Nat → Int32} {i j k : Nat} (h1 : bef h s i j) (h2 : bef h s j k) : bef h s i k := by
  rcases h1 with a | ⟨a, b⟩
  · rcases h2 with c | ⟨c, d⟩
    · exact Or.inl (Int32.lt_trans a c)
    · exact Or.inl (by rw [← c]; exact a)
  · rcases h2 with c | ⟨c, d⟩
    · exact Or.inl (by rw [a]; exact c)
    · exact Or.inr ⟨a.trans c, by omega⟩
theorem bef_irrefl {h s : Nat → Int32} {i : Nat} : ¬ bef h s i i := by
  intro h1
  rcases h1 with a | ⟨_, b⟩
  · exact Int32.lt_irrefl a
  · omega
theorem bef_total {h s : Nat → Int32} {i j : Nat} (hne : i ≠ j) : bef h s i j ∨ bef h s j i := by
  by_cases h1 : gMar h s (nI i) < gMar h s (nI j)
  · exact Or.inl (Or.inl h1)
  · by_cases h2 : gMar h s (nI j) < gMar h s (nI i)
    · exact Or.inr (Or.inl h2)
    · have e : gMar h s (nI i) = gMar h s (nI j) := Int32.le_antisymm (Int32.not_lt.mp h2) (Int32.not_lt.mp h1)
      rcases Nat.lt_or_ge i j with w | w
      · exact Or.inl (Or.inr ⟨e, w⟩)
      · exact Or.inr (Or.inr ⟨e.symm, by omega⟩)
theorem cP_lt {h s c : Nat → Int32} {j k : Nat} (hc : c j = 0) (hb : bef h s j k) : ∀ i, cP h s c j i + (if j < i then 1 else 0) ≤ cP h s c k i := by
  intro i
  induction i with
  | zero => exact Nat.le_refl 0
  | succ i ih =>
    rw [cP_s, cP_s]
    by_cases e : i = j
    · subst e
      rw [if_neg (fun e => bef_irrefl e.2), if_pos (by omega), if_pos ⟨hc, hb⟩]
      rw [if_neg (by omega)] at ih
      omega
    · have e2 : (if j < i + 1 then 1 else 0) = (if j < i then 1 else 0) := by
        by_cases w : j < i
        · rw [if_pos w, if_pos (by omega)]
        · rw [if_neg w, if_neg (by omega)]
      rw [e2]
      clear e2
      generalize (if j < i then 1 else 0) = q at ih ⊢
      by_cases w : c i = 0 ∧ bef h s i j
      · rw [if_pos w, if_pos (show c i = 0 ∧ bef h s i k from ⟨w.1, bef_trans w.2 hb⟩)]
        omega
      · rw [if_neg w]
        by_cases v : c i = 0 ∧ bef h s i k
        · rw [if_pos v]
          omega
        · rw [if_neg v]
          omega
theorem cP_u {h s c : Nat → Int32} {i j : Nat} (hi : i < 60) (hj : j < 60) (ci : c i = 0) (cj : c j = 0) (e : cP h s c i 60 = cP h s c j 60) : i = j := by
  rcases Nat.decEq i j with hne | he
  · rcases bef_total (h := h) (s := s) hne with w | w
    · have := cP_lt ci w 60
      rw [if_pos hi] at this
      omega
    · have := cP_lt cj w 60
      rw [if_pos hj] at this
      omega
  · exact he
def isPl (h s c : Nat → Int32) (x : Int32) (j : Nat) : Prop := c j = 0 ∧ nI (cP h s c j 60) = x
theorem isPl_u {h s c : Nat → Int32} {x : Int32} {i j : Nat} (hi : i < 60) (hj : j < 60) (h1 : isPl h s c x i) (h2 : isPl h s c x j) : i = j := by
  have a := cP_le h s c i 60
  have b := cP_le h s c j 60
  exact cP_u hi hj h1.1 h2.1 ((nI_eq (by omega) (by omega)).mp (h1.2.trans h2.2.symm))
theorem gFind_spec (h s c : Nat → Int32) (x : Int32) : ∀ d i, i + d = 60 → (gFind h s c x i d = -4 ∧ ∀ j, i ≤ j → j < 60 → ¬ isPl h s c x j) ∨ ∃ j, j < 60 ∧ isPl h s c x j ∧ gFind h s c x i d = nI j := by
  intro d
  induction d with
  | zero => exact fun i hi => Or.inl ⟨rfl, fun j h1 h2 => absurd h1 (by omega)⟩
  | succ d ih =>
    intro i hi
    have e : gFind h s c x i (d + 1) = if gWh c (nI i) = 0 then gFind h s c x (i + 1) d else if gPlace h s c (nI i) = x then nI i else gFind h s c x (i + 1) d := rfl
    rw [e, gPlace_n h s c (show i < 60 by omega)]
    have next : ¬ isPl h s c x i → (gFind h s c x (i + 1) d = -4 ∧ ∀ j, i ≤ j → j < 60 → ¬ isPl h s c x j) ∨ ∃ j, j < 60 ∧ isPl h s c x j ∧ gFind h s c x (i + 1) d = nI j := by
      intro hn
      rcases ih (i + 1) (by omega) with ⟨a, b⟩ | a
      · refine Or.inl ⟨a, fun j h1 h2 => ?_⟩
        by_cases e : j = i
        · rw [e]
          exact hn
        · exact b j (by omega) h2
      · exact Or.inr a
    by_cases hw : gWh c (nI i) = 0
    · rw [if_pos hw]
      exact next (fun h1 => (gWh_0 (by omega)).mp hw h1.1)
    · rw [if_neg hw]
      by_cases hx : nI (cP h s c i 60) = x
      · rw [if_pos hx]
        exact Or.inr ⟨i, by omega, ⟨gWh_c (by omega) hw, hx⟩, rfl⟩
      · rw [if_neg hx]
        exact next (fun h1 => hx h1.2)
theorem worst_least (h s c : Nat → Int32) : ∀ i, i ≤ 60 → ((gWorst h s c i).1 = -1 ∧ ∀ j, j < i → ¬ c j = 0) ∨ ∃ j, j < i ∧ c j = 0 ∧ gWorst h s c i = (nI j, gMar h s (nI j)) ∧ ∀ l, l < i → c l = 0 → ¬ bef h s l j := by
  intro i
  induction i with
  | zero => exact fun _ => Or.inl ⟨rfl, fun j h => absurd h (by omega)⟩
  | succ i ih =>
    intro hi
    rw [gWorst_s]
    by_cases hw : gWh c (nI i) = 0
    · have hc := (gWh_0 (show i < 60 by omega)).mp hw
      rw [if_pos hw]
      rcases ih (by omega) with ⟨a, b⟩ | ⟨j, j1, j2, j3, j4⟩
      · refine Or.inl ⟨a, fun j h1 => ?_⟩
        by_cases e : j = i
        · rw [e]
          exact hc
        · exact b j (by omega)
      · refine Or.inr ⟨j, by omega, j2, j3, fun l h1 h2 => ?_⟩
        by_cases e : l = i
        · rw [e] at h2
          exact absurd h2 hc
        · exact j4 l (by omega) h2
    · have hc := gWh_c (show i < 60 by omega) hw
      rw [if_neg hw]
      rcases ih (by omega) with ⟨a, b⟩ | ⟨j, j1, j2, j3, j4⟩
      · rw [if_pos a]
        refine Or.inr ⟨i, by omega, hc, rfl, fun l h1 h2 => ?_⟩
        by_cases e : l = i
        · rw [e]
          exact bef_irrefl
        · exact absurd h2 (b l (by omega))
      · rw [j3]
        dsimp only
        rw [if_neg (nI_nm (show j < 60 by omega)).1]
        by_cases hle : gMar h s (nI j) ≤ gMar h s (nI i)
        · rw [if_pos hle]
          refine Or.inr ⟨j, by omega, j2, rfl, fun l h1 h2 => ?_⟩
          by_cases e : l = i
          · rw [e]
            intro hb
            rcases hb with w | ⟨_, w⟩
            · exact Int32.not_lt.mpr hle w
            · omega
          · exact j4 l (by omega) h2
        · rw [if_neg hle]
          refine Or.inr ⟨i, by omega, hc, rfl, fun l h1 h2 => ?_⟩
          by_cases e : l = i
          · rw [e]
            exact bef_irrefl
          · intro hb
            exact j4 l (by omega) h2 (bef_trans hb (Or.inl (Int32.not_le.mp hle)))
theorem cP_zero {h s c : Nat → Int32} {j : Nat} : ∀ n, (∀ l, l < n → c l = 0 → ¬ bef h s l j) → cP h s c j n = 0 := by
  intro n
  induction n with
  | zero => exact fun _ => rfl
  | succ n ih =>
    intro hh
    rw [cP_s, ih (fun l hl => hh l (by omega)), if_neg (fun e => hh n (by omega) e.1 e.2)]
theorem nf_filter {α : Type} (P : Nat → Bool) (G : Nat → α → α) (a : α) : ∀ n, nf (fun i a => if P i = true then G i a else a) a n = ((List.range n).filter P).foldl (fun a i => G i a) a := by
  intro n
  induction n with
  | zero => rfl
  | succ n ih =>
    rw [List.range_succ, List.filter_append, List.foldl_append, ← ih]
    show (if P n = true then G n (nf _ a n) else nf _ a n) = _
    by_cases h : P n = true
    · rw [if_pos h, List.filter_cons_of_pos h]
      rfl
    · rw [if_neg h, List.filter_cons_of_neg h]
      rfl
def sEnd (k j : Nat) : Bool := !(gIsEnd (nI k) (nI j) == 0)
def sVal (k d : Nat) : Bool := !(gJointAt (nI k) (nI d) == -1)
def sJo (k d : Nat) : Nat := (gJointAt (nI k) (nI d)).toNatClampNeg
theorem sides_ok : ∀ k, k < 36 → (List.range 60).filter (sEnd k) = ((List.range 4).filter (sVal k)).map (sJo k) := by decide +kernel
theorem sJo_ok : ∀ k, k < 36 → ∀ d, d < 4 → (sVal k d = true → gJointAt (nI k) (nI d) = nI (sJo k d) ∧ sJo k d < 60) ∧ (sVal k d = false → gJointAt (nI k) (nI d) = -1) := by decide +kernel
theorem nf_sides {α : Type} (G : Nat → α → α) (a : α) {k : Nat} (hk : k < 36) : nf (fun j a => if sEnd k j = true then G j a else a) a 60 = nf (fun d a => if sVal k d = true then G (sJo k d) a else a) a 4 := by
  rw [nf_filter, nf_filter (sVal k) (fun d a => G (sJo k d) a), sides_ok k hk, List.foldl_map]
theorem nf_congr {α : Type} {F G : Nat → α → α} {a : α} : ∀ n, (∀ i, i < n → ∀ b, F i b = G i b) → nf F a n = nf G a n := by
  intro n
  induction n with
  | zero => exact fun _ => rfl
  | succ n ih =>
    intro h
    show F n (nf F a n) = G n (nf G a n)
    rw [ih (fun i hi => h i (by omega)), h n (by omega)]
theorem side_gen {α : Type} (c : Nat → Int32) (V : Int32 → α → α) (a : α) {k : Nat} (hk : k < 36) : nf (fun i a => if gWh c (gJointAt (nI k) (nI i)) = 0 then a else V (gJointAt (nI k) (nI i)) a) a 4 = nf (fun i a => if gWh c (nI i) = 0 then a else if gIsEnd (nI k) (nI i) = 0 then a else V (nI i) a) a 60 := by
  have e1 : nf (fun i a => if gWh c (nI i) = 0 then a else if gIsEnd (nI k) (nI i) = 0 then a else V (nI i) a) a 60 = nf (fun j a => if sEnd k j = true then (if gWh c (nI j) = 0 then a else V (nI j) a) else a) a 60 := by
    refine nf_congr 60 (fun i hi b => ?_)
    by_cases h : gIsEnd (nI k) (nI i) = 0
    · have hs : sEnd k i = false := by
        unfold sEnd
        rw [h]
        rfl
      rw [hs, if_neg (show ¬ false = true by decide), if_pos h]
      split <;> rfl
    · have hs : sEnd k i = true := by
        unfold sEnd
        cases hb : (gIsEnd (nI k) (nI i) == 0) with
        | true => exact absurd (eq_of_beq hb) h
        | false => rfl
      rw [hs, if_neg h, if_pos rfl]
  rw [e1, nf_sides (fun j a => if gWh c (nI j) = 0 then a else V (nI j) a) a hk]
  refine nf_congr 4 (fun d hd b => ?_)
  cases hv : sVal k d with
  | true =>
    rw [if_pos rfl, ((sJo_ok k hk d hd).1 hv).1]
  | false =>
    rw [(sJo_ok k hk d hd).2 hv, if_pos (show gWh c (-1) = 0 from rfl), if_neg (show ¬ false = true by decide)]
def cntM (nm : Nat → Int32) : Nat → Nat
  | 0 => 0
  | n + 1 => cntM nm n + (if nm n = -1 then 1 else 0)
theorem cntM_s (nm : Nat → Int32) (n : Nat) : cntM nm (n + 1) = cntM nm n + (if nm n = -1 then 1 else 0) := rfl
theorem cntM_le (nm : Nat → Int32) : ∀ n, cntM nm n ≤ n := by
  intro n
  induction n with
  | zero => exact Nat.le_refl 0
  | succ n ih =>
    rw [cntM_s]
    split <;> omega
theorem cntM_upd {nm : Nat → Int32} {o : Nat} {v : Int32} (ho : nm o = -1) (hv : ¬ v = -1) : ∀ n, cntM (upd nm o v) n + (if o < n then 1 else 0) = cntM nm n := by
  intro n
  induction n with
  | zero => rfl
  | succ n ih =>
    rw [cntM_s, cntM_s]
    by_cases e : n = o
    · subst e
      rw [if_neg (by omega)] at ih
      rw [show upd nm n v n = v from if_pos rfl, if_neg hv, if_pos (by omega), if_pos ho]
      omega
    · rw [show upd nm o v n = nm n from if_neg e]
      have e2 : (if o < n + 1 then 1 else 0) = (if o < n then 1 else 0) := by
        by_cases w : o < n
        · rw [if_pos w, if_pos (by omega)]
        · rw [if_neg w, if_neg (by omega)]
      rw [e2]
      clear e2
      generalize (if o < n then 1 else 0) = q at ih ⊢
      omega
theorem cntM_pos {nm : Nat → Int32} {o : Nat} (ho : nm o = -1) : ∀ n, o < n → 1 ≤ cntM nm n := by
  intro n hn
  have := cntM_upd (v := 0) ho (by decide) n
  rw [if_pos hn] at this
  omega
def cntR (nm : Nat → Int32) : Nat → Nat
  | 0 => 0
  | n + 1 => cntR nm n + (if nm n = nI n then 1 else 0)
theorem cntR_s (nm : Nat → Int32) (n : Nat) : cntR nm (n + 1) = cntR nm n + (if nm n = nI n then 1 else 0) := rfl
theorem cntR_le (nm : Nat → Int32) : ∀ n, cntR nm n ≤ n := by
  intro n
  induction n with
  | zero => exact Nat.le_refl 0
  | succ n ih =>
    rw [cntR_s]
    split <;> omega
theorem cntR_congr {f g : Nat → Int32} : ∀ n, (∀ k, k < n → f k = g k) → cntR f n = cntR g n := by
  intro n
  induction n with
  | zero => exact fun _ => rfl
  | succ n ih =>
    intro h
    rw [cntR_s, cntR_s, ih (fun k hk => h k (by omega)), h n (by omega)]
theorem nI_inj {a b : Nat} (ha : a < 60) (hb : b < 60) (h : nI a = nI b) : a = b := (nI_eq (by omega) (by omega)).mp h
/-- a piece's spread: cells reached so far, q of them -/
def sInv (c nm0 : Nat → Int32) (st : Nat) (z : ZSt) (q : Nat) : Prop :=
  z.2.2 = nI q ∧ (∀ t : Nat, t < q → ∃ k : Nat, k < 36 ∧ z.2.1 t = nI k ∧ nm0 k = -1 ∧ cConn c k st) ∧ (∀ k : Nat, k < 36 → z.1 k = nm0 k ∨ (z.1 k = nI st ∧ nm0 k = -1 ∧ cConn c k st ∧ ∃ t : Nat, t < q ∧ z.2.1 t = nI k)) ∧ cntM z.1 36 + q ≤ 36 ∧ z.1 st = nI st
theorem reach_step {c nm0 : Nat → Int32} {st : Nat} {z : ZSt} {q o : Nat} (hst : st < 36) (ho : o < 36) (h : sInv c nm0 st z q) (h0 : nm0 o = -1) (hc : cConn c o st) :
    ∃ q', q ≤ q' ∧ sInv c nm0 st (kReach z (nI o) (nI st)) q' ∧ (kReach z (nI o) (nI st)).1 o = nI st ∧ (∀ t : Nat, t < q → (kReach z (nI o) (nI st)).2.1 t = z.2.1 t) ∧ (∀ x : Nat, x < 36 → z.1 x = nI st → (kReach z (nI o) (nI st)).1 x = nI st) := by
  rw [kReach, kseal_eq]
  obtain ⟨nm, rd, rc⟩ := z
  obtain ⟨s1, s2, s3, s4, s5⟩ := h
  have s1 : rc = nI q := s1
  subst s1
  dsimp only at s2 s3 s4 s5
  have hcell : ∀ k : Nat, k < 36 → ¬ gIsCell (nI k) = 0 := by
    intro k hk
    unfold gIsCell
    rw [if_neg (nI_pos (by omega)), if_neg (show ¬ (36 : Int32) ≤ nI k from nI_ge hk (by decide))]
    decide
  have en : gName nm (nI o) = nm o := by
    unfold gName
    rw [if_neg (hcell o ho), nI_clamp (by omega)]
  have hne : ¬ nI st = -1 := (nI_nm (show st < 60 by omega)).1
  unfold zReach
  dsimp only
  rw [en]
  by_cases hm : nm o = -1
  · have hq : q < 36 := by
      have := cntM_pos hm 36 ho
      omega
    rw [if_neg (fun h => h hm), if_neg (hcell o ho), if_neg (hcell q hq), nI_clamp (by omega), nI_clamp (by omega), ← nI_succ]
    refine ⟨q + 1, by omega, ⟨rfl, fun t ht => ?_, fun k hk => ?_, ?_, ?_⟩, if_pos rfl, fun t ht => if_neg (by omega), fun x hx hxs => ?_⟩
    · show ∃ k : Nat, k < 36 ∧ upd rd q (nI o) t = nI k ∧ nm0 k = -1 ∧ cConn c k st
      by_cases e : t = q
      · exact ⟨o, ho, if_pos e, h0, hc⟩
      · rw [show upd rd q (nI o) t = rd t from if_neg e]
        exact s2 t (by omega)
    · show upd nm o (nI st) k = nm0 k ∨ (upd nm o (nI st) k = nI st ∧ nm0 k = -1 ∧ cConn c k st ∧ ∃ t : Nat, t < q + 1 ∧ upd rd q (nI o) t = nI k)
      by_cases e : k = o
      · rw [e]
        exact Or.inr ⟨if_pos rfl, h0, hc, q, by omega, if_pos rfl⟩
      · rw [show upd nm o (nI st) k = nm k from if_neg e]
        rcases s3 k hk with w | ⟨w1, w2, w3, t, w4, w5⟩
        · exact Or.inl w
        · exact Or.inr ⟨w1, w2, w3, t, by omega, (if_neg (by omega)).trans w5⟩
    · show cntM (upd nm o (nI st)) 36 + (q + 1) ≤ 36
      have := cntM_upd (v := nI st) hm hne 36
      rw [if_pos ho] at this
      omega
    · show upd nm o (nI st) st = nI st
      unfold upd
      split
      · rfl
      · exact s5
    · show upd nm o (nI st) x = nI st
      unfold upd
      split
      · rfl
      · exact hxs
  · rw [if_pos hm]
    refine ⟨q, Nat.le_refl _, ⟨rfl, s2, s3, s4, s5⟩, ?_, fun _ _ => rfl, fun _ _ h => h⟩
    rcases s3 o ho with w | w
    · exact absurd (w.trans h0) hm
    · exact w.1
theorem side_to : ∀ j, j < 60 → (∃ d, d < 4 ∧ gJointAt (nI (nF j)) (nI d) = nI j ∧ gOther (nI j) (nI (nF j)) = nI (nS j)) ∧ (∃ d, d < 4 ∧ gJointAt (nI (nS j)) (nI d) = nI j ∧ gOther (nI j) (nI (nS j)) = nI (nF j)) := by decide +kernel
theorem side_of : ∀ k, k < 36 → ∀ d, d < 4 → sVal k d = true → ((nF (sJo k d) = k ∧ gOther (nI (sJo k d)) (nI k) = nI (nS (sJo k d))) ∨ (nS (sJo k d) = k ∧ gOther (nI (sJo k d)) (nI k) = nI (nF (sJo k d)))) := by decide +kernel
/-- what is over a cell's whole joints is reached -/
def clo (c nm : Nat → Int32) (st k : Nat) : Prop := ∀ j : Nat, j < 60 → c j = 0 → (nF j = k → nm (nS j) = nI st) ∧ (nS j = k → nm (nF j) = nI st)
theorem in_step {c nm0 : Nat → Int32} {st k : Nat} (hst : st < 36) (hk : k < 36) (hG : nmEq c nm0) (h0 : nm0 k = -1) (hc : cConn c k st) {z : ZSt} {q : Nat} (h : sInv c nm0 st z q) :
    ∃ q', q ≤ q' ∧ sInv c nm0 st (zIn c (nI st) (nI k) z 4) q' ∧ (∀ t : Nat, t < q → (zIn c (nI st) (nI k) z 4).2.1 t = z.2.1 t) ∧ (∀ x : Nat, x < 36 → z.1 x = nI st → (zIn c (nI st) (nI k) z 4).1 x = nI st) ∧ clo c (zIn c (nI st) (nI k) z 4).1 st k := by
  have key : ∀ d, d ≤ 4 → ∃ q', q ≤ q' ∧ sInv c nm0 st (zIn c (nI st) (nI k) z d) q' ∧ (∀ t : Nat, t < q → (zIn c (nI st) (nI k) z d).2.1 t = z.2.1 t) ∧ (∀ x : Nat, x < 36 → z.1 x = nI st → (zIn c (nI st) (nI k) z d).1 x = nI st) ∧ ∀ d' : Nat, d' < d → ∀ j : Nat, j < 60 → c j = 0 → gJointAt (nI k) (nI d') = nI j → ∀ o : Nat, o < 36 → gOther (nI j) (nI k) = nI o → (zIn c (nI st) (nI k) z d).1 o = nI st := by
    intro d
    induction d with
    | zero => exact fun _ => ⟨q, Nat.le_refl _, h, fun _ _ => rfl, fun _ _ h => h, fun d' hd => absurd hd (by omega)⟩
    | succ d ih =>
      intro hd
      obtain ⟨q1, i1, i2, i3, i4, i5⟩ := ih (by omega)
      have e : zIn c (nI st) (nI k) z (d + 1) = if gWh c (gJointAt (nI k) (nI d)) = 0 then zIn c (nI st) (nI k) z d else kReach (zIn c (nI st) (nI k) z d) (gOther (gJointAt (nI k) (nI d)) (nI k)) (nI st) := rfl
      rw [e]
      generalize zIn c (nI st) (nI k) z d = y at i2 i3 i4 i5 ⊢
      cases hv : sVal k d with
      | false =>
        have ej := (sJo_ok k hk d (by omega)).2 hv
        rw [ej, if_pos (show gWh c (-1) = 0 from rfl)]
        refine ⟨q1, i1, i2, i3, i4, fun d' hd' j hj hcj hg o ho hoo => ?_⟩
        by_cases e2 : d' = d
        · rw [e2, ej] at hg
          exact absurd hg.symm (nI_nm hj).1
        · exact i5 d' (by omega) j hj hcj hg o ho hoo
      | true =>
        obtain ⟨ej, hj0⟩ := (sJo_ok k hk d (by omega)).1 hv
        have hso := side_of k hk d (by omega) hv
        rw [ej]
        by_cases hw : gWh c (nI (sJo k d)) = 0
        · rw [if_pos hw]
          refine ⟨q1, i1, i2, i3, i4, fun d' hd' j hj hcj hg o ho hoo => ?_⟩
          by_cases e2 : d' = d
          · rw [e2, ej] at hg
            have := nI_inj hj0 hj hg
            rw [this] at hw
            exact absurd hcj ((gWh_0 hj).mp hw)
          · exact i5 d' (by omega) j hj hcj hg o ho hoo
        · rw [if_neg hw]
          have hcj := gWh_c hj0 hw
          have ho : ∃ o : Nat, o < 36 ∧ gOther (nI (sJo k d)) (nI k) = nI o ∧ nm0 o = -1 ∧ cConn c o st := by
            rcases hso with ⟨a, b⟩ | ⟨a, b⟩
            · refine ⟨nS (sJo k d), nS_lt hj0, b, ?_, ?_⟩
              · rw [← hG _ hj0 hcj, a]
                exact h0
              · refine cc_trans (cc_joint' hj0 hcj) ?_
                rw [a]
                exact hc
            · refine ⟨nF (sJo k d), nF_lt hj0, b, ?_, ?_⟩
              · rw [hG _ hj0 hcj, a]
                exact h0
              · refine cc_trans (cc_joint hj0 hcj) ?_
                rw [a]
                exact hc
          obtain ⟨o, o1, o2, o3, o4⟩ := ho
          rw [o2]
          obtain ⟨q2, r1, r2, r3, r4, r5⟩ := reach_step hst o1 i2 o3 o4
          refine ⟨q2, by omega, r2, fun t ht => (r4 t (by omega)).trans (i3 t ht), fun x hx h => r5 x hx (i4 x hx h), fun d' hd' j hj hcj2 hg o' ho' hoo => ?_⟩
          by_cases e2 : d' = d
          · rw [e2, ej] at hg
            have := nI_inj hj0 hj hg
            rw [← this, o2] at hoo
            have := nI_inj (by omega) (by omega) hoo
            rw [← this]
            exact r3
          · exact r5 o' ho' (i5 d' (by omega) j hj hcj2 hg o' ho' hoo)
  obtain ⟨q', k1, k2, k3, k4, k5⟩ := key 4 (Nat.le_refl _)
  refine ⟨q', k1, k2, k3, k4, fun j hj hcj => ⟨fun e => ?_, fun e => ?_⟩⟩
  · obtain ⟨⟨d, d1, d2, d3⟩, -⟩ := side_to j hj
    rw [e] at d2 d3
    exact k5 d d1 j hj hcj d2 _ (nS_lt hj) d3
  · obtain ⟨-, ⟨d, d1, d2, d3⟩⟩ := side_to j hj
    rw [e] at d2 d3
    exact k5 d d1 j hj hcj d2 _ (nF_lt hj) d3
theorem spread_step {c nm0 : Nat → Int32} {st : Nat} (hst : st < 36) (hG : nmEq c nm0) : ∀ d p (z : ZSt) (q : Nat), p + d = 36 → p ≤ q → sInv c nm0 st z q → (∀ t : Nat, t < p → ∀ k : Nat, k < 36 → z.2.1 t = nI k → clo c z.1 st k) →
    ∃ q', sInv c nm0 st (zSpread c (nI st) d p z) q' ∧ ∀ t : Nat, t < q' → ∀ k : Nat, k < 36 → (zSpread c (nI st) d p z).2.1 t = nI k → clo c (zSpread c (nI st) d p z).1 st k := by
  intro d
  induction d with
  | zero =>
    intro p z q hp hpq hs hc
    have h36 : q ≤ 36 := by
      have := hs.2.2.2.1
      omega
    have e : q = p := by omega
    subst e
    exact ⟨q, hs, hc⟩
  | succ d ih =>
    intro p z q hp hpq hs hc
    have e : zSpread c (nI st) (d + 1) p z = if z.2.2 ≤ nI p then z else zSpread c (nI st) d (p + 1) (zIn c (nI st) (z.2.1 p) z 4) := rfl
    have h36 : q ≤ 36 := by
      have := hs.2.2.2.1
      omega
    rw [e]
    by_cases hle : z.2.2 ≤ nI p
    · rw [if_pos hle]
      rw [hs.1] at hle
      have := (nI_leI (by omega) (by omega)).mp hle
      have e : q = p := by omega
      subst e
      exact ⟨q, hs, hc⟩
    · rw [if_neg hle]
      have hlt : p < q := by
        rcases Nat.lt_or_ge p q with w | w
        · exact w
        · exact absurd (by rw [hs.1]; exact nI_le w (by omega)) hle
      obtain ⟨k, k1, k2, k3, k4⟩ := hs.2.1 p hlt
      rw [k2]
      obtain ⟨q1, i1, i2, i3, i4, i5⟩ := in_step hst k1 hG k3 k4 hs
      refine ih (p + 1) _ q1 (by omega) (by omega) i2 (fun t ht k' hk' ht2 => ?_)
      by_cases e : t = p
      · rw [e, i3 p hlt, k2] at ht2
        have := nI_inj (by omega) (by omega) ht2
        rw [← this]
        exact i5
      · rw [i3 t (by omega)] at ht2
        have hcl := hc t (by omega) k' hk' ht2
        exact fun j hj hcj => ⟨fun e => i4 _ (nS_lt hj) ((hcl j hj hcj).1 e), fun e => i4 _ (nF_lt hj) ((hcl j hj hcj).2 e)⟩
/-- the names ahead of a cell to begin with -/
def gInv (c nm : Nat → Int32) (i : Nat) (n : Int32) : Prop :=
  (∀ k : Nat, k < 36 → nm k = -1 ∨ ∃ r : Nat, r < i ∧ r ≤ k ∧ nm k = nI r ∧ cConn c k r) ∧ nmEq c nm ∧ (∀ k : Nat, k < i → ¬ nm k = -1) ∧ n = nI (cntR nm i)
theorem from_step {c : Nat → Int32} {z : ZSt} {i : Nat} {n : Int32} (hi : i < 36) (h : gInv c z.1 i n) (h0 : z.1 i = -1) : gInv c (kseal (zFrom c (nI i) z)).1 (i + 1) (n + 1) := by
  rw [kseal_eq]
  obtain ⟨g1, g2, g3, g4⟩ := h
  unfold zFrom
  have hcell : ∀ k : Nat, k < 36 → ¬ gIsCell (nI k) = 0 := by
    intro k hk
    unfold gIsCell
    rw [if_neg (nI_pos (by omega)), if_neg (show ¬ (36 : Int32) ≤ nI k from nI_ge hk (by decide))]
    decide
  have hne : ¬ nI i = -1 := (nI_nm (show i < 60 by omega)).1
  have e0 : kReach (z.1, z.2.1, 0) (nI i) (nI i) = (upd z.1 i (nI i), upd z.2.1 0 (nI i), nI 1) := by
    rw [kReach, kseal_eq]
    unfold zReach
    dsimp only
    have en : gName z.1 (nI i) = z.1 i := by
      unfold gName
      rw [if_neg (hcell i hi), nI_clamp (by omega)]
    rw [en, if_neg (fun h => h h0), if_neg (hcell i hi), if_neg (show ¬ gIsCell 0 = 0 by decide), nI_clamp (by omega)]
    rfl
  rw [e0]
  have hs : sInv c z.1 i (upd z.1 i (nI i), upd z.2.1 0 (nI i), nI 1) 1 := by
    refine ⟨rfl, fun t ht => ⟨i, hi, ?_, h0, cc_refl i⟩, fun k hk => ?_, ?_, if_pos rfl⟩
    · show upd z.2.1 0 (nI i) t = nI i
      exact if_pos (by omega)
    · show upd z.1 i (nI i) k = z.1 k ∨ (upd z.1 i (nI i) k = nI i ∧ z.1 k = -1 ∧ cConn c k i ∧ ∃ t : Nat, t < 1 ∧ upd z.2.1 0 (nI i) t = nI k)
      by_cases e : k = i
      · rw [e]
        exact Or.inr ⟨if_pos rfl, h0, cc_refl i, 0, by omega, if_pos rfl⟩
      · exact Or.inl (if_neg e)
    · show cntM (upd z.1 i (nI i)) 36 + 1 ≤ 36
      have := cntM_upd (v := nI i) h0 hne 36
      rw [if_pos hi] at this
      have := cntM_le z.1 36
      omega
  obtain ⟨q', s, hcl⟩ := spread_step hi g2 36 0 _ 1 rfl (by omega) hs (fun t ht => absurd ht (by omega))
  generalize zSpread c (nI i) 36 0 (upd z.1 i (nI i), upd z.2.1 0 (nI i), nI 1) = y at s hcl ⊢
  obtain ⟨s1, s2, s3, s4, s5⟩ := s
  refine ⟨fun k hk => ?_, fun j hj hcj => ?_, fun k hk => ?_, ?_⟩
  · rcases s3 k hk with w | ⟨w1, w2, w3, w4⟩
    · rw [w]
      rcases g1 k hk with v | ⟨r, v1, v2, v3, v4⟩
      · exact Or.inl v
      · exact Or.inr ⟨r, by omega, v2, v3, v4⟩
    · refine Or.inr ⟨i, by omega, ?_, w1, w3⟩
      rcases Nat.lt_or_ge k i with v | v
      · exact absurd w2 (g3 k v)
      · exact v
  · rcases s3 _ (nF_lt hj) with w | ⟨w1, w2, w3, t, w4, w5⟩
    · rcases s3 _ (nS_lt hj) with v | ⟨v1, v2, v3, t, v4, v5⟩
      · rw [w, v]
        exact g2 j hj hcj
      · rw [v1]
        exact (hcl t v4 _ (nS_lt hj) v5 j hj hcj).2 rfl
    · rw [w1]
      exact ((hcl t w4 _ (nF_lt hj) w5 j hj hcj).1 rfl).symm
  · by_cases e : k = i
    · rw [e, s5]
      exact hne
    · rcases s3 k (by omega) with w | ⟨w1, w2, _⟩
      · rw [w]
        exact g3 k (by omega)
      · exact absurd w2 (g3 k (by omega))
  · have ec : cntR y.1 i = cntR z.1 i := by
      refine cntR_congr i (fun k hk => ?_)
      rcases s3 k (by omega) with w | ⟨w1, w2, _⟩
      · exact w
      · exact absurd w2 (g3 k hk)
    rw [cntR_s, ec, if_pos s5, g4, nI_succ]
theorem go_ok (c : Nat → Int32) (z : ZSt) : isName c (zGo c z 36).1.1 ∧ (zGo c z 36).2 = nI (cntR (zGo c z 36).1.1 36) := by
  have key : ∀ i, i ≤ 36 → gInv c (zGo c z i).1.1 i (zGo c z i).2 := by
    intro i
    induction i with
    | zero =>
      intro _
      have e : ∀ k : Nat, k < 36 → fillA 36 z.1 (-1) k = -1 := fun k hk => if_pos hk
      refine ⟨fun k hk => Or.inl (e k hk), fun j hj _ => ?_, fun k hk => absurd hk (by omega), rfl⟩
      exact (e _ (nF_lt hj)).trans (e _ (nS_lt hj)).symm
    | succ i ih =>
      intro hi
      have ih := ih (by omega)
      have e : zGo c z (i + 1) = if (zGo c z i).1.1 i = -1 then (kseal (zFrom c (nI i) (zGo c z i).1), (zGo c z i).2 + 1) else zGo c z i := rfl
      rw [e]
      generalize zGo c z i = y at ih ⊢
      by_cases h0 : y.1.1 i = -1
      · rw [if_pos h0]
        exact from_step (by omega) ih h0
      · rw [if_neg h0]
        obtain ⟨g1, g2, g3, g4⟩ := ih
        refine ⟨fun k hk => ?_, g2, fun k hk => ?_, ?_⟩
        · rcases g1 k hk with v | ⟨r, v1, v2, v3, v4⟩
          · exact Or.inl v
          · exact Or.inr ⟨r, by omega, v2, v3, v4⟩
        · by_cases e : k = i
          · rw [e]
            exact h0
          · exact g3 k (by omega)
        · rcases g1 i (by omega) with v | ⟨r, v1, v2, v3, v4⟩
          · exact absurd v h0
          · rw [cntR_s, if_neg (fun e2 => by
              have := nI_inj (show r < 60 by omega) (show i < 60 by omega) (v3.symm.trans e2)
              omega), Nat.add_zero]
            exact g4
  obtain ⟨g1, g2, g3, g4⟩ := key 36 (Nat.le_refl _)
  refine ⟨⟨fun k hk => ?_, g2⟩, g4⟩
  rcases g1 k hk with v | ⟨r, v1, v2, v3, v4⟩
  · exact absurd v (g3 k hk)
  · exact ⟨r, v2, v3, v4⟩
theorem gMin_n {a b : Nat} (ha : a < 60) (hb : b < 60) : gMin (nI a) (nI b) = nI (min a b) ∧ gMax (nI a) (nI b) = nI (max a b) := by
  unfold gMin gMax
  by_cases h : a < b
  · rw [if_neg (nI_nlt (by omega) (by omega)), if_pos (nI_lt h (by omega)), Nat.min_eq_left (by omega), Nat.max_eq_right (by omega)]
    exact ⟨rfl, rfl⟩
  · by_cases h2 : b < a
    · rw [if_pos (nI_lt h2 (by omega)), if_neg (nI_nlt (by omega) (by omega)), Nat.min_eq_right (by omega), Nat.max_eq_left (by omega)]
      exact ⟨rfl, rfl⟩
    · have e : a = b := by omega
      subst e
      rw [if_neg (nI_nlt (Nat.le_refl a) (by omega)), Nat.min_self, Nat.max_self]
      exact ⟨rfl, rfl⟩
theorem join_at (nm : Nat → Int32) (a b : Int32) : ∀ n k, zJoin1 nm a b n k = if k < n then (if nm k = b then a else nm k) else nm k := by
  intro n
  induction n with
  | zero => exact fun k => (if_neg (by omega)).symm
  | succ n ih =>
    intro k
    have e : zJoin1 nm a b (n + 1) = if zJoin1 nm a b n n = b then upd (zJoin1 nm a b n) n a else zJoin1 nm a b n := rfl
    rw [e, ih n, if_neg (Nat.lt_irrefl n)]
    by_cases hb : nm n = b
    · rw [if_pos hb]
      unfold upd
      by_cases hk : k = n
      · subst hk
        rw [if_pos rfl, if_pos (by omega), if_pos hb]
      · rw [if_neg hk, ih k]
        by_cases h : k < n
        · rw [if_pos h, if_pos (show k < n + 1 by omega)]
        · rw [if_neg h, if_neg (show ¬ k < n + 1 by omega)]
    · rw [if_neg hb, ih k]
      by_cases hk : k = n
      · subst hk
        rw [if_neg (by omega), if_pos (by omega), if_neg hb]
      · by_cases h : k < n
        · rw [if_pos h, if_pos (show k < n + 1 by omega)]
        · rw [if_neg h, if_neg (show ¬ k < n + 1 by omega)]
theorem ids_at (nm : Nat → Int32) : ∀ n k, zIds nm n k = if k < n then nI k else nm k := by
  intro n
  induction n with
  | zero => exact fun k => (if_neg (by omega)).symm
  | succ n ih =>
    intro k
    have e : zIds nm (n + 1) = upd (zIds nm n) n (nI n) := rfl
    rw [e]
    unfold upd
    by_cases hk : k = n
    · subst hk
      rw [if_pos rfl, if_pos (by omega)]
    · rw [if_neg hk, ih k]
      by_cases h : k < n
      · rw [if_pos h, if_pos (by omega)]
      · rw [if_neg h, if_neg (by omega)]
def jInv (c nm : Nat → Int32) (j : Nat) (n : Int32) : Prop :=
  nmOk c nm ∧ (∀ i : Nat, i < j → c i = 0 → nm (nF i) = nm (nS i)) ∧ (∀ k : Nat, k < 36 → ∀ r : Nat, r < 36 → nm k = nI r → nm r = nI r) ∧ n = nI (cntR nm 36)
theorem cntR_drop {f g : Nat → Int32} {w : Nat} (hf : f w = nI w) (hg : ¬ g w = nI w) : ∀ n, (∀ k, k < n → ¬ k = w → (f k = nI k ↔ g k = nI k)) → cntR g n + (if w < n then 1 else 0) = cntR f n := by
  intro n
  induction n with
  | zero => exact fun _ => rfl
  | succ n ih =>
    intro h
    have ih := ih (fun k hk => h k (by omega))
    rw [cntR_s, cntR_s]
    by_cases e : n = w
    · subst e
      rw [if_neg (by omega)] at ih
      rw [if_neg hg, if_pos (by omega), if_pos hf]
      omega
    · have e2 : (if w < n + 1 then 1 else 0) = (if w < n then 1 else 0) := by
        by_cases v : w < n
        · rw [if_pos v, if_pos (by omega)]
        · rw [if_neg v, if_neg (by omega)]
      rw [e2]
      clear e2
      generalize (if w < n then 1 else 0) = q at ih ⊢
      have h2 := h n (by omega) e
      by_cases v : f n = nI n
      · rw [if_pos v, if_pos (h2.mp v)]
        omega
      · rw [if_neg v, if_neg (fun x => v (h2.mpr x))]
        omega
theorem join_ok (c nm0 : Nat → Int32) : isName c (zJoin c nm0 60).1 ∧ (zJoin c nm0 60).2 = nI (cntR (zJoin c nm0 60).1 36) := by
  have key : ∀ j, j ≤ 60 → jInv c (zJoin c nm0 j).1 j (zJoin c nm0 j).2 := by
    intro j
    induction j with
    | zero =>
      intro _
      have e : (zJoin c nm0 0).1 = zIds nm0 36 := kseal_eq _
      have e2 : (zJoin c nm0 0).2 = 36 := rfl
      rw [e, e2]
      have ek : ∀ k : Nat, k < 36 → zIds nm0 36 k = nI k := fun k hk => by rw [ids_at, if_pos hk]
      refine ⟨fun k hk => ⟨k, Nat.le_refl _, ek k hk, cc_refl k⟩, fun i hi => absurd hi (by omega), fun k hk r hr h => ek r hr, ?_⟩
      rw [cntR_congr (g := fun k => nI k) 36 ek]
      rfl
    | succ j ih =>
      intro hj
      have ih := ih (by omega)
      have e : zJoin c nm0 (j + 1) = if gWh c (nI j) = 0 then zJoin c nm0 j else (kseal (zJoin1 (zJoin c nm0 j).1 (gMin (gName (zJoin c nm0 j).1 (gFirst (nI j))) (gName (zJoin c nm0 j).1 (gSecond (nI j)))) (gMax (gName (zJoin c nm0 j).1 (gFirst (nI j))) (gName (zJoin c nm0 j).1 (gSecond (nI j)))) 36), if gMin (gName (zJoin c nm0 j).1 (gFirst (nI j))) (gName (zJoin c nm0 j).1 (gSecond (nI j))) = gMax (gName (zJoin c nm0 j).1 (gFirst (nI j))) (gName (zJoin c nm0 j).1 (gSecond (nI j))) then (zJoin c nm0 j).2 else (zJoin c nm0 j).2 + (-1)) := rfl
      rw [e]
      generalize zJoin c nm0 j = y at ih ⊢
      obtain ⟨nm, n⟩ := y
      obtain ⟨j1, j2, j3, j4⟩ := ih
      dsimp only at j1 j2 j3 j4 ⊢
      have hj60 : j < 60 := by omega
      by_cases hw : gWh c (nI j) = 0
      · rw [if_pos hw]
        refine ⟨j1, fun i hi hci => ?_, j3, j4⟩
        by_cases e : i = j
        · rw [e] at hci
          exact absurd hci ((gWh_0 hj60).mp hw)
        · exact j2 i (by omega) hci
      · rw [if_neg hw]
        have hcj := gWh_c hj60 hw
        have l1 := nF_lt hj60
        have l2 := nS_lt hj60
        have hcell : ∀ k : Nat, k < 36 → gName nm (nI k) = nm k := by
          intro k hk
          unfold gName gIsCell
          rw [if_neg (nI_pos (by omega)), if_neg (show ¬ (36 : Int32) ≤ nI k from nI_ge hk (by decide)), if_neg (by decide), nI_clamp (by omega)]
        rw [gFirst_n hj60, gSecond_n hj60, hcell _ l1, hcell _ l2]
        obtain ⟨a, a1, a2, a3⟩ := j1 _ l1
        obtain ⟨b, b1, b2, b3⟩ := j1 _ l2
        have ra := j3 _ l1 a (by omega) a2
        have rb := j3 _ l2 b (by omega) b2
        have cab : cConn c a b := cc_trans (cc_symm a3) (cc_trans (cc_joint hj60 hcj) b3)
        rw [a2, b2]
        obtain ⟨m1, m2⟩ := gMin_n (show a < 60 by omega) (show b < 60 by omega)
        rw [m1, m2, kseal_eq]
        generalize hlo : min a b = lo
        generalize hhi : max a b = hi
        have hle : lo ≤ hi := by omega
        have hab : (lo = a ∧ hi = b) ∨ (lo = b ∧ hi = a) := by omega
        have rlo : nm lo = nI lo := by rcases hab with ⟨e, _⟩ | ⟨e, _⟩ <;> rw [e] <;> assumption
        have rhi : nm hi = nI hi := by rcases hab with ⟨_, e⟩ | ⟨_, e⟩ <;> rw [e] <;> assumption
        have clh : cConn c hi lo := by
          rcases hab with ⟨e, e2⟩ | ⟨e, e2⟩ <;> rw [e, e2]
          · exact cc_symm cab
          · exact cab
        have at36 : ∀ k : Nat, k < 36 → zJoin1 nm (nI lo) (nI hi) 36 k = if nm k = nI hi then nI lo else nm k := fun k hk => by rw [join_at, if_pos hk]
        generalize zJoin1 nm (nI lo) (nI hi) 36 = nm' at at36 ⊢
        show jInv c nm' (j + 1) (if nI lo = nI hi then n else n + (-1))
        refine ⟨fun k hk => ?_, fun i hi2 hci => ?_, fun k hk r hr h => ?_, ?_⟩
        · rw [at36 k hk]
          obtain ⟨r, r1, r2, r3⟩ := j1 k hk
          by_cases hg : nm k = nI hi
          · have er := nI_inj (show r < 60 by omega) (show hi < 60 by omega) (r2.symm.trans hg)
            rw [if_pos hg]
            exact ⟨lo, by omega, rfl, cc_trans (by rw [er] at r3; exact r3) clh⟩
          · rw [if_neg hg]
            exact ⟨r, r1, r2, r3⟩
        · have li1 := nF_lt (show i < 60 by omega)
          have li2 := nS_lt (show i < 60 by omega)
          rw [at36 _ li1, at36 _ li2]
          by_cases e : i = j
          · subst e
            rw [a2, b2]
            rcases hab with ⟨e, e2⟩ | ⟨e, e2⟩
            · rw [← e2, if_pos rfl, ← e]
              split <;> rfl
            · rw [← e2, if_pos rfl, ← e]
              split <;> rfl
          · rw [j2 i (by omega) hci]
        · rw [at36 k hk] at h
          rw [at36 r hr]
          by_cases hg : nm k = nI hi
          · rw [if_pos hg] at h
            have er := nI_inj (show lo < 60 by omega) (show r < 60 by omega) h
            rw [← er, rlo]
            split <;> rfl
          · rw [if_neg hg] at h
            have := j3 k hk r hr h
            rw [this, if_neg (fun e => hg (h.trans e))]
        · by_cases hq : lo = hi
          · rw [if_pos (by rw [hq]), j4]
            congr 1
            refine cntR_congr 36 (fun k hk => ?_)
            rw [at36 k hk]
            by_cases hg : nm k = nI hi
            · rw [if_pos hg, hg, hq]
            · rw [if_neg hg]
          · have hne : ¬ nI lo = nI hi := fun e => hq (nI_inj (by omega) (by omega) e)
            rw [if_neg hne, j4]
            have hd := cntR_drop (f := nm) (g := nm') rhi (by rw [at36 hi (by omega), if_pos rhi]; exact hne) 36 (fun k hk hkh => ?_)
            · rw [if_pos (by omega)] at hd
              rw [← hd, nI_m1]
            · rw [at36 k hk]
              by_cases hg : nm k = nI hi
              · rw [if_pos hg]
                refine ⟨fun e => absurd (nI_inj (by omega) (by omega) (e.symm.trans hg)) hkh, fun e => ?_⟩
                have := nI_inj (by omega) (by omega) e
                rw [← this, rlo] at hg
                exact absurd hg hne
              · rw [if_neg hg]
  obtain ⟨k1, k2, k3, k4⟩ := key 60 (Nat.le_refl _)
  exact ⟨⟨k1, k2⟩, k4⟩
theorem vf_ok {a : UInt64} (h : FP.Core.dIsNaN a = false) : vf_n64 a := by
  have h1 : a.toNat % 2 ^ 63 ≤ 9218868437227405312 := by
    have := FP.Core.isNaN_bits a
    rw [h] at this
    rcases Nat.lt_or_ge 9218868437227405312 (a.toNat % 2 ^ 63) with w | w
    · exact absurd (this.mpr w) (by decide)
    · exact w
  unfold vf_n64
  rw [UInt64.le_iff_toNat_le, FP.Core.mask_toNat]
  exact h1
theorem i2d_0 : FP.dadd (FP.i2d 0) (FP.i2d 0) = FP.i2d 0 := by decide +kernel
theorem i2d_c : FP.dconst0 = FP.i2d 0 := by decide +kernel
theorem vf_i2d (x : Int32) : vf_n64 (FP.i2d x) := vf_ok (FP.Core.DFin.notNaN (FP.Core.i2d_fin x))
theorem i2d_add {a b : Int32} (ha : 0 ≤ a.toInt ∧ a.toInt ≤ 1000000000) (hb : 0 ≤ b.toInt ∧ b.toInt ≤ 1000000000) : FP.dadd (FP.i2d a) (FP.i2d b) = FP.i2d (a + b) := by
  have e : (a + b).toInt = a.toInt + b.toInt := ti_add (by omega) (by omega)
  by_cases h0 : a.toInt + b.toInt = 0
  · have e1 : a = 0 := Int32.toInt_inj.mp (show a.toInt = (0 : Int32).toInt by rw [show (0 : Int32).toInt = 0 from rfl]; omega)
    have e2 : b = 0 := Int32.toInt_inj.mp (show b.toInt = (0 : Int32).toInt by rw [show (0 : Int32).toInt = 0 from rfl]; omega)
    rw [e1, e2, i2d_0]
    rfl
  · have h1 := FP.Core.dadd_int (FP.Core.i2d_int a) (FP.Core.i2d_int b) (by omega)
    have h2 := FP.Core.i2d_int (a + b)
    rw [e] at h2
    refine FP.Core.val64_inj ?_ (FP.Core.whole_unique FP.Core.good_b64 h0 h1 h2 (FP.Core.val64_fits _) (FP.Core.val64_fits _))
    intro hn
    unfold FP.Core.DInt at h1
    rw [hn] at h1
    exact h1
theorem gSize_congr {f g : Nat → Int32} (h : ∀ k, k < 36 → f k = g k) (x : Int32) : gSize f x = gSize g x :=
  nf_congr 36 (fun i hi b => by rw [h i hi])
def cntX (f : Nat → Int32) (x : Int32) : Nat → Nat
  | 0 => 0
  | n + 1 => cntX f x n + (if f n = x then 1 else 0)
theorem cntX_s (f : Nat → Int32) (x : Int32) (n : Nat) : cntX f x (n + 1) = cntX f x n + (if f n = x then 1 else 0) := rfl
theorem gSize_n (f : Nat → Int32) (x : Int32) : gSize f x = nI (cntX f x 36) := by
  have key : ∀ n, nf (fun i a => if f i = x then a + 1 else a) (0 : Int32) n = nI (cntX f x n) := by
    intro n
    induction n with
    | zero => rfl
    | succ n ih =>
      show (if f n = x then nf _ (0 : Int32) n + 1 else nf _ (0 : Int32) n) = _
      rw [ih, cntX_s]
      by_cases h : f n = x
      · rw [if_pos h, if_pos h, nI_succ]
      · rw [if_neg h, if_neg h, Nat.add_zero]
  exact key 36
theorem cntX_le (f : Nat → Int32) (x : Int32) : ∀ n, cntX f x n ≤ n := by
  intro n
  induction n with
  | zero => exact Nat.le_refl 0
  | succ n ih =>
    rw [cntX_s]
    split <;> omega
theorem cntX_pos {f : Nat → Int32} {x : Int32} {k : Nat} (h : f k = x) : ∀ n, k < n → 1 ≤ cntX f x n := by
  intro n
  induction n with
  | zero => exact fun h => absurd h (by omega)
  | succ n ih =>
    intro hk
    rw [cntX_s]
    by_cases e : k = n
    · subst e
      rw [if_pos h]
      omega
    · have := ih (by omega)
      omega
theorem vf_div {a b : Int32} (hb : ¬ b = 0) : vf_n64 (FP.ddiv (FP.i2d a) (FP.i2d b)) := by
  refine vf_ok (FP.Core.ddiv_out (FP.Core.DFin.notNaN (FP.Core.i2d_fin a)) (FP.Core.i2d_fin b) ?_)
  rw [FP.Core.zero_bits2]
  exact FP.Core.i2d_ne_zero hb
