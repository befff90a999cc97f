/-! class and model: pieces, by going and by joining -/
def cntM (nm : Nat → Int32) : Nat → Nat
  | 0 => 0
  | n + 1 => cntM nm n + (if nm n = -1 then 1 else 0)
theorem cntM_s (nm : Nat → Int32) (n : Nat) : cntM nm (n + 1) = cntM nm n + (if nm n = -1 then 1 else 0) := rfl
theorem cntM_le (nm : Nat → Int32) : ∀ n, cntM nm n ≤ n := by
  intro n
  induction n with
  | zero => exact Nat.le_refl 0
  | succ n ih =>
    rw [cntM_s]
    split <;> omega
theorem cntM_upd {nm : Nat → Int32} {o : Nat} {v : Int32} (ho : nm o = -1) (hv : ¬ v = -1) : ∀ n, cntM (upd nm o v) n + (if o < n then 1 else 0) = cntM nm n := by
  intro n
  induction n with
  | zero => rfl
  | succ n ih =>
    rw [cntM_s, cntM_s]
    by_cases e : n = o
    · subst e
      rw [if_neg (by omega)] at ih
      rw [show upd nm n v n = v from if_pos rfl, if_neg hv, if_pos (by omega), if_pos ho]
      omega
    · rw [show upd nm o v n = nm n from if_neg e]
      have e2 : (if o < n + 1 then 1 else 0) = (if o < n then 1 else 0) := by
        by_cases w : o < n
        · rw [if_pos w, if_pos (by omega)]
        · rw [if_neg w, if_neg (by omega)]
      rw [e2]
      clear e2
      generalize (if o < n then 1 else 0) = q at ih ⊢
      omega
theorem cntM_pos {nm : Nat → Int32} {o : Nat} (ho : nm o = -1) : ∀ n, o < n → 1 ≤ cntM nm n := by
  intro n hn
  have := cntM_upd (v := 0) ho (by decide) n
  rw [if_pos hn] at this
  omega
def cntR (nm : Nat → Int32) : Nat → Nat
  | 0 => 0
  | n + 1 => cntR nm n + (if nm n = nI n then 1 else 0)
theorem cntR_s (nm : Nat → Int32) (n : Nat) : cntR nm (n + 1) = cntR nm n + (if nm n = nI n then 1 else 0) := rfl
theorem cntR_le (nm : Nat → Int32) : ∀ n, cntR nm n ≤ n := by
  intro n
  induction n with
  | zero => exact Nat.le_refl 0
  | succ n ih =>
    rw [cntR_s]
    split <;> omega
theorem cntR_congr {f g : Nat → Int32} : ∀ n, (∀ k, k < n → f k = g k) → cntR f n = cntR g n := by
  intro n
  induction n with
  | zero => exact fun _ => rfl
  | succ n ih =>
    intro h
    rw [cntR_s, cntR_s, ih (fun k hk => h k (by omega)), h n (by omega)]
theorem uCount_n (f : Nat → Int32) : ∀ n, uCount f n = nI (cntR f n) := by
  intro n
  induction n with
  | zero => rfl
  | succ n ih =>
    have e : uCount f (n + 1) = uCount f n + (if f n = nI n then 1 else 0) := rfl
    rw [e, ih, cntR_s]
    by_cases h : f n = nI n
    · rw [if_pos h, if_pos h, nI_succ]
    · rw [if_neg h, if_neg h, Nat.add_zero, Int32.add_zero]
theorem nI_inj {a b : Nat} (ha : a < 60) (hb : b < 60) (h : nI a = nI b) : a = b := (nI_eq (by omega) (by omega)).mp h
/-- a piece's spread: cells reached so far, q of them -/
def sInv (c nm0 : Nat → Int32) (st : Nat) (z : ZSt) (q : Nat) : Prop :=
  z.2.2 = nI q ∧ (∀ t : Nat, t < q → ∃ k : Nat, k < 36 ∧ z.2.1 t = nI k ∧ nm0 k = -1 ∧ cConn c k st) ∧ (∀ k : Nat, k < 36 → z.1 k = nm0 k ∨ (z.1 k = nI st ∧ nm0 k = -1 ∧ cConn c k st ∧ ∃ t : Nat, t < q ∧ z.2.1 t = nI k)) ∧ cntM z.1 36 + q ≤ 36 ∧ z.1 st = nI st
theorem reach_step {c nm0 : Nat → Int32} {st : Nat} {z : ZSt} {q o : Nat} (hst : st < 36) (ho : o < 36) (h : sInv c nm0 st z q) (h0 : nm0 o = -1) (hc : cConn c o st) :
    ∃ q', q ≤ q' ∧ sInv c nm0 st (kReach z (nI o) (nI st)) q' ∧ (kReach z (nI o) (nI st)).1 o = nI st ∧ (∀ t : Nat, t < q → (kReach z (nI o) (nI st)).2.1 t = z.2.1 t) ∧ (∀ x : Nat, x < 36 → z.1 x = nI st → (kReach z (nI o) (nI st)).1 x = nI st) := by
  rw [kReach, kseal_eq]
  obtain ⟨nm, rd, rc⟩ := z
  obtain ⟨s1, s2, s3, s4, s5⟩ := h
  have s1 : rc = nI q := s1
  subst s1
  dsimp only at s2 s3 s4 s5
  have hcell : ∀ k : Nat, k < 36 → ¬ gIsCell (nI k) = 0 := by
    intro k hk
    unfold gIsCell
    rw [if_neg (nI_pos (by omega)), if_neg (show ¬ (36 : Int32) ≤ nI k from nI_ge hk (by decide))]
    decide
  have en : gName nm (nI o) = nm o := by
    unfold gName
    rw [if_neg (hcell o ho), nI_clamp (by omega)]
  have hne : ¬ nI st = -1 := (nI_nm (show st < 60 by omega)).1
  unfold zReach
  dsimp only
  rw [en]
  by_cases hm : nm o = -1
  · have hq : q < 36 := by
      have := cntM_pos hm 36 ho
      omega
    rw [if_neg (fun h => h hm), if_neg (hcell o ho), if_neg (hcell q hq), nI_clamp (by omega), nI_clamp (by omega), ← nI_succ]
    refine ⟨q + 1, by omega, ⟨rfl, fun t ht => ?_, fun k hk => ?_, ?_, ?_⟩, if_pos rfl, fun t ht => if_neg (by omega), fun x hx hxs => ?_⟩
    · show ∃ k : Nat, k < 36 ∧ upd rd q (nI o) t = nI k ∧ nm0 k = -1 ∧ cConn c k st
      by_cases e : t = q
      · exact ⟨o, ho, if_pos e, h0, hc⟩
      · rw [show upd rd q (nI o) t = rd t from if_neg e]
        exact s2 t (by omega)
    · show upd nm o (nI st) k = nm0 k ∨ (upd nm o (nI st) k = nI st ∧ nm0 k = -1 ∧ cConn c k st ∧ ∃ t : Nat, t < q + 1 ∧ upd rd q (nI o) t = nI k)
      by_cases e : k = o
      · rw [e]
        exact Or.inr ⟨if_pos rfl, h0, hc, q, by omega, if_pos rfl⟩
      · rw [show upd nm o (nI st) k = nm k from if_neg e]
        rcases s3 k hk with w | ⟨w1, w2, w3, t, w4, w5⟩
        · exact Or.inl w
        · exact Or.inr ⟨w1, w2, w3, t, by omega, (if_neg (by omega)).trans w5⟩
    · show cntM (upd nm o (nI st)) 36 + (q + 1) ≤ 36
      have := cntM_upd (v := nI st) hm hne 36
      rw [if_pos ho] at this
      omega
    · show upd nm o (nI st) st = nI st
      unfold upd
      split
      · rfl
      · exact s5
    · show upd nm o (nI st) x = nI st
      unfold upd
      split
      · rfl
      · exact hxs
  · rw [if_pos hm]
    refine ⟨q, Nat.le_refl _, ⟨rfl, s2, s3, s4, s5⟩, ?_, fun _ _ => rfl, fun _ _ h => h⟩
    rcases s3 o ho with w | w
    · exact absurd (w.trans h0) hm
    · exact w.1
theorem side_to : ∀ j, j < 60 → (∃ d, d < 4 ∧ gJointAt (nI (nF j)) (nI d) = nI j ∧ gOther (nI j) (nI (nF j)) = nI (nS j)) ∧ (∃ d, d < 4 ∧ gJointAt (nI (nS j)) (nI d) = nI j ∧ gOther (nI j) (nI (nS j)) = nI (nF j)) := by decide +kernel
theorem side_of : ∀ k, k < 36 → ∀ d, d < 4 → sVal k d = true → ((nF (sJo k d) = k ∧ gOther (nI (sJo k d)) (nI k) = nI (nS (sJo k d))) ∨ (nS (sJo k d) = k ∧ gOther (nI (sJo k d)) (nI k) = nI (nF (sJo k d)))) := by decide +kernel
/-- what is over a cell's whole joints is reached -/
def clo (c nm : Nat → Int32) (st k : Nat) : Prop := ∀ j : Nat, j < 60 → c j = 0 → (nF j = k → nm (nS j) = nI st) ∧ (nS j = k → nm (nF j) = nI st)
theorem in_step {c nm0 : Nat → Int32} {st k : Nat} (hst : st < 36) (hk : k < 36) (hG : nmEq c nm0) (h0 : nm0 k = -1) (hc : cConn c k st) {z : ZSt} {q : Nat} (h : sInv c nm0 st z q) :
    ∃ q', q ≤ q' ∧ sInv c nm0 st (zIn c (nI st) (nI k) z 4) q' ∧ (∀ t : Nat, t < q → (zIn c (nI st) (nI k) z 4).2.1 t = z.2.1 t) ∧ (∀ x : Nat, x < 36 → z.1 x = nI st → (zIn c (nI st) (nI k) z 4).1 x = nI st) ∧ clo c (zIn c (nI st) (nI k) z 4).1 st k := by
  have key : ∀ d, d ≤ 4 → ∃ q', q ≤ q' ∧ sInv c nm0 st (zIn c (nI st) (nI k) z d) q' ∧ (∀ t : Nat, t < q → (zIn c (nI st) (nI k) z d).2.1 t = z.2.1 t) ∧ (∀ x : Nat, x < 36 → z.1 x = nI st → (zIn c (nI st) (nI k) z d).1 x = nI st) ∧ ∀ d' : Nat, d' < d → ∀ j : Nat, j < 60 → c j = 0 → gJointAt (nI k) (nI d') = nI j → ∀ o : Nat, o < 36 → gOther (nI j) (nI k) = nI o → (zIn c (nI st) (nI k) z d).1 o = nI st := by
    intro d
    induction d with
    | zero => exact fun _ => ⟨q, Nat.le_refl _, h, fun _ _ => rfl, fun _ _ h => h, fun d' hd => absurd hd (by omega)⟩
    | succ d ih =>
      intro hd
      obtain ⟨q1, i1, i2, i3, i4, i5⟩ := ih (by omega)
      have e : zIn c (nI st) (nI k) z (d + 1) = if gWh c (gJointAt (nI k) (nI d)) = 0 then zIn c (nI st) (nI k) z d else kReach (zIn c (nI st) (nI k) z d) (gOther (gJointAt (nI k) (nI d)) (nI k)) (nI st) := rfl
      rw [e]
      generalize zIn c (nI st) (nI k) z d = y at i2 i3 i4 i5 ⊢
      cases hv : sVal k d with
      | false =>
        have ej := (sJo_ok k hk d (by omega)).2 hv
        rw [ej, if_pos (show gWh c (-1) = 0 from rfl)]
        refine ⟨q1, i1, i2, i3, i4, fun d' hd' j hj hcj hg o ho hoo => ?_⟩
        by_cases e2 : d' = d
        · rw [e2, ej] at hg
          exact absurd hg.symm (nI_nm hj).1
        · exact i5 d' (by omega) j hj hcj hg o ho hoo
      | true =>
        obtain ⟨ej, hj0⟩ := (sJo_ok k hk d (by omega)).1 hv
        have hso := side_of k hk d (by omega) hv
        rw [ej]
        by_cases hw : gWh c (nI (sJo k d)) = 0
        · rw [if_pos hw]
          refine ⟨q1, i1, i2, i3, i4, fun d' hd' j hj hcj hg o ho hoo => ?_⟩
          by_cases e2 : d' = d
          · rw [e2, ej] at hg
            have := nI_inj hj0 hj hg
            rw [this] at hw
            exact absurd hcj ((gWh_0 hj).mp hw)
          · exact i5 d' (by omega) j hj hcj hg o ho hoo
        · rw [if_neg hw]
          have hcj := gWh_c hj0 hw
          have ho : ∃ o : Nat, o < 36 ∧ gOther (nI (sJo k d)) (nI k) = nI o ∧ nm0 o = -1 ∧ cConn c o st := by
            rcases hso with ⟨a, b⟩ | ⟨a, b⟩
            · refine ⟨nS (sJo k d), nS_lt hj0, b, ?_, ?_⟩
              · rw [← hG _ hj0 hcj, a]
                exact h0
              · refine cc_trans (cc_joint' hj0 hcj) ?_
                rw [a]
                exact hc
            · refine ⟨nF (sJo k d), nF_lt hj0, b, ?_, ?_⟩
              · rw [hG _ hj0 hcj, a]
                exact h0
              · refine cc_trans (cc_joint hj0 hcj) ?_
                rw [a]
                exact hc
          obtain ⟨o, o1, o2, o3, o4⟩ := ho
          rw [o2]
          obtain ⟨q2, r1, r2, r3, r4, r5⟩ := reach_step hst o1 i2 o3 o4
          refine ⟨q2, by omega, r2, fun t ht => (r4 t (by omega)).trans (i3 t ht), fun x hx h => r5 x hx (i4 x hx h), fun d' hd' j hj hcj2 hg o' ho' hoo => ?_⟩
          by_cases e2 : d' = d
          · rw [e2, ej] at hg
            have := nI_inj hj0 hj hg
            rw [← this, o2] at hoo
            have := nI_inj (by omega) (by omega) hoo
            rw [← this]
            exact r3
          · exact r5 o' ho' (i5 d' (by omega) j hj hcj2 hg o' ho' hoo)
  obtain ⟨q', k1, k2, k3, k4, k5⟩ := key 4 (Nat.le_refl _)
  refine ⟨q', k1, k2, k3, k4, fun j hj hcj => ⟨fun e => ?_, fun e => ?_⟩⟩
  · obtain ⟨⟨d, d1, d2, d3⟩, -⟩ := side_to j hj
    rw [e] at d2 d3
    exact k5 d d1 j hj hcj d2 _ (nS_lt hj) d3
  · obtain ⟨-, ⟨d, d1, d2, d3⟩⟩ := side_to j hj
    rw [e] at d2 d3
    exact k5 d d1 j hj hcj d2 _ (nF_lt hj) d3
theorem spread_step {c nm0 : Nat → Int32} {st : Nat} (hst : st < 36) (hG : nmEq c nm0) : ∀ d p (z : ZSt) (q : Nat), p + d = 36 → p ≤ q → sInv c nm0 st z q → (∀ t : Nat, t < p → ∀ k : Nat, k < 36 → z.2.1 t = nI k → clo c z.1 st k) →
    ∃ q', sInv c nm0 st (zSpread c (nI st) d p z) q' ∧ ∀ t : Nat, t < q' → ∀ k : Nat, k < 36 → (zSpread c (nI st) d p z).2.1 t = nI k → clo c (zSpread c (nI st) d p z).1 st k := by
  intro d
  induction d with
  | zero =>
    intro p z q hp hpq hs hc
    have h36 : q ≤ 36 := by
      have := hs.2.2.2.1
      omega
    have e : q = p := by omega
    subst e
    exact ⟨q, hs, hc⟩
  | succ d ih =>
    intro p z q hp hpq hs hc
    have e : zSpread c (nI st) (d + 1) p z = if z.2.2 ≤ nI p then z else zSpread c (nI st) d (p + 1) (zIn c (nI st) (z.2.1 p) z 4) := rfl
    have h36 : q ≤ 36 := by
      have := hs.2.2.2.1
      omega
    rw [e]
    by_cases hle : z.2.2 ≤ nI p
    · rw [if_pos hle]
      rw [hs.1] at hle
      have := (nI_leI (by omega) (by omega)).mp hle
      have e : q = p := by omega
      subst e
      exact ⟨q, hs, hc⟩
    · rw [if_neg hle]
      have hlt : p < q := by
        rcases Nat.lt_or_ge p q with w | w
        · exact w
        · exact absurd (by rw [hs.1]; exact nI_le w (by omega)) hle
      obtain ⟨k, k1, k2, k3, k4⟩ := hs.2.1 p hlt
      rw [k2]
      obtain ⟨q1, i1, i2, i3, i4, i5⟩ := in_step hst k1 hG k3 k4 hs
      refine ih (p + 1) _ q1 (by omega) (by omega) i2 (fun t ht k' hk' ht2 => ?_)
      by_cases e : t = p
      · rw [e, i3 p hlt, k2] at ht2
        have := nI_inj (by omega) (by omega) ht2
        rw [← this]
        exact i5
      · rw [i3 t (by omega)] at ht2
        have hcl := hc t (by omega) k' hk' ht2
        exact fun j hj hcj => ⟨fun e => i4 _ (nS_lt hj) ((hcl j hj hcj).1 e), fun e => i4 _ (nF_lt hj) ((hcl j hj hcj).2 e)⟩
/-- the names ahead of a cell to begin with -/
def gInv (c nm : Nat → Int32) (i : Nat) (n : Int32) : Prop :=
  (∀ k : Nat, k < 36 → nm k = -1 ∨ ∃ r : Nat, r < i ∧ r ≤ k ∧ nm k = nI r ∧ cConn c k r) ∧ nmEq c nm ∧ (∀ k : Nat, k < i → ¬ nm k = -1) ∧ n = nI (cntR nm i)
theorem from_step {c : Nat → Int32} {z : ZSt} {i : Nat} {n : Int32} (hi : i < 36) (h : gInv c z.1 i n) (h0 : z.1 i = -1) : gInv c (kseal (zFrom c (nI i) z)).1 (i + 1) (n + 1) := by
  rw [kseal_eq]
  obtain ⟨g1, g2, g3, g4⟩ := h
  unfold zFrom
  have hcell : ∀ k : Nat, k < 36 → ¬ gIsCell (nI k) = 0 := by
    intro k hk
    unfold gIsCell
    rw [if_neg (nI_pos (by omega)), if_neg (show ¬ (36 : Int32) ≤ nI k from nI_ge hk (by decide))]
    decide
  have hne : ¬ nI i = -1 := (nI_nm (show i < 60 by omega)).1
  have e0 : kReach (z.1, z.2.1, 0) (nI i) (nI i) = (upd z.1 i (nI i), upd z.2.1 0 (nI i), nI 1) := by
    rw [kReach, kseal_eq]
    unfold zReach
    dsimp only
    have en : gName z.1 (nI i) = z.1 i := by
      unfold gName
      rw [if_neg (hcell i hi), nI_clamp (by omega)]
    rw [en, if_neg (fun h => h h0), if_neg (hcell i hi), if_neg (show ¬ gIsCell 0 = 0 by decide), nI_clamp (by omega)]
    rfl
  rw [e0]
  have hs : sInv c z.1 i (upd z.1 i (nI i), upd z.2.1 0 (nI i), nI 1) 1 := by
    refine ⟨rfl, fun t ht => ⟨i, hi, ?_, h0, cc_refl i⟩, fun k hk => ?_, ?_, if_pos rfl⟩
    · show upd z.2.1 0 (nI i) t = nI i
      exact if_pos (by omega)
    · show upd z.1 i (nI i) k = z.1 k ∨ (upd z.1 i (nI i) k = nI i ∧ z.1 k = -1 ∧ cConn c k i ∧ ∃ t : Nat, t < 1 ∧ upd z.2.1 0 (nI i) t = nI k)
      by_cases e : k = i
      · rw [e]
        exact Or.inr ⟨if_pos rfl, h0, cc_refl i, 0, by omega, if_pos rfl⟩
      · exact Or.inl (if_neg e)
    · show cntM (upd z.1 i (nI i)) 36 + 1 ≤ 36
      have := cntM_upd (v := nI i) h0 hne 36
      rw [if_pos hi] at this
      have := cntM_le z.1 36
      omega
  obtain ⟨q', s, hcl⟩ := spread_step hi g2 36 0 _ 1 rfl (by omega) hs (fun t ht => absurd ht (by omega))
  generalize zSpread c (nI i) 36 0 (upd z.1 i (nI i), upd z.2.1 0 (nI i), nI 1) = y at s hcl ⊢
  obtain ⟨s1, s2, s3, s4, s5⟩ := s
  refine ⟨fun k hk => ?_, fun j hj hcj => ?_, fun k hk => ?_, ?_⟩
  · rcases s3 k hk with w | ⟨w1, w2, w3, w4⟩
    · rw [w]
      rcases g1 k hk with v | ⟨r, v1, v2, v3, v4⟩
      · exact Or.inl v
      · exact Or.inr ⟨r, by omega, v2, v3, v4⟩
    · refine Or.inr ⟨i, by omega, ?_, w1, w3⟩
      rcases Nat.lt_or_ge k i with v | v
      · exact absurd w2 (g3 k v)
      · exact v
  · rcases s3 _ (nF_lt hj) with w | ⟨w1, w2, w3, t, w4, w5⟩
    · rcases s3 _ (nS_lt hj) with v | ⟨v1, v2, v3, t, v4, v5⟩
      · rw [w, v]
        exact g2 j hj hcj
      · rw [v1]
        exact (hcl t v4 _ (nS_lt hj) v5 j hj hcj).2 rfl
    · rw [w1]
      exact ((hcl t w4 _ (nF_lt hj) w5 j hj hcj).1 rfl).symm
  · by_cases e : k = i
    · rw [e, s5]
      exact hne
    · rcases s3 k (by omega) with w | ⟨w1, w2, _⟩
      · rw [w]
        exact g3 k (by omega)
      · exact absurd w2 (g3 k (by omega))
  · have ec : cntR y.1 i = cntR z.1 i := by
      refine cntR_congr i (fun k hk => ?_)
      rcases s3 k (by omega) with w | ⟨w1, w2, _⟩
      · exact w
      · exact absurd w2 (g3 k hk)
    rw [cntR_s, ec, if_pos s5, g4, nI_succ]
theorem go_ok (c : Nat → Int32) (z : ZSt) : isName c (zGo c z 36).1.1 ∧ (zGo c z 36).2 = nI (cntR (zGo c z 36).1.1 36) := by
  have key : ∀ i, i ≤ 36 → gInv c (zGo c z i).1.1 i (zGo c z i).2 := by
    intro i
    induction i with
    | zero =>
      intro _
      have e : ∀ k : Nat, k < 36 → fillA 36 z.1 (-1) k = -1 := fun k hk => if_pos hk
      refine ⟨fun k hk => Or.inl (e k hk), fun j hj _ => ?_, fun k hk => absurd hk (by omega), rfl⟩
      exact (e _ (nF_lt hj)).trans (e _ (nS_lt hj)).symm
    | succ i ih =>
      intro hi
      have ih := ih (by omega)
      have e : zGo c z (i + 1) = if (zGo c z i).1.1 i = -1 then (kseal (zFrom c (nI i) (zGo c z i).1), (zGo c z i).2 + 1) else zGo c z i := rfl
      rw [e]
      generalize zGo c z i = y at ih ⊢
      by_cases h0 : y.1.1 i = -1
      · rw [if_pos h0]
        exact from_step (by omega) ih h0
      · rw [if_neg h0]
        obtain ⟨g1, g2, g3, g4⟩ := ih
        refine ⟨fun k hk => ?_, g2, fun k hk => ?_, ?_⟩
        · rcases g1 k hk with v | ⟨r, v1, v2, v3, v4⟩
          · exact Or.inl v
          · exact Or.inr ⟨r, by omega, v2, v3, v4⟩
        · by_cases e : k = i
          · rw [e]
            exact h0
          · exact g3 k (by omega)
        · rcases g1 i (by omega) with v | ⟨r, v1, v2, v3, v4⟩
          · exact absurd v h0
          · rw [cntR_s, if_neg (fun e2 => by
              have := nI_inj (show r < 60 by omega) (show i < 60 by omega) (v3.symm.trans e2)
              omega), Nat.add_zero]
            exact g4
  obtain ⟨g1, g2, g3, g4⟩ := key 36 (Nat.le_refl _)
  refine ⟨⟨fun k hk => ?_, g2⟩, g4⟩
  rcases g1 k hk with v | ⟨r, v1, v2, v3, v4⟩
  · exact absurd v (g3 k hk)
  · exact ⟨r, v2, v3, v4⟩
