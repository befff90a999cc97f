/-! class and model: pieces by joining -/
theorem gMin_n {a b : Nat} (ha : a < 60) (hb : b < 60) : gMin (nI a) (nI b) = nI (min a b) ∧ gMax (nI a) (nI b) = nI (max a b) := by
  unfold gMin gMax
  by_cases h : a < b
  · rw [if_neg (nI_nlt (by omega) (by omega)), if_pos (nI_lt h (by omega)), Nat.min_eq_left (by omega), Nat.max_eq_right (by omega)]
    exact ⟨rfl, rfl⟩
  · by_cases h2 : b < a
    · rw [if_pos (nI_lt h2 (by omega)), if_neg (nI_nlt (by omega) (by omega)), Nat.min_eq_right (by omega), Nat.max_eq_left (by omega)]
      exact ⟨rfl, rfl⟩
    · have e : a = b := by omega
      subst e
      rw [if_neg (nI_nlt (Nat.le_refl a) (by omega)), Nat.min_self, Nat.max_self]
      exact ⟨rfl, rfl⟩
theorem join_at (nm : Nat → Int32) (a b : Int32) : ∀ n k, zJoin1 nm a b n k = if k < n then (if nm k = b then a else nm k) else nm k := by
  intro n
  induction n with
  | zero => exact fun k => (if_neg (by omega)).symm
  | succ n ih =>
    intro k
    have e : zJoin1 nm a b (n + 1) = if zJoin1 nm a b n n = b then upd (zJoin1 nm a b n) n a else zJoin1 nm a b n := rfl
    rw [e, ih n, if_neg (Nat.lt_irrefl n)]
    by_cases hb : nm n = b
    · rw [if_pos hb]
      unfold upd
      by_cases hk : k = n
      · subst hk
        rw [if_pos rfl, if_pos (by omega), if_pos hb]
      · rw [if_neg hk, ih k]
        by_cases h : k < n
        · rw [if_pos h, if_pos (show k < n + 1 by omega)]
        · rw [if_neg h, if_neg (show ¬ k < n + 1 by omega)]
    · rw [if_neg hb, ih k]
      by_cases hk : k = n
      · subst hk
        rw [if_neg (by omega), if_pos (by omega), if_neg hb]
      · by_cases h : k < n
        · rw [if_pos h, if_pos (show k < n + 1 by omega)]
        · rw [if_neg h, if_neg (show ¬ k < n + 1 by omega)]
theorem ids_at (nm : Nat → Int32) : ∀ n k, zIds nm n k = if k < n then nI k else nm k := by
  intro n
  induction n with
  | zero => exact fun k => (if_neg (by omega)).symm
  | succ n ih =>
    intro k
    have e : zIds nm (n + 1) = upd (zIds nm n) n (nI n) := rfl
    rw [e]
    unfold upd
    by_cases hk : k = n
    · subst hk
      rw [if_pos rfl, if_pos (by omega)]
    · rw [if_neg hk, ih k]
      by_cases h : k < n
      · rw [if_pos h, if_pos (by omega)]
      · rw [if_neg h, if_neg (by omega)]
def jInv (c nm : Nat → Int32) (j : Nat) (n : Int32) : Prop :=
  nmOk c nm ∧ (∀ i : Nat, i < j → c i = 0 → nm (nF i) = nm (nS i)) ∧ (∀ k : Nat, k < 36 → ∀ r : Nat, r < 36 → nm k = nI r → nm r = nI r) ∧ n = nI (cntR nm 36)
theorem cntR_drop {f g : Nat → Int32} {w : Nat} (hf : f w = nI w) (hg : ¬ g w = nI w) : ∀ n, (∀ k, k < n → ¬ k = w → (f k = nI k ↔ g k = nI k)) → cntR g n + (if w < n then 1 else 0) = cntR f n := by
  intro n
  induction n with
  | zero => exact fun _ => rfl
  | succ n ih =>
    intro h
    have ih := ih (fun k hk => h k (by omega))
    rw [cntR_s, cntR_s]
    by_cases e : n = w
    · subst e
      rw [if_neg (by omega)] at ih
      rw [if_neg hg, if_pos (by omega), if_pos hf]
      omega
    · have e2 : (if w < n + 1 then 1 else 0) = (if w < n then 1 else 0) := by
        by_cases v : w < n
        · rw [if_pos v, if_pos (by omega)]
        · rw [if_neg v, if_neg (by omega)]
      rw [e2]
      clear e2
      generalize (if w < n then 1 else 0) = q at ih ⊢
      have h2 := h n (by omega) e
      by_cases v : f n = nI n
      · rw [if_pos v, if_pos (h2.mp v)]
        omega
      · rw [if_neg v, if_neg (fun x => v (h2.mpr x))]
        omega
theorem join_ok (c nm0 : Nat → Int32) : isName c (zJoin c nm0 60).1 ∧ (zJoin c nm0 60).2 = nI (cntR (zJoin c nm0 60).1 36) := by
  have key : ∀ j, j ≤ 60 → jInv c (zJoin c nm0 j).1 j (zJoin c nm0 j).2 := by
    intro j
    induction j with
    | zero =>
      intro _
      have e : (zJoin c nm0 0).1 = zIds nm0 36 := kseal_eq _
      have e2 : (zJoin c nm0 0).2 = 36 := rfl
      rw [e, e2]
      have ek : ∀ k : Nat, k < 36 → zIds nm0 36 k = nI k := fun k hk => by rw [ids_at, if_pos hk]
      refine ⟨fun k hk => ⟨k, Nat.le_refl _, ek k hk, cc_refl k⟩, fun i hi => absurd hi (by omega), fun k hk r hr h => ek r hr, ?_⟩
      rw [cntR_congr (g := fun k => nI k) 36 ek]
      rfl
    | succ j ih =>
      intro hj
      have ih := ih (by omega)
      have e : zJoin c nm0 (j + 1) = if gWh c (nI j) = 0 then zJoin c nm0 j else (kseal (zJoin1 (zJoin c nm0 j).1 (gMin (gName (zJoin c nm0 j).1 (gFirst (nI j))) (gName (zJoin c nm0 j).1 (gSecond (nI j)))) (gMax (gName (zJoin c nm0 j).1 (gFirst (nI j))) (gName (zJoin c nm0 j).1 (gSecond (nI j)))) 36), if gMin (gName (zJoin c nm0 j).1 (gFirst (nI j))) (gName (zJoin c nm0 j).1 (gSecond (nI j))) = gMax (gName (zJoin c nm0 j).1 (gFirst (nI j))) (gName (zJoin c nm0 j).1 (gSecond (nI j))) then (zJoin c nm0 j).2 else (zJoin c nm0 j).2 + (-1)) := rfl
      rw [e]
      generalize zJoin c nm0 j = y at ih ⊢
      obtain ⟨nm, n⟩ := y
      obtain ⟨j1, j2, j3, j4⟩ := ih
      dsimp only at j1 j2 j3 j4 ⊢
      have hj60 : j < 60 := by omega
      by_cases hw : gWh c (nI j) = 0
      · rw [if_pos hw]
        refine ⟨j1, fun i hi hci => ?_, j3, j4⟩
        by_cases e : i = j
        · rw [e] at hci
          exact absurd hci ((gWh_0 hj60).mp hw)
        · exact j2 i (by omega) hci
      · rw [if_neg hw]
        have hcj := gWh_c hj60 hw
        have l1 := nF_lt hj60
        have l2 := nS_lt hj60
        have hcell : ∀ k : Nat, k < 36 → gName nm (nI k) = nm k := by
          intro k hk
          unfold gName gIsCell
          rw [if_neg (nI_pos (by omega)), if_neg (show ¬ (36 : Int32) ≤ nI k from nI_ge hk (by decide)), if_neg (by decide), nI_clamp (by omega)]
        rw [gFirst_n hj60, gSecond_n hj60, hcell _ l1, hcell _ l2]
        obtain ⟨a, a1, a2, a3⟩ := j1 _ l1
        obtain ⟨b, b1, b2, b3⟩ := j1 _ l2
        have ra := j3 _ l1 a (by omega) a2
        have rb := j3 _ l2 b (by omega) b2
        have cab : cConn c a b := cc_trans (cc_symm a3) (cc_trans (cc_joint hj60 hcj) b3)
        rw [a2, b2]
        obtain ⟨m1, m2⟩ := gMin_n (show a < 60 by omega) (show b < 60 by omega)
        rw [m1, m2, kseal_eq]
        generalize hlo : min a b = lo
        generalize hhi : max a b = hi
        have hle : lo ≤ hi := by omega
        have hab : (lo = a ∧ hi = b) ∨ (lo = b ∧ hi = a) := by omega
        have rlo : nm lo = nI lo := by rcases hab with ⟨e, _⟩ | ⟨e, _⟩ <;> rw [e] <;> assumption
        have rhi : nm hi = nI hi := by rcases hab with ⟨_, e⟩ | ⟨_, e⟩ <;> rw [e] <;> assumption
        have clh : cConn c hi lo := by
          rcases hab with ⟨e, e2⟩ | ⟨e, e2⟩ <;> rw [e, e2]
          · exact cc_symm cab
          · exact cab
        have at36 : ∀ k : Nat, k < 36 → zJoin1 nm (nI lo) (nI hi) 36 k = if nm k = nI hi then nI lo else nm k := fun k hk => by rw [join_at, if_pos hk]
        generalize zJoin1 nm (nI lo) (nI hi) 36 = nm' at at36 ⊢
        show jInv c nm' (j + 1) (if nI lo = nI hi then n else n + (-1))
        refine ⟨fun k hk => ?_, fun i hi2 hci => ?_, fun k hk r hr h => ?_, ?_⟩
        · rw [at36 k hk]
          obtain ⟨r, r1, r2, r3⟩ := j1 k hk
          by_cases hg : nm k = nI hi
          · have er := nI_inj (show r < 60 by omega) (show hi < 60 by omega) (r2.symm.trans hg)
            rw [if_pos hg]
            exact ⟨lo, by omega, rfl, cc_trans (by rw [er] at r3; exact r3) clh⟩
          · rw [if_neg hg]
            exact ⟨r, r1, r2, r3⟩
        · have li1 := nF_lt (show i < 60 by omega)
          have li2 := nS_lt (show i < 60 by omega)
          rw [at36 _ li1, at36 _ li2]
          by_cases e : i = j
          · subst e
            rw [a2, b2]
            rcases hab with ⟨e, e2⟩ | ⟨e, e2⟩
            · rw [← e2, if_pos rfl, ← e]
              split <;> rfl
            · rw [← e2, if_pos rfl, ← e]
              split <;> rfl
          · rw [j2 i (by omega) hci]
        · rw [at36 k hk] at h
          rw [at36 r hr]
          by_cases hg : nm k = nI hi
          · rw [if_pos hg] at h
            have er := nI_inj (show lo < 60 by omega) (show r < 60 by omega) h
            rw [← er, rlo]
            split <;> rfl
          · rw [if_neg hg] at h
            have := j3 k hk r hr h
            rw [this, if_neg (fun e => hg (h.trans e))]
        · by_cases hq : lo = hi
          · rw [if_pos (by rw [hq]), j4]
            congr 1
            refine cntR_congr 36 (fun k hk => ?_)
            rw [at36 k hk]
            by_cases hg : nm k = nI hi
            · rw [if_pos hg, hg, hq]
            · rw [if_neg hg]
          · have hne : ¬ nI lo = nI hi := fun e => hq (nI_inj (by omega) (by omega) e)
            rw [if_neg hne, j4]
            have hd := cntR_drop (f := nm) (g := nm') rhi (by rw [at36 hi (by omega), if_pos rhi]; exact hne) 36 (fun k hk hkh => ?_)
            · rw [if_pos (by omega)] at hd
              rw [← hd, nI_m1]
            · rw [at36 k hk]
              by_cases hg : nm k = nI hi
              · rw [if_pos hg]
                refine ⟨fun e => absurd (nI_inj (by omega) (by omega) (e.symm.trans hg)) hkh, fun e => ?_⟩
                have := nI_inj (by omega) (by omega) e
                rw [← this, rlo] at hg
                exact absurd hg hne
              · rw [if_neg hg]
  obtain ⟨k1, k2, k3, k4⟩ := key 60 (Nat.le_refl _)
  exact ⟨⟨k1, k2⟩, k4⟩
