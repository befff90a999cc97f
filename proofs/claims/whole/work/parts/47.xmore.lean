/-! class and model: undo, save, restore, texts, what would be -/
theorem va_cpy_all {f g : Nat → Int32} {p : PSt} {sp : Nat} (h : ∀ k : Nat, k < 164 → f (sp + k) = mE p k) (hg : sZ g) : va_cpy f g sp 0 164 = mE p := by
  funext k
  unfold va_cpy
  by_cases hk : k < 164
  · rw [if_pos ⟨by omega, by omega⟩, ← h k hk]
    congr 1
  · rw [if_neg (by omega), hg k (by omega), mE_hi (by omega)]
theorem x_undo {k : Nat} {c : CSt} {m : RSt} (hr : Rel k c m) (hk : k < 512) : (cUndo c).2 = (rUndo m).2 ∧ Rel (k + 1) (cUndo c).1 (rUndo m).1 := by
  obtain ⟨a, t, u, b, h, d, z, w⟩ := c
  obtain ⟨s, ad, pa, ke, pd, fl, nm, kn, ik, ln, sg, sp, fo, ho, ta, tR, tm⟩ := m
  have hm := Rel_mono hr
  have hR := hr
  obtain ⟨⟨a1, a2, a3⟩, b1, ⟨c1, c2, c3⟩, ⟨d1, d2⟩, e1⟩ := hr
  dsimp only at a1 a2 a3 b1 c1 c2 c3 d1 d2 e1
  have hh := d2
  obtain ⟨⟨f1, f2, f3⟩, n, q1, q2, q3, q4⟩ := d2
  have q2 : h.1 = nI n := q2
  unfold cUndo rUndo kTake
  dsimp only
  rw [kseal_eq]
  match n, q1, q2, q3, q4 with
  | 0, q1, q2, q3, q4 =>
    have e : hTake (zDn h) a = (zDn h, a) := if_pos q2
    rw [e, if_pos (show h.1 = 0 from q2), if_pos (show kn = 0 from q3)]
    refine ⟨rfl, ?_⟩
    show Rel (k + 1) (a, t, u, b, zUp (zDn h), d, z, w) _
    rw [up_dn d1.1]
    exact hm
  | n + 1, q1, q2, q3, q4 =>
    have hn0 : ¬ h.1 = 0 := by
      rw [q2]
      exact nI_ne0 (by omega) (by omega)
    have hk0 : ¬ kn = 0 := by
      rw [q3]
      exact nI_ne0 (by omega) (by omega)
    have e1 : h.1 - 1 = nI n := by rw [q2, nI_pred]
    have e2 : kn - 1 = nI n := by rw [q3, nI_pred]
    have e : hTake (zDn h) a = ((nI n, (zDn h).2), pCopy a (hAt (zDn h) n)) := by
      unfold hTake
      rw [if_neg (show ¬ (zDn h).1 = 0 from hn0), show (zDn h).1 - 1 = nI n from e1, nI_clamp (by omega)]
      rfl
    rw [e, if_neg hn0, if_neg hk0, e2, nI_clamp (by omega)]
    refine ⟨rfl, ?_⟩
    have hq := q4 n (by omega)
    have hs : va_cpy pa s (164 * n) 0 164 = mE (hAt (zDn h) n) := va_cpy_all (hq.2) (by rw [a2]; exact sZ_E)
    have hc := copy_pE a1.1 hq.1.1
    show Rel (k + 1) (pCopy a (hAt (zDn h) n), t, u, b, zUp (nI n, (zDn h).2), d, z, w) (va_cpy pa s (164 * n) 0 164, ad, pa, ke, pd, fl, nm, nI n, ik, ln, sg, sp, fo, ho, ta, tR, tm)
    rw [hs, mE_pE hc.1]
    obtain ⟨m1, m2, m3, m4, m5⟩ := hm
    refine ⟨⟨copy_pG (pG_tOk a1) (pG_mono (bK_le k) hq.1), rfl, a3⟩, m2, m3, ⟨⟨hOk_up f1, show ¬ nI n < 0 from nI_pos (by omega), show nI n ≤ nI 4 from nI_le (by omega) (by omega)⟩, ?_⟩, m5⟩
    show HR (bK (k + 1)) (zDn (zUp (nI n, (zDn h).2))) pa (nI n)
    rw [dn_up]
    refine ⟨⟨f1, f2, f3⟩, n, by omega, rfl, rfl, fun i hi => ?_⟩
    have hi2 := q4 i (by omega)
    exact ⟨pG_mono (bK_le k) hi2.1, hi2.2⟩
theorem x_save {k : Nat} {c : CSt} {m : RSt} (hr : Rel k c m) (hk : k < 512) : (cSave c).2 = (rSave m).2 ∧ Rel (k + 1) (cSave c).1 (rSave m).1 := by
  obtain ⟨a, t, u, b, h, d, z, w⟩ := c
  obtain ⟨s, ad, pa, ke, pd, fl, nm, kn, ik, ln, sg, sp, fo, ho, ta, tR, tm⟩ := m
  have hm := Rel_mono hr
  have hR := hr
  obtain ⟨⟨a1, a2, a3⟩, b1, ⟨c1, c2, c3⟩, ⟨d1, d2⟩, e1⟩ := hr
  dsimp only at a1 a2 a3 b1 c1 c2 c3 d1 d2 e1
  unfold cSave rSave
  dsimp only
  obtain ⟨m1, m2, m3, m4, m5⟩ := hm
  have hc := copy_pE c1.1 a1.1
  refine ⟨?_, m1, m2, ⟨pG_tOk (copy_pG c1 a1), rfl, Or.inr ⟨copy_pG c1 (pG_mono (bK_le k) a1), fun i hi => ?_⟩⟩, m4, m5⟩
  · show pMinutes a = s 3
    rw [a2]
    rfl
  · show va_cpy s ke 0 0 164 i = mE (pCopy u a) i
    rw [← mE_pE hc.1, ← a2, va_cpyA]
    exact if_pos hi
theorem x_restore {k : Nat} {c : CSt} {m : RSt} (hr : Rel k c m) (hk : k < 512) : (cRestore c).2 = (rRestore m).2 ∧ Rel (k + 1) (cRestore c).1 (rRestore m).1 := by
  obtain ⟨a, t, u, b, h, d, z, w⟩ := c
  obtain ⟨s, ad, pa, ke, pd, fl, nm, kn, ik, ln, sg, sp, fo, ho, ta, tR, tm⟩ := m
  have hm := Rel_mono hr
  have hR := hr
  obtain ⟨⟨a1, a2, a3⟩, b1, ⟨c1, c2, c3⟩, ⟨d1, d2⟩, e1⟩ := hr
  dsimp only at a1 a2 a3 b1 c1 c2 c3 d1 d2 e1
  unfold cRestore rRestore
  dsimp only
  by_cases hb : b = 0
  · rw [if_pos hb, if_pos (c2.symm.trans hb)]
    exact ⟨rfl, hm⟩
  · have hik : ¬ ik = 0 := fun e => hb (c2.trans e)
    rw [if_neg hb, if_neg hik]
    have hu := c3.resolve_left hb
    have hc := copy_pE a1.1 hu.1.1
    have hs : va_cpy ke s 0 0 164 = mE (pCopy a u) := by
      rw [va_cpy_all (p := u) (fun k hk => by rw [Nat.zero_add]; exact hu.2 k hk) (by rw [a2]; exact sZ_E), mE_pE hc.1]
    rw [hs]
    refine ⟨rfl, ?_⟩
    exact Rel_now hR (copy_pG (pG_tOk a1) (pG_mono (bK_le k) hu.1)) a3
theorem x_clear {k : Nat} {c : CSt} {m : RSt} (hr : Rel k c m) (hk : k < 512) : (cClear c).2 = (rClear m).2 ∧ Rel (k + 1) (cClear c).1 (rClear m).1 := by
  obtain ⟨a, t, u, b, h, d, z, w⟩ := c
  obtain ⟨s, ad, pa, ke, pd, fl, nm, kn, ik, ln, sg, sp, fo, ho, ta, tR, tm⟩ := m
  have hm := Rel_mono hr
  have hR := hr
  obtain ⟨⟨a1, a2, a3⟩, b1, ⟨c1, c2, c3⟩, ⟨d1, d2⟩, e1⟩ := hr
  dsimp only at a1 a2 a3 b1 c1 c2 c3 d1 d2 e1
  obtain ⟨m1, m2, m3, m4, m5⟩ := hm
  obtain ⟨⟨n, n1, n2, n3, n4⟩, n5⟩ := e1
  refine ⟨n2.trans n3.symm, m1, m2, m3, m4, ⟨0, by omega, ?_, rfl, fun i hi => absurd hi (by omega)⟩, ?_⟩
  · obtain ⟨ch, am, rt, mn, l, r⟩ := d
    rfl
  · obtain ⟨ch, am, rt, mn, l, r⟩ := d
    exact n5
theorem char_ok : ∀ j, j < 127 → ((nI j).toUInt32 % 65536).toInt32 = nI j := by decide +kernel
theorem nar_ok : ∀ j, j < 127 → vp_nar .char (nI j) = nI j := by decide +kernel
theorem x_append {k : Nat} {c : CSt} {m : RSt} (x : Int32) (hr : Rel k c m) (hk : k < 512) : (cAppend c x).2 = (rAppend m x).2 ∧ Rel (k + 1) (cAppend c x).1 (rAppend m x).1 := by
  obtain ⟨a, t, u, b, h, d, z, w⟩ := c
  obtain ⟨s, ad, pa, ke, pd, fl, nm, kn, ik, ln, sg, sp, fo, ho, ta, tR, tm⟩ := m
  have hm := Rel_mono hr
  have hR := hr
  obtain ⟨⟨a1, a2, a3⟩, b1, ⟨c1, c2, c3⟩, ⟨d1, d2⟩, e1⟩ := hr
  dsimp only at a1 a2 a3 b1 c1 c2 c3 d1 d2 e1
  unfold cAppend rAppend
  dsimp only
  by_cases hq : gOut x 33 126 = 0
  · rw [if_pos hq, if_neg (in_neg hq)]
    have hx : 33 ≤ x.toInt ∧ x.toInt ≤ 126 := out_bd hq
    have hx0 : ¬ x < 0 := by
      rw [Int32.lt_iff_toInt_lt, show (0 : Int32).toInt = 0 from rfl]
      omega
    obtain ⟨j, hj, rfl⟩ := nI_of hx0
    rw [nI_toInt hj] at hx
    rw [char_ok j (by omega), kseal_eq]
    obtain ⟨ch, am, rt, mn, l, r⟩ := d
    obtain ⟨⟨n, n1, n2, n3, n4⟩, n5⟩ := e1
    have n2 : l = nI n := n2
    subst n2
    subst n3
    have et : dTake (ch, am, rt, mn, nI n, r) (nI j) = if nI n = 60 then ((ch, am, rt, mn, nI n, r), 0) else ((upd ch n (nI j), am, rt, mn, nI n + 1, r), 1) := by
      unfold dTake
      dsimp only
      rw [if_neg (nI_pos (by omega)), nI_clamp (by omega)]
      by_cases h60 : n = 60
      · subst h60
        rfl
      · have hlt : nI n < 60 := show nI n < nI 60 from nI_lt (by omega) (by omega)
        have hne : ¬ nI n = 60 := fun e => h60 ((nI_eq (by omega) (by omega)).mp (show nI n = nI 60 from e))
        rw [if_pos hlt, if_neg hne, nar_ok j (by omega)]
    rw [et]
    obtain ⟨m1, m2, m3, m4, m5⟩ := hm
    by_cases h60 : nI n = 60
    · rw [if_pos h60, if_pos h60]
      exact ⟨rfl, m1, m2, m3, m4, m5⟩
    · rw [if_neg h60, if_neg h60]
      have hn : n < 60 := by
        rcases Nat.lt_or_ge n 60 with w | w
        · exact w
        · have e : n = 60 := by omega
          subst e
          exact absurd rfl h60
      refine ⟨rfl, m1, m2, m3, m4, ⟨n + 1, by omega, (nI_succ n).symm, (nI_succ n).symm, fun i hi => ?_⟩, n5⟩
      show upd ch n (nI j) i = upd pd (nI n).toNatClampNeg (nI j) i ∧ 33 ≤ (upd pd (nI n).toNatClampNeg (nI j) i).toInt ∧ (upd pd (nI n).toNatClampNeg (nI j) i).toInt ≤ 126
      rw [nI_clamp (by omega)]
      unfold upd
      by_cases e : i = n
      · rw [if_pos e, if_pos e, nI_toInt hj]
        exact ⟨rfl, hx⟩
      · rw [if_neg e, if_neg e]
        exact n4 i (by omega)
  · rw [if_neg hq, if_pos (in_pos hq)]
    exact ⟨rfl, hm⟩
theorem Rel_trial {k : Nat} {a t u : PSt} {b : Int32} {r} {t' : PSt} {ad' fl' : Nat → Int32} {sg' : Int32} {m : RSt} (hr : Rel k (a, t, u, b, r) m) (ht : tOk t') (hf : gZ fl') (r' : FSt) :
    Rel k (a, t', u, b, r.1, r.2.1, r.2.2.1, r') (m.1, ad', m.2.2.1, m.2.2.2.1, m.2.2.2.2.1, fl', m.2.2.2.2.2.2.1, m.2.2.2.2.2.2.2.1, m.2.2.2.2.2.2.2.2.1, m.2.2.2.2.2.2.2.2.2.1, sg', m.2.2.2.2.2.2.2.2.2.2.2) := by
  obtain ⟨⟨a1, a2, a3⟩, b1, c1, d1, e1⟩ := hr
  exact ⟨⟨a1, a2, hf⟩, ht, c1, d1, e1⟩
theorem clamp_le {x : Int32} {n : Nat} (h1 : 0 ≤ x.toInt) (h2 : x.toInt ≤ n) : x.toNatClampNeg ≤ n := by
  have e : x.toNatClampNeg = x.toInt.toNat := rfl
  omega
theorem x_ifPassed {k : Nat} {c : CSt} {m : RSt} (x y : Int32) (hr : Rel k c m) (hk : k < 512) : (cIf c x y).2 = (rIf m x y).2 ∧ Rel (k + 1) (cIf c x y).1 (rIf m x y).1 := by
  obtain ⟨a, t, u, b, h, d, z, w⟩ := c
  obtain ⟨s, ad, pa, ke, pd, fl, nm, kn, ik, ln, sg, sp, fo, ho, ta, tR, tm⟩ := m
  have hm := Rel_mono hr
  have hR := hr
  obtain ⟨⟨a1, a2, a3⟩, b1, ⟨c1, c2, c3⟩, ⟨d1, d2⟩, e1⟩ := hr
  dsimp only at a1 a2 a3 b1 c1 c2 c3 d1 d2 e1
  unfold cIf rIf
  dsimp only
  by_cases hq : gOut x 1 99 = 0
  · rw [if_pos hq, if_neg (in_neg hq)]
    by_cases hq2 : gOut y 0 3 = 0
    · rw [if_pos hq2, if_neg (in_neg hq2)]
      have hx : 1 ≤ x.toInt ∧ x.toInt ≤ 99 := out_bd hq
      have hc := copy_pE b1.1 a1.1
      have hl := look_rel (x := sg) (bK_ok (show k ≤ 512 by omega)) (copy_pG b1 a1) (q := (a.1, fl, a.2.2)) ⟨hc.1.1.symm, hc.1.2.symm⟩ a3 x.toNatClampNeg (Nat.lt_of_le_of_lt (clamp_le (n := 99) (by omega) (by omega)) (by decide))
      rw [mD_a a2 a1.1, kLook, kseal_eq, kIf, kseal_eq]
      refine ⟨?_, Rel_trial hm (pG_tOk hl.2.2.1) hl.2.1 _⟩
      generalize hU : uIf (a.1, fl, a.2.2) sg x.toNatClampNeg = U at hl ⊢
      generalize hV : pLook (pCopy t a) x.toNatClampNeg = V at hl ⊢
      obtain ⟨l1, l2, l3, l4, l5⟩ := hl
      show (if y = 0 then V.2.1 else if y = 1 then V.2.2.1 else if y = 2 then V.2.2.2 else pLoss V.1) = (if y = 0 then U.2.2.1 else if y = 1 then U.2.2.2.1 else if y = 2 then U.2.2.2.2 else mE U.1 4)
      rw [l4]
      have el : pLoss V.1 = mE U.1 4 := by
        rw [← mE_pE l1]
        rfl
      rw [el]
    · rw [if_neg hq2, if_pos (in_pos hq2)]
      exact ⟨rfl, hm⟩
  · rw [if_neg hq, if_pos (in_pos hq)]
    exact ⟨rfl, hm⟩
theorem fast_rel {B : Int} (hb : bOk B) {a : PSt} {s : Nat → Int32} {x y : Int32} (ha : pG B a) (hs : s = mE a) (hx : 0 ≤ x.toInt ∧ x.toInt ≤ 1000) : ∀ r, r ≤ 100 → ∀ {t : PSt} {fl : Nat → Int32} {sg : Int32}, tOk t → gZ fl → (fFast a x y r t).2 = (uFast s x y r fl sg).2.2 ∧ tOk (fFast a x y r t).1 ∧ gZ (uFast s x y r fl sg).1 := by
  intro r
  induction r with
  | zero => exact fun _ _ _ _ ht hf => ⟨rfl, ht, hf⟩
  | succ r ih =>
    intro hr t fl sg ht hf
    have hc := copy_pE ht.1 ha.1
    have hp : pG B (pSetAim (pCopy t a) x (nI (r + 1))) := pG_aim (copy_pG ht ha) hx (by rw [nI_toInt (by omega)]; omega)
    have he : pE (pSetAim (pCopy t a) x (nI (r + 1))) (pSetAim (mD s fl) x (nI (r + 1))) := by
      rw [mD_a hs ha.1, copy_eq ht.1 ha.1]
      exact ⟨rfl, rfl⟩
    have hg : gZ (pSetAim (mD s fl) x (nI (r + 1))).2.1 := by
      rw [mD_a hs ha.1]
      exact hf
    obtain ⟨l1, l2, l3, l4⟩ := stay_rel (x := sg) hb y.toNatClampNeg hp he hg
    unfold fFast uFast kStay kHarm
    simp only [kseal_eq]
    rw [l4]
    by_cases h0 : (uHarm y.toNatClampNeg (pSetAim (mD s fl) x (nI (r + 1))) sg).2.2 = 0
    · rw [if_pos h0, if_pos h0]
      exact ih (by omega) (pG_tOk l3) l2
    · rw [if_neg h0, if_neg h0]
      exact ⟨rfl, pG_tOk l3, l2⟩
theorem x_fastest {k : Nat} {c : CSt} {m : RSt} (x y : Int32) (hr : Rel k c m) (hk : k < 512) : (cFast c x y).2 = (rFast m x y).2 ∧ Rel (k + 1) (cFast c x y).1 (rFast m x y).1 := by
  obtain ⟨a, t, u, b, h, d, z, w⟩ := c
  obtain ⟨s, ad, pa, ke, pd, fl, nm, kn, ik, ln, sg, sp, fo, ho, ta, tR, tm⟩ := m
  have hm := Rel_mono hr
  have hR := hr
  obtain ⟨⟨a1, a2, a3⟩, b1, ⟨c1, c2, c3⟩, ⟨d1, d2⟩, e1⟩ := hr
  dsimp only at a1 a2 a3 b1 c1 c2 c3 d1 d2 e1
  unfold cFast rFast
  dsimp only
  by_cases hq : gOut x 0 1000 = 0
  · rw [if_pos hq, if_neg (in_neg hq)]
    by_cases hq2 : gOut y 1 99 = 0
    · rw [if_pos hq2, if_neg (in_neg hq2)]
      have hl := fast_rel (y := y) (bK_ok (show k ≤ 512 by omega)) a1 a2 (out_bd hq) 100 (Nat.le_refl _) (sg := sg) b1 a3
      rw [kFast, kseal_eq, kFast7, kseal_eq]
      exact ⟨hl.1, Rel_trial hm hl.2.1 hl.2.2 w⟩
    · rw [if_neg hq2, if_pos (in_pos hq2)]
      exact ⟨rfl, hm⟩
  · rw [if_neg hq, if_pos (in_pos hq)]
    exact ⟨rfl, hm⟩
theorem x_evenIn {k : Nat} {c : CSt} {m : RSt} (x : Int32) (hr : Rel k c m) (hk : k < 512) : (cEven c x).2 = (rEven m x).2 ∧ Rel (k + 1) (cEven c x).1 (rEven m x).1 := by
  obtain ⟨a, t, u, b, h, d, z, w⟩ := c
  obtain ⟨s, ad, pa, ke, pd, fl, nm, kn, ik, ln, sg, sp, fo, ho, ta, tR, tm⟩ := m
  have hm := Rel_mono hr
  have hR := hr
  obtain ⟨⟨a1, a2, a3⟩, b1, ⟨c1, c2, c3⟩, ⟨d1, d2⟩, e1⟩ := hr
  dsimp only at a1 a2 a3 b1 c1 c2 c3 d1 d2 e1
  unfold cEven rEven
  dsimp only
  by_cases hq : gOut x 0 500 = 0
  · rw [if_pos hq, if_neg (in_neg hq)]
    have hc := copy_pE b1.1 a1.1
    have hl := even_rel (bK_ok (show k ≤ 512 by omega)) x 100 0 (x := sg) rfl (copy_pG b1 a1) (q := (a.1, fl, a.2.2)) ⟨hc.1.1.symm, hc.1.2.symm⟩ a3
    rw [mD_a a2 a1.1, kEven, kseal_eq, kEven7, kseal_eq]
    exact ⟨hl.2.2, Rel_trial hm (pG_tOk hl.2.1) hl.1 w⟩
  · rw [if_neg hq, if_pos (in_pos hq)]
    exact ⟨rfl, hm⟩
