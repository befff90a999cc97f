/-! class and model: looks -/
theorem vf_ok {a : UInt64} (h : FP.Core.dIsNaN a = false) : vf_n64 a := by
  have h1 : a.toNat % 2 ^ 63 ≤ 9218868437227405312 := by
    have := FP.Core.isNaN_bits a
    rw [h] at this
    rcases Nat.lt_or_ge 9218868437227405312 (a.toNat % 2 ^ 63) with w | w
    · exact absurd (this.mpr w) (by decide)
    · exact w
  unfold vf_n64
  rw [UInt64.le_iff_toNat_le, FP.Core.mask_toNat]
  exact h1
theorem i2d_0 : FP.dadd (FP.i2d 0) (FP.i2d 0) = FP.i2d 0 := by decide +kernel
theorem i2d_c : FP.dconst0 = FP.i2d 0 := by decide +kernel
theorem vf_i2d (x : Int32) : vf_n64 (FP.i2d x) := vf_ok (FP.Core.DFin.notNaN (FP.Core.i2d_fin x))
theorem i2d_add {a b : Int32} (ha : 0 ≤ a.toInt ∧ a.toInt ≤ 1000000000) (hb : 0 ≤ b.toInt ∧ b.toInt ≤ 1000000000) : FP.dadd (FP.i2d a) (FP.i2d b) = FP.i2d (a + b) := by
  have e : (a + b).toInt = a.toInt + b.toInt := ti_add (by omega) (by omega)
  by_cases h0 : a.toInt + b.toInt = 0
  · have e1 : a = 0 := Int32.toInt_inj.mp (show a.toInt = (0 : Int32).toInt by rw [show (0 : Int32).toInt = 0 from rfl]; omega)
    have e2 : b = 0 := Int32.toInt_inj.mp (show b.toInt = (0 : Int32).toInt by rw [show (0 : Int32).toInt = 0 from rfl]; omega)
    rw [e1, e2, i2d_0]
    rfl
  · have h1 := FP.Core.dadd_int (FP.Core.i2d_int a) (FP.Core.i2d_int b) (by omega)
    have h2 := FP.Core.i2d_int (a + b)
    rw [e] at h2
    refine FP.Core.val64_inj ?_ (FP.Core.whole_unique FP.Core.good_b64 h0 h1 h2 (FP.Core.val64_fits _) (FP.Core.val64_fits _))
    intro hn
    unfold FP.Core.DInt at h1
    rw [hn] at h1
    exact h1
theorem lcN_at {c nm N : Nat → Int32} (h : isName c N) : ∀ k, k < 36 → lcN c nm k = N k := by
  have e : lcN c nm = fun k => if k < 36 then N k else nm k := by
    refine lcN_eq ⟨fun k hk => ?_, fun j hj hc => ?_⟩ (fun k hk => if_neg (by omega))
    · obtain ⟨r, r1, r2, r3⟩ := h.1 k hk
      exact ⟨r, r1, (if_pos hk).trans r2, r3⟩
    · show (if nF j < 36 then N (nF j) else nm (nF j)) = (if nS j < 36 then N (nS j) else nm (nS j))
      rw [if_pos (nF_lt hj), if_pos (nS_lt hj)]
      exact h.2 j hj hc
  intro k hk
  rw [e]
  exact if_pos hk
theorem gSize_congr {f g : Nat → Int32} (h : ∀ k, k < 36 → f k = g k) (x : Int32) : gSize f x = gSize g x :=
  nf_congr 36 (fun i hi b => by rw [h i hi])
theorem great_eq {f g : Nat → Int32} (h : ∀ k, k < 36 → f k = g k) : gSizeMax f = uGreat g 36 := by
  refine nf_congr 36 (fun i hi b => ?_)
  rw [gSize_congr h]
  unfold gMax
  by_cases w : b < kseal (gSize g (nI i))
  · rw [if_pos w, if_neg (Int32.not_le.mpr w)]
  · rw [if_neg w, if_pos (Int32.not_lt.mp w)]
def cntX (f : Nat → Int32) (x : Int32) : Nat → Nat
  | 0 => 0
  | n + 1 => cntX f x n + (if f n = x then 1 else 0)
theorem cntX_s (f : Nat → Int32) (x : Int32) (n : Nat) : cntX f x (n + 1) = cntX f x n + (if f n = x then 1 else 0) := rfl
theorem gSize_n (f : Nat → Int32) (x : Int32) : gSize f x = nI (cntX f x 36) := by
  have key : ∀ n, nf (fun i a => if f i = x then a + 1 else a) (0 : Int32) n = nI (cntX f x n) := by
    intro n
    induction n with
    | zero => rfl
    | succ n ih =>
      show (if f n = x then nf _ (0 : Int32) n + 1 else nf _ (0 : Int32) n) = _
      rw [ih, cntX_s]
      by_cases h : f n = x
      · rw [if_pos h, if_pos h, nI_succ]
      · rw [if_neg h, if_neg h, Nat.add_zero]
  exact key 36
theorem cntX_le (f : Nat → Int32) (x : Int32) : ∀ n, cntX f x n ≤ n := by
  intro n
  induction n with
  | zero => exact Nat.le_refl 0
  | succ n ih =>
    rw [cntX_s]
    split <;> omega
theorem cntX_pos {f : Nat → Int32} {x : Int32} {k : Nat} (h : f k = x) : ∀ n, k < n → 1 ≤ cntX f x n := by
  intro n
  induction n with
  | zero => exact fun h => absurd h (by omega)
  | succ n ih =>
    intro hk
    rw [cntX_s]
    by_cases e : k = n
    · subst e
      rw [if_pos h]
      omega
    · have := ih (by omega)
      omega
theorem uSum_bd {B : Int} (hB1 : B ≤ 200000) {f h : Nat → Int32} {x : Int32} (hh : hB B h) : ∀ i, i ≤ 36 → 0 ≤ (uSum f h x i).toInt ∧ (uSum f h x i).toInt ≤ (i : Int) * 200000 := by
  intro i
  induction i with
  | zero => exact fun _ => ⟨by show (0 : Int) ≤ (0 : Int32).toInt; decide, by show (0 : Int32).toInt ≤ _; decide⟩
  | succ i ih =>
    intro hi
    have ih := ih (by omega)
    have e : uSum f h x (i + 1) = uSum f h x i + (if f i = x then h i else 0) := rfl
    have hb := hh i (by omega)
    have hv : 0 ≤ (if f i = x then h i else 0).toInt ∧ (if f i = x then h i else 0).toInt ≤ 200000 := by
      split
      · omega
      · rw [show (0 : Int32).toInt = 0 from rfl]
        omega
    rw [e]
    generalize (if f i = x then h i else 0) = v at hv ⊢
    rw [ti_add (by omega) (by omega)]
    omega
theorem mSum_eq {B : Int} (hB1 : B ≤ 200000) {f h : Nat → Int32} {x : Int32} (hh : hB B h) : ∀ i, i ≤ 36 → mSum f h x i = FP.i2d (uSum f h x i) := by
  intro i
  induction i with
  | zero => exact fun _ => i2d_c
  | succ i ih =>
    intro hi
    have e : uSum f h x (i + 1) = uSum f h x i + (if f i = x then h i else 0) := rfl
    have hs := uSum_bd (f := f) (x := x) hB1 hh i (by omega)
    have hb := hh i (by omega)
    rw [mSum_s, ih (by omega), e, gAt_n (by omega)]
    by_cases w : f i = x
    · rw [if_pos w, if_pos w]
      exact i2d_add (by omega) (by omega)
    · rw [if_neg w, if_neg w, Int32.add_zero]
theorem uSum_congr {f g h : Nat → Int32} {x : Int32} (e : ∀ k, k < 36 → f k = g k) : uSum f h x 36 = uSum g h x 36 :=
  nf_congr 36 (fun i hi b => by rw [e i hi])
theorem vf_div {a b : Int32} (hb : ¬ b = 0) : vf_n64 (FP.ddiv (FP.i2d a) (FP.i2d b)) := by
  refine vf_ok (FP.Core.ddiv_out (FP.Core.DFin.notNaN (FP.Core.i2d_fin a)) (FP.Core.i2d_fin b) ?_)
  rw [FP.Core.zero_bits2]
  exact FP.Core.i2d_ne_zero hb
/-- the mean of a piece is the model's, and a number -/
theorem mean_ok {B : Int} (hB1 : B ≤ 200000) {a : PSt} {z : ZSt} {s nm : Nat → Int32} {x : Int32} (hs : s = mE a) (hz : pZ a) (hh : hB B a.1) (hx : ¬ gIsCell x = 0) :
    cMeanV a z x = uMeanV s (lcN (vC s) nm) x ∧ mOk (kGo a z).1.1 (pH a) (gName (kGo a z).1.1 x) ∧ vf_n64 (uMeanV s (lcN (vC s) nm) x) := by
  have ec : vC s = pC a := by
    rw [hs, vC_E hz]
    rfl
  have eh : vH s = a.1 := by rw [hs, vH_E hz]
  rw [ec]
  have hN : isName (pC a) (kGo a z).1.1 := by
    rw [kGo, kseal_eq]
    exact (go_ok (pC a) z).1
  have hL := lcN_at (nm := nm) hN
  obtain ⟨k, hk, rfl⟩ := inC_of (inC_is hx)
  have en : gName (kGo a z).1.1 (nI k) = (kGo a z).1.1 k := by
    unfold gName
    rw [if_neg hx, nI_clamp (by omega)]
  unfold cMeanV uMeanV mOk
  rw [en, nI_clamp (by omega), hL k hk, eh, kseal_eq, kseal_eq, kseal_eq]
  have e1 : uSum (lcN (pC a) nm) a.1 ((kGo a z).1.1 k) 36 = uSum (kGo a z).1.1 a.1 ((kGo a z).1.1 k) 36 := uSum_congr hL
  have e2 : gSize (lcN (pC a) nm) ((kGo a z).1.1 k) = gSize (kGo a z).1.1 ((kGo a z).1.1 k) := gSize_congr hL _
  rw [e1, e2]
  generalize (kGo a z).1.1 = N
  have hp : pH a = a.1 := rfl
  rw [hp, mSum_eq hB1 hh 36 (Nat.le_refl _)]
  have hne : ¬ gSize N (N k) = 0 := by
    rw [gSize_n]
    exact nI_ne0 (cntX_pos rfl 36 hk) (by have := cntX_le N (N k) 36; omega)
  rw [if_neg hne]
  refine ⟨rfl, ⟨fun i hi _ => ?_, vf_div hne⟩, vf_div hne⟩
  have hs := uSum_bd (f := N) (x := N k) hB1 hh i (by omega)
  have hb := hh i hi
  rw [mSum_eq hB1 hh i (by omega), gAt_n hi, i2d_add (by omega) (by omega)]
  exact vf_i2d _
theorem Rel_parts {k : Nat} {c : CSt} {m : RSt} {z' : ZSt} {nm' : Nat → Int32} (h : Rel k c m) : Rel k (cParts c z') (m.1, m.2.1, m.2.2.1, m.2.2.2.1, m.2.2.2.2.1, m.2.2.2.2.2.1, nm', m.2.2.2.2.2.2.2) := by
  obtain ⟨a, t, u, b, hh, d, z, w⟩ := c
  exact h
theorem x_mean {k : Nat} {c : CSt} {m : RSt} (x : Int32) (hr : Rel k c m) (hk : k < 512) : (cMean c x).2 = (rMean m x).2 ∧ Rel (k + 1) (cMean c x).1 (rMean m x).1 := by
  obtain ⟨a, t, u, b, h, d, z, w⟩ := c
  obtain ⟨s, ad, pa, ke, pd, fl, nm, kn, ik, ln, sg, sp, fo, ho, ta, tR, tm⟩ := m
  have hm := Rel_mono hr
  have hR := hr
  obtain ⟨⟨a1, a2, a3⟩, b1, ⟨c1, c2, c3⟩, ⟨d1, d2⟩, e1⟩ := hr
  dsimp only at a1 a2 a3 b1 c1 c2 c3 d1 d2 e1
  unfold cMean rMean
  dsimp only
  by_cases hx : gIsCell x = 0
  · rw [if_pos hx, if_pos hx]
    exact ⟨rfl, hm⟩
  · rw [if_neg hx, if_neg hx]
    exact ⟨(mean_ok (bK_ok (show k ≤ 512 by omega)).2 a2 a1.1 a1.2.2.1 hx).1, Rel_parts hm⟩
theorem x_strained {k : Nat} {c : CSt} {m : RSt} (x : Int32) (hr : Rel k c m) (hk : k < 512) : (cStrained c x).2 = (rStrained m x).2 ∧ Rel (k + 1) (cStrained c x).1 m := by
  obtain ⟨a, t, u, b, h, d, z, w⟩ := c
  obtain ⟨s, ad, pa, ke, pd, fl, nm, kn, ik, ln, sg, sp, fo, ho, ta, tR, tm⟩ := m
  have hm := Rel_mono hr
  have hR := hr
  obtain ⟨⟨a1, a2, a3⟩, b1, ⟨c1, c2, c3⟩, ⟨d1, d2⟩, e1⟩ := hr
  dsimp only at a1 a2 a3 b1 c1 c2 c3 d1 d2 e1
  refine ⟨?_, hm⟩
  show (if 0 ≤ x then kseal (gFind (pH a) (pS a) (pC a) x 0 60) else -1) = (if 0 ≤ x then kFound (vH s) (vS s) (vC s) x else -1)
  rw [kseal_eq, find_eq, a2, vH_E a1.1, vS_E a1.1, vC_E a1.1]
  rfl
theorem names_eq {a : PSt} {z : ZSt} {nm : Nat → Int32} : ∀ k, k < 36 → lcN (pC a) nm k = (kGo a z).1.1 k := by
  refine lcN_at ?_
  rw [kGo, kseal_eq]
  exact (go_ok (pC a) z).1
theorem x_pieces {k : Nat} {c : CSt} {m : RSt} (x : Int32) (hr : Rel k c m) (hk : k < 512) : (cPieces c x).2 = (rPieces m x).2 ∧ Rel (k + 1) (cPieces c x).1 (rPieces m x).1 := by
  obtain ⟨a, t, u, b, h, d, z, w⟩ := c
  obtain ⟨s, ad, pa, ke, pd, fl, nm, kn, ik, ln, sg, sp, fo, ho, ta, tR, tm⟩ := m
  have hm := Rel_mono hr
  have hR := hr
  obtain ⟨⟨a1, a2, a3⟩, b1, ⟨c1, c2, c3⟩, ⟨d1, d2⟩, e1⟩ := hr
  dsimp only at a1 a2 a3 b1 c1 c2 c3 d1 d2 e1
  unfold cPieces rPieces
  dsimp only
  have ec : vC s = pC a := by
    rw [a2, vC_E a1.1]
    rfl
  rw [ec, kseal_eq, uCount_n]
  by_cases h0 : x = 0
  · subst h0
    rw [if_pos rfl, if_neg (show ¬ gIn 0 0 1 = 0 by decide)]
    refine ⟨?_, Rel_parts hm⟩
    have hg : (kGo a z).2 = nI (cntR (kGo a z).1.1 36) := by
      rw [kGo, kseal_eq]
      exact (go_ok (pC a) z).2
    rw [cntR_congr 36 (names_eq (z := z))]
    exact hg
  · rw [if_neg h0]
    by_cases h1 : x = 1
    · subst h1
      rw [if_pos rfl, if_neg (show ¬ gIn 1 0 1 = 0 by decide)]
      refine ⟨?_, Rel_parts hm⟩
      have hj : isName (pC a) (kJo a z).1 ∧ (kJo a z).2 = nI (cntR (kJo a z).1 36) := by
        rw [kJo, kseal_eq]
        exact join_ok (pC a) z.1
      rw [cntR_congr 36 (lcN_at hj.1)]
      exact hj.2
    · rw [if_neg h1, if_pos ?_]
      · exact ⟨rfl, hm⟩
      · refine in_pos (fun hq => ?_)
        have hx := out_bd hq
        have e0 : (0 : Int32).toInt = 0 := rfl
        have e1' : (1 : Int32).toInt = 1 := rfl
        rcases (show x.toInt = 0 ∨ x.toInt = 1 by omega) with e | e
        · exact h0 (Int32.toInt_inj.mp e)
        · exact h1 (Int32.toInt_inj.mp e)
theorem x_cell {k : Nat} {c : CSt} {m : RSt} (x y : Int32) (hr : Rel k c m) (hk : k < 512) : (cCell c x y).2 = (rCell m x y).2 ∧ Rel (k + 1) (cCell c x y).1 (rCell m x y).1 := by
  obtain ⟨a, t, u, b, h, d, z, w⟩ := c
  obtain ⟨s, ad, pa, ke, pd, fl, nm, kn, ik, ln, sg, sp, fo, ho, ta, tR, tm⟩ := m
  have hm := Rel_mono hr
  have hR := hr
  obtain ⟨⟨a1, a2, a3⟩, b1, ⟨c1, c2, c3⟩, ⟨d1, d2⟩, e1⟩ := hr
  dsimp only at a1 a2 a3 b1 c1 c2 c3 d1 d2 e1
  unfold cCell rCell
  dsimp only
  have ec : vC s = pC a := by
    rw [a2, vC_E a1.1]
    rfl
  have eh : vH s = pH a := by
    rw [a2, vH_E a1.1]
    rfl
  rw [ec, eh]
  by_cases hx : gIsCell x = 0
  · rw [if_pos hx, if_pos hx]
    exact ⟨rfl, hm⟩
  have hx0 := hx
  rw [if_neg hx, if_neg hx]
  obtain ⟨i, hi, rfl⟩ := inC_of (inC_is hx)
  rw [nI_clamp (by omega), gAt_n hi, wholeOf_eq _ hi, stressOf_eq _ _ hi]
  by_cases e0 : y = 0
  · rw [if_pos e0, if_pos e0]
    refine ⟨?_, hm⟩
    show pH a i = s (8 + i)
    rw [a2, mE_h hi]
    rfl
  rw [if_neg e0, if_neg e0]
  by_cases e1 : y = 1
  · rw [if_pos e1, if_pos e1]
    refine ⟨?_, Rel_parts hm⟩
    show gName (kGo a z).1.1 (nI i) = lcN (pC a) nm i
    rw [names_eq (z := z) i hi]
    unfold gName
    rw [if_neg hx0, nI_clamp (by omega)]
  rw [if_neg e1, if_neg e1]
  by_cases e2 : y = 2
  · rw [if_pos e2, if_pos e2]
    exact ⟨rfl, hm⟩
  rw [if_neg e2, if_neg e2]
  by_cases e3 : y = 3
  · rw [if_pos e3, if_pos e3]
    exact ⟨rfl, hm⟩
  rw [if_neg e3, if_neg e3]
  by_cases e4 : y = 4
  · rw [if_pos e4, if_pos e4]
    exact ⟨rfl, hm⟩
  rw [if_neg e4, if_neg e4]
  exact ⟨rfl, hm⟩
theorem x_joint {k : Nat} {c : CSt} {m : RSt} (x y : Int32) (hr : Rel k c m) (hk : k < 512) : (cJoint c x y).2 = (rJoint m x y).2 ∧ Rel (k + 1) (cJoint c x y).1 (rJoint m x y).1 := by
  obtain ⟨a, t, u, b, h, d, z, w⟩ := c
  obtain ⟨s, ad, pa, ke, pd, fl, nm, kn, ik, ln, sg, sp, fo, ho, ta, tR, tm⟩ := m
  have hm := Rel_mono hr
  have hR := hr
  obtain ⟨⟨a1, a2, a3⟩, b1, ⟨c1, c2, c3⟩, ⟨d1, d2⟩, e1⟩ := hr
  dsimp only at a1 a2 a3 b1 c1 c2 c3 d1 d2 e1
  unfold cJoint rJoint
  dsimp only
  have ec : vC s = pC a := by
    rw [a2, vC_E a1.1]
    rfl
  have eh : vH s = pH a := by
    rw [a2, vH_E a1.1]
    rfl
  rw [ec, eh]
  by_cases hx : gIsJoint x = 0
  · rw [if_pos hx, if_pos hx]
    exact ⟨rfl, hm⟩
  rw [if_neg hx, if_neg hx]
  obtain ⟨i, hi, rfl⟩ := inJ_of (inJ_is hx)
  rw [nI_clamp (by omega), gJt_n hi, gJt_n hi, beside_eq _ hi]
  have es : pS a i = s (104 + i) := by
    rw [a2, mE_s hi]
    rfl
  have ek : pC a i = s (44 + i) := by
    rw [a2, mE_c hi]
    rfl
  rw [es, ek]
  by_cases e0 : y = 0
  · rw [if_pos e0, if_pos e0]
    exact ⟨rfl, hm⟩
  rw [if_neg e0, if_neg e0]
  by_cases e1 : y = 1
  · rw [if_pos e1, if_pos e1]
    exact ⟨rfl, hm⟩
  rw [if_neg e1, if_neg e1]
  by_cases e2 : y = 2
  · rw [if_pos e2, if_pos e2]
    exact ⟨rfl, hm⟩
  rw [if_neg e2, if_neg e2]
  by_cases e3 : y = 3
  · rw [if_pos e3, if_pos e3]
    exact ⟨rfl, hm⟩
  rw [if_neg e3, if_neg e3]
  by_cases e4 : y = 4
  · rw [if_pos e4, if_pos e4]
    exact ⟨rfl, hm⟩
  rw [if_neg e4, if_neg e4]
  by_cases e5 : y = 5
  · rw [if_pos e5, if_pos e5]
    exact ⟨rfl, hm⟩
  rw [if_neg e5, if_neg e5]
  by_cases e6 : y = 6
  · rw [if_pos e6, if_pos e6]
    exact ⟨rfl, hm⟩
  rw [if_neg e6, if_neg e6]
  exact ⟨rfl, hm⟩
theorem x_count {k : Nat} {c : CSt} {m : RSt} (x : Int32) (hr : Rel k c m) (hk : k < 512) : (cCount c x).2 = (rCount m x).2 ∧ Rel (k + 1) (cCount c x).1 (rCount m x).1 := by
  obtain ⟨a, t, u, b, h, d, z, w⟩ := c
  obtain ⟨s, ad, pa, ke, pd, fl, nm, kn, ik, ln, sg, sp, fo, ho, ta, tR, tm⟩ := m
  have hm := Rel_mono hr
  have hR := hr
  obtain ⟨⟨a1, a2, a3⟩, b1, ⟨c1, c2, c3⟩, ⟨d1, d2⟩, e1⟩ := hr
  dsimp only at a1 a2 a3 b1 c1 c2 c3 d1 d2 e1
  unfold cCount rCount
  dsimp only
  have ec : vC s = pC a := by
    rw [a2, vC_E a1.1]
    rfl
  have eh : vH s = pH a := by
    rw [a2, vH_E a1.1]
    rfl
  have es : vS s = pS a := by
    rw [a2, vS_E a1.1]
    rfl
  rw [ec, eh, es, ← least_eq]
  have hkn : h.1 = kn := by
    obtain ⟨_, n, _, q2, q3, _⟩ := d2
    exact q2.trans q3.symm
  have hln : dLen d = ln := by
    obtain ⟨⟨n, _, n2, n3, _⟩, _⟩ := e1
    exact n2.trans n3.symm
  by_cases f0 : x = 0
  · rw [if_pos f0, if_pos f0]
    exact ⟨by rw [a2]; rfl, hm⟩
  rw [if_neg f0, if_neg f0]
  by_cases f1 : x = 1
  · rw [if_pos f1, if_pos f1]
    exact ⟨by rw [a2]; rfl, hm⟩
  rw [if_neg f1, if_neg f1]
  by_cases f2 : x = 2
  · rw [if_pos f2, if_pos f2]
    exact ⟨by rw [a2]; rfl, hm⟩
  rw [if_neg f2, if_neg f2]
  by_cases f3 : x = 3
  · rw [if_pos f3, if_pos f3]
    exact ⟨by rw [a2]; rfl, hm⟩
  rw [if_neg f3, if_neg f3]
  by_cases f4 : x = 4
  · rw [if_pos f4, if_pos f4]
    exact ⟨rfl, hm⟩
  rw [if_neg f4, if_neg f4]
  by_cases f5 : x = 5
  · rw [if_pos f5, if_pos f5]
    exact ⟨by rw [a2]; rfl, hm⟩
  rw [if_neg f5, if_neg f5]
  by_cases f6 : x = 6
  · rw [if_pos f6, if_pos f6]
    exact ⟨rfl, hm⟩
  rw [if_neg f6, if_neg f6]
  by_cases f7 : x = 7
  · rw [if_pos f7, if_pos f7]
    exact ⟨rfl, hm⟩
  rw [if_neg f7, if_neg f7]
  by_cases f8 : x = 8
  · rw [if_pos f8, if_pos f8]
    exact ⟨rfl, hm⟩
  rw [if_neg f8, if_neg f8]
  by_cases f9 : x = 9
  · rw [if_pos f9, if_pos f9]
    exact ⟨rfl, hm⟩
  rw [if_neg f9, if_neg f9]
  by_cases f10 : x = 10
  · rw [if_pos f10, if_pos f10]
    exact ⟨kseal_eq _, hm⟩
  rw [if_neg f10, if_neg f10]
  by_cases f11 : x = 11
  · rw [if_pos f11, if_pos f11]
    exact ⟨by rw [great_eq (fun k hk => (names_eq (z := z) (nm := nm) k hk).symm)], Rel_parts hm⟩
  rw [if_neg f11, if_neg f11]
  by_cases f12 : x = 12
  · rw [if_pos f12, if_pos f12]
    exact ⟨by rw [a2]; rfl, hm⟩
  rw [if_neg f12, if_neg f12]
  by_cases f13 : x = 13
  · rw [if_pos f13, if_pos f13]
    exact ⟨by rw [a2]; rfl, hm⟩
  rw [if_neg f13, if_neg f13]
  by_cases f14 : x = 14
  · rw [if_pos f14, if_pos f14]
    exact ⟨by rw [a2]; rfl, hm⟩
  rw [if_neg f14, if_neg f14]
  by_cases f15 : x = 15
  · rw [if_pos f15, if_pos f15]
    exact ⟨hln, hm⟩
  rw [if_neg f15, if_neg f15]
  by_cases f16 : x = 16
  · rw [if_pos f16, if_pos f16]
    exact ⟨hkn, hm⟩
  rw [if_neg f16, if_neg f16]
  exact ⟨rfl, hm⟩
