/-! p26: what is behind an object: the pane now, the snapshot, the history (the newest first), the text -/
abbrev QSt : Type := PSt × Option PSt × List PSt × List Int32
def nrm (p : PSt) : PSt := (p.1, z0, p.2.2)
def qHist (z : HSt) : List PSt := (List.range z.1.toNatClampNeg).reverse.map (fun i => nrm (hAt z i))
def qText (d : DSt) : List Int32 := (List.range (dLen d).toNatClampNeg).map d.1
def qOf (c : CSt) : QSt := (nrm c.1, (if c.2.2.2.1 = 0 then none else some (nrm c.2.2.1)), qHist (zDn c.2.2.2.2.1), qText c.2.2.2.2.2.1)
def hGood (z : HSt) : Prop := (hOk z.2.1 ∧ (∀ i j : Nat, i < 4 → j < 4 → z.2.1 i = z.2.1 j → i = j) ∧ hAll z) ∧ ∃ n : Nat, n ≤ 4 ∧ z.1 = nI n
def dGood (d : DSt) : Prop := (∃ n : Nat, n ≤ 60 ∧ dLen d = nI n) ∧ ∀ k : Nat, k < 20 → ¬ d.2.2.2.1 k < 0
def cOk (c : CSt) : Prop := tOk c.1 ∧ tOk c.2.1 ∧ tOk c.2.2.1 ∧ (xOk c.2.2.2.2.1 ∧ hGood (zDn c.2.2.2.2.1)) ∧ dGood c.2.2.2.2.2.1
theorem nrm_pE {p q : PSt} (h : pE p q) : nrm p = nrm q := by
  unfold nrm
  rw [h.1, h.2]
theorem pE_nrm (p : PSt) : pE p (nrm p) := ⟨rfl, rfl⟩
theorem nrm_nrm (p : PSt) : nrm (nrm p) = nrm p := rfl
theorem nrm_tOk {p : PSt} (h : tOk p) : tOk (nrm p) := ⟨h.1, gZ_z0⟩
theorem nrm_copy {p q : PSt} (hp : pZ p) (hq : pZ q) : nrm (pCopy p q) = nrm q := by
  rw [copy_eq hp hq]
  rfl
theorem copy_tOk {p q : PSt} (hp : tOk p) (hq : tOk q) : tOk (pCopy p q) := by
  rw [copy_eq hp.1 hq.1]
  exact ⟨hq.1, hp.2⟩
theorem hist_put {z : HSt} {n : Nat} {a : PSt} (h : hGood z) (hn : n < 4) (hz : z.1 = nI n) (ha : tOk a) : hGood (hPut (hTop z) a z) ∧ qHist (hPut (hTop z) a z) = nrm a :: qHist z := by
  obtain ⟨⟨h1, h2, h3⟩, _⟩ := h
  have et : hTop z = (z.2.1 n).getD 0 := by
    unfold hTop
    rw [hz, nI_clamp (by omega)]
  obtain ⟨t, t1, t2⟩ := ok_h4 h1 hn
  have et2 : hTop z = t := by
    rw [et, t1]
    rfl
  rw [et2]
  refine ⟨⟨⟨h1, h2, hAll_put h3 ha⟩, n + 1, by omega, by rw [hPut_n, hz, nI_succ]⟩, ?_⟩
  have key : ∀ i, i < n + 1 → nrm (hAt (hPut t a z) i) = if i = n then nrm a else nrm (hAt z i) := by
    intro i hi
    obtain ⟨u, u1, u2⟩ := ok_h4 h1 (show i < 4 by omega)
    have ea : hAt (hPut t a z) i = if u = t then pCopy (hGet u z) a else hGet u z := by
      show hGet (((hPut t a z).2.1 i).getD 0) (hPut t a z) = _
      rw [hPut_f, u1]
      exact hGet_put t2 u2
    have ez : hAt z i = hGet u z := by
      show hGet ((z.2.1 i).getD 0) z = _
      rw [u1]
      rfl
    rw [ea]
    by_cases hin : i = n
    · subst hin
      have : u = t := by
        rw [t1] at u1
        cases u1
        rfl
      rw [if_pos this, if_pos rfl]
      exact nrm_copy (hAll_get h3 u).1 ha.1
    · have hne : ¬ u = t := by
        intro e
        subst e
        exact hin (h2 i n (by omega) hn (u1.trans t1.symm))
      rw [if_neg hne, if_neg hin, ← ez]
  unfold qHist
  have e1 : (hPut t a z).1.toNatClampNeg = n + 1 := by
    rw [hPut_n, hz, ← nI_succ, nI_clamp (by omega)]
  rw [e1, hz, nI_clamp (by omega), List.range_succ, List.reverse_append, List.reverse_singleton, List.singleton_append, List.map_cons, key n (by omega), if_pos rfl]
  congr 1
  refine List.map_congr_left (fun i hi => ?_)
  have hi2 : i < n := by
    rw [List.mem_reverse] at hi
    exact List.mem_range.mp hi
  rw [key i (by omega), if_neg (by omega)]
theorem hist_drop {z : HSt} (h : hGood z) (hz : z.1 = nI 4) : hGood (hDrop z) ∧ qHist (hDrop z) = (qHist z).take 3 := by
  obtain ⟨⟨h1, h2, h3⟩, _⟩ := h
  have ef : (hDrop z).2.1 = hRot z.2.1 := rfl
  have er : ∀ i : Nat, i < 4 → hRot z.2.1 i = z.2.1 (if i = 3 then 0 else i + 1) := by
    intro i hi
    unfold hRot
    by_cases h3 : i = 3
    · rw [if_pos h3, if_pos h3]
    · rw [if_neg h3, if_pos (by omega), if_neg h3]
  refine ⟨⟨⟨hOk_rot h1, fun i j hi hj e => ?_, h3⟩, 3, by omega, rfl⟩, ?_⟩
  · rw [ef, er i hi, er j hj] at e
    have := h2 _ _ (by split <;> omega) (by split <;> omega) e
    split at this <;> split at this <;> omega
  · have ea : ∀ i, i < 3 → hAt (hDrop z) i = hAt z (i + 1) := by
      intro i hi
      show hGet (((hDrop z).2.1 i).getD 0) (hDrop z) = hGet ((z.2.1 (i + 1)).getD 0) z
      rw [ef, er i (by omega), if_neg (by omega)]
      rfl
    unfold qHist
    rw [hz, nI_clamp (by omega), show (hDrop z).1 = nI 3 from rfl, nI_clamp (by omega)]
    show [nrm (hAt (hDrop z) 2), nrm (hAt (hDrop z) 1), nrm (hAt (hDrop z) 0)] = [nrm (hAt z 3), nrm (hAt z 2), nrm (hAt z 1)]
    rw [ea 2 (by omega), ea 1 (by omega), ea 0 (by omega)]
theorem qHist_len {z : HSt} : (qHist z).length = z.1.toNatClampNeg := by
  unfold qHist
  rw [List.length_map, List.length_reverse, List.length_range]
theorem hist_rec {z : HSt} {a : PSt} (h : hGood z) (ha : tOk a) : hGood (hRec a z) ∧ qHist (hRec a z) = (nrm a :: qHist z).take 4 := by
  have hh := h
  obtain ⟨_, n, hn, hz⟩ := h
  have hl : (qHist z).length = n := by rw [qHist_len, hz, nI_clamp (by omega)]
  unfold hRec
  by_cases h4 : n < 4
  · have e1 : z.1 < 4 := by
      rw [hz]
      exact show nI n < nI 4 from nI_lt h4 (by decide)
    rw [if_pos e1]
    have := hist_put hh h4 hz ha
    refine ⟨this.1, ?_⟩
    rw [this.2, List.take_of_length_le (by rw [List.length_cons, hl]; omega)]
  · have en : n = 4 := by omega
    subst en
    have e1 : ¬ z.1 < 4 := by
      rw [hz]
      decide
    rw [if_neg e1]
    have hd := hist_drop hh hz
    have := hist_put (n := 3) hd.1 (by decide) rfl ha
    refine ⟨this.1, ?_⟩
    rw [this.2, hd.2]
    rfl
theorem crec_ok {h : HSt} {a : PSt} (hx : xOk h) (hg : hGood (zDn h)) (ha : tOk a) : (xOk (cRec a h) ∧ hGood (zDn (cRec a h))) ∧ qHist (zDn (cRec a h)) = (nrm a :: qHist (zDn h)).take 4 := by
  have hr := hist_rec hg ha
  have e : zDn (cRec a h) = hRec a (zDn h) := by
    unfold cRec
    rw [dn_up, kseal_eq]
  rw [e]
  exact ⟨⟨cRec_ok hx, hr.1⟩, hr.2⟩
/-- what is answered, and what is behind the object then -/
def AQ {β : Type} (V : CSt × β) (W : QSt × β) : Prop := cOk V.1 ∧ qOf V.1 = W.1 ∧ V.2 = W.2
def qPush (q : QSt) : List PSt := (q.1 :: q.2.2.1).take 4
/-- a change -/
def qNow (q : QSt) (p : PSt) : QSt := (nrm p, q.2.1, qPush q, q.2.2.2)
theorem aq_now {a t s : PSt} {b : Int32} {h : HSt} {d : DSt} {z : ZSt} {fo : FSt} (hc : cOk (a, t, s, b, h, d, z, fo)) {a' a2 : PSt} (ha : tOk a') (he : nrm a' = nrm a2) : cOk (a', t, s, b, cRec a h, d, z, fo) ∧ qOf (a', t, s, b, cRec a h, d, z, fo) = qNow (qOf (a, t, s, b, h, d, z, fo)) a2 := by
  obtain ⟨h1, h2, h3, ⟨h4, h5⟩, h6⟩ := hc
  dsimp only at h1 h2 h3 h4 h5 h6
  obtain ⟨k1, k2⟩ := crec_ok h4 h5 h1
  refine ⟨⟨ha, h2, h3, k1, h6⟩, ?_⟩
  unfold qOf qNow qPush
  dsimp only
  rw [k2, he]
theorem aq_same {a t s t' : PSt} {b : Int32} {h : HSt} {d : DSt} {z z' : ZSt} {fo fo' : FSt} (hc : cOk (a, t, s, b, h, d, z, fo)) (ht : tOk t') : cOk (a, t', s, b, h, d, z', fo') ∧ qOf (a, t', s, b, h, d, z', fo') = qOf (a, t, s, b, h, d, z, fo) := by
  obtain ⟨h1, h2, h3, h4, h6⟩ := hc
  exact ⟨⟨h1, ht, h3, h4, h6⟩, rfl⟩
/-! a minute, by what is behind -/
theorem flow_nrm {p : PSt} (h : gZ p.2.1) : pFlow p = pFlow (nrm p) := by
  obtain ⟨hh, g, s, c, fu, ai, ra, le, ri, mi, lo, fl⟩ := p
  unfold nrm pFlow
  dsimp only at h ⊢
  rw [fill_gZ h, fill_gZ gZ_z0]
theorem flow_is {h g s c : Nat → Int32} {fu ai ra le ri mi lo fl : Int32} (hg : gZ g) : pFlow (h, g, s, c, fu, ai, ra, le, ri, mi, lo, fl) = (gHe (gRi h (gFur fu ai ra) ri (gJo h c le z0 60, lo) 36).1 h 36, (gRi h (gFur fu ai ra) ri (gJo h c le z0 60, lo) 36).1, s, c, gFur fu ai ra, ai, ra, le, ri, mi + 1, (gRi h (gFur fu ai ra) ri (gJo h c le z0 60, lo) 36).2, fl) := by
  unfold pFlow
  simp only [kseal_eq]
  rw [fill_gZ hg]
theorem flow_tOk {p : PSt} (h : tOk p) : tOk (pFlow p) := by
  obtain ⟨hh, g, s, c, fu, ai, ra, le, ri, mi, lo, fl⟩ := p
  obtain ⟨⟨z1, z2, z3⟩, hg⟩ := h
  rw [flow_is hg]
  refine ⟨⟨fun k hk => ?_, z2, z3⟩, gRi_z (gJo_z gZ_z0 60 (Nat.le_refl _)) 36 (Nat.le_refl _)⟩
  show gHe _ hh 36 k = 0
  rw [gHe_at, if_neg (by omega)]
  exact z1 k hk
theorem gWeak_z {c s : Nat → Int32} {w : Int32} (hs : ∀ k : Nat, 60 ≤ k → s k = 0) : ∀ i, i ≤ 60 → ∀ k : Nat, 60 ≤ k → gWeak c w s i k = 0 := by
  intro i
  induction i with
  | zero => exact fun _ => hs
  | succ i ih =>
    intro hi k hk
    rw [gWeak_s]
    split
    · exact ih (by omega) k hk
    · split
      · exact ih (by omega) k hk
      · exact (if_neg (by omega)).trans (ih (by omega) k hk)
theorem crack_tOk {p : PSt} (h : tOk p) : tOk (pCrack p).1 := by
  obtain ⟨hh, g, s, c, fu, ai, ra, le, ri, mi, lo, fl⟩ := p
  have h0 := h
  obtain ⟨⟨z1, z2, z3⟩, hg⟩ := h
  unfold pCrack
  dsimp only
  rcases worst_least hh s c 60 (Nat.le_refl _) with ⟨h1, h2⟩ | ⟨j, hj, hcj, h3, h4⟩
  · rw [h1, if_pos (show gWh c (-1) = 0 from rfl)]
    exact h0
  · rw [h3]
    dsimp only
    split
    · exact h0
    · split
      · rw [nI_clamp (by omega)]
        exact ⟨⟨z1, gWeak_z z2 60 (Nat.le_refl _), upd_z z3 hj⟩, hg⟩
      · exact h0
theorem min_tOk {p : PSt} (h : tOk p) : tOk (pMin p).1 := by
  rw [pMin, kseal_eq]
  exact crack_tOk (flow_tOk h)
theorem min_nrm {p : PSt} (h : gZ p.2.1) : pMin p = pMin (nrm p) := by
  rw [pMin, pMin, flow_nrm h]
theorem pass_tOk {p : PSt} (h : tOk p) : ∀ n, tOk (pPass p n).1 := by
  intro n
  induction n with
  | zero => exact h
  | succ n ih =>
    rw [pPass_s2]
    exact min_tOk ih
theorem pass_nrm {p : PSt} (h : tOk p) : ∀ n, nrm (pPass p n).1 = nrm (pPass (nrm p) n).1 ∧ (pPass p n).2 = (pPass (nrm p) n).2 := by
  intro n
  induction n with
  | zero => exact ⟨rfl, rfl⟩
  | succ n ih =>
    rw [pPass_s2, pPass_s2]
    have e : pMin (pPass p n).1 = pMin (pPass (nrm p) n).1 := by
      rw [min_nrm (pass_tOk h n).2, min_nrm (pass_tOk (nrm_tOk h) n).2, ih.1]
    rw [e, ih.2]
    exact ⟨rfl, rfl⟩
