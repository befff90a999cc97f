/-! ColdPanesModel: pieces, looks -/
/-- two cells of one piece: whatever holds of one, and goes over whole joints, holds of the other -/
def cConn (c : Nat → Int32) (a b : Nat) : Prop := ∀ P : Nat → Prop, P a → (∀ j, j < 60 → c j = 0 → (P (nF j) ↔ P (nS j))) → P b
theorem cc_refl {c : Nat → Int32} (a : Nat) : cConn c a a := fun _ h _ => h
theorem cc_trans {c : Nat → Int32} {a b d : Nat} (h1 : cConn c a b) (h2 : cConn c b d) : cConn c a d := fun P h h3 => h2 P (h1 P h h3) h3
theorem cc_joint {c : Nat → Int32} {j : Nat} (hj : j < 60) (h : c j = 0) : cConn c (nF j) (nS j) := fun _ hp hc => (hc j hj h).mp hp
theorem cc_joint' {c : Nat → Int32} {j : Nat} (hj : j < 60) (h : c j = 0) : cConn c (nS j) (nF j) := fun _ hp hc => (hc j hj h).mpr hp
theorem cc_symm {c : Nat → Int32} {a b : Nat} (h : cConn c a b) : cConn c b a :=
  h (fun x => cConn c x a) (cc_refl a) (fun j hj hw => ⟨fun h2 => cc_trans (cc_joint' hj hw) h2, fun h2 => cc_trans (cc_joint hj hw) h2⟩)
/-- each cell's name is a cell of its piece, not behind it -/
def nmOk (c f : Nat → Int32) : Prop := ∀ k : Nat, k < 36 → ∃ r : Nat, r ≤ k ∧ f k = nI r ∧ cConn c k r
def nmEq (c f : Nat → Int32) : Prop := ∀ j : Nat, j < 60 → c j = 0 → f (nF j) = f (nS j)
def isName (c f : Nat → Int32) : Prop := nmOk c f ∧ nmEq c f
theorem nm_conn {c f : Nat → Int32} (h : nmEq c f) {a b : Nat} (hc : cConn c a b) : f b = f a :=
  hc (fun x => f x = f a) rfl (fun j hj hw => by rw [h j hj hw])
theorem isName_le {c f g : Nat → Int32} (hf : isName c f) (hg : isName c g) {k a b : Nat} (hk : k < 36) (ha : f k = nI a) (ca : cConn c k a) (hb : g k = nI b) (cb : cConn c k b) (hbk : b ≤ k) (ha2 : a < 36) : a ≤ b := by
  have e : f b = f k := nm_conn hf.2 cb
  obtain ⟨r, r1, r2, _⟩ := hf.1 b (by omega)
  rw [r2, ha] at e
  have := (nI_eq (by omega) (by omega)).mp e
  omega
theorem isName_u {c f g : Nat → Int32} (hf : isName c f) (hg : isName c g) {k : Nat} (hk : k < 36) : f k = g k := by
  obtain ⟨a, a1, a2, a3⟩ := hf.1 k hk
  obtain ⟨b, b1, b2, b3⟩ := hg.1 k hk
  have h1 := isName_le hf hg hk a2 a3 b2 b3 b1 (by omega)
  have h2 := isName_le hg hf hk b2 b3 a2 a3 a1 (by omega)
  rw [a2, b2, show a = b by omega]
/-- the names of the cells: the least of each piece -/
noncomputable def lcN (c nm : Nat → Int32) : Nat → Int32 := Classical.epsilon (fun f => isName c f ∧ ∀ k : Nat, 36 ≤ k → f k = nm k)
theorem lcN_eq {c nm f : Nat → Int32} (h : isName c f) (h2 : ∀ k : Nat, 36 ≤ k → f k = nm k) : lcN c nm = f := by
  have h3 := Classical.epsilon_spec (p := fun f => isName c f ∧ ∀ k : Nat, 36 ≤ k → f k = nm k) ⟨f, h, h2⟩
  funext k
  by_cases hk : k < 36
  · exact isName_u h3.1 h hk
  · exact (h3.2 k (by omega)).trans (h2 k (by omega)).symm
def sN (f : Nat → Int32) : Nat → Nat
  | 0 => 0
  | i + 1 => sN f i + (f i).toNatClampNeg
theorem sN_s (f : Nat → Int32) (n : Nat) : sN f (n + 1) = sN f n + (f n).toNatClampNeg := rfl
theorem sN_upd (f : Nat → Int32) (k : Nat) (v : Int32) : ∀ n, sN (upd f k v) n + (if k < n then (f k).toNatClampNeg else 0) = sN f n + (if k < n then v.toNatClampNeg else 0) := by
  intro n
  induction n with
  | zero => rw [if_neg (Nat.not_lt_zero k), if_neg (Nat.not_lt_zero k)]; rfl
  | succ n ih =>
    rw [sN_s, sN_s]
    by_cases h : k < n
    · rw [if_pos h, if_pos h] at ih
      rw [if_pos (Nat.lt_succ_of_lt h), if_pos (Nat.lt_succ_of_lt h), show upd f k v n = f n from if_neg (Nat.ne_of_gt h)]
      generalize (f n).toNatClampNeg = A
      rw [Nat.add_right_comm, ih, Nat.add_right_comm]
    · rw [if_neg h, if_neg h] at ih
      by_cases h2 : k = n
      · subst h2
        rw [if_pos (Nat.lt_succ_self k), if_pos (Nat.lt_succ_self k), show upd f k v k = v from if_pos rfl]
        rw [Nat.add_zero, Nat.add_zero] at ih
        rw [ih, Nat.add_right_comm]
      · rw [if_neg (fun w => h2 (Nat.le_antisymm (Nat.le_of_lt_succ w) (Nat.le_of_not_lt h))), if_neg (fun w => h2 (Nat.le_antisymm (Nat.le_of_lt_succ w) (Nat.le_of_not_lt h))), show upd f k v n = f n from if_neg (fun w => h2 w.symm)]
        rw [Nat.add_zero, Nat.add_zero] at ih ⊢
        rw [ih]
theorem nFS_ne : ∀ j, j < 60 → nF j ≠ nS j := by decide +kernel
def mLow (a b : Int32) : Int32 := if b ≤ a then b else a
def nmPut (f : Nat → Int32) (j : Nat) : Nat → Int32 := upd (upd f (nF j) (mLow (f (nF j)) (f (nS j)))) (nS j) (mLow (f (nF j)) (f (nS j)))
theorem nmPut_lt {c f : Nat → Int32} (h : nmOk c f) {j : Nat} (hj : j < 60) (hne : ¬ f (nF j) = f (nS j)) : sN (nmPut f j) 36 < sN f 36 := by
  have l1 := nF_lt hj
  have l2 := nS_lt hj
  have l3 := nFS_ne j hj
  obtain ⟨a, a1, a2, _⟩ := h _ l1
  obtain ⟨b, b1, b2, _⟩ := h _ l2
  unfold nmPut
  have e1 := sN_upd (upd f (nF j) (mLow (f (nF j)) (f (nS j)))) (nS j) (mLow (f (nF j)) (f (nS j))) 36
  have e2 := sN_upd f (nF j) (mLow (f (nF j)) (f (nS j))) 36
  rw [if_pos l2, if_pos l2, show upd f (nF j) (mLow (f (nF j)) (f (nS j))) (nS j) = f (nS j) from if_neg (Ne.symm l3)] at e1
  rw [if_pos l1, if_pos l1] at e2
  rw [a2, b2] at e1 e2 hne ⊢
  have hab : a ≠ b := fun e => hne (by rw [e])
  unfold mLow at e1 e2 ⊢
  by_cases hle : nI b ≤ nI a
  · rw [if_pos hle] at e1 e2 ⊢
    have := (nI_leI (by omega) (by omega)).mp hle
    rw [nI_clamp (by omega)] at e1 e2
    rw [nI_clamp (by omega)] at e2
    omega
  · rw [if_neg hle] at e1 e2 ⊢
    have : ¬ b ≤ a := fun w => hle (nI_le w (by omega))
    rw [nI_clamp (by omega), nI_clamp (by omega)] at e1
    rw [nI_clamp (by omega)] at e2
    omega
theorem nmPut_ok {c f : Nat → Int32} (h : nmOk c f) {j : Nat} (hj : j < 60) (hw : c j = 0) : nmOk c (nmPut f j) := by
  have l1 := nF_lt hj
  have l2 := nS_lt hj
  have l3 := nFS_ne j hj
  obtain ⟨a, a1, a2, a3⟩ := h _ l1
  obtain ⟨b, b1, b2, b3⟩ := h _ l2
  have key : ∃ r, r ≤ nF j ∧ r ≤ nS j ∧ mLow (f (nF j)) (f (nS j)) = nI r ∧ cConn c (nF j) r ∧ cConn c (nS j) r := by
    rw [a2, b2]
    unfold mLow
    by_cases hle : nI b ≤ nI a
    · rw [if_pos hle]
      have := (nI_leI (by omega) (by omega)).mp hle
      exact ⟨b, by omega, b1, rfl, cc_trans (cc_joint hj hw) b3, b3⟩
    · rw [if_neg hle]
      have : ¬ b ≤ a := fun w => hle (nI_le w (by omega))
      exact ⟨a, a1, by omega, rfl, a3, cc_trans (cc_joint' hj hw) a3⟩
  obtain ⟨r, r1, r2, r3, r4, r5⟩ := key
  intro k hk
  unfold nmPut
  rw [r3]
  by_cases e : k = nS j
  · exact ⟨r, by omega, if_pos e, by rw [e]; exact r5⟩
  · by_cases e2 : k = nF j
    · refine ⟨r, by omega, ?_, by rw [e2]; exact r4⟩
      rw [e2]
      exact (if_neg l3).trans (if_pos rfl)
    · obtain ⟨r', q1, q2, q3⟩ := h k hk
      exact ⟨r', q1, (if_neg e).trans ((if_neg e2).trans q2), q3⟩
theorem nmPut_hi {f : Nat → Int32} {j k : Nat} (hj : j < 60) (hk : 36 ≤ k) : nmPut f j k = f k := by
  have l1 := nF_lt hj
  have l2 := nS_lt hj
  exact (if_neg (by omega)).trans (if_neg (by omega))
def uCount (f : Nat → Int32) : Nat → Int32 := nf (fun i a => a + (if f i = nI i then 1 else 0)) 0
noncomputable def uGreat (f : Nat → Int32) : Nat → Int32 := nf (fun i a => if kseal (gSize f (nI i)) ≤ a then a else kseal (gSize f (nI i))) 0
def uSum (f h : Nat → Int32) (x : Int32) : Nat → Int32 := nf (fun i a => a + (if f i = x then h i else 0)) 0
noncomputable def rNames (m : RSt) : RSt := match m with
  | (s, ad, pa, ke, pd, fl, nm, kn, ik, ln, sg, sp, fo, ho, ta, tR, tm) => (s, ad, pa, ke, pd, fl, lcN (vC s) nm, kn, ik, ln, sg, sp, fo, ho, ta, tR, tm)
noncomputable def rGreat (m : RSt) : RSt × Int32 := match m with
  | (s, ad, pa, ke, pd, fl, nm, kn, ik, ln, sg, sp, fo, ho, ta, tR, tm) => ((s, ad, pa, ke, pd, fl, lcN (vC s) nm, kn, ik, ln, sg, sp, fo, ho, ta, tR, tm), kseal (uGreat (lcN (vC s) nm) 36))
noncomputable def rPieces (m : RSt) (x : Int32) : RSt × Int32 := match m with
  | (s, ad, pa, ke, pd, fl, nm, kn, ik, ln, sg, sp, fo, ho, ta, tR, tm) => if gIn x 0 1 = 0 then ((s, ad, pa, ke, pd, fl, nm, kn, ik, ln, sg, sp, fo, ho, ta, tR, tm), -1) else ((s, ad, pa, ke, pd, fl, lcN (vC s) nm, kn, ik, ln, sg, sp, fo, ho, ta, tR, tm), kseal (uCount (lcN (vC s) nm) 36))
noncomputable def uMeanV (s f : Nat → Int32) (x : Int32) : UInt64 := FP.ddiv (FP.i2d (kseal (uSum f (vH s) (f x.toNatClampNeg) 36))) (FP.i2d (kseal (gSize f (f x.toNatClampNeg))))
noncomputable def rMean (m : RSt) (x : Int32) : RSt × UInt64 := match m with
  | (s, ad, pa, ke, pd, fl, nm, kn, ik, ln, sg, sp, fo, ho, ta, tR, tm) => if gIsCell x = 0 then ((s, ad, pa, ke, pd, fl, nm, kn, ik, ln, sg, sp, fo, ho, ta, tR, tm), 13830554455654793216) else ((s, ad, pa, ke, pd, fl, lcN (vC s) nm, kn, ik, ln, sg, sp, fo, ho, ta, tR, tm), uMeanV s (lcN (vC s) nm) x)
noncomputable def rPieceOf (m : RSt) (x : Int32) : RSt × Int32 := match m with
  | (s, ad, pa, ke, pd, fl, nm, kn, ik, ln, sg, sp, fo, ho, ta, tR, tm) => ((s, ad, pa, ke, pd, fl, lcN (vC s) nm, kn, ik, ln, sg, sp, fo, ho, ta, tR, tm), lcN (vC s) nm x.toNatClampNeg)
noncomputable def rCell (m : RSt) (x y : Int32) : RSt × Int32 := match m with
  | (s, ad, pa, ke, pd, fl, nm, kn, ik, ln, sg, sp, fo, ho, ta, tR, tm) => if gIsCell x = 0 then ((s, ad, pa, ke, pd, fl, nm, kn, ik, ln, sg, sp, fo, ho, ta, tR, tm), -1) else if y = 0 then ((s, ad, pa, ke, pd, fl, nm, kn, ik, ln, sg, sp, fo, ho, ta, tR, tm), s (8 + x.toNatClampNeg)) else if y = 1 then ((s, ad, pa, ke, pd, fl, lcN (vC s) nm, kn, ik, ln, sg, sp, fo, ho, ta, tR, tm), lcN (vC s) nm x.toNatClampNeg) else if y = 2 then ((s, ad, pa, ke, pd, fl, nm, kn, ik, ln, sg, sp, fo, ho, ta, tR, tm), kseal (mWhole1 (vC s) x 60)) else if y = 3 then ((s, ad, pa, ke, pd, fl, nm, kn, ik, ln, sg, sp, fo, ho, ta, tR, tm), gRim x) else if y = 4 then ((s, ad, pa, ke, pd, fl, nm, kn, ik, ln, sg, sp, fo, ho, ta, tR, tm), kseal (mStress1 (vH s) (vC s) x 60)) else ((s, ad, pa, ke, pd, fl, nm, kn, ik, ln, sg, sp, fo, ho, ta, tR, tm), -1)
noncomputable def rJoint (m : RSt) (x y : Int32) : RSt × Int32 := match m with
  | (s, ad, pa, ke, pd, fl, nm, kn, ik, ln, sg, sp, fo, ho, ta, tR, tm) => if gIsJoint x = 0 then ((s, ad, pa, ke, pd, fl, nm, kn, ik, ln, sg, sp, fo, ho, ta, tR, tm), -1) else if y = 0 then ((s, ad, pa, ke, pd, fl, nm, kn, ik, ln, sg, sp, fo, ho, ta, tR, tm), gFirst x) else if y = 1 then ((s, ad, pa, ke, pd, fl, nm, kn, ik, ln, sg, sp, fo, ho, ta, tR, tm), gSecond x) else if y = 2 then ((s, ad, pa, ke, pd, fl, nm, kn, ik, ln, sg, sp, fo, ho, ta, tR, tm), if gWh (vC s) x = 0 then 0 else 1) else if y = 3 then ((s, ad, pa, ke, pd, fl, nm, kn, ik, ln, sg, sp, fo, ho, ta, tR, tm), s (104 + x.toNatClampNeg)) else if y = 4 then ((s, ad, pa, ke, pd, fl, nm, kn, ik, ln, sg, sp, fo, ho, ta, tR, tm), gStr (vH s) x) else if y = 5 then ((s, ad, pa, ke, pd, fl, nm, kn, ik, ln, sg, sp, fo, ho, ta, tR, tm), if gWh (vC s) x = 0 then s (44 + x.toNatClampNeg) else -4) else if y = 6 then ((s, ad, pa, ke, pd, fl, nm, kn, ik, ln, sg, sp, fo, ho, ta, tR, tm), kseal (mTouch1 (vC s) x 60)) else ((s, ad, pa, ke, pd, fl, nm, kn, ik, ln, sg, sp, fo, ho, ta, tR, tm), -1)
noncomputable def rCount (m : RSt) (x : Int32) : RSt × Int32 := match m with
  | (s, ad, pa, ke, pd, fl, nm, kn, ik, ln, sg, sp, fo, ho, ta, tR, tm) => if x = 0 then ((s, ad, pa, ke, pd, fl, nm, kn, ik, ln, sg, sp, fo, ho, ta, tR, tm), s 0) else if x = 1 then ((s, ad, pa, ke, pd, fl, nm, kn, ik, ln, sg, sp, fo, ho, ta, tR, tm), s 1) else if x = 2 then ((s, ad, pa, ke, pd, fl, nm, kn, ik, ln, sg, sp, fo, ho, ta, tR, tm), s 2) else if x = 3 then ((s, ad, pa, ke, pd, fl, nm, kn, ik, ln, sg, sp, fo, ho, ta, tR, tm), s 3) else if x = 4 then ((s, ad, pa, ke, pd, fl, nm, kn, ik, ln, sg, sp, fo, ho, ta, tR, tm), kseal (gSum (vH s))) else if x = 5 then ((s, ad, pa, ke, pd, fl, nm, kn, ik, ln, sg, sp, fo, ho, ta, tR, tm), s 4) else if x = 6 then ((s, ad, pa, ke, pd, fl, nm, kn, ik, ln, sg, sp, fo, ho, ta, tR, tm), kseal (gCracked (vC s))) else if x = 7 then ((s, ad, pa, ke, pd, fl, nm, kn, ik, ln, sg, sp, fo, ho, ta, tR, tm), kseal (gHot (vH s))) else if x = 8 then ((s, ad, pa, ke, pd, fl, nm, kn, ik, ln, sg, sp, fo, ho, ta, tR, tm), kseal (gCold (vH s))) else if x = 9 then ((s, ad, pa, ke, pd, fl, nm, kn, ik, ln, sg, sp, fo, ho, ta, tR, tm), kseal (gStrMax (vH s) (vC s))) else if x = 10 then ((s, ad, pa, ke, pd, fl, nm, kn, ik, ln, sg, sp, fo, ho, ta, tR, tm), mLeastMar (vH s) (vS s) (vC s)) else if x = 11 then ((s, ad, pa, ke, pd, fl, lcN (vC s) nm, kn, ik, ln, sg, sp, fo, ho, ta, tR, tm), kseal (uGreat (lcN (vC s) nm) 36)) else if x = 12 then ((s, ad, pa, ke, pd, fl, nm, kn, ik, ln, sg, sp, fo, ho, ta, tR, tm), s 6) else if x = 13 then ((s, ad, pa, ke, pd, fl, nm, kn, ik, ln, sg, sp, fo, ho, ta, tR, tm), s 7) else if x = 14 then ((s, ad, pa, ke, pd, fl, nm, kn, ik, ln, sg, sp, fo, ho, ta, tR, tm), s 5) else if x = 15 then ((s, ad, pa, ke, pd, fl, nm, kn, ik, ln, sg, sp, fo, ho, ta, tR, tm), ln) else if x = 16 then ((s, ad, pa, ke, pd, fl, nm, kn, ik, ln, sg, sp, fo, ho, ta, tR, tm), kn) else ((s, ad, pa, ke, pd, fl, nm, kn, ik, ln, sg, sp, fo, ho, ta, tR, tm), -1)
noncomputable def S_X7_names : mjSp := fun M as => ((M = mw (rR M) ∧ as = [.ref 0]) ∧ aOk (rR M), some (mw (rNames (rR M))), none)
noncomputable def S_X7_greatestPiece : mjSp := fun M as => ((M = mw (rR M) ∧ as = [.ref 0]) ∧ aOk (rR M), some (mw (rGreat (rR M)).1), some (.int (rGreat (rR M)).2))
noncomputable def S_X7_pieces : mjSp := fun M as => ((M = mw (rR M) ∧ as = [.ref 0, .int (aI as 1)]) ∧ aOk (rR M), some (mw (rPieces (rR M) (aI as 1)).1), some (.int (rPieces (rR M) (aI as 1)).2))
noncomputable def S_X7_mean : mjSp := fun M as => ((M = mw (rR M) ∧ as = [.ref 0, .int (aI as 1)]) ∧ (¬ gIsCell (aI as 1) = 0 → vf_n64 (uMeanV (rR M).1 (lcN (vC (rR M).1) (rR M).2.2.2.2.2.2.1) (aI as 1))), some (mw (rMean (rR M) (aI as 1)).1), some (.double (rMean (rR M) (aI as 1)).2))
noncomputable def S_X7_pieceOf : mjSp := fun M as => ((M = mw (rR M) ∧ as = [.ref 0, .int (aI as 1)]) ∧ inC (aI as 1), some (mw (rPieceOf (rR M) (aI as 1)).1), some (.int (rPieceOf (rR M) (aI as 1)).2))
noncomputable def S_X7_cell : mjSp := fun M as => ((M = mw (rR M) ∧ as = [.ref 0, .int (aI as 1), .int (aI as 2)]) ∧ aOk (rR M), some (mw (rCell (rR M) (aI as 1) (aI as 2)).1), some (.int (rCell (rR M) (aI as 1) (aI as 2)).2))
noncomputable def S_X7_joint : mjSp := fun M as => ((M = mw (rR M) ∧ as = [.ref 0, .int (aI as 1), .int (aI as 2)]) ∧ aOk (rR M), some (mw (rJoint (rR M) (aI as 1) (aI as 2)).1), some (.int (rJoint (rR M) (aI as 1) (aI as 2)).2))
noncomputable def S_X7_count : mjSp := fun M as => ((M = mw (rR M) ∧ as = [.ref 0, .int (aI as 1)]) ∧ aOk (rR M), some (mw (rCount (rR M) (aI as 1)).1), some (.int (rCount (rR M) (aI as 1)).2))
def rm_X7_names : Room := { frames := 2, cells := 0, slots := 0, locals := 40 }
noncomputable def G_X7_names : mjG := (I_X7_names, F_X7, [(47, 1, 0, 1, 0, 0, S_X7_firstOf), (50, 1, 0, 1, 0, 0, S_X7_secondOf), (63, 0, 6, 2, 0, 0, S_X7_isWhole)], (fun pc => bif Nat.beq pc 60 then [0, 1, 2, 3, 4, 5, 6, 7] else []), Y0, (fun _ => none), (fun _ => none), none, 0, 0, false)
set_option maxHeartbeats 20000000 in
set_option maxRecDepth 100000 in
theorem ok_X7_names : mjOK G_X7_names 5 S_X7_names := by
  intro M as hP T hT
  obtain ⟨⟨s, ad, pa, ke, pd, fl, nm, kn, ik, ln, sg, sp, fo, ho, ta, tR, tm⟩, rfl, rfl, hk⟩ : ∃ m, M = mw m ∧ as = [.ref 0] ∧ aOk m := ⟨_, hP.1.1, hP.1.2, hP.2⟩
  have fin : (S_X7_names (mw (s, ad, pa, ke, pd, fl, nm, kn, ik, ln, sg, sp, fo, ho, ta, tR, tm)) [.ref 0]).2.1 = some (mw (rNames (s, ad, pa, ke, pd, fl, nm, kn, ik, ln, sg, sp, fo, ho, ta, tR, tm))) := rfl
  have fin2 : (S_X7_names (mw (s, ad, pa, ke, pd, fl, nm, kn, ik, ln, sg, sp, fo, ho, ta, tR, tm)) [.ref 0]).2.2 = none := rfl
  rw [rNames] at fin
  try dsimp only at fin
  generalize S_X7_names (mw (s, ad, pa, ke, pd, fl, nm, kn, ik, ln, sg, sp, fo, ho, ta, tR, tm)) [.ref 0] = SS at hT fin fin2
  have leaf : ∀ f (g : Int32) (l2 l3 l4 : Option Value), isName (vC s) f → (∀ k : Nat, 36 ≤ k → f k = nm k) → T 125 [some (.ref 0), some (.int g), l2, l3, l4] [] (mw (s, ad, pa, ke, pd, fl, f, kn, ik, ln, sg, sp, fo, ho, ta, tR, tm)) (0, 0) := by
    intro f g l2 l3 l4 h1 h2
    rw [lcN_eq h1 h2] at fin
    refine hT.1 (fun _ => false) 60 _ _ _ _ _ ?_
    exact ⟨by rw [fin]; rfl, fin2.symm⟩
  have loop : ∀ m f (l2 l3 l4 : Option Value), sN f 36 < m → nmOk (vC s) f → (∀ k : Nat, 36 ≤ k → f k = nm k) → T 23 [some (.ref 0), some (.int 1), l2, l3, l4] [] (mw (s, ad, pa, ke, pd, fl, f, kn, ik, ln, sg, sp, fo, ho, ta, tR, tm)) (0, 0) := by
    intro m
    induction m with
    | zero => exact fun f _ _ _ h => absurd h (by omega)
    | succ m ih =>
      intro f0 l2 l3 l4 hm hok hhi
      refine hT.1 (fun pc => Nat.beq pc 31) 60 _ _ _ _ _ ?_
      refine And.intro (fun h => absurd h (by decide)) (fun _ => ?_)
      refine mjloop0 60 (fun i => ∀ (f : Nat → Int32) (g : Int32) (l3 l4 : Option Value), nmOk (vC s) f → (∀ k : Nat, 36 ≤ k → f k = nm k) → ((g = 0 ∧ f = f0 ∧ ∀ j : Nat, j < i → vC s j = 0 → f (nF j) = f (nS j)) ∨ (g = 1 ∧ sN f 36 < sN f0 36)) → T 31 [some (.ref 0), some (.int g), some (.int (nI i)), l3, l4] [] (mw (s, ad, pa, ke, pd, fl, f, kn, ik, ln, sg, sp, fo, ho, ta, tR, tm)) (0, 0)) (fun i hi ih2 f g l3 l4 h1 h2 h3 => ?_) (fun f g l3 l4 h1 h2 h3 => ?_) f0 0 l3 l4 hok hhi (Or.inl ⟨rfl, rfl, fun j hj => absurd hj (by omega)⟩)
      · rw [nI_succ] at ih2
        have l1 := nF_lt hi
        have l2 := nS_lt hi
        have ew : gWh (vC s) (nI i) = if vC s i = 0 then 1 else 0 := gWh_n hi
        have skip : (vC s i = 0 → f (nF i) = f (nS i)) → ∀ l3 l4, T 31 [some (.ref 0), some (.int g), some (.int (nI i + 1)), l3, l4] [] (mw (s, ad, pa, ke, pd, fl, f, kn, ik, ln, sg, sp, fo, ho, ta, tR, tm)) (0, 0) := by
          intro he l3 l4
          refine ih2 f g l3 l4 h1 h2 ?_
          rcases h3 with ⟨a, b, c⟩ | h3
          · refine Or.inl ⟨a, b, fun j hj hw => ?_⟩
            rcases Nat.lt_or_ge j i with w | w
            · exact c j w hw
            · have e : j = i := by omega
              subst e
              exact he hw
          · exact Or.inr h3
        have s92 : ∀ v, v = mLow (f (nF i)) (f (nS i)) → vC s i = 0 → ¬ f (nF i) = f (nS i) → T 93 [some (.ref 0), some (.int g), some (.int (nI i)), some (.int (f (nF i))), some (.int (f (nS i)))] [] (mw (s, ad, pa, ke, pd, fl, upd f (nF i) v, kn, ik, ln, sg, sp, fo, ho, ta, tR, tm)) (0, 0) := by
          intro v hv hw hne
          have s113 : ∀ v2, v2 = mLow (f (nF i)) (f (nS i)) → T 113 [some (.ref 0), some (.int g), some (.int (nI i)), some (.int (f (nF i))), some (.int (f (nS i)))] [.int v2, .int (gSecond (nI i)), .ref 7] (mw (s, ad, pa, ke, pd, fl, upd f (nF i) v, kn, ik, ln, sg, sp, fo, ho, ta, tR, tm)) (0, 0) := by
            intro v2 hv2
            have hlt := nmPut_lt h1 hi hne
            have ih3 := ih2 (nmPut f i) 1 (some (.int (f (nF i)))) (some (.int (f (nS i)))) (nmPut_ok h1 hi hw) (fun k hk => (nmPut_hi hi hk).trans (h2 k hk)) (Or.inr ⟨rfl, by
              rcases h3 with ⟨_, b, _⟩ | ⟨_, b⟩
              · rw [b] at hlt ⊢
                exact hlt
              · omega⟩)
            refine hT.1 (fun pc => Nat.beq pc 31) 60 _ _ _ _ _ ?_
            refine mjix_e (nS i) (gSecond_n hi) l2 (by decide) ?_
            rw [nmPut, ← hv, hv, ← hv2, hv2, ← hv] at ih3
            rw [hv2, ← hv]
            exact ih3
          refine hT.1 (fun pc => Nat.beq pc 113) 60 _ _ _ _ _ ?_
          exact And.intro ⟨rfl, rfl⟩ (And.intro (fun (h : f (nS i) ≤ f (nF i)) => s113 _ (if_pos h).symm) (fun (h : ¬ f (nS i) ≤ f (nF i)) => s113 _ (if_neg h).symm))
        have s72 : vC s i = 0 → ¬ f (nF i) = f (nS i) → T 72 [some (.ref 0), some (.int g), some (.int (nI i)), some (.int (f (nF i))), some (.int (f (nS i)))] [] (mw (s, ad, pa, ke, pd, fl, f, kn, ik, ln, sg, sp, fo, ho, ta, tR, tm)) (0, 0) := by
          intro hw hne
          have s92b : ∀ v, v = mLow (f (nF i)) (f (nS i)) → T 92 [some (.ref 0), some (.int g), some (.int (nI i)), some (.int (f (nF i))), some (.int (f (nS i)))] [.int v, .int (gFirst (nI i)), .ref 7] (mw (s, ad, pa, ke, pd, fl, f, kn, ik, ln, sg, sp, fo, ho, ta, tR, tm)) (0, 0) := by
            intro v hv
            refine hT.1 (fun pc => Nat.beq pc 93) 60 _ _ _ _ _ ?_
            exact mjix_e (nF i) (gFirst_n hi) l1 (by decide) (s92 v hv hw hne)
          refine hT.1 (fun pc => Nat.beq pc 92) 60 _ _ _ _ _ ?_
          exact And.intro ⟨rfl, rfl⟩ (And.intro (fun (h : f (nS i) ≤ f (nF i)) => s92b _ (if_pos h).symm) (fun (h : ¬ f (nS i) ≤ f (nF i)) => s92b _ (if_neg h).symm))
        refine hT.1 (fun pc => Nat.beq pc 31 || Nat.beq pc 72) 60 _ _ _ _ _ ?_
        refine And.intro (fun h => absurd h (nI_ge hi (by decide))) (fun _ => And.intro ⟨rfl, rfl⟩ (mjix_e (nF i) (gFirst_n hi) l1 (by decide) (And.intro ⟨rfl, rfl⟩ (mjix_e (nS i) (gSecond_n hi) l2 (by decide) (And.intro ⟨⟨rfl, rfl⟩, inJ_n hi⟩ (And.intro (fun (hg : gWh (vC s) (nI i) = 0) => skip (fun hw => absurd hg (by rw [ew, if_pos hw]; decide)) _ _) (fun (hg : ¬ gWh (vC s) (nI i) = 0) => And.intro (fun (he : f (nF i) = f (nS i)) => skip (fun _ => he) _ _) (fun (he : ¬ f (nF i) = f (nS i)) => s72 ?_ he))))))))
        by_cases hw : vC s i = 0
        · exact hw
        · rw [ew, if_neg hw] at hg
          exact absurd rfl hg
      · refine hT.1 (fun pc => Nat.beq pc 23) 60 _ _ _ _ _ ?_
        refine And.intro (fun _ => ?_) (fun h => absurd (nI_le (Nat.le_refl 60) (by decide)) h)
        rcases h3 with ⟨rfl, rfl, c⟩ | ⟨rfl, hlt⟩
        · refine hT.1 (fun pc => Nat.beq pc 125) 60 _ _ _ _ _ ?_
          exact And.intro (fun _ => leaf f 0 _ _ _ ⟨h1, c⟩ h2) (fun h => absurd rfl h)
        · exact ih f _ _ _ (by omega) h1 h2
  refine hT.1 (fun pc => Nat.beq pc 2) 60 _ _ _ _ _ ?_
  refine mjloop0 36 (fun i => ∀ f : Nat → Int32, (∀ k : Nat, k < i → f k = nI k) → (∀ k : Nat, i ≤ k → f k = nm k) → T 2 [some (.ref 0), some (.int (nI i)), none, none, none] [] (mw (s, ad, pa, ke, pd, fl, f, kn, ik, ln, sg, sp, fo, ho, ta, tR, tm)) (0, 0)) (fun i hi ih f h1 h2 => ?_) (fun f h1 h2 => ?_) nm (fun k hk => absurd hk (by omega)) (fun _ _ => rfl)
  · rw [nI_succ] at ih
    refine hT.1 (fun pc => Nat.beq pc 2) 60 _ _ _ _ _ ?_
    refine And.intro (fun h => absurd h (nI_ge hi (by decide))) (fun _ => mjix_n hi (by decide) (ih _ (fun k hk => ?_) (fun k hk => ?_)))
    · by_cases e : k = i
      · rw [e]
        exact if_pos rfl
      · exact (if_neg e).trans (h1 k (by omega))
    · exact (if_neg (by omega)).trans (h2 k (by omega))
  · refine hT.1 (fun pc => Nat.beq pc 23) 60 _ _ _ _ _ ?_
    exact And.intro (fun _ => loop (sN f 36 + 1) f _ _ _ (by omega) (fun k hk => ⟨k, Nat.le_refl _, h1 k hk, cc_refl k⟩) h2) (fun h => absurd (nI_le (Nat.le_refl 36) (by decide)) h)
set_option maxRecDepth 10000 in
theorem ct_X7_names (l : Launch) : mjCT l yX7_names cX7_names 5 none rm_X7_names S_X7_names :=
  mjCT_of (own := RX7) (G := G_X7_names) (plainFor_of_name pn_X7) rfl ok_X7_names (fun meth hm => ⟨fun pc row h => (I_X7_names_ok pc row h).1, F_X7_ok, List.forall_mem_cons.mpr ⟨⟨yX7_firstOf, cX7_firstOf, 1, (some .int), rm_X7_firstOf, ct_X7_firstOf l, ⟨rfl, rfl⟩, ⟨by decide, by decide⟩, by decide, nk_X7_firstOf, ln_X7_47, st_X7_firstOf⟩, List.forall_mem_cons.mpr ⟨⟨yX7_secondOf, cX7_secondOf, 1, (some .int), rm_X7_secondOf, ct_X7_secondOf l, ⟨rfl, rfl⟩, ⟨by decide, by decide⟩, by decide, nk_X7_secondOf, ln_X7_50, st_X7_secondOf⟩, List.forall_mem_cons.mpr ⟨⟨yX7_isWhole, cX7_isWhole, 2, (some .boolean), rm_X7_isWhole, ct_X7_isWhole l, ⟨rfl, rfl⟩, ⟨by decide, by decide⟩, by decide, by decide, nk_X7_isWhole, ln_X7_63, im_X7_isWhole, se_X7_isWhole, rfl⟩, fun _ h => absurd h List.not_mem_nil⟩⟩⟩, (fun _ _ _ h => by cases h), (fun _ _ h => by cases h), ⟨Nat.le_refl _, Nat.le_refl _⟩, (fun h => by cases h), (fun h => absurd h (by decide))⟩) rfl rfl rfl (fun pc row h => (I_X7_names_ok pc row h).2)
def rm_X7_greatestPiece : Room := { frames := 3, cells := 0, slots := 0, locals := 64 }
noncomputable def G_X7_greatestPiece : mjG := (I_X7_greatestPiece, F_X7, [(151, 0, 6, 1, 0, 0, S_X7_names), (154, 0, 6, 2, 0, 0, S_X7_cellsOf)], (fun pc => [0, 1, 2, 3, 4, 5, 6, 7]), Y0, (fun _ => none), (fun _ => none), (some .int), 0, 0, false)
set_option maxHeartbeats 20000000 in
set_option maxRecDepth 100000 in
theorem ok_X7_greatestPiece : mjOK G_X7_greatestPiece 3 S_X7_greatestPiece := by
  intro M as hP T hT
  obtain ⟨⟨s, ad, pa, ke, pd, fl, nm, kn, ik, ln, sg, sp, fo, ho, ta, tR, tm⟩, rfl, rfl, hk⟩ : ∃ m, M = mw m ∧ as = [.ref 0] ∧ aOk m := ⟨_, hP.1.1, hP.1.2, hP.2⟩
  have fin : (S_X7_greatestPiece (mw (s, ad, pa, ke, pd, fl, nm, kn, ik, ln, sg, sp, fo, ho, ta, tR, tm)) [.ref 0]).2.1 = some (mw (rGreat (s, ad, pa, ke, pd, fl, nm, kn, ik, ln, sg, sp, fo, ho, ta, tR, tm)).1) := rfl
  have fin2 : (S_X7_greatestPiece (mw (s, ad, pa, ke, pd, fl, nm, kn, ik, ln, sg, sp, fo, ho, ta, tR, tm)) [.ref 0]).2.2 = some (.int (rGreat (s, ad, pa, ke, pd, fl, nm, kn, ik, ln, sg, sp, fo, ho, ta, tR, tm)).2) := rfl
  rw [rGreat] at fin fin2
  try dsimp only at fin fin2
  generalize S_X7_greatestPiece (mw (s, ad, pa, ke, pd, fl, nm, kn, ik, ln, sg, sp, fo, ho, ta, tR, tm)) [.ref 0] = SS at hT fin fin2
  rw [kseal_eq] at fin2
  have s4 : ∀ f, f = lcN (vC s) nm → T 4 [some (.ref 0), none, none] [] (mw (s, ad, pa, ke, pd, fl, f, kn, ik, ln, sg, sp, fo, ho, ta, tR, tm)) (0, 0) := by
    intro f hf
    rw [← hf] at fin fin2
    refine hT.1 (fun pc => Nat.beq pc 8) 60 _ _ _ _ _ ?_
    refine mjloop0 36 (fun i => ∀ v, v = uGreat f i → T 8 [some (.ref 0), some (.int v), some (.int (nI i))] [] (mw (s, ad, pa, ke, pd, fl, f, kn, ik, ln, sg, sp, fo, ho, ta, tR, tm)) (0, 0)) (fun i hi ih v hv => ?_) (fun v hv => ?_) 0 rfl
    · have e : uGreat f (i + 1) = if kseal (gSize f (nI i)) ≤ uGreat f i then uGreat f i else kseal (gSize f (nI i)) := rfl
      rw [nI_succ, e, ← hv] at ih
      have s19 : ∀ w, w = kseal (gSize f (nI i)) → T 19 [some (.ref 0), some (.int v), some (.int (nI i))] [.int w] (mw (s, ad, pa, ke, pd, fl, f, kn, ik, ln, sg, sp, fo, ho, ta, tR, tm)) (0, 0) := by
        intro w hw
        rw [← hw] at ih
        have s32 : ∀ u, u = (if w ≤ v then v else w) → T 32 [some (.ref 0), some (.int v), some (.int (nI i))] [.int u] (mw (s, ad, pa, ke, pd, fl, f, kn, ik, ln, sg, sp, fo, ho, ta, tR, tm)) (0, 0) := by
          intro u hu
          refine hT.1 (fun pc => Nat.beq pc 8) 60 _ _ _ _ _ ?_
          exact ih u hu
        refine hT.1 (fun pc => Nat.beq pc 32) 60 _ _ _ _ _ ?_
        refine And.intro (fun (h : w ≤ v) => s32 _ (if_pos h).symm) (fun (h : ¬ w ≤ v) => And.intro ⟨⟨rfl, rfl⟩, trivial⟩ (s32 _ ?_))
        rw [if_neg h]
        exact hw.symm
      refine hT.1 (fun pc => Nat.beq pc 19) 60 _ _ _ _ _ ?_
      exact And.intro (fun h => absurd h (nI_ge hi (by decide))) (fun _ => And.intro ⟨⟨rfl, rfl⟩, trivial⟩ (s19 _ rfl))
    · rw [← hv] at fin2
      refine hT.1 (fun _ => false) 60 _ _ _ _ _ ?_
      exact And.intro (fun _ => ⟨by rw [fin]; rfl, fin2.symm⟩) (fun h => absurd (nI_le (Nat.le_refl 36) (by decide)) h)
  refine hT.1 (fun pc => Nat.beq pc 4) 60 _ _ _ _ _ ?_
  exact And.intro ⟨⟨rfl, rfl⟩, trivial⟩ (s4 _ rfl)
set_option maxRecDepth 10000 in
theorem ct_X7_greatestPiece (l : Launch) : mjCT l yX7_greatestPiece cX7_greatestPiece 3 (some .int) rm_X7_greatestPiece S_X7_greatestPiece :=
  mjCT_of (own := RX7) (G := G_X7_greatestPiece) (plainFor_of_name pn_X7) rfl ok_X7_greatestPiece (fun meth hm => ⟨fun pc row h => (I_X7_greatestPiece_ok pc row h).1, F_X7_ok, List.forall_mem_cons.mpr ⟨⟨yX7_names, cX7_names, 5, none, rm_X7_names, ct_X7_names l, ⟨rfl, rfl⟩, ⟨by decide, by decide⟩, by decide, by decide, nk_X7_names, ln_X7_151, im_X7_names, se_X7_names, rfl⟩, List.forall_mem_cons.mpr ⟨⟨yX7_cellsOf, cX7_cellsOf, 4, (some .int), rm_X7_cellsOf, ct_X7_cellsOf l, ⟨rfl, rfl⟩, ⟨by decide, by decide⟩, by decide, by decide, nk_X7_cellsOf, ln_X7_154, im_X7_cellsOf, se_X7_cellsOf, rfl⟩, fun _ h => absurd h List.not_mem_nil⟩⟩, (fun _ _ _ h => by cases h), (fun _ _ h => by cases h), ⟨Nat.le_refl _, Nat.le_refl _⟩, (fun h => by cases h), (fun h => absurd h (by decide))⟩) rfl rfl rfl (fun pc row h => (I_X7_greatestPiece_ok pc row h).2)
def rm_X7_pieces : Room := { frames := 3, cells := 0, slots := 0, locals := 64 }
noncomputable def G_X7_pieces : mjG := (I_X7_pieces, F_X7, [(43, 1, 0, 3, 0, 0, S_X7_in), (151, 0, 6, 1, 0, 0, S_X7_names)], (fun pc => bif Nat.beq pc 12 then [0, 1, 2, 3, 4, 5, 6, 7] else []), Y0, (fun _ => none), (fun _ => none), (some .int), 0, 0, false)
set_option maxHeartbeats 20000000 in
set_option maxRecDepth 100000 in
theorem ok_X7_pieces : mjOK G_X7_pieces 4 S_X7_pieces := by
  intro M as hP T hT
  obtain ⟨⟨s, ad, pa, ke, pd, fl, nm, kn, ik, ln, sg, sp, fo, ho, ta, tR, tm⟩, x, rfl, rfl, hk⟩ : ∃ m x, M = mw m ∧ as = [.ref 0, .int x] ∧ aOk m := ⟨_, _, hP.1.1, hP.1.2, hP.2⟩
  have fin : (S_X7_pieces (mw (s, ad, pa, ke, pd, fl, nm, kn, ik, ln, sg, sp, fo, ho, ta, tR, tm)) [.ref 0, .int x]).2.1 = some (mw (rPieces (s, ad, pa, ke, pd, fl, nm, kn, ik, ln, sg, sp, fo, ho, ta, tR, tm) x).1) := rfl
  have fin2 : (S_X7_pieces (mw (s, ad, pa, ke, pd, fl, nm, kn, ik, ln, sg, sp, fo, ho, ta, tR, tm)) [.ref 0, .int x]).2.2 = some (.int (rPieces (s, ad, pa, ke, pd, fl, nm, kn, ik, ln, sg, sp, fo, ho, ta, tR, tm) x).2) := rfl
  rw [rPieces] at fin fin2
  try dsimp only at fin fin2
  generalize S_X7_pieces (mw (s, ad, pa, ke, pd, fl, nm, kn, ik, ln, sg, sp, fo, ho, ta, tR, tm)) [.ref 0, .int x] = SS at hT fin fin2
  rw [kseal_eq] at fin2
  have s15 : ¬ gIn x 0 1 = 0 → ∀ f, f = lcN (vC s) nm → T 15 [some (.ref 0), some (.int x), none, none] [] (mw (s, ad, pa, ke, pd, fl, f, kn, ik, ln, sg, sp, fo, ho, ta, tR, tm)) (0, 0) := by
    intro h0 f hf
    rw [if_neg h0, ← hf] at fin fin2
    refine hT.1 (fun pc => Nat.beq pc 19) 60 _ _ _ _ _ ?_
    refine mjloop0 36 (fun i => ∀ v, v = uCount f i → T 19 [some (.ref 0), some (.int x), some (.int v), some (.int (nI i))] [] (mw (s, ad, pa, ke, pd, fl, f, kn, ik, ln, sg, sp, fo, ho, ta, tR, tm)) (0, 0)) (fun i hi ih v hv => ?_) (fun v hv => ?_) 0 rfl
    · have e : uCount f (i + 1) = uCount f i + (if f i = nI i then 1 else 0) := rfl
      rw [nI_succ, e, ← hv] at ih
      refine hT.1 (fun pc => Nat.beq pc 19) 60 _ _ _ _ _ ?_
      refine And.intro (fun h => absurd h (nI_ge hi (by decide))) (fun _ => mjix_n hi (by decide) (And.intro (fun (h : ¬ f i = nI i) => ih _ ?_) (fun (h : f i = nI i) => ih _ ?_)))
      · rw [if_neg h]
      · rw [if_pos h]
    · rw [← hv] at fin2
      refine hT.1 (fun _ => false) 60 _ _ _ _ _ ?_
      exact And.intro (fun _ => ⟨by rw [fin]; rfl, fin2.symm⟩) (fun h => absurd (nI_le (Nat.le_refl 36) (by decide)) h)
  refine hT.1 (fun pc => Nat.beq pc 15) 60 _ _ _ _ _ ?_
  refine And.intro ⟨rfl, rfl⟩ (And.intro (fun (h0 : ¬ gIn x 0 1 = 0) => And.intro ⟨⟨rfl, rfl⟩, trivial⟩ (s15 h0 _ rfl)) (fun (h0 : gIn x 0 1 = 0) => ⟨?_, ?_⟩))
  · rw [fin, if_pos h0]; rfl
  · rw [fin2, if_pos h0]
set_option maxRecDepth 10000 in
theorem ct_X7_pieces (l : Launch) : mjCT l yX7_pieces cX7_pieces 4 (some .int) rm_X7_pieces S_X7_pieces :=
  mjCT_of (own := RX7) (G := G_X7_pieces) (plainFor_of_name pn_X7) rfl ok_X7_pieces (fun meth hm => ⟨fun pc row h => (I_X7_pieces_ok pc row h).1, F_X7_ok, List.forall_mem_cons.mpr ⟨⟨yX7_in, cX7_in, 3, (some .boolean), rm_X7_in, ct_X7_in l, ⟨rfl, rfl⟩, ⟨by decide, by decide⟩, by decide, nk_X7_in, ln_X7_43, st_X7_in⟩, List.forall_mem_cons.mpr ⟨⟨yX7_names, cX7_names, 5, none, rm_X7_names, ct_X7_names l, ⟨rfl, rfl⟩, ⟨by decide, by decide⟩, by decide, by decide, nk_X7_names, ln_X7_151, im_X7_names, se_X7_names, rfl⟩, fun _ h => absurd h List.not_mem_nil⟩⟩, (fun _ _ _ h => by cases h), (fun _ _ h => by cases h), ⟨Nat.le_refl _, Nat.le_refl _⟩, (fun h => by cases h), (fun h => absurd h (by decide))⟩) rfl rfl rfl (fun pc row h => (I_X7_pieces_ok pc row h).2)
def rm_X7_mean : Room := { frames := 3, cells := 0, slots := 0, locals := 64 }
noncomputable def G_X7_mean : mjG := (I_X7_mean, F_X7, [(108, 1, 0, 1, 0, 0, S_X7_isCell), (151, 0, 6, 1, 0, 0, S_X7_names), (154, 0, 6, 2, 0, 0, S_X7_cellsOf)], (fun pc => bif Nat.beq pc 1 then [] else [0, 1, 2, 3, 4, 5, 6, 7]), Y0, (fun _ => none), (fun i => bif Nat.beq i 157 then some 13830554455654793216 else none), (some .double), 0, 0, false)
set_option maxHeartbeats 20000000 in
set_option maxRecDepth 100000 in
theorem ok_X7_mean : mjOK G_X7_mean 4 S_X7_mean := by
  intro M as hP T hT
  obtain ⟨⟨s, ad, pa, ke, pd, fl, nm, kn, ik, ln, sg, sp, fo, ho, ta, tR, tm⟩, x, rfl, rfl, hm⟩ : ∃ m x, M = mw m ∧ as = [.ref 0, .int x] ∧ (¬ gIsCell x = 0 → vf_n64 (uMeanV m.1 (lcN (vC m.1) m.2.2.2.2.2.2.1) x)) := ⟨_, _, hP.1.1, hP.1.2, hP.2⟩
  have fin : (S_X7_mean (mw (s, ad, pa, ke, pd, fl, nm, kn, ik, ln, sg, sp, fo, ho, ta, tR, tm)) [.ref 0, .int x]).2.1 = some (mw (rMean (s, ad, pa, ke, pd, fl, nm, kn, ik, ln, sg, sp, fo, ho, ta, tR, tm) x).1) := rfl
  have fin2 : (S_X7_mean (mw (s, ad, pa, ke, pd, fl, nm, kn, ik, ln, sg, sp, fo, ho, ta, tR, tm)) [.ref 0, .int x]).2.2 = some (.double (rMean (s, ad, pa, ke, pd, fl, nm, kn, ik, ln, sg, sp, fo, ho, ta, tR, tm) x).2) := rfl
  rw [rMean] at fin fin2
  dsimp only at fin fin2 hm
  generalize S_X7_mean (mw (s, ad, pa, ke, pd, fl, nm, kn, ik, ln, sg, sp, fo, ho, ta, tR, tm)) [.ref 0, .int x] = SS at hT fin fin2
  have s15 : ¬ gIsCell x = 0 → ∀ f, f = lcN (vC s) nm → T 15 [some (.ref 0), some (.int x), none, none] [] (mw (s, ad, pa, ke, pd, fl, f, kn, ik, ln, sg, sp, fo, ho, ta, tR, tm)) (0, 0) := by
    intro h0 f hf
    have hm := hm h0
    rw [if_neg h0, ← hf] at fin fin2
    rw [← hf] at hm
    obtain ⟨k, hk, rfl⟩ := inC_of (inC_is h0)
    rw [uMeanV, kseal_eq, nI_clamp (by omega)] at fin2 hm
    refine hT.1 (fun pc => Nat.beq pc 19) 60 _ _ _ _ _ ?_
    refine mjloop0 36 (fun i => ∀ v, v = uSum f (vH s) (f k) i → T 19 [some (.ref 0), some (.int (nI k)), some (.int v), some (.int (nI i))] [] (mw (s, ad, pa, ke, pd, fl, f, kn, ik, ln, sg, sp, fo, ho, ta, tR, tm)) (0, 0)) (fun i hi ih v hv => ?_) (fun v hv => ?_) 0 rfl
    · have e : uSum f (vH s) (f k) (i + 1) = uSum f (vH s) (f k) i + (if f i = f k then vH s i else 0) := rfl
      have ev : vH s i = s (8 + i) := if_pos hi
      rw [nI_succ, e, ← hv, ev] at ih
      refine hT.1 (fun pc => Nat.beq pc 19) 60 _ _ _ _ _ ?_
      refine And.intro (fun h => absurd h (nI_ge hi (by decide))) (fun _ => mjix_n hi (by decide) (mjix_n hk (by decide) (And.intro (fun (h : ¬ f i = f k) => ih _ ?_) (fun (h : f i = f k) => mjix_e (8 + i) (nI_add 8 i) (by omega) (by decide) (ih _ ?_)))))
      · rw [if_neg h]
      · rw [if_pos h]
    · rw [← hv] at fin2 hm
      refine hT.1 (fun _ => false) 60 _ _ _ _ _ ?_
      exact And.intro (fun _ => mjix_n hk (by decide) (And.intro ⟨⟨rfl, rfl⟩, trivial⟩ (And.intro hm ⟨by rw [fin]; rfl, fin2.symm⟩))) (fun h => absurd (nI_le (Nat.le_refl 36) (by decide)) h)
  refine hT.1 (fun pc => Nat.beq pc 15) 60 _ _ _ _ _ ?_
  refine And.intro ⟨rfl, rfl⟩ (And.intro (fun (h0 : ¬ gIsCell x = 0) => And.intro ⟨⟨rfl, rfl⟩, trivial⟩ (s15 h0 _ rfl)) (fun (h0 : gIsCell x = 0) => ⟨?_, ?_⟩))
  · rw [fin, if_pos h0]; rfl
  · rw [fin2, if_pos h0]
set_option maxRecDepth 10000 in
theorem ct_X7_mean (l : Launch) : mjCT l yX7_mean cX7_mean 4 (some .double) rm_X7_mean S_X7_mean :=
  mjCT_of (own := RX7) (G := G_X7_mean) (plainFor_of_name pn_X7) rfl ok_X7_mean (fun meth hm => ⟨fun pc row h => (I_X7_mean_ok pc row h).1, F_X7_ok, List.forall_mem_cons.mpr ⟨⟨yX7_isCell, cX7_isCell, 1, (some .boolean), rm_X7_isCell, ct_X7_isCell l, ⟨rfl, rfl⟩, ⟨by decide, by decide⟩, by decide, nk_X7_isCell, ln_X7_108, st_X7_isCell⟩, List.forall_mem_cons.mpr ⟨⟨yX7_names, cX7_names, 5, none, rm_X7_names, ct_X7_names l, ⟨rfl, rfl⟩, ⟨by decide, by decide⟩, by decide, by decide, nk_X7_names, ln_X7_151, im_X7_names, se_X7_names, rfl⟩, List.forall_mem_cons.mpr ⟨⟨yX7_cellsOf, cX7_cellsOf, 4, (some .int), rm_X7_cellsOf, ct_X7_cellsOf l, ⟨rfl, rfl⟩, ⟨by decide, by decide⟩, by decide, by decide, nk_X7_cellsOf, ln_X7_154, im_X7_cellsOf, se_X7_cellsOf, rfl⟩, fun _ h => absurd h List.not_mem_nil⟩⟩⟩, (fun _ _ _ h => by cases h), (fun _ _ h => mjcon1 h cd_X7_157), ⟨Nat.le_refl _, Nat.le_refl _⟩, (fun h => by cases h), (fun h => absurd h (by decide))⟩) rfl rfl rfl (fun pc row h => (I_X7_mean_ok pc row h).2)
def rm_X7_pieceOf : Room := { frames := 3, cells := 0, slots := 0, locals := 64 }
noncomputable def G_X7_pieceOf : mjG := (I_X7_pieceOf, F_X7, [(151, 0, 6, 1, 0, 0, S_X7_names)], (fun pc => [0, 1, 2, 3, 4, 5, 6, 7]), Y0, (fun _ => none), (fun _ => none), (some .int), 0, 0, false)
set_option maxHeartbeats 20000000 in
set_option maxRecDepth 100000 in
theorem ok_X7_pieceOf : mjOK G_X7_pieceOf 2 S_X7_pieceOf := by
  intro M as hP T hT
  obtain ⟨⟨s, ad, pa, ke, pd, fl, nm, kn, ik, ln, sg, sp, fo, ho, ta, tR, tm⟩, x, rfl, rfl, hx⟩ : ∃ m x, M = mw m ∧ as = [.ref 0, .int x] ∧ inC x := ⟨_, _, hP.1.1, hP.1.2, hP.2⟩
  obtain ⟨k, hk, rfl⟩ := inC_of hx
  have fin : (S_X7_pieceOf (mw (s, ad, pa, ke, pd, fl, nm, kn, ik, ln, sg, sp, fo, ho, ta, tR, tm)) [.ref 0, .int (nI k)]).2.1 = some (mw (rPieceOf (s, ad, pa, ke, pd, fl, nm, kn, ik, ln, sg, sp, fo, ho, ta, tR, tm) (nI k)).1) := rfl
  have fin2 : (S_X7_pieceOf (mw (s, ad, pa, ke, pd, fl, nm, kn, ik, ln, sg, sp, fo, ho, ta, tR, tm)) [.ref 0, .int (nI k)]).2.2 = some (.int (rPieceOf (s, ad, pa, ke, pd, fl, nm, kn, ik, ln, sg, sp, fo, ho, ta, tR, tm) (nI k)).2) := rfl
  rw [rPieceOf, nI_clamp (by omega)] at fin fin2
  dsimp only at fin fin2
  generalize S_X7_pieceOf (mw (s, ad, pa, ke, pd, fl, nm, kn, ik, ln, sg, sp, fo, ho, ta, tR, tm)) [.ref 0, .int (nI k)] = SS at hT fin fin2
  have s4 : ∀ f, f = lcN (vC s) nm → T 4 [some (.ref 0), some (.int (nI k))] [] (mw (s, ad, pa, ke, pd, fl, f, kn, ik, ln, sg, sp, fo, ho, ta, tR, tm)) (0, 0) := by
    intro f hf
    rw [← hf] at fin fin2
    refine hT.1 (fun _ => false) 60 _ _ _ _ _ ?_
    exact mjix_n hk (by decide) ⟨by rw [fin]; rfl, fin2.symm⟩
  refine hT.1 (fun pc => Nat.beq pc 4) 60 _ _ _ _ _ ?_
  exact And.intro ⟨⟨rfl, rfl⟩, trivial⟩ (s4 _ rfl)
set_option maxRecDepth 10000 in
theorem ct_X7_pieceOf (l : Launch) : mjCT l yX7_pieceOf cX7_pieceOf 2 (some .int) rm_X7_pieceOf S_X7_pieceOf :=
  mjCT_of (own := RX7) (G := G_X7_pieceOf) (plainFor_of_name pn_X7) rfl ok_X7_pieceOf (fun meth hm => ⟨fun pc row h => (I_X7_pieceOf_ok pc row h).1, F_X7_ok, List.forall_mem_cons.mpr ⟨⟨yX7_names, cX7_names, 5, none, rm_X7_names, ct_X7_names l, ⟨rfl, rfl⟩, ⟨by decide, by decide⟩, by decide, by decide, nk_X7_names, ln_X7_151, im_X7_names, se_X7_names, rfl⟩, fun _ h => absurd h List.not_mem_nil⟩, (fun _ _ _ h => by cases h), (fun _ _ h => by cases h), ⟨Nat.le_refl _, Nat.le_refl _⟩, (fun h => by cases h), (fun h => absurd h (by decide))⟩) rfl rfl rfl (fun pc row h => (I_X7_pieceOf_ok pc row h).2)
def rm_X7_cell : Room := { frames := 4, cells := 0, slots := 0, locals := 85 }
noncomputable def G_X7_cell : mjG := (I_X7_cell, F_X7, [(108, 1, 0, 1, 0, 0, S_X7_isCell), (159, 0, 6, 2, 0, 0, S_X7_pieceOf), (162, 0, 6, 2, 0, 0, S_X7_wholeOf), (67, 1, 0, 1, 0, 0, S_X7_sidesOf), (165, 0, 6, 2, 0, 0, S_X7_stressAt)], (fun pc => bif Nat.beq pc 67 then [] else bif Nat.beq pc 1 then [] else [0, 1, 2, 3, 4, 5, 6, 7]), Y_X7_cell, (fun _ => none), (fun _ => none), (some .int), 0, 0, false)
set_option maxHeartbeats 20000000 in
set_option maxRecDepth 100000 in
theorem ok_X7_cell : mjOK G_X7_cell 3 S_X7_cell := by
  intro M as hP T hT
  obtain ⟨⟨s, ad, pa, ke, pd, fl, nm, kn, ik, ln, sg, sp, fo, ho, ta, tR, tm⟩, x, y, rfl, rfl, hk⟩ : ∃ m x y, M = mw m ∧ as = [.ref 0, .int x, .int y] ∧ aOk m := ⟨_, _, _, hP.1.1, hP.1.2, hP.2⟩
  have fin : (S_X7_cell (mw (s, ad, pa, ke, pd, fl, nm, kn, ik, ln, sg, sp, fo, ho, ta, tR, tm)) [.ref 0, .int x, .int y]).2.1 = some (mw (rCell (s, ad, pa, ke, pd, fl, nm, kn, ik, ln, sg, sp, fo, ho, ta, tR, tm) x y).1) := rfl
  have fin2 : (S_X7_cell (mw (s, ad, pa, ke, pd, fl, nm, kn, ik, ln, sg, sp, fo, ho, ta, tR, tm)) [.ref 0, .int x, .int y]).2.2 = some (.int (rCell (s, ad, pa, ke, pd, fl, nm, kn, ik, ln, sg, sp, fo, ho, ta, tR, tm) x y).2) := rfl
  rw [rCell] at fin fin2
  try dsimp only at fin fin2
  generalize S_X7_cell (mw (s, ad, pa, ke, pd, fl, nm, kn, ik, ln, sg, sp, fo, ho, ta, tR, tm)) [.ref 0, .int x, .int y] = SS at hT fin fin2
  have ix : ¬ gIsCell x = 0 → ∃ k : Nat, k < 36 ∧ x = nI k := fun h => inC_of (inC_is h)
  refine hT.1 (fun pc => Nat.beq pc 9) 60 _ _ _ _ _ ?_
  refine And.intro ⟨rfl, rfl⟩ (And.intro (fun (h1 : ¬ gIsCell x = 0) => ?_) (fun (h1 : gIsCell x = 0) => ⟨by rw [fin, if_pos h1]; rfl, by rw [fin2, if_pos h1]⟩))
  obtain ⟨k, hk, rfl⟩ := ix h1
  rw [nI_clamp (by omega)] at fin fin2
  refine hT.1 (fun _ => false) 60 _ _ _ _ _ ?_
  refine And.intro (fun (e0 : y = 0) => mjix_e (8 + k) (nI_add 8 k) (by omega) (by decide) ⟨?_, ?_⟩) (fun (n0 : ¬ y = 0) => And.intro (fun (e1 : y = 1) => And.intro ⟨⟨rfl, rfl⟩, inC_is h1⟩ ⟨?_, ?_⟩) (fun (n1 : ¬ y = 1) => And.intro (fun (e2 : y = 2) => And.intro ⟨⟨rfl, rfl⟩, trivial⟩ ⟨?_, ?_⟩) (fun (n2 : ¬ y = 2) => And.intro (fun (e3 : y = 3) => And.intro ⟨rfl, rfl⟩ ⟨?_, ?_⟩) (fun (n3 : ¬ y = 3) => And.intro (fun (e4 : y = 4) => And.intro ⟨⟨rfl, rfl⟩, trivial⟩ ⟨?_, ?_⟩) (fun (n4 : ¬ y = 4) => ⟨?_, ?_⟩)))))
  · rw [fin, if_neg h1, if_pos e0]; rfl
  · rw [fin2, if_neg h1, if_pos e0]; try rfl
  · rw [fin, if_neg h1, if_neg n0, if_pos e1]; rfl
  · rw [fin2, if_neg h1, if_neg n0, if_pos e1]
    show some (Value.int (lcN (vC s) nm (nI k).toNatClampNeg)) = _
    rw [nI_clamp (by omega)]
  · rw [fin, if_neg h1, if_neg n0, if_neg n1, if_pos e2]; rfl
  · rw [fin2, if_neg h1, if_neg n0, if_neg n1, if_pos e2]; try rfl
  · rw [fin, if_neg h1, if_neg n0, if_neg n1, if_neg n2, if_pos e3]; rfl
  · rw [fin2, if_neg h1, if_neg n0, if_neg n1, if_neg n2, if_pos e3]; try rfl
  · rw [fin, if_neg h1, if_neg n0, if_neg n1, if_neg n2, if_neg n3, if_pos e4]; rfl
  · rw [fin2, if_neg h1, if_neg n0, if_neg n1, if_neg n2, if_neg n3, if_pos e4]; try rfl
  · rw [fin, if_neg h1, if_neg n0, if_neg n1, if_neg n2, if_neg n3, if_neg n4]; rfl
  · rw [fin2, if_neg h1, if_neg n0, if_neg n1, if_neg n2, if_neg n3, if_neg n4]; try rfl
set_option maxRecDepth 10000 in
theorem ct_X7_cell (l : Launch) : mjCT l yX7_cell cX7_cell 3 (some .int) rm_X7_cell S_X7_cell :=
  mjCT_of (own := RX7) (G := G_X7_cell) (plainFor_of_name pn_X7) rfl ok_X7_cell (fun meth hm => ⟨fun pc row h => (I_X7_cell_ok pc row h).1, F_X7_ok, List.forall_mem_cons.mpr ⟨⟨yX7_isCell, cX7_isCell, 1, (some .boolean), rm_X7_isCell, ct_X7_isCell l, ⟨rfl, rfl⟩, ⟨by decide, by decide⟩, by decide, nk_X7_isCell, ln_X7_108, st_X7_isCell⟩, List.forall_mem_cons.mpr ⟨⟨yX7_pieceOf, cX7_pieceOf, 2, (some .int), rm_X7_pieceOf, ct_X7_pieceOf l, ⟨rfl, rfl⟩, ⟨by decide, by decide⟩, by decide, by decide, nk_X7_pieceOf, ln_X7_159, im_X7_pieceOf, se_X7_pieceOf, rfl⟩, List.forall_mem_cons.mpr ⟨⟨yX7_wholeOf, cX7_wholeOf, 4, (some .int), rm_X7_wholeOf, ct_X7_wholeOf l, ⟨rfl, rfl⟩, ⟨by decide, by decide⟩, by decide, by decide, nk_X7_wholeOf, ln_X7_162, im_X7_wholeOf, se_X7_wholeOf, rfl⟩, List.forall_mem_cons.mpr ⟨⟨yX7_sidesOf, cX7_sidesOf, 3, (some .int), rm_X7_sidesOf, ct_X7_sidesOf l, ⟨rfl, rfl⟩, ⟨by decide, by decide⟩, by decide, nk_X7_sidesOf, ln_X7_67, st_X7_sidesOf⟩, List.forall_mem_cons.mpr ⟨⟨yX7_stressAt, cX7_stressAt, 4, (some .int), rm_X7_stressAt, ct_X7_stressAt l, ⟨rfl, rfl⟩, ⟨by decide, by decide⟩, by decide, by decide, nk_X7_stressAt, ln_X7_165, im_X7_stressAt, se_X7_stressAt, rfl⟩, fun _ h => absurd h List.not_mem_nil⟩⟩⟩⟩⟩, (fun _ _ _ h => by cases h), (fun _ _ h => by cases h), ⟨Nat.le_refl _, Nat.le_refl _⟩, (fun h => by cases h), (fun h => absurd h (by decide))⟩) rfl rfl rfl (fun pc row h => (I_X7_cell_ok pc row h).2)
