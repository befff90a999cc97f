/-! ColdPanesModel: its world; what its row of numbers says; the looks -/
/-- a pane as the model's row holds it -/
def mE (p : PSt) : Nat → Int32 := fun k => if k < 8 then (if k = 0 then p.2.2.2.2.1 else if k = 1 then p.2.2.2.2.2.1 else if k = 2 then p.2.2.2.2.2.2.1 else if k = 3 then p.2.2.2.2.2.2.2.2.2.1 else if k = 4 then p.2.2.2.2.2.2.2.2.2.2.1 else if k = 5 then p.2.2.2.2.2.2.2.2.2.2.2 else if k = 6 then p.2.2.2.2.2.2.2.1 else p.2.2.2.2.2.2.2.2.1)
  else if k < 44 then p.1 (k - 8) else if k < 104 then p.2.2.2.1 (k - 44) else if k < 164 then p.2.2.1 (k - 104) else 0
def tr (n : Nat) (f : Nat → Int32) : Nat → Int32 := fun k => if k < n then f k else 0
def vH (s : Nat → Int32) : Nat → Int32 := tr 36 (fun k => s (8 + k))
def vC (s : Nat → Int32) : Nat → Int32 := tr 60 (fun k => s (44 + k))
def vS (s : Nat → Int32) : Nat → Int32 := tr 60 (fun k => s (104 + k))
/-- the pane that a row holds; g: the flows -/
def mD (s g : Nat → Int32) : PSt := (vH s, g, vS s, vC s, s 0, s 1, s 2, s 6, s 7, s 3, s 4, s 5)
def pZ (p : PSt) : Prop := (∀ k : Nat, 36 ≤ k → p.1 k = 0) ∧ (∀ k : Nat, 60 ≤ k → p.2.2.1 k = 0) ∧ (∀ k : Nat, 60 ≤ k → p.2.2.2.1 k = 0)
theorem mE_h {p : PSt} {i : Nat} (h : i < 36) : mE p (8 + i) = p.1 i := by
  unfold mE
  rw [if_neg (by omega), if_pos (by omega), show 8 + i - 8 = i by omega]
theorem mE_c {p : PSt} {i : Nat} (h : i < 60) : mE p (44 + i) = p.2.2.2.1 i := by
  unfold mE
  rw [if_neg (by omega), if_neg (by omega), if_pos (by omega), show 44 + i - 44 = i by omega]
theorem mE_s {p : PSt} {i : Nat} (h : i < 60) : mE p (104 + i) = p.2.2.1 i := by
  unfold mE
  rw [if_neg (by omega), if_neg (by omega), if_neg (by omega), if_pos (by omega), show 104 + i - 104 = i by omega]
theorem mE_hi {p : PSt} {k : Nat} (h : 164 ≤ k) : mE p k = 0 := by
  unfold mE
  rw [if_neg (by omega), if_neg (by omega), if_neg (by omega), if_neg (by omega)]
theorem vH_E {p : PSt} (hp : pZ p) : vH (mE p) = p.1 := by
  funext k
  unfold vH tr
  by_cases hk : k < 36
  · rw [if_pos hk]
    exact mE_h hk
  · rw [if_neg hk, hp.1 k (by omega)]
theorem vS_E {p : PSt} (hp : pZ p) : vS (mE p) = p.2.2.1 := by
  funext k
  unfold vS tr
  by_cases hk : k < 60
  · rw [if_pos hk]
    exact mE_s hk
  · rw [if_neg hk, hp.2.1 k (by omega)]
theorem vC_E {p : PSt} (hp : pZ p) : vC (mE p) = p.2.2.2.1 := by
  funext k
  unfold vC tr
  by_cases hk : k < 60
  · rw [if_pos hk]
    exact mE_c hk
  · rw [if_neg hk, hp.2.2 k (by omega)]
theorem mD_E {p : PSt} {g : Nat → Int32} (hp : pZ p) : mD (mE p) g = (p.1, g, p.2.2) := by
  unfold mD
  rw [vH_E hp, vS_E hp, vC_E hp]
  rfl
theorem mD_z (s g : Nat → Int32) : pZ (mD s g) := by
  refine ⟨fun k hk => ?_, fun k hk => ?_, fun k hk => ?_⟩ <;> exact if_neg (by omega)
theorem mE_D {s g : Nat → Int32} (hs : ∀ k : Nat, 164 ≤ k → s k = 0) : mE (mD s g) = s := by
  funext k
  by_cases h1 : k < 8
  · match k, h1 with
    | 0, _ => rfl
    | 1, _ => rfl
    | 2, _ => rfl
    | 3, _ => rfl
    | 4, _ => rfl
    | 5, _ => rfl
    | 6, _ => rfl
    | 7, _ => rfl
    | (j + 8), h => exact absurd h (by omega)
  · by_cases h2 : k < 44
    · rw [show k = 8 + (k - 8) by omega, mE_h (by omega)]
      exact if_pos (by omega)
    · by_cases h3 : k < 104
      · rw [show k = 44 + (k - 44) by omega, mE_c (by omega)]
        exact if_pos (by omega)
      · by_cases h4 : k < 164
        · rw [show k = 104 + (k - 104) by omega, mE_s (by omega)]
          exact if_pos (by omega)
        · rw [mE_hi (by omega), hs k (by omega)]
/-- s, aside, past, kept, pad, flow, name; known, isKept, length, strongest, spot, isForm, isHold, toldAim, toldRate, toldMinutes -/
abbrev RSt : Type := (Nat → Int32) × (Nat → Int32) × (Nat → Int32) × (Nat → Int32) × (Nat → Int32) × (Nat → Int32) × (Nat → Int32) × Int32 × Int32 × Int32 × Int32 × Int32 × Int32 × Int32 × Int32 × Int32 × Int32
def mw (m : RSt) : mjM := match m with
  | (s, ad, pa, ke, pd, fl, nm, kn, ik, ln, sg, sp, fo, ho, ta, tR, tm) => [.inr (6, [.ref 1, .ref 2, .ref 3, .int kn, .ref 4, .int ik, .ref 5, .int ln, .ref 6, .int sg, .int sp, .int fo, .int ho, .int ta, .int tR, .int tm, .ref 7]),
  .inl (0, (164, .inl s)), .inl (0, (164, .inl ad)), .inl (0, (656, .inl pa)), .inl (0, (164, .inl ke)), .inl (0, (60, .inl pd)), .inl (0, (36, .inl fl)), .inl (0, (36, .inl nm))]
def rR (M : mjM) : RSt := (rA M 1, rA M 2, rA M 3, rA M 4, rA M 5, rA M 6, rA M 7, rF M 0 3, rF M 0 5, rF M 0 7, rF M 0 9, rF M 0 10, rF M 0 11, rF M 0 12, rF M 0 13, rF M 0 14, rF M 0 15)
def inJ (x : Int32) : Prop := ¬ x < 0 ∧ ¬ 60 ≤ x
def inC (x : Int32) : Prop := ¬ x < 0 ∧ ¬ 36 ≤ x
theorem inJ_n {i : Nat} (h : i < 60) : inJ (nI i) := ⟨nI_pos (by omega), nI_ge h (by decide)⟩
theorem inC_n {i : Nat} (h : i < 36) : inC (nI i) := ⟨nI_pos (by omega), nI_ge h (by decide)⟩
theorem inJ_of {x : Int32} (h : inJ x) : ∃ i : Nat, i < 60 ∧ x = nI i := by
  obtain ⟨j, hj, rfl⟩ := nI_of h.1
  refine ⟨j, ?_, rfl⟩
  rcases Nat.lt_or_ge j 60 with q | q
  · exact q
  · exact absurd (nI_le q hj) h.2
theorem inC_of {x : Int32} (h : inC x) : ∃ i : Nat, i < 36 ∧ x = nI i := by
  obtain ⟨j, hj, rfl⟩ := nI_of h.1
  refine ⟨j, ?_, rfl⟩
  rcases Nat.lt_or_ge j 36 with q | q
  · exact q
  · exact absurd (nI_le q hj) h.2
def nF (i : Nat) : Nat := (gFirst (nI i)).toNatClampNeg
def nS (i : Nat) : Nat := (gSecond (nI i)).toNatClampNeg
theorem nFS_ok : ∀ i, i < 60 → (gFirst (nI i) = nI (nF i) ∧ nF i < 36) ∧ gSecond (nI i) = nI (nS i) ∧ nS i < 36 := by decide +kernel
theorem gFirst_n {i : Nat} (h : i < 60) : gFirst (nI i) = nI (nF i) := (nFS_ok i h).1.1
theorem nF_lt {i : Nat} (h : i < 60) : nF i < 36 := (nFS_ok i h).1.2
theorem gSecond_n {i : Nat} (h : i < 60) : gSecond (nI i) = nI (nS i) := (nFS_ok i h).2.1
theorem nS_lt {i : Nat} (h : i < 60) : nS i < 36 := (nFS_ok i h).2.2
theorem gAt_n {f : Nat → Int32} {i : Nat} (h : i < 36) : gAt 36 f (nI i) = f i := by
  unfold gAt
  rw [if_neg (nI_pos (by omega)), if_neg (show ¬ (36 : Int32) ≤ nI i from nI_ge h (by decide)), nI_clamp (by omega)]
theorem gAt_v {s : Nat → Int32} {i : Nat} (h : i < 36) : gAt 36 (vH s) (nI i) = s (8 + i) := by
  rw [gAt_n h]
  exact if_pos h
theorem gWh_n {c : Nat → Int32} {i : Nat} (h : i < 60) : gWh c (nI i) = if c i = 0 then 1 else 0 := by
  unfold gWh
  rw [if_neg (nI_pos (by omega)), if_neg (show ¬ (60 : Int32) ≤ nI i from nI_ge h (by decide)), nI_clamp (by omega)]
theorem gWh_v {s : Nat → Int32} {i : Nat} (h : i < 60) : gWh (vC s) (nI i) = if s (44 + i) = 0 then 1 else 0 := by
  rw [gWh_n h, show vC s i = s (44 + i) from if_pos h]
theorem gJt_n {c : Nat → Int32} {i : Nat} (h : i < 60) : gJt c (nI i) = c i := by
  unfold gJt gIsJoint
  rw [if_neg (nI_pos (by omega)), if_neg (show ¬ (60 : Int32) ≤ nI i from nI_ge h (by decide)), if_neg (by decide), nI_clamp (by omega)]
theorem gStr_v {s : Nat → Int32} {i : Nat} (h : i < 60) : gStr (vH s) (nI i) = gAbs (s (8 + nF i) - s (8 + nS i)) := by
  unfold gStr
  rw [gFirst_n h, gSecond_n h, gAt_v (nF_lt h), gAt_v (nS_lt h)]
theorem gMar_v {s : Nat → Int32} {i : Nat} (h : i < 60) : gMar (vH s) (vS s) (nI i) = s (104 + i) - gStr (vH s) (nI i) := by
  unfold gMar
  rw [gJt_n h, show vS s i = s (104 + i) from if_pos h]
theorem le35 {x : Int32} : (x ≤ 35) ↔ ¬ 36 ≤ x := by
  rw [Int32.le_iff_toInt_le, Int32.le_iff_toInt_le, show (35 : Int32).toInt = 35 from rfl, show (36 : Int32).toInt = 36 from rfl]
  omega
theorem le59 {x : Int32} : (x ≤ 59) ↔ ¬ 60 ≤ x := by
  rw [Int32.le_iff_toInt_le, Int32.le_iff_toInt_le, show (59 : Int32).toInt = 59 from rfl, show (60 : Int32).toInt = 60 from rfl]
  omega
def gIn (v a b : Int32) : Int32 := if gOut v a b = 0 then 1 else 0
theorem gIn_cell (x : Int32) : gIn x 0 35 = gIsCell x := by
  unfold gIn gOut gIsCell
  by_cases h : x < 0
  · rw [if_pos h, if_pos h]; rfl
  · rw [if_neg h, if_neg h]
    by_cases h2 : x ≤ 35
    · rw [if_pos h2, if_neg (le35.mp h2)]; rfl
    · rw [if_neg h2, if_pos (Classical.byContradiction (fun z => h2 (le35.mpr z)))]; rfl
theorem gIn_joint (x : Int32) : gIn x 0 59 = gIsJoint x := by
  unfold gIn gOut gIsJoint
  by_cases h : x < 0
  · rw [if_pos h, if_pos h]; rfl
  · rw [if_neg h, if_neg h]
    by_cases h2 : x ≤ 59
    · rw [if_pos h2, if_neg (le59.mp h2)]; rfl
    · rw [if_neg h2, if_pos (Classical.byContradiction (fun z => h2 (le59.mpr z)))]; rfl
def S_X7_in : mjSp := fun M as => (M = [] ∧ as = [.int (aI as 0), .int (aI as 1), .int (aI as 2)], none, some (.int (gIn (aI as 0) (aI as 1) (aI as 2))))
def S_X7_isCell : mjSp := fun M as => (M = [] ∧ as = [.int (aI as 0)], none, some (.int (gIsCell (aI as 0))))
def S_X7_isJoint : mjSp := fun M as => (M = [] ∧ as = [.int (aI as 0)], none, some (.int (gIsJoint (aI as 0))))
def S_X7_firstOf : mjSp := fun M as => (M = [] ∧ as = [.int (aI as 0)], none, some (.int (gFirst (aI as 0))))
def S_X7_secondOf : mjSp := fun M as => (M = [] ∧ as = [.int (aI as 0)], none, some (.int (gSecond (aI as 0))))
def S_X7_size : mjSp := fun M as => (M = [] ∧ as = [.int (aI as 0)], none, some (.int (gAbs (aI as 0))))
def S_X7_sidesOf : mjSp := fun M as => (M = [] ∧ as = [.int (aI as 0)], none, some (.int (gRim (aI as 0))))
def S_X7_has : mjSp := fun M as => (M = [] ∧ as = [.int (aI as 0), .int (aI as 1)], none, some (.int (gIsEnd (aI as 1) (aI as 0))))
def S_X7_touch : mjSp := fun M as => (M = [] ∧ as = [.int (aI as 0), .int (aI as 1)], none, some (.int (gTouch (aI as 0) (aI as 1))))
def rm_X7_in : Room := { frames := 0, cells := 0, slots := 0, locals := 0 }
noncomputable def G_X7_in : mjG := (I_X7_in, F_X7, [], (fun pc => []), Y0, (fun _ => none), (fun _ => none), (some .boolean), 0, 0, false)
set_option maxHeartbeats 20000000 in
set_option maxRecDepth 100000 in
theorem ok_X7_in : mjOK G_X7_in 3 S_X7_in := by
  intro M as hP T hT
  obtain ⟨x, a, b, rfl, rfl⟩ := in3 hP
  refine hT.1 (fun _ => false) 40 _ _ _ _ _ ?_
  refine And.intro (fun (h1 : x < a) => ⟨rfl, rfl, mjsi ?_⟩) (fun (h1 : ¬ x < a) => And.intro (fun (h2 : b < x) => ⟨rfl, rfl, mjsi ?_⟩) (fun (h2 : ¬ b < x) => ⟨rfl, rfl, mjsi ?_⟩))
  · show (0 : Int32) = if (if x < a then (1 : Int32) else if x ≤ b then 0 else 1) = 0 then 1 else 0
    rw [if_pos h1]; rfl
  · show (0 : Int32) = if (if x < a then (1 : Int32) else if x ≤ b then 0 else 1) = 0 then 1 else 0
    rw [if_neg h1, if_neg (Int32.not_le.mpr h2)]; rfl
  · show (1 : Int32) = if (if x < a then (1 : Int32) else if x ≤ b then 0 else 1) = 0 then 1 else 0
    rw [if_neg h1, if_pos (Int32.not_lt.mp h2)]; rfl
set_option maxRecDepth 10000 in
theorem ct_X7_in (l : Launch) : mjCT l yX7_in cX7_in 3 (some .boolean) rm_X7_in S_X7_in :=
  mjCT_of (own := RX7) (G := G_X7_in) (plainFor_of_name pn_X7) rfl ok_X7_in (fun meth hm => ⟨fun pc row h => (I_X7_in_ok pc row h).1, F_X7_ok, fun _ h => absurd h List.not_mem_nil, (fun _ _ _ h => by cases h), (fun _ _ h => by cases h), ⟨Nat.le_refl _, Nat.le_refl _⟩, (fun h => by cases h), (fun h => absurd h (by decide))⟩) rfl rfl rfl (fun pc row h => (I_X7_in_ok pc row h).2)
theorem gIs_b (x : Int32) : gIsCell x = 0 ∨ gIsCell x = 1 := by
  unfold gIsCell
  split
  · exact Or.inl rfl
  · split
    · exact Or.inl rfl
    · exact Or.inr rfl
theorem gIj_b (x : Int32) : gIsJoint x = 0 ∨ gIsJoint x = 1 := by
  unfold gIsJoint
  split
  · exact Or.inl rfl
  · split
    · exact Or.inl rfl
    · exact Or.inr rfl
def rm_X7_isCell : Room := { frames := 1, cells := 0, slots := 0, locals := 22 }
noncomputable def G_X7_isCell : mjG := (I_X7_isCell, F_X7, [(43, 1, 0, 3, 0, 0, S_X7_in)], (fun pc => []), Y0, (fun _ => none), (fun _ => none), (some .boolean), 0, 0, false)
set_option maxHeartbeats 20000000 in
set_option maxRecDepth 100000 in
theorem ok_X7_isCell : mjOK G_X7_isCell 1 S_X7_isCell := by
  intro M as hP T hT
  obtain ⟨x, rfl, rfl⟩ := in1 hP
  refine hT.1 (fun _ => false) 40 _ _ _ _ _ ?_
  refine And.intro ⟨rfl, rfl⟩ ⟨?_, rfl, mjsi (gIn_cell x)⟩
  show narrow .boolean (.int (gIn x 0 35)) = .int (gIn x 0 35)
  rw [gIn_cell]
  exact nar01 (gIs_b x)
set_option maxRecDepth 10000 in
theorem ct_X7_isCell (l : Launch) : mjCT l yX7_isCell cX7_isCell 1 (some .boolean) rm_X7_isCell S_X7_isCell :=
  mjCT_of (own := RX7) (G := G_X7_isCell) (plainFor_of_name pn_X7) rfl ok_X7_isCell (fun meth hm => ⟨fun pc row h => (I_X7_isCell_ok pc row h).1, F_X7_ok, List.forall_mem_cons.mpr ⟨⟨yX7_in, cX7_in, 3, (some .boolean), rm_X7_in, ct_X7_in l, ⟨rfl, rfl⟩, ⟨by decide, by decide⟩, by decide, nk_X7_in, ln_X7_43, st_X7_in⟩, fun _ h => absurd h List.not_mem_nil⟩, (fun _ _ _ h => by cases h), (fun _ _ h => by cases h), ⟨Nat.le_refl _, Nat.le_refl _⟩, (fun h => by cases h), (fun h => absurd h (by decide))⟩) rfl rfl rfl (fun pc row h => (I_X7_isCell_ok pc row h).2)
def rm_X7_isJoint : Room := { frames := 1, cells := 0, slots := 0, locals := 22 }
noncomputable def G_X7_isJoint : mjG := (I_X7_isJoint, F_X7, [(43, 1, 0, 3, 0, 0, S_X7_in)], (fun pc => []), Y0, (fun _ => none), (fun _ => none), (some .boolean), 0, 0, false)
set_option maxHeartbeats 20000000 in
set_option maxRecDepth 100000 in
theorem ok_X7_isJoint : mjOK G_X7_isJoint 1 S_X7_isJoint := by
  intro M as hP T hT
  obtain ⟨x, rfl, rfl⟩ := in1 hP
  refine hT.1 (fun _ => false) 40 _ _ _ _ _ ?_
  refine And.intro ⟨rfl, rfl⟩ ⟨?_, rfl, mjsi (gIn_joint x)⟩
  show narrow .boolean (.int (gIn x 0 59)) = .int (gIn x 0 59)
  rw [gIn_joint]
  exact nar01 (gIj_b x)
set_option maxRecDepth 10000 in
theorem ct_X7_isJoint (l : Launch) : mjCT l yX7_isJoint cX7_isJoint 1 (some .boolean) rm_X7_isJoint S_X7_isJoint :=
  mjCT_of (own := RX7) (G := G_X7_isJoint) (plainFor_of_name pn_X7) rfl ok_X7_isJoint (fun meth hm => ⟨fun pc row h => (I_X7_isJoint_ok pc row h).1, F_X7_ok, List.forall_mem_cons.mpr ⟨⟨yX7_in, cX7_in, 3, (some .boolean), rm_X7_in, ct_X7_in l, ⟨rfl, rfl⟩, ⟨by decide, by decide⟩, by decide, nk_X7_in, ln_X7_43, st_X7_in⟩, fun _ h => absurd h List.not_mem_nil⟩, (fun _ _ _ h => by cases h), (fun _ _ h => by cases h), ⟨Nat.le_refl _, Nat.le_refl _⟩, (fun h => by cases h), (fun h => absurd h (by decide))⟩) rfl rfl rfl (fun pc row h => (I_X7_isJoint_ok pc row h).2)
theorem lt30 {x : Int32} : ¬ 30 ≤ x ↔ x < 30 := Int32.not_le
def rm_X7_firstOf : Room := { frames := 0, cells := 0, slots := 0, locals := 0 }
noncomputable def G_X7_firstOf : mjG := (I_X7_firstOf, F_X7, [], (fun pc => []), Y0, (fun _ => none), (fun _ => none), (some .int), 0, 0, false)
set_option maxHeartbeats 20000000 in
set_option maxRecDepth 100000 in
theorem ok_X7_firstOf : mjOK G_X7_firstOf 1 S_X7_firstOf := by
  intro M as hP T hT
  obtain ⟨x, rfl, rfl⟩ := in1 hP
  refine hT.1 (fun _ => false) 40 _ _ _ _ _ ?_
  refine And.intro (fun (h : 30 ≤ x) => ⟨rfl, mjsi ?_⟩) (fun (h : ¬ 30 ≤ x) => ⟨rfl, mjsi ?_⟩)
  · exact (if_neg (fun z => lt30.mpr z h)).symm
  · exact (if_pos (lt30.mp h)).symm
set_option maxRecDepth 10000 in
theorem ct_X7_firstOf (l : Launch) : mjCT l yX7_firstOf cX7_firstOf 1 (some .int) rm_X7_firstOf S_X7_firstOf :=
  mjCT_of (own := RX7) (G := G_X7_firstOf) (plainFor_of_name pn_X7) rfl ok_X7_firstOf (fun meth hm => ⟨fun pc row h => (I_X7_firstOf_ok pc row h).1, F_X7_ok, fun _ h => absurd h List.not_mem_nil, (fun _ _ _ h => by cases h), (fun _ _ h => by cases h), ⟨Nat.le_refl _, Nat.le_refl _⟩, (fun h => by cases h), (fun h => absurd h (by decide))⟩) rfl rfl rfl (fun pc row h => (I_X7_firstOf_ok pc row h).2)
def rm_X7_secondOf : Room := { frames := 1, cells := 0, slots := 0, locals := 20 }
noncomputable def G_X7_secondOf : mjG := (I_X7_secondOf, F_X7, [(47, 1, 0, 1, 0, 0, S_X7_firstOf)], (fun pc => []), Y0, (fun _ => none), (fun _ => none), (some .int), 0, 0, false)
set_option maxHeartbeats 20000000 in
set_option maxRecDepth 100000 in
theorem ok_X7_secondOf : mjOK G_X7_secondOf 1 S_X7_secondOf := by
  intro M as hP T hT
  obtain ⟨x, rfl, rfl⟩ := in1 hP
  refine hT.1 (fun _ => false) 40 _ _ _ _ _ ?_
  refine And.intro ⟨rfl, rfl⟩ (And.intro (fun (h : 30 ≤ x) => ⟨rfl, mjsi ?_⟩) (fun (h : ¬ 30 ≤ x) => ⟨rfl, mjsi ?_⟩))
  · show gFirst x + 6 = gSecond x
    unfold gFirst gSecond
    rw [if_neg (fun z => lt30.mpr z h), if_neg (fun z => lt30.mpr z h)]
  · show gFirst x + 1 = gSecond x
    unfold gFirst gSecond
    rw [if_pos (lt30.mp h), if_pos (lt30.mp h)]
set_option maxRecDepth 10000 in
theorem ct_X7_secondOf (l : Launch) : mjCT l yX7_secondOf cX7_secondOf 1 (some .int) rm_X7_secondOf S_X7_secondOf :=
  mjCT_of (own := RX7) (G := G_X7_secondOf) (plainFor_of_name pn_X7) rfl ok_X7_secondOf (fun meth hm => ⟨fun pc row h => (I_X7_secondOf_ok pc row h).1, F_X7_ok, List.forall_mem_cons.mpr ⟨⟨yX7_firstOf, cX7_firstOf, 1, (some .int), rm_X7_firstOf, ct_X7_firstOf l, ⟨rfl, rfl⟩, ⟨by decide, by decide⟩, by decide, nk_X7_firstOf, ln_X7_47, st_X7_firstOf⟩, fun _ h => absurd h List.not_mem_nil⟩, (fun _ _ _ h => by cases h), (fun _ _ h => by cases h), ⟨Nat.le_refl _, Nat.le_refl _⟩, (fun h => by cases h), (fun h => absurd h (by decide))⟩) rfl rfl rfl (fun pc row h => (I_X7_secondOf_ok pc row h).2)
def rm_X7_size : Room := { frames := 0, cells := 0, slots := 0, locals := 0 }
noncomputable def G_X7_size : mjG := (I_X7_size, F_X7, [], (fun pc => []), Y0, (fun _ => none), (fun _ => none), (some .int), 0, 0, false)
set_option maxHeartbeats 20000000 in
set_option maxRecDepth 100000 in
theorem ok_X7_size : mjOK G_X7_size 1 S_X7_size := by
  intro M as hP T hT
  obtain ⟨x, rfl, rfl⟩ := in1 hP
  refine hT.1 (fun _ => false) 40 _ _ _ _ _ ?_
  refine And.intro (fun h => ⟨rfl, mjsi ?_⟩) (fun h => ⟨rfl, mjsi ?_⟩)
  · exact (if_pos h).symm
  · exact (if_neg h).symm
set_option maxRecDepth 10000 in
theorem ct_X7_size (l : Launch) : mjCT l yX7_size cX7_size 1 (some .int) rm_X7_size S_X7_size :=
  mjCT_of (own := RX7) (G := G_X7_size) (plainFor_of_name pn_X7) rfl ok_X7_size (fun meth hm => ⟨fun pc row h => (I_X7_size_ok pc row h).1, F_X7_ok, fun _ h => absurd h List.not_mem_nil, (fun _ _ _ h => by cases h), (fun _ _ h => by cases h), ⟨Nat.le_refl _, Nat.le_refl _⟩, (fun h => by cases h), (fun h => absurd h (by decide))⟩) rfl rfl rfl (fun pc row h => (I_X7_size_ok pc row h).2)
def rm_X7_has : Room := { frames := 2, cells := 0, slots := 0, locals := 40 }
noncomputable def G_X7_has : mjG := (I_X7_has, F_X7, [(47, 1, 0, 1, 0, 0, S_X7_firstOf), (50, 1, 0, 1, 0, 0, S_X7_secondOf)], (fun pc => []), Y0, (fun _ => none), (fun _ => none), (some .boolean), 0, 0, false)
set_option maxHeartbeats 20000000 in
set_option maxRecDepth 100000 in
theorem ok_X7_has : mjOK G_X7_has 2 S_X7_has := by
  intro M as hP T hT
  obtain ⟨j, c, rfl, rfl⟩ := in2 hP
  refine hT.1 (fun _ => false) 40 _ _ _ _ _ ?_
  refine And.intro ⟨rfl, rfl⟩ (And.intro (fun (h : gFirst j = c) => ⟨rfl, rfl, mjsi ?_⟩) (fun (h : ¬ gFirst j = c) => And.intro ⟨rfl, rfl⟩ (And.intro (fun (h2 : ¬ gSecond j = c) => ⟨rfl, rfl, mjsi ?_⟩) (fun (h2 : gSecond j = c) => ⟨rfl, rfl, mjsi ?_⟩))))
  · show 1 = gIsEnd c j
    rw [gIsEnd, if_pos h]
  · show 0 = gIsEnd c j
    rw [gIsEnd, if_neg h, if_neg h2]
  · show 1 = gIsEnd c j
    rw [gIsEnd, if_neg h, if_pos h2]
set_option maxRecDepth 10000 in
theorem ct_X7_has (l : Launch) : mjCT l yX7_has cX7_has 2 (some .boolean) rm_X7_has S_X7_has :=
  mjCT_of (own := RX7) (G := G_X7_has) (plainFor_of_name pn_X7) rfl ok_X7_has (fun meth hm => ⟨fun pc row h => (I_X7_has_ok pc row h).1, F_X7_ok, List.forall_mem_cons.mpr ⟨⟨yX7_firstOf, cX7_firstOf, 1, (some .int), rm_X7_firstOf, ct_X7_firstOf l, ⟨rfl, rfl⟩, ⟨by decide, by decide⟩, by decide, nk_X7_firstOf, ln_X7_47, st_X7_firstOf⟩, List.forall_mem_cons.mpr ⟨⟨yX7_secondOf, cX7_secondOf, 1, (some .int), rm_X7_secondOf, ct_X7_secondOf l, ⟨rfl, rfl⟩, ⟨by decide, by decide⟩, by decide, nk_X7_secondOf, ln_X7_50, st_X7_secondOf⟩, fun _ h => absurd h List.not_mem_nil⟩⟩, (fun _ _ _ h => by cases h), (fun _ _ h => by cases h), ⟨Nat.le_refl _, Nat.le_refl _⟩, (fun h => by cases h), (fun h => absurd h (by decide))⟩) rfl rfl rfl (fun pc row h => (I_X7_has_ok pc row h).2)
def rm_X7_touch : Room := { frames := 3, cells := 0, slots := 0, locals := 61 }
noncomputable def G_X7_touch : mjG := (I_X7_touch, F_X7, [(47, 1, 0, 1, 0, 0, S_X7_firstOf), (59, 1, 0, 2, 0, 0, S_X7_has), (50, 1, 0, 1, 0, 0, S_X7_secondOf)], (fun pc => []), Y0, (fun _ => none), (fun _ => none), (some .boolean), 0, 0, false)
set_option maxHeartbeats 20000000 in
set_option maxRecDepth 100000 in
theorem ok_X7_touch : mjOK G_X7_touch 2 S_X7_touch := by
  intro M as hP T hT
  obtain ⟨j, k, rfl, rfl⟩ := in2 hP
  refine hT.1 (fun _ => false) 40 _ _ _ _ _ ?_
  refine And.intro (fun (h : j = k) => ⟨rfl, rfl, mjsi ?_⟩) (fun (h : ¬ j = k) => And.intro ⟨rfl, rfl⟩ (And.intro ⟨rfl, rfl⟩ (And.intro (fun (h2 : ¬ gIsEnd (gFirst j) k = 0) => ⟨rfl, rfl, mjsi ?_⟩) (fun (h2 : gIsEnd (gFirst j) k = 0) => And.intro ⟨rfl, rfl⟩ (And.intro ⟨rfl, rfl⟩ (And.intro (fun (h3 : gIsEnd (gSecond j) k = 0) => ⟨rfl, rfl, mjsi ?_⟩) (fun (h3 : ¬ gIsEnd (gSecond j) k = 0) => ⟨rfl, rfl, mjsi ?_⟩)))))))
  · show 0 = gTouch j k
    rw [gTouch, if_pos h]
  · show 1 = gTouch j k
    rw [gTouch, if_neg h, if_neg h2]
  · show 0 = gTouch j k
    rw [gTouch, if_neg h, if_pos h2, if_pos h3]
  · show 1 = gTouch j k
    rw [gTouch, if_neg h, if_pos h2, if_neg h3]
set_option maxRecDepth 10000 in
theorem ct_X7_touch (l : Launch) : mjCT l yX7_touch cX7_touch 2 (some .boolean) rm_X7_touch S_X7_touch :=
  mjCT_of (own := RX7) (G := G_X7_touch) (plainFor_of_name pn_X7) rfl ok_X7_touch (fun meth hm => ⟨fun pc row h => (I_X7_touch_ok pc row h).1, F_X7_ok, List.forall_mem_cons.mpr ⟨⟨yX7_firstOf, cX7_firstOf, 1, (some .int), rm_X7_firstOf, ct_X7_firstOf l, ⟨rfl, rfl⟩, ⟨by decide, by decide⟩, by decide, nk_X7_firstOf, ln_X7_47, st_X7_firstOf⟩, List.forall_mem_cons.mpr ⟨⟨yX7_has, cX7_has, 2, (some .boolean), rm_X7_has, ct_X7_has l, ⟨rfl, rfl⟩, ⟨by decide, by decide⟩, by decide, nk_X7_has, ln_X7_59, st_X7_has⟩, List.forall_mem_cons.mpr ⟨⟨yX7_secondOf, cX7_secondOf, 1, (some .int), rm_X7_secondOf, ct_X7_secondOf l, ⟨rfl, rfl⟩, ⟨by decide, by decide⟩, by decide, nk_X7_secondOf, ln_X7_50, st_X7_secondOf⟩, fun _ h => absurd h List.not_mem_nil⟩⟩⟩, (fun _ _ _ h => by cases h), (fun _ _ h => by cases h), ⟨Nat.le_refl _, Nat.le_refl _⟩, (fun h => by cases h), (fun h => absurd h (by decide))⟩) rfl rfl rfl (fun pc row h => (I_X7_touch_ok pc row h).2)
def rm_X7_sidesOf : Room := { frames := 0, cells := 0, slots := 0, locals := 0 }
noncomputable def G_X7_sidesOf : mjG := (I_X7_sidesOf, F_X7, [], (fun pc => []), Y0, (fun _ => none), (fun _ => none), (some .int), 0, 0, false)
set_option maxHeartbeats 20000000 in
set_option maxRecDepth 100000 in
theorem ok_X7_sidesOf : mjOK G_X7_sidesOf 3 S_X7_sidesOf := by
  intro M as hP T hT
  obtain ⟨x, rfl, rfl⟩ := in1 hP
  refine hT.1 (fun _ => false) 60 _ _ _ _ _ ?_
  have hg : gRim x = (if x / 6 = 0 then 1 else if x / 6 = 5 then 1 else 0) + (if x - x / 6 * 6 = 0 then 1 else if x - x / 6 * 6 = 5 then 1 else 0) := rfl
  refine And.intro (fun (h : x / 6 = 0) => And.intro (fun (k : x - x / 6 * 6 = 0) => ⟨rfl, mjsi ?_⟩) (fun (k : ¬ x - x / 6 * 6 = 0) => And.intro (fun (k2 : ¬ x - x / 6 * 6 = 5) => ⟨rfl, mjsi ?_⟩) (fun (k2 : x - x / 6 * 6 = 5) => ⟨rfl, mjsi ?_⟩))) (fun (h : ¬ x / 6 = 0) => And.intro (fun (h2 : ¬ x / 6 = 5) => And.intro (fun (k : x - x / 6 * 6 = 0) => ⟨rfl, mjsi ?_⟩) (fun (k : ¬ x - x / 6 * 6 = 0) => And.intro (fun (k2 : ¬ x - x / 6 * 6 = 5) => ⟨rfl, mjsi ?_⟩) (fun (k2 : x - x / 6 * 6 = 5) => ⟨rfl, mjsi ?_⟩))) (fun (h2 : x / 6 = 5) => And.intro (fun (k : x - x / 6 * 6 = 0) => ⟨rfl, mjsi ?_⟩) (fun (k : ¬ x - x / 6 * 6 = 0) => And.intro (fun (k2 : ¬ x - x / 6 * 6 = 5) => ⟨rfl, mjsi ?_⟩) (fun (k2 : x - x / 6 * 6 = 5) => ⟨rfl, mjsi ?_⟩))))
  · show _ = gRim x; rw [hg, if_pos h, if_pos k]
  · show _ = gRim x; rw [hg, if_pos h, if_neg k, if_neg k2]
  · show _ = gRim x; rw [hg, if_pos h, if_neg k, if_pos k2]
  · show _ = gRim x; rw [hg, if_neg h, if_neg h2, if_pos k]
  · show _ = gRim x; rw [hg, if_neg h, if_neg h2, if_neg k, if_neg k2]
  · show _ = gRim x; rw [hg, if_neg h, if_neg h2, if_neg k, if_pos k2]
  · show _ = gRim x; rw [hg, if_neg h, if_pos h2, if_pos k]
  · show _ = gRim x; rw [hg, if_neg h, if_pos h2, if_neg k, if_neg k2]
  · show _ = gRim x; rw [hg, if_neg h, if_pos h2, if_neg k, if_pos k2]
set_option maxRecDepth 10000 in
theorem ct_X7_sidesOf (l : Launch) : mjCT l yX7_sidesOf cX7_sidesOf 3 (some .int) rm_X7_sidesOf S_X7_sidesOf :=
  mjCT_of (own := RX7) (G := G_X7_sidesOf) (plainFor_of_name pn_X7) rfl ok_X7_sidesOf (fun meth hm => ⟨fun pc row h => (I_X7_sidesOf_ok pc row h).1, F_X7_ok, fun _ h => absurd h List.not_mem_nil, (fun _ _ _ h => by cases h), (fun _ _ h => by cases h), ⟨Nat.le_refl _, Nat.le_refl _⟩, (fun h => by cases h), (fun h => absurd h (by decide))⟩) rfl rfl rfl (fun pc row h => (I_X7_sidesOf_ok pc row h).2)
