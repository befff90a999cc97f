/-! the pieces: joining, sizes, the mean -/
theorem zJoin1_s (nm : Nat → Int32) (a b : Int32) (i : Nat) : zJoin1 nm a b (i + 1) = if zJoin1 nm a b i i = b then upd (zJoin1 nm a b i) i a else zJoin1 nm a b i := rfl
theorem zIds_s (nm : Nat → Int32) (i : Nat) : zIds nm (i + 1) = upd (zIds nm i) i (nI i) := rfl
theorem zJoin_s (c nm : Nat → Int32) (j : Nat) : zJoin c nm (j + 1) = if gWh c (nI j) = 0 then zJoin c nm j else (kseal (zJoin1 (zJoin c nm j).1 (gMin (gName (zJoin c nm j).1 (gFirst (nI j))) (gName (zJoin c nm j).1 (gSecond (nI j)))) (gMax (gName (zJoin c nm j).1 (gFirst (nI j))) (gName (zJoin c nm j).1 (gSecond (nI j)))) 36), if gMin (gName (zJoin c nm j).1 (gFirst (nI j))) (gName (zJoin c nm j).1 (gSecond (nI j))) = gMax (gName (zJoin c nm j).1 (gFirst (nI j))) (gName (zJoin c nm j).1 (gSecond (nI j))) then (zJoin c nm j).2 else (zJoin c nm j).2 + (-1)) := rfl
theorem mjcon1 {own : String} {k i : Nat} {v : UInt64} {x : Value} (h : (bif Nat.beq i k then some (.double v) else none) = some x) (hc : Cond.constantDouble own k v ∈ mjW) : mjconOK own i x := by
  cases hb : Nat.beq i k with
  | true =>
    rw [hb] at h
    cases h
    rw [Nat.eq_of_beq_eq_true hb]
    exact hc
  | false => rw [hb] at h; cases h
def rm_X5_join : Room := { frames := 1, cells := 0, slots := 0, locals := 21 }
noncomputable def G_X5_join : mjG := (I_X5_join, F_X5, [(68, 1, 0, 2, 0, 0, S_J9_min_7cf53), (73, 1, 0, 2, 0, 0, S_J9_max_7cf53)], (fun pc => []), Y0, (fun _ => none), (fun _ => none), (some .boolean), 0, 0, false, [])
set_option maxHeartbeats 20000000 in
set_option maxRecDepth 100000 in
theorem ok_X5_join : mjOK G_X5_join 6 S_X5_join := by
  intro M as hP T hT
  obtain ⟨⟨nm, rd, rc⟩, a, b, rfl, rfl⟩ := inZ2 hP
  have fin : (S_X5_join (zw (nm, rd, rc)) [.ref 0, .int a, .int b]).2.1 = some (zw (kseal (zJoin1 nm (gMin a b) (gMax a b) 36), rd, rc)) := rfl
  have fin2 : (S_X5_join (zw (nm, rd, rc)) [.ref 0, .int a, .int b]).2.2 = some (.int (if gMin a b = gMax a b then 0 else 1)) := rfl
  rw [kseal_eq] at fin
  generalize S_X5_join (zw (nm, rd, rc)) [.ref 0, .int a, .int b] = SS at hT fin fin2
  have s1 : ∀ x y, x = gMin a b → y = gMax a b → T 16 [some (.ref 0), some (.int a), some (.int b), some (.int x), some (.int y), some (.int (nI 0))] [] (zw (nm, rd, rc)) (0, 0) := by
    intro x y hx hy
    rw [← hx, ← hy] at fin fin2
    refine mjloop0 36 (fun i => ∀ nm', nm' = zJoin1 nm x y i → T 16 [some (.ref 0), some (.int a), some (.int b), some (.int x), some (.int y), some (.int (nI i))] [] (zw (nm', rd, rc)) (0, 0)) (fun i hi ih nm' hn => ?_) (fun nm' hn => ?_) nm rfl
    · rw [nI_succ, zJoin1_s, ← hn] at ih
      refine hT.1 (fun pc => Nat.beq pc 16) 60 _ _ _ _ _ ?_
      refine And.intro (fun h => absurd h (nI_ge hi (by decide))) (fun _ => mjix_n hi (by decide) (And.intro (fun (h1 : ¬ nm' i = y) => ih _ ?_) (fun (h1 : nm' i = y) => mjix_n hi (by decide) (ih _ ?_))))
      · exact (if_neg h1).symm
      · exact (if_pos h1).symm
    · refine hT.1 (fun pc => Nat.beq pc 16) 60 _ _ _ _ _ ?_
      refine And.intro (fun _ => And.intro (fun (h1 : x = y) => ⟨rfl, ?_, ?_⟩) (fun (h1 : ¬ x = y) => ⟨rfl, ?_, ?_⟩)) (fun h => absurd (nI_le (Nat.le_refl 36) (by decide)) h)
      · rw [fin, hn]; rfl
      · rw [fin2, if_pos h1]
      · rw [fin, hn]; rfl
      · rw [fin2, if_neg h1]
  refine hT.1 (fun pc => Nat.beq pc 16) 60 _ _ _ _ _ ?_
  exact And.intro ⟨rfl, rfl⟩ (And.intro ⟨rfl, rfl⟩ (s1 _ _ rfl rfl))
set_option maxRecDepth 10000 in
theorem ct_X5_join (l : Launch) : mjCT l yX5_join cX5_join 6 (some .boolean) rm_X5_join S_X5_join :=
  mjCT_of (own := RX5) (G := G_X5_join) (plainFor_of_name pn_X5) rfl ok_X5_join (fun meth hm => ⟨fun pc row h => (I_X5_join_ok pc row h).1, F_X5_ok, List.forall_mem_cons.mpr ⟨⟨yJ9_min_7cf53, cJ9_min_7cf53, 2, (some .int), rm_J9_min_7cf53, ct_J9_min_7cf53 l, ⟨rfl, rfl⟩, ⟨by decide, by decide⟩, by decide, nk_J9_min_7cf53, ln_X5_68, st_J9_min_7cf53⟩, List.forall_mem_cons.mpr ⟨⟨yJ9_max_7cf53, cJ9_max_7cf53, 2, (some .int), rm_J9_max_7cf53, ct_J9_max_7cf53 l, ⟨rfl, rfl⟩, ⟨by decide, by decide⟩, by decide, nk_J9_max_7cf53, ln_X5_73, st_J9_max_7cf53⟩, fun _ h => absurd h List.not_mem_nil⟩⟩, (fun _ _ _ h => by cases h), (fun _ _ h => by cases h), ⟨Nat.le_refl _, Nat.le_refl _⟩, (fun h => by cases h), (fun h => absurd h (by decide)), fun _ h => absurd h List.not_mem_nil⟩) rfl rfl rfl (fun pc row h => (I_X5_join_ok pc row h).2)
def rm_X5_tellByJoining : Room := { frames := 2, cells := 0, slots := 0, locals := 46 }
noncomputable def G_X5_tellByJoining : mjG := (I_X5_tellByJoining, F_X5, [(42, 0, 3, 2, 0, 0, S_X4_isWhole), (58, 1, 0, 1, 0, 0, S_X1_firstCell), (51, 0, 4, 2, 0, 0, S_X5_nameOf), (61, 1, 0, 1, 0, 0, S_X1_secondCell), (64, 0, 4, 3, 0, 0, S_X5_join)], (fun pc => bif Nat.beq pc 51 then [] else bif Nat.beq pc 43 then [] else bif Nat.beq pc 34 then [3, 4, 5, 6, 7] else [0, 1, 2]), Y0, (fun _ => none), (fun _ => none), (some .int), 0, 0, false, [])
set_option maxHeartbeats 20000000 in
set_option maxRecDepth 100000 in
theorem ok_X5_tellByJoining : mjOK G_X5_tellByJoining 4 S_X5_tellByJoining := by
  intro M as hP T hT
  obtain ⟨⟨nm, rd, rc⟩, ⟨h, g, s, c, fu, ai, ra, le, ri, mi, lo, fl⟩, rfl, rfl⟩ : ∃ z p, M = zw z ++ pwb 3 p ∧ as = [.ref 0, .ref 3] := ⟨_, _, hP.1, hP.2⟩
  have fin : (S_X5_tellByJoining (zw (nm, rd, rc) ++ pwb 3 (h, g, s, c, fu, ai, ra, le, ri, mi, lo, fl)) [.ref 0, .ref 3]).2.1 = some (zw ((kseal (zJoin c nm 60)).1, rd, rc) ++ pwb 3 (h, g, s, c, fu, ai, ra, le, ri, mi, lo, fl)) := rfl
  have fin2 : (S_X5_tellByJoining (zw (nm, rd, rc) ++ pwb 3 (h, g, s, c, fu, ai, ra, le, ri, mi, lo, fl)) [.ref 0, .ref 3]).2.2 = some (.int (kseal (zJoin c nm 60)).2) := rfl
  rw [kseal_eq] at fin fin2
  generalize S_X5_tellByJoining (zw (nm, rd, rc) ++ pwb 3 (h, g, s, c, fu, ai, ra, le, ri, mi, lo, fl)) [.ref 0, .ref 3] = SS at hT fin fin2
  have s2 : ∀ nm0, nm0 = kseal (zIds nm 36) → T 26 [some (.ref 0), some (.ref 3), some (.int 36), some (.int (nI 0))] [] (zw (nm0, rd, rc) ++ pwb 3 (h, g, s, c, fu, ai, ra, le, ri, mi, lo, fl)) (0, 0) := by
    intro nm0 h0
    refine mjloop0 60 (fun i => ∀ (nm' : Nat → Int32) (x : Int32), (nm', x) = zJoin c nm i → T 26 [some (.ref 0), some (.ref 3), some (.int x), some (.int (nI i))] [] (zw (nm', rd, rc) ++ pwb 3 (h, g, s, c, fu, ai, ra, le, ri, mi, lo, fl)) (0, 0)) (fun i hi ih nm' x hz => ?_) (fun nm' x hz => ?_) nm0 36 ?_
    · rw [nI_succ, zJoin_s, ← hz] at ih
      dsimp only at ih
      have s3 : ∀ nm2 (b : Int32), (∀ nm3 x3, (nm3, x3) = (nm2, if b = 0 then x else x + (-1)) → T 26 [some (.ref 0), some (.ref 3), some (.int x3), some (.int (nI i + 1))] [] (zw (nm3, rd, rc) ++ pwb 3 (h, g, s, c, fu, ai, ra, le, ri, mi, lo, fl)) (0, 0)) → T 60 [some (.ref 0), some (.ref 3), some (.int x), some (.int (nI i))] [.int b] (zw (nm2, rd, rc) ++ pwb 3 (h, g, s, c, fu, ai, ra, le, ri, mi, lo, fl)) (0, 0) := by
        intro nm2 b hb
        refine hT.1 (fun pc => Nat.beq pc 26) 60 _ _ _ _ _ ?_
        refine And.intro (fun (h1 : b = 0) => hb _ _ ?_) (fun (h1 : ¬ b = 0) => hb _ _ ?_)
        · rw [if_pos h1]
        · rw [if_neg h1]
      refine hT.1 (fun pc => Nat.beq pc 26 || Nat.beq pc 60) 60 _ _ _ _ _ ?_
      refine And.intro (fun h => absurd h (nI_ge hi (by decide))) (fun _ => And.intro ⟨rfl, rfl⟩ (And.intro (fun (h1 : gWh c (nI i) = 0) => ih _ _ ?_) (fun (h1 : ¬ gWh c (nI i) = 0) => And.intro ⟨rfl, rfl⟩ (And.intro ⟨rfl, rfl⟩ (And.intro ⟨rfl, rfl⟩ (And.intro ⟨rfl, rfl⟩ (And.intro ⟨rfl, rfl⟩ ?_)))))))
      · exact (if_pos h1).symm
      · rw [if_neg h1] at ih
        refine s3 (kseal (zJoin1 nm' (gMin (gName nm' (gFirst (nI i))) (gName nm' (gSecond (nI i)))) (gMax (gName nm' (gFirst (nI i))) (gName nm' (gSecond (nI i)))) 36)) (if gMin (gName nm' (gFirst (nI i))) (gName nm' (gSecond (nI i))) = gMax (gName nm' (gFirst (nI i))) (gName nm' (gSecond (nI i))) then 0 else 1) (fun nm3 x3 h3 => ih _ _ (h3.trans ?_))
        by_cases h4 : gMin (gName nm' (gFirst (nI i))) (gName nm' (gSecond (nI i))) = gMax (gName nm' (gFirst (nI i))) (gName nm' (gSecond (nI i)))
        · rw [if_pos h4, if_pos h4, if_pos rfl]
        · rw [if_neg h4, if_neg h4, if_neg (by decide)]
    · refine hT.1 (fun pc => Nat.beq pc 26) 60 _ _ _ _ _ ?_
      refine And.intro (fun _ => ⟨?_, ?_⟩) (fun h => absurd (nI_le (Nat.le_refl 60) (by decide)) h)
      · rw [fin, ← hz]; rfl
      · rw [fin2, ← hz]
    · rw [h0]
      rfl
  refine hT.1 (fun pc => Nat.beq pc 2) 60 _ _ _ _ _ ?_
  refine mjloop0 36 (fun i => ∀ nm', nm' = zIds nm i → T 2 [some (.ref 0), some (.ref 3), some (.int (nI i)), none] [] (zw (nm', rd, rc) ++ pwb 3 (h, g, s, c, fu, ai, ra, le, ri, mi, lo, fl)) (0, 0)) (fun i hi ih nm' hn => ?_) (fun nm' hn => ?_) nm rfl
  · rw [nI_succ, zIds_s, ← hn] at ih
    refine hT.1 (fun pc => Nat.beq pc 2) 60 _ _ _ _ _ ?_
    exact And.intro (fun h => absurd h (nI_ge hi (by decide))) (fun _ => mjix_n hi (by decide) (ih _ rfl))
  · refine hT.1 (fun pc => Nat.beq pc 2 || Nat.beq pc 26) 60 _ _ _ _ _ ?_
    exact And.intro (fun _ => s2 nm' (hn.trans (kseal_eq _).symm)) (fun h => absurd (nI_le (Nat.le_refl 36) (by decide)) h)
set_option maxRecDepth 10000 in
theorem ct_X5_tellByJoining (l : Launch) : mjCT l yX5_tellByJoining cX5_tellByJoining 4 (some .int) rm_X5_tellByJoining S_X5_tellByJoining :=
  mjCT_of (own := RX5) (G := G_X5_tellByJoining) (plainFor_of_name pn_X5) rfl ok_X5_tellByJoining (fun meth hm => ⟨fun pc row h => (I_X5_tellByJoining_ok pc row h).1, F_X5_ok, List.forall_mem_cons.mpr ⟨⟨yX4_isWhole, cX4_isWhole, 2, (some .boolean), rm_X4_isWhole, ct_X4_isWhole l, ⟨rfl, rfl⟩, ⟨by decide, by decide⟩, by decide, by decide, nk_X4_isWhole, ln_X5_42, im_X4_isWhole, se_X4_isWhole, rfl⟩, List.forall_mem_cons.mpr ⟨⟨yX1_firstCell, cX1_firstCell, 1, (some .int), rm_X1_firstCell, ct_X1_firstCell l, ⟨rfl, rfl⟩, ⟨by decide, by decide⟩, by decide, nk_X1_firstCell, ln_X5_58, st_X1_firstCell⟩, List.forall_mem_cons.mpr ⟨⟨yX5_nameOf, cX5_nameOf, 2, (some .int), rm_X5_nameOf, ct_X5_nameOf l, ⟨rfl, rfl⟩, ⟨by decide, by decide⟩, by decide, by decide, nk_X5_nameOf, ln_X5_51, im_X5_nameOf, se_X5_nameOf, rfl⟩, List.forall_mem_cons.mpr ⟨⟨yX1_secondCell, cX1_secondCell, 1, (some .int), rm_X1_secondCell, ct_X1_secondCell l, ⟨rfl, rfl⟩, ⟨by decide, by decide⟩, by decide, nk_X1_secondCell, ln_X5_61, st_X1_secondCell⟩, List.forall_mem_cons.mpr ⟨⟨yX5_join, cX5_join, 6, (some .boolean), rm_X5_join, ct_X5_join l, ⟨rfl, rfl⟩, ⟨by decide, by decide⟩, by decide, by decide, nk_X5_join, ln_X5_64, im_X5_join, se_X5_join, rfl⟩, fun _ h => absurd h List.not_mem_nil⟩⟩⟩⟩⟩, (fun _ _ _ h => by cases h), (fun _ _ h => by cases h), ⟨Nat.le_refl _, Nat.le_refl _⟩, (fun h => by cases h), (fun h => absurd h (by decide)), fun _ h => absurd h List.not_mem_nil⟩) rfl rfl rfl (fun pc row h => (I_X5_tellByJoining_ok pc row h).2)
def rm_X5_sizeOf : Room := { frames := 0, cells := 0, slots := 0, locals := 0 }
noncomputable def G_X5_sizeOf : mjG := (I_X5_sizeOf, F_X5, [], (fun pc => []), Y0, (fun _ => none), (fun _ => none), (some .int), 0, 0, false, [])
set_option maxHeartbeats 20000000 in
set_option maxRecDepth 100000 in
theorem ok_X5_sizeOf : mjOK G_X5_sizeOf 4 S_X5_sizeOf := by
  intro M as hP T hT
  obtain ⟨⟨nm, rd, rc⟩, k, rfl, rfl⟩ := inZ1 hP
  refine hT.1 (fun pc => Nat.beq pc 4) 40 _ _ _ _ _ ?_
  refine mjloop0 36 (fun i => ∀ x, x = nf (fun i a => if nm i = k then a + 1 else a) (0 : Int32) i → T 4 [some (.ref 0), some (.int k), some (.int x), some (.int (nI i))] [] (zw (nm, rd, rc)) (0, 0)) (fun i hi ih x hx => ?_) (fun x hx => ?_) 0 rfl
  · rw [nI_succ] at ih
    refine hT.1 (fun pc => Nat.beq pc 4) 60 _ _ _ _ _ ?_
    refine And.intro (fun h => absurd h (nI_ge hi (by decide))) (fun _ => mjix_n hi (by decide) (And.intro (fun (h1 : ¬ nm i = k) => ih _ ?_) (fun (h1 : nm i = k) => ih _ ?_)))
    · rw [hx]; exact (if_neg h1).symm
    · rw [hx]; exact (if_pos h1).symm
  · refine hT.1 (fun pc => Nat.beq pc 4) 60 _ _ _ _ _ ?_
    exact And.intro (fun _ => ⟨rfl, ksi hx⟩) (fun h => absurd (nI_le (Nat.le_refl 36) (by decide)) h)
set_option maxRecDepth 10000 in
theorem ct_X5_sizeOf (l : Launch) : mjCT l yX5_sizeOf cX5_sizeOf 4 (some .int) rm_X5_sizeOf S_X5_sizeOf :=
  mjCT_of (own := RX5) (G := G_X5_sizeOf) (plainFor_of_name pn_X5) rfl ok_X5_sizeOf (fun meth hm => ⟨fun pc row h => (I_X5_sizeOf_ok pc row h).1, F_X5_ok, fun _ h => absurd h List.not_mem_nil, (fun _ _ _ h => by cases h), (fun _ _ h => by cases h), ⟨Nat.le_refl _, Nat.le_refl _⟩, (fun h => by cases h), (fun h => absurd h (by decide)), fun _ h => absurd h List.not_mem_nil⟩) rfl rfl rfl (fun pc row h => (I_X5_sizeOf_ok pc row h).2)
def rm_X5_greatestSize : Room := { frames := 1, cells := 0, slots := 0, locals := 23 }
noncomputable def G_X5_greatestSize : mjG := (I_X5_greatestSize, F_X5, [(76, 0, 4, 2, 0, 0, S_X5_sizeOf), (73, 1, 0, 2, 0, 0, S_J9_max_7cf53)], (fun pc => bif Nat.beq pc 16 then [] else [0, 1, 2]), Y0, (fun _ => none), (fun _ => none), (some .int), 0, 0, false, [])
set_option maxHeartbeats 20000000 in
set_option maxRecDepth 100000 in
theorem ok_X5_greatestSize : mjOK G_X5_greatestSize 3 S_X5_greatestSize := by
  intro M as hP T hT
  obtain ⟨⟨nm, rd, rc⟩, rfl, rfl⟩ : ∃ z, M = zw z ∧ as = [.ref 0] := ⟨_, hP⟩
  refine hT.1 (fun pc => Nat.beq pc 4) 40 _ _ _ _ _ ?_
  refine mjloop0 36 (fun i => ∀ x, x = nf (fun i a => gMax a (kseal (gSize nm (nI i)))) (0 : Int32) i → T 4 [some (.ref 0), some (.int x), some (.int (nI i))] [] (zw (nm, rd, rc)) (0, 0)) (fun i hi ih x hx => ?_) (fun x hx => ?_) 0 rfl
  · rw [nI_succ] at ih
    refine hT.1 (fun pc => Nat.beq pc 4) 60 _ _ _ _ _ ?_
    refine And.intro (fun h => absurd h (nI_ge hi (by decide))) (fun _ => And.intro ⟨rfl, rfl⟩ (And.intro ⟨rfl, rfl⟩ (ih _ ?_)))
    rw [hx]
    rfl
  · refine hT.1 (fun pc => Nat.beq pc 4) 60 _ _ _ _ _ ?_
    exact And.intro (fun _ => ⟨rfl, ksi hx⟩) (fun h => absurd (nI_le (Nat.le_refl 36) (by decide)) h)
set_option maxRecDepth 10000 in
theorem ct_X5_greatestSize (l : Launch) : mjCT l yX5_greatestSize cX5_greatestSize 3 (some .int) rm_X5_greatestSize S_X5_greatestSize :=
  mjCT_of (own := RX5) (G := G_X5_greatestSize) (plainFor_of_name pn_X5) rfl ok_X5_greatestSize (fun meth hm => ⟨fun pc row h => (I_X5_greatestSize_ok pc row h).1, F_X5_ok, List.forall_mem_cons.mpr ⟨⟨yX5_sizeOf, cX5_sizeOf, 4, (some .int), rm_X5_sizeOf, ct_X5_sizeOf l, ⟨rfl, rfl⟩, ⟨by decide, by decide⟩, by decide, by decide, nk_X5_sizeOf, ln_X5_76, im_X5_sizeOf, se_X5_sizeOf, rfl⟩, List.forall_mem_cons.mpr ⟨⟨yJ9_max_7cf53, cJ9_max_7cf53, 2, (some .int), rm_J9_max_7cf53, ct_J9_max_7cf53 l, ⟨rfl, rfl⟩, ⟨by decide, by decide⟩, by decide, nk_J9_max_7cf53, ln_X5_73, st_J9_max_7cf53⟩, fun _ h => absurd h List.not_mem_nil⟩⟩, (fun _ _ _ h => by cases h), (fun _ _ h => by cases h), ⟨Nat.le_refl _, Nat.le_refl _⟩, (fun h => by cases h), (fun h => absurd h (by decide)), fun _ h => absurd h List.not_mem_nil⟩) rfl rfl rfl (fun pc row h => (I_X5_greatestSize_ok pc row h).2)
def rm_X5_meanHeat : Room := { frames := 1, cells := 0, slots := 0, locals := 23 }
noncomputable def G_X5_meanHeat : mjG := (I_X5_meanHeat, F_X5, [(76, 0, 4, 2, 0, 0, S_X5_sizeOf), (81, 0, 3, 2, 0, 0, S_X4_heatAt)], (fun pc => bif Nat.beq pc 43 then [3, 4, 5, 6, 7] else [0, 1, 2]), Y0, (fun _ => none), (fun i => bif Nat.beq i 79 then some (.double 13830554455654793216) else none), (some .double), 0, 0, false, [])
theorem mSum_s (nm h : Nat → Int32) (x : Int32) (i : Nat) : mSum nm h x (i + 1) = if nm i = x then FP.dadd (mSum nm h x i) (FP.i2d (gAt 36 h (nI i))) else mSum nm h x i := rfl
set_option maxHeartbeats 20000000 in
set_option maxRecDepth 100000 in
theorem ok_X5_meanHeat : mjOK G_X5_meanHeat 7 S_X5_meanHeat := by
  intro M as hP T hT
  obtain ⟨⟨nm, rd, rc⟩, ⟨h, g, s, c, fu, ai, ra, le, ri, mi, lo, fl⟩, k, rfl, rfl, hm⟩ : ∃ z p k, M = zw z ++ pwb 3 p ∧ as = [.ref 0, .ref 3, .int k] ∧ mOk z.1 p.1 k := ⟨_, _, _, hP.1.1, hP.1.2, hP.2⟩
  have fin : (S_X5_meanHeat (zw (nm, rd, rc) ++ pwb 3 (h, g, s, c, fu, ai, ra, le, ri, mi, lo, fl)) [.ref 0, .ref 3, .int k]).2.1 = none := rfl
  have fin2 : (S_X5_meanHeat (zw (nm, rd, rc) ++ pwb 3 (h, g, s, c, fu, ai, ra, le, ri, mi, lo, fl)) [.ref 0, .ref 3, .int k]).2.2 = some (.double (kseal (if gSize nm k = 0 then 13830554455654793216 else FP.ddiv (mSum nm h k 36) (FP.i2d (gSize nm k))))) := rfl
  rw [kseal_eq] at fin2
  generalize S_X5_meanHeat (zw (nm, rd, rc) ++ pwb 3 (h, g, s, c, fu, ai, ra, le, ri, mi, lo, fl)) [.ref 0, .ref 3, .int k] = SS at hT fin fin2
  obtain ⟨hm1, hm2⟩ := hm
  dsimp only at hm1 hm2
  have s1 : ∀ sz, sz = gSize nm k → T 6 [some (.ref 0), some (.ref 3), some (.int k), some (.int sz), none, none, none] [] (zw (nm, rd, rc) ++ pwb 3 (h, g, s, c, fu, ai, ra, le, ri, mi, lo, fl)) (0, 0) := by
    intro sz hs
    rw [← hs] at fin2 hm2
    have s2 : ¬ sz = 0 → T 20 [some (.ref 0), some (.ref 3), some (.int k), some (.int sz), some (.double FP.dconst0), none, some (.int (nI 0))] [] (zw (nm, rd, rc) ++ pwb 3 (h, g, s, c, fu, ai, ra, le, ri, mi, lo, fl)) (0, 0) := by
      intro h0
      rw [if_neg h0] at fin2
      refine mjloop0 36 (fun i => ∀ x, x = mSum nm h k i → T 20 [some (.ref 0), some (.ref 3), some (.int k), some (.int sz), some (.double x), none, some (.int (nI i))] [] (zw (nm, rd, rc) ++ pwb 3 (h, g, s, c, fu, ai, ra, le, ri, mi, lo, fl)) (0, 0)) (fun i hi ih x hx => ?_) (fun x hx => ?_) FP.dconst0 rfl
      · have hm1 := hm1 i hi
        rw [nI_succ, mSum_s, ← hx] at ih
        rw [← hx] at hm1
        refine hT.1 (fun pc => Nat.beq pc 20) 60 _ _ _ _ _ ?_
        refine And.intro (fun h => absurd h (nI_ge hi (by decide))) (fun _ => mjix_n hi (by decide) (And.intro (fun (h1 : ¬ nm i = k) => ih _ ?_) (fun (h1 : nm i = k) => And.intro ⟨rfl, rfl⟩ (And.intro (hm1 h1) (ih _ ?_)))))
        · exact (if_neg h1).symm
        · exact (if_pos h1).symm
      · rw [← hx] at fin2 hm2
        refine hT.1 (fun pc => Nat.beq pc 20) 60 _ _ _ _ _ ?_
        refine And.intro (fun _ => And.intro hm2 ⟨?_, ?_⟩) (fun h => absurd (nI_le (Nat.le_refl 36) (by decide)) h)
        · rw [fin]; rfl
        · rw [fin2]
    refine hT.1 (fun pc => Nat.beq pc 20) 60 _ _ _ _ _ ?_
    refine And.intro (fun (h1 : ¬ sz = 0) => s2 h1) (fun (h1 : sz = 0) => ⟨?_, ?_⟩)
    · rw [fin]; rfl
    · rw [fin2, if_pos h1]
  refine hT.1 (fun pc => Nat.beq pc 6) 60 _ _ _ _ _ ?_
  exact And.intro ⟨rfl, rfl⟩ (s1 _ (kseal_eq _))
set_option maxRecDepth 10000 in
theorem ct_X5_meanHeat (l : Launch) : mjCT l yX5_meanHeat cX5_meanHeat 7 (some .double) rm_X5_meanHeat S_X5_meanHeat :=
  mjCT_of (own := RX5) (G := G_X5_meanHeat) (plainFor_of_name pn_X5) rfl ok_X5_meanHeat (fun meth hm => ⟨fun pc row h => (I_X5_meanHeat_ok pc row h).1, F_X5_ok, List.forall_mem_cons.mpr ⟨⟨yX5_sizeOf, cX5_sizeOf, 4, (some .int), rm_X5_sizeOf, ct_X5_sizeOf l, ⟨rfl, rfl⟩, ⟨by decide, by decide⟩, by decide, by decide, nk_X5_sizeOf, ln_X5_76, im_X5_sizeOf, se_X5_sizeOf, rfl⟩, List.forall_mem_cons.mpr ⟨⟨yX4_heatAt, cX4_heatAt, 2, (some .int), rm_X4_heatAt, ct_X4_heatAt l, ⟨rfl, rfl⟩, ⟨by decide, by decide⟩, by decide, by decide, nk_X4_heatAt, ln_X5_81, im_X4_heatAt, se_X4_heatAt, rfl⟩, fun _ h => absurd h List.not_mem_nil⟩⟩, (fun _ _ _ h => by cases h), (fun _ _ h => mjcon1 h cd_X5_79), ⟨Nat.le_refl _, Nat.le_refl _⟩, (fun h => by cases h), (fun h => absurd h (by decide)), fun _ h => absurd h List.not_mem_nil⟩) rfl rfl rfl (fun pc row h => (I_X5_meanHeat_ok pc row h).2)
