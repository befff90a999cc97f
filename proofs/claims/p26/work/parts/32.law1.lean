/-! the law: low, lot, look, number -/
theorem mjb_i {b : Bool} {F : Prop} (h : b = true) (k : F) : mjb b F := by
  rw [h]
  exact k
def lowV (x n : Int32) : Int32 := (x &&& 2147483647) - (x &&& 2147483647) / n * n
def S_L_low : mjSp := fun M as => ((M = [] ∧ as = [.int (aI as 0), .int (aI as 1)]) ∧ ¬ aI as 1 = 0, none, some (.int (lowV (aI as 0) (aI as 1))))
def rm_L_low : Room := { frames := 0, cells := 0, slots := 0, locals := 0 }
noncomputable def G_L_low : mjG := (I_L_low, (fun _ => none), [], (fun pc => []), Y0, (fun _ => none), (mjcons CN_L), (some .int), 0, 0, false, [])
set_option maxHeartbeats 20000000 in
set_option maxRecDepth 100000 in
theorem ok_L_low : mjOK G_L_low 2 S_L_low := by
  intro M as hP T hT
  obtain ⟨x, n, rfl, rfl, hn⟩ : ∃ x n, M = [] ∧ as = [.int x, .int n] ∧ ¬ n = 0 := ⟨_, _, hP.1.1, hP.1.2, hP.2⟩
  refine hT.1 (fun _ => false) 40 _ _ _ _ _ ?_
  exact mjb_i (b := !decide (n = 0)) (by simp [hn]) ⟨rfl, rfl⟩
set_option maxRecDepth 10000 in
theorem ct_L_low (l : Launch) : mjCT l yL_low cL_low 2 (some .int) rm_L_low S_L_low :=
  mjCT_of (own := RL) (G := G_L_low) (plainFor_of_name pn_L) rfl ok_L_low (fun meth hm => ⟨fun pc row h => (I_L_low_ok pc row h).1, (fun _ _ _ _ h => by cases h), fun _ h => absurd h List.not_mem_nil, (fun _ _ _ h => by cases h), (mjcons_ok CN_L_ok), ⟨Nat.le_refl _, Nat.le_refl _⟩, (fun h => by cases h), (fun h => absurd h (by decide)), fun _ h => absurd h List.not_mem_nil⟩) rfl rfl rfl (fun pc row h => (I_L_low_ok pc row h).2)
def rm_L_lot : Room := { frames := 0, cells := 0, slots := 0, locals := 0 }
noncomputable def G_L_lot : mjG := (I_L_lot, (fun _ => none), [], (fun pc => []), Y0, (fun _ => none), (mjcons CN_L), (some .int), 0, 0, false, [])
set_option maxHeartbeats 20000000 in
set_option maxRecDepth 100000 in
theorem ok_L_lot : ∀ (n : Nat) (f : Nat → Int32) (k : Int32), ¬ k < 0 → n < 2147483648 → ∀ T, mjC G_L_lot (some (n, f)) (fun M' r _ => M' = [] ∧ r = some (.int (lotV n f k))) T → T 0 [some (.ref 4095), some (.int k)] [] [] (0, 0) := by
  intro n f k hk hn T hT
  refine hT.1 (fun _ => false) 40 _ _ _ _ _ ?_
  refine And.intro (fun (h : nI n ≤ k) => ⟨rfl, mjsi ?_⟩) (fun (h : ¬ nI n ≤ k) => mjix_of hk h rfl hn ⟨rfl, mjsi ?_⟩)
  · exact (if_pos h).symm
  · exact (if_neg h).symm
set_option maxRecDepth 10000 in
theorem ct_L_lot (l : Launch) : mjLot l yL_lot cL_lot 2 (some .int) rm_L_lot :=
  mjLot_of (own := RL) (G := G_L_lot) (plainFor_of_name pn_L) rfl ok_L_lot (fun meth hm => ⟨fun pc row h => (I_L_lot_ok pc row h).1, (fun _ _ _ _ h => by cases h), fun _ h => absurd h List.not_mem_nil, (fun _ _ _ h => by cases h), (mjcons_ok CN_L_ok), ⟨Nat.zero_le _, Nat.zero_le _⟩, (fun h => by cases h), (fun h => absurd h (by decide)), fun _ h => absurd h List.not_mem_nil⟩) rfl rfl rfl (fun pc row h => (I_L_lot_ok pc row h).2)
/-- the digest of what looks show -/
noncomputable def hA (q : QSt) : Nat → Int64 := nf (fun i h => 31 * h + Int32.toInt64 (vCount q (nI i))) 383
noncomputable def hBc (p : PSt) (h : Int64) : Nat → Int64 := nf (fun i h => 31 * (31 * h + Int32.toInt64 (vCell p (nI i) 0)) + Int32.toInt64 (vCell p (nI i) 1)) h
noncomputable def hCj (p : PSt) (h : Int64) : Nat → Int64 := nf (fun i h => 31 * (31 * h + Int32.toInt64 (vJoint p (nI i) 3)) + Int32.toInt64 (vJoint p (nI i) 5)) h
noncomputable def hLook (q : QSt) : Int64 := kseal (hCj q.1 (hBc q.1 (hA q 15) 36) 60)
theorem hLook_c {q q' : QSt} (h : q.1 = q'.1) : hLook q = hLook q' := by
  unfold hLook
  have e : hA q 15 = hA q' 15 := by
    refine nf_congr 15 (fun i hi b => ?_)
    have e2 : vCount q (nI i) = vCount q' (nI i) := by
      unfold vCount
      rw [h, if_neg (show ¬ nI i = 15 from fun e => absurd ((nI_eq (a := i) (b := 15) (by omega) (by decide)).mp e) (by omega)), if_neg (show ¬ nI i = 16 from fun e => absurd ((nI_eq (a := i) (b := 16) (by omega) (by decide)).mp e) (by omega)), if_neg (show ¬ nI i = 15 from fun e => absurd ((nI_eq (a := i) (b := 15) (by omega) (by decide)).mp e) (by omega)), if_neg (show ¬ nI i = 16 from fun e => absurd ((nI_eq (a := i) (b := 16) (by omega) (by decide)).mp e) (by omega))]
    rw [e2]
  rw [e, h]
noncomputable def R_L_look : mjSr := lr0 (fun _ => True) (fun q q' w => q' = q ∧ w = .long (hLook q))
def rm_L_look : Room := { frames := 6, cells := 0, slots := 0, locals := 134 }
noncomputable def G_L_look : mjG := (I_L_look, (fun _ => none), [(13, 0, 5, 2, 0, 0, S_X6_count), (19, 0, 5, 3, 0, 0, S_X6_cell), (23, 0, 5, 3, 0, 0, S_X6_joint)], (fun pc => [0, 1, 2, 3, 4, 5, 6, 7, 8, 9, 10, 11, 12, 13, 14, 15, 16, 17, 18, 19, 20, 21, 22, 23, 24, 25, 26, 27, 28, 29, 30, 31, 32, 33, 34, 35, 36, 37, 38, 39, 40, 41, 42, 43, 44, 45, 46]), Y0, (fun _ => none), (mjcons CN_L), (some .long), 0, 0, false, [])
set_option maxHeartbeats 20000000 in
set_option maxRecDepth 100000 in
theorem ok_L_look : mjOKr G_L_look 4 R_L_look := by
  intro M as hP T hT
  obtain ⟨c0, rfl, rfl, hc0⟩ : ∃ c, M = xw c ∧ as = [.ref 0] ∧ cOk c := ⟨_, hP.1.1, hP.1.2, hP.2.1⟩
  refine (?_ : TT T (0, 0) (qOf c0) 0 [some (.ref 0), none, none, none] []) c0 hc0 rfl
  have hqq : qOf c0 = qOf c0 := rfl
  generalize hq0 : qOf c0 = q at hqq ⊢
  have e111 : TT T (0, 0) q 111 [some (.ref 0), some (.long (hCj q.1 (hBc q.1 (hA q 15) 36) 60)), none, some (.int (nI 60))] [] := by
    refine tt_seg hT (fun pc => Nat.beq pc 112) 60 (fun c hc hq => ?_)
    refine (show TT T (0, 0) q 112 [some (.ref 0), some (.long (hCj q.1 (hBc q.1 (hA q 15) 36) 60)), none, some (.int (nI 60))] [.long (hCj q.1 (hBc q.1 (hA q 15) 36) 60)] from ?_) c hc hq
    exact tt_lret hT rfl (fun c hc hq => ⟨rfl, c, .long (hLook q), rfl, hc, by rw [show hLook q = hCj q.1 (hBc q.1 (hA q 15) 36) 60 from kseal_eq _], fun _ => rfl, by rw [hq]; exact ⟨hq0.symm, congrArg (fun z => Value.long (hLook z)) hq0.symm⟩⟩)
  have l73 : TT T (0, 0) q 73 [some (.ref 0), some (.long (hCj q.1 (hBc q.1 (hA q 15) 36) 0)), none, some (.int 0)] [] := by
    refine mjloop0 60 (fun i => TT T (0, 0) q 73 [some (.ref 0), some (.long (hCj q.1 (hBc q.1 (hA q 15) 36) i)), none, some (.int (nI i))] []) (fun i hi ih => ?_) ?_
    · rw [nI_succ] at ih
      refine tt_seg hT (fun pc => Nat.beq pc 111 || Nat.beq pc 79) 80 (fun c hc hq => ?_)
      refine And.intro (fun (hb76 : 60 ≤ (nI i)) => ?_) (fun (hb76 : ¬ 60 ≤ (nI i)) => ?_)
      · exact absurd hb76 (nI_ge hi (by decide))
      · refine (show TT T (0, 0) q 79 [some (.ref 0), some (.long (hCj q.1 (hBc q.1 (hA q 15) 36) i)), none, some (.int (nI i))] [] from ?_) c hc hq
        refine tt_seg hT (fun pc => Nat.beq pc 90) 60 (fun c hc hq => ?_)
        refine (show TT T (0, 0) q 90 [some (.ref 0), some (.long (hCj q.1 (hBc q.1 (hA q 15) 36) i)), none, some (.int (nI i))] [.int 3, .int (nI i), .ref 0, .long (31 * (hCj q.1 (hBc q.1 (hA q 15) 36) i)), .long 31] from ?_) c hc hq
        refine tt_v2 (W := fun q x y => (q, vJoint q.1 x y)) lq_joint hT rfl rfl rfl rfl rfl ?_
        show TT T (0, 0) q 93 [some (.ref 0), some (.long (hCj q.1 (hBc q.1 (hA q 15) 36) i)), none, some (.int (nI i))] [.int (vJoint q.1 (nI i) 3), .long (31 * (hCj q.1 (hBc q.1 (hA q 15) 36) i)), .long 31]
        refine tt_seg hT (fun pc => Nat.beq pc 99) 60 (fun c hc hq => ?_)
        refine (show TT T (0, 0) q 99 [some (.ref 0), some (.long (hCj q.1 (hBc q.1 (hA q 15) 36) i)), none, some (.int (nI i))] [.int 5, .int (nI i), .ref 0, .long (31 * ((31 * (hCj q.1 (hBc q.1 (hA q 15) 36) i)) + (Int32.toInt64 (vJoint q.1 (nI i) 3))))] from ?_) c hc hq
        refine tt_v2 (W := fun q x y => (q, vJoint q.1 x y)) lq_joint hT rfl rfl rfl rfl rfl ?_
        show TT T (0, 0) q 102 [some (.ref 0), some (.long (hCj q.1 (hBc q.1 (hA q 15) 36) i)), none, some (.int (nI i))] [.int (vJoint q.1 (nI i) 5), .long (31 * ((31 * (hCj q.1 (hBc q.1 (hA q 15) 36) i)) + (Int32.toInt64 (vJoint q.1 (nI i) 3))))]
        refine tt_seg hT (fun pc => Nat.beq pc 73) 60 (fun c hc hq => ?_)
        refine (show TT T (0, 0) q 73 [some (.ref 0), some (.long ((31 * ((31 * (hCj q.1 (hBc q.1 (hA q 15) 36) i)) + (Int32.toInt64 (vJoint q.1 (nI i) 3)))) + (Int32.toInt64 (vJoint q.1 (nI i) 5)))), none, some (.int ((nI i) + 1))] [] from ?_) c hc hq
        exact ih
    · refine tt_seg hT (fun pc => Nat.beq pc 111 || Nat.beq pc 79) 80 (fun c hc hq => ?_)
      refine And.intro (fun (hb76 : 60 ≤ (nI 60)) => ?_) (fun (hb76 : ¬ 60 ≤ (nI 60)) => ?_)
      · refine (show TT T (0, 0) q 111 [some (.ref 0), some (.long (hCj q.1 (hBc q.1 (hA q 15) 36) 60)), none, some (.int (nI 60))] [] from ?_) c hc hq
        exact e111
      · exact absurd (nI_le (Nat.le_refl 60) (by decide)) hb76
  have e71 : TT T (0, 0) q 71 [some (.ref 0), some (.long (hBc q.1 (hA q 15) 36)), none, some (.int (nI 36))] [] := by
    refine tt_seg hT (fun pc => Nat.beq pc 73) 60 (fun c hc hq => ?_)
    refine (show TT T (0, 0) q 73 [some (.ref 0), some (.long (hBc q.1 (hA q 15) 36)), none, some (.int 0)] [] from ?_) c hc hq
    exact l73
  have l33 : TT T (0, 0) q 33 [some (.ref 0), some (.long (hBc q.1 (hA q 15) 0)), none, some (.int 0)] [] := by
    refine mjloop0 36 (fun i => TT T (0, 0) q 33 [some (.ref 0), some (.long (hBc q.1 (hA q 15) i)), none, some (.int (nI i))] []) (fun i hi ih => ?_) ?_
    · rw [nI_succ] at ih
      refine tt_seg hT (fun pc => Nat.beq pc 71 || Nat.beq pc 39) 80 (fun c hc hq => ?_)
      refine And.intro (fun (hb36 : 36 ≤ (nI i)) => ?_) (fun (hb36 : ¬ 36 ≤ (nI i)) => ?_)
      · exact absurd hb36 (nI_ge hi (by decide))
      · refine (show TT T (0, 0) q 39 [some (.ref 0), some (.long (hBc q.1 (hA q 15) i)), none, some (.int (nI i))] [] from ?_) c hc hq
        refine tt_seg hT (fun pc => Nat.beq pc 50) 60 (fun c hc hq => ?_)
        refine (show TT T (0, 0) q 50 [some (.ref 0), some (.long (hBc q.1 (hA q 15) i)), none, some (.int (nI i))] [.int 0, .int (nI i), .ref 0, .long (31 * (hBc q.1 (hA q 15) i)), .long 31] from ?_) c hc hq
        refine tt_v2 (W := fun q x y => (q, vCell q.1 x y)) lq_cell hT rfl rfl rfl rfl rfl ?_
        show TT T (0, 0) q 53 [some (.ref 0), some (.long (hBc q.1 (hA q 15) i)), none, some (.int (nI i))] [.int (vCell q.1 (nI i) 0), .long (31 * (hBc q.1 (hA q 15) i)), .long 31]
        refine tt_seg hT (fun pc => Nat.beq pc 59) 60 (fun c hc hq => ?_)
        refine (show TT T (0, 0) q 59 [some (.ref 0), some (.long (hBc q.1 (hA q 15) i)), none, some (.int (nI i))] [.int 1, .int (nI i), .ref 0, .long (31 * ((31 * (hBc q.1 (hA q 15) i)) + (Int32.toInt64 (vCell q.1 (nI i) 0))))] from ?_) c hc hq
        refine tt_v2 (W := fun q x y => (q, vCell q.1 x y)) lq_cell hT rfl rfl rfl rfl rfl ?_
        show TT T (0, 0) q 62 [some (.ref 0), some (.long (hBc q.1 (hA q 15) i)), none, some (.int (nI i))] [.int (vCell q.1 (nI i) 1), .long (31 * ((31 * (hBc q.1 (hA q 15) i)) + (Int32.toInt64 (vCell q.1 (nI i) 0))))]
        refine tt_seg hT (fun pc => Nat.beq pc 33) 60 (fun c hc hq => ?_)
        refine (show TT T (0, 0) q 33 [some (.ref 0), some (.long ((31 * ((31 * (hBc q.1 (hA q 15) i)) + (Int32.toInt64 (vCell q.1 (nI i) 0)))) + (Int32.toInt64 (vCell q.1 (nI i) 1)))), none, some (.int ((nI i) + 1))] [] from ?_) c hc hq
        exact ih
    · refine tt_seg hT (fun pc => Nat.beq pc 71 || Nat.beq pc 39) 80 (fun c hc hq => ?_)
      refine And.intro (fun (hb36 : 36 ≤ (nI 36)) => ?_) (fun (hb36 : ¬ 36 ≤ (nI 36)) => ?_)
      · refine (show TT T (0, 0) q 71 [some (.ref 0), some (.long (hBc q.1 (hA q 15) 36)), none, some (.int (nI 36))] [] from ?_) c hc hq
        exact e71
      · exact absurd (nI_le (Nat.le_refl 36) (by decide)) hb36
  have e31 : TT T (0, 0) q 31 [some (.ref 0), some (.long (hA q 15)), none, some (.int (nI 15))] [] := by
    refine tt_seg hT (fun pc => Nat.beq pc 33) 60 (fun c hc hq => ?_)
    refine (show TT T (0, 0) q 33 [some (.ref 0), some (.long (hA q 15)), none, some (.int 0)] [] from ?_) c hc hq
    exact l33
  have l6 : TT T (0, 0) q 6 [some (.ref 0), some (.long (hA q 0)), none, some (.int 0)] [] := by
    refine mjloop0 15 (fun i => TT T (0, 0) q 6 [some (.ref 0), some (.long (hA q i)), none, some (.int (nI i))] []) (fun i hi ih => ?_) ?_
    · rw [nI_succ] at ih
      refine tt_seg hT (fun pc => Nat.beq pc 31 || Nat.beq pc 12) 80 (fun c hc hq => ?_)
      refine And.intro (fun (hb9 : 15 ≤ (nI i)) => ?_) (fun (hb9 : ¬ 15 ≤ (nI i)) => ?_)
      · exact absurd hb9 (nI_ge hi (by decide))
      · refine (show TT T (0, 0) q 12 [some (.ref 0), some (.long (hA q i)), none, some (.int (nI i))] [] from ?_) c hc hq
        refine tt_seg hT (fun pc => Nat.beq pc 19) 60 (fun c hc hq => ?_)
        refine (show TT T (0, 0) q 19 [some (.ref 0), some (.long (hA q i)), none, some (.int (nI i))] [.int (nI i), .ref 0, .long (31 * (hA q i))] from ?_) c hc hq
        refine tt_v1 (W := fun q x => (q, vCount q x)) lq_count hT rfl rfl rfl rfl rfl ?_
        show TT T (0, 0) q 22 [some (.ref 0), some (.long (hA q i)), none, some (.int (nI i))] [.int (vCount q (nI i)), .long (31 * (hA q i))]
        refine tt_seg hT (fun pc => Nat.beq pc 6) 60 (fun c hc hq => ?_)
        refine (show TT T (0, 0) q 6 [some (.ref 0), some (.long ((31 * (hA q i)) + (Int32.toInt64 (vCount q (nI i))))), none, some (.int ((nI i) + 1))] [] from ?_) c hc hq
        exact ih
    · refine tt_seg hT (fun pc => Nat.beq pc 31 || Nat.beq pc 12) 80 (fun c hc hq => ?_)
      refine And.intro (fun (hb9 : 15 ≤ (nI 15)) => ?_) (fun (hb9 : ¬ 15 ≤ (nI 15)) => ?_)
      · refine (show TT T (0, 0) q 31 [some (.ref 0), some (.long (hA q 15)), none, some (.int (nI 15))] [] from ?_) c hc hq
        exact e31
      · exact absurd (nI_le (Nat.le_refl 15) (by decide)) hb9
  refine tt_seg hT (fun pc => Nat.beq pc 6) 60 (fun c hc hq => ?_)
  refine (show TT T (0, 0) q 6 [some (.ref 0), some (.long 383), none, some (.int 0)] [] from ?_) c hc hq
  exact l6
set_option maxRecDepth 10000 in
theorem ct_L_look (l : Launch) : mjCTr l yL_look cL_look 4 (some .long) rm_L_look R_L_look :=
  mjCTr_of (own := RL) (G := G_L_look) (plainFor_of_name pn_L) rfl ok_L_look (fun meth hm => ⟨fun pc row h => (I_L_look_ok pc row h).1, (fun _ _ _ _ h => by cases h), List.forall_mem_cons.mpr ⟨⟨yX6_count, cX6_count, 2, (some .int), rm_X6_count, ct_X6_count l, ⟨rfl, rfl⟩, ⟨by decide, by decide⟩, by decide, by decide, nk_X6_count, ln_L_13, im_X6_count, se_X6_count, rfl⟩, List.forall_mem_cons.mpr ⟨⟨yX6_cell, cX6_cell, 3, (some .int), rm_X6_cell, ct_X6_cell l, ⟨rfl, rfl⟩, ⟨by decide, by decide⟩, by decide, by decide, nk_X6_cell, ln_L_19, im_X6_cell, se_X6_cell, rfl⟩, List.forall_mem_cons.mpr ⟨⟨yX6_joint, cX6_joint, 4, (some .int), rm_X6_joint, ct_X6_joint l, ⟨rfl, rfl⟩, ⟨by decide, by decide⟩, by decide, by decide, nk_X6_joint, ln_L_23, im_X6_joint, se_X6_joint, rfl⟩, fun _ h => absurd h List.not_mem_nil⟩⟩⟩, (fun _ _ _ h => by cases h), (mjcons_ok CN_L_ok), ⟨Nat.zero_le _, Nat.zero_le _⟩, (fun h => by cases h), (fun h => absurd h (by decide)), fun _ h => absurd h List.not_mem_nil⟩) rfl rfl rfl (fun pc row h => (I_L_look_ok pc row h).2)
/-- digits -/
theorem div_ti {x d : Int32} (hx : 0 ≤ x.toInt) (hd : 0 < d.toInt) : (x / d).toInt = x.toInt / d.toInt := by
  rw [Int32.toInt_div, Int.tdiv_eq_ediv_of_nonneg hx]
  have h1 := x.toInt_lt
  have h2 : 0 ≤ x.toInt / d.toInt := Int.ediv_nonneg hx (Int.le_of_lt hd)
  have h3 : x.toInt / d.toInt ≤ x.toInt := Int.ediv_le_self _ hx
  exact bm_id (by omega) (by omega)
def dgC (y : Int32) : Prop := 48 ≤ y.toInt ∧ y.toInt ≤ 57
theorem dg_add {x : Int32} (h : 0 ≤ x.toInt ∧ x.toInt ≤ 9) : dgC (48 + x) := by
  have e : (48 + x).toInt = 48 + x.toInt := by
    rw [ti_add] <;> rw [show (48 : Int32).toInt = 48 from rfl] <;> omega
  unfold dgC
  omega
theorem rem10 {x : Int32} (h : 0 ≤ x.toInt) : 0 ≤ (x - x / 10 * 10).toInt ∧ (x - x / 10 * 10).toInt ≤ 9 := by
  have h1 := x.toInt_lt
  have e10 : (10 : Int32).toInt = 10 := rfl
  have e1 : (x / 10).toInt = x.toInt / 10 := by rw [div_ti h (by decide), e10]
  have e2 : (x / 10 * 10).toInt = x.toInt / 10 * 10 := by
    rw [ti_mul (by rw [e1, e10]; omega) (by rw [e1, e10]; omega), e1, e10]
  rw [ti_sub (by rw [e2]; omega) (by rw [e2]; omega), e2]
  omega
theorem app_ok {q : QSt} {tx : List Int32} {y : Int32} (hl : tx.length < 60) (hy : gOut y 33 126 = 0) : wAppend (q.1, q.2.1, q.2.2.1, tx) y = ((q.1, q.2.1, q.2.2.1, tx ++ [y]), nI (tx.length + 1)) := by
  unfold wAppend
  rw [if_pos hy]
  exact if_pos hl
theorem out_dg {y : Int32} (h : dgC y) : gOut y 33 126 = 0 := by
  unfold gOut
  obtain ⟨h1, h2⟩ := h
  rw [if_neg (by rw [Int32.lt_iff_toInt_lt, show (33 : Int32).toInt = 33 from rfl]; omega), if_pos (by rw [Int32.le_iff_toInt_le, show (126 : Int32).toInt = 126 from rfl]; omega)]
theorem nI_le0 {n : Nat} (h : n < 2147483647) : ¬ nI (n + 1) ≤ 0 := by
  rw [Int32.le_iff_toInt_le, nI_toInt (by omega), show (0 : Int32).toInt = 0 from rfl]
  omega
def numE (x : Int32) : Nat := if x < 1000 then 0 else 1
def numP (q : QSt) (x : Int32) : Prop := (0 ≤ x.toInt ∧ x.toInt ≤ 9999) ∧ q.2.2.2.length + (3 + numE x) ≤ 60
def numQ (q : QSt) (x : Int32) (q' : QSt) (w : Value) : Prop := w = .int 1 ∧ ∃ (l : List Int32) (y : Int32), l.length ≤ 2 + numE x ∧ (∀ z ∈ l, dgC z) ∧ dgC y ∧ q' = (q.1, q.2.1, q.2.2.1, q.2.2.2 ++ (l ++ [y]))
def R_L_number : mjSr := lr1 numP numQ
def rm_L_number : Room := { frames := 2, cells := 0, slots := 0, locals := 43 }
noncomputable def G_L_number : mjG := (I_L_number, (fun _ => none), [(51, 0, 5, 2, 0, 0, S_X6_append)], (fun pc => [0, 1, 2, 3, 4, 5, 6, 7, 8, 9, 10, 11, 12, 13, 14, 15, 16, 17, 18, 19, 20, 21, 22, 23, 24, 25, 26, 27, 28, 29, 30, 31, 32, 33, 34, 35, 36, 37, 38, 39, 40, 41, 42, 43, 44, 45, 46]), Y0, (fun _ => none), (mjcons CN_L), (some .boolean), 0, 0, false, [])
set_option maxHeartbeats 20000000 in
set_option maxRecDepth 100000 in
theorem ok_L_number : mjOKr G_L_number 2 R_L_number := by
  intro M as hP T hT
  obtain ⟨c0, x, rfl, rfl, hc0, ⟨hx, hl⟩⟩ : ∃ c x, M = xw c ∧ as = [.ref 0, .int x] ∧ cOk c ∧ numP (qOf c) x := ⟨_, _, hP.1.1, hP.1.2, hP.2.1, hP.2.2⟩
  refine (?_ : TT T (0, 0) (qOf c0) 0 [some (.ref 0), some (.int x)] []) c0 hc0 rfl
  have e10 : (10 : Int32).toInt = 10 := rfl
  have e100 : (100 : Int32).toInt = 100 := rfl
  have e1000 : (1000 : Int32).toInt = 1000 := rfl
  generalize hq0 : qOf c0 = q at hl ⊢
  obtain ⟨p, sn, hi, tx⟩ := q
  have hl : tx.length + (3 + numE x) ≤ 60 := hl
  have he1 : numE x ≤ 1 := by
    unfold numE
    split <;> omega
  have he2 : ¬ x < 1000 → numE x = 1 := fun h => if_neg h
  have len : ∀ l y, ∀ k : Nat, l.length ≤ k → k ≤ 2 + numE x → (tx ++ l).length < 60 ∧ (tx ++ l) ++ [y] = tx ++ (l ++ [y]) ∧ (l ++ [y]).length ≤ k + 1 := by
    intro l y k h1 h2
    refine ⟨by rw [List.length_append]; omega, List.append_assoc _ _ _, by rw [List.length_append]; show l.length + 1 ≤ k + 1; omega⟩
  have all : ∀ (l : List Int32) (y : Int32), (∀ z ∈ l, dgC z) → dgC y → ∀ z ∈ l ++ [y], dgC z := by
    intro l y h1 h2 z hz
    rcases List.mem_append.mp hz with h | h
    · exact h1 z h
    · rw [List.mem_singleton.mp h]; exact h2
  have s68 : ∀ l : List Int32, l.length ≤ (2 + numE x) → (∀ z ∈ l, dgC z) → TT T (0, 0) (p, sn, hi, tx ++ l) 68 [some (.ref 0), some (.int x)] [] := by
    intro l hll hla
    refine tt_seg hT (fun pc => Nat.beq pc 76) 60 (fun c hc hq => ?_)
    refine (show TT T (0, 0) (p, sn, hi, tx ++ l) 76 [some (.ref 0), some (.int x)] [.int (48 + (x - x / 10 * 10)), .ref 0] from ?_) c hc hq
    refine tt_v1 (W := wAppend) aq_append hT rfl rfl rfl rfl rfl ?_
    rw [show wAppend (p, sn, hi, tx ++ l) (48 + (x - x / 10 * 10)) = ((p, sn, hi, tx ++ (l ++ [(48 + (x - x / 10 * 10))])), (nI ((tx ++ l).length + 1))) from by rw [← (len l (48 + (x - x / 10 * 10)) (2 + numE x) hll (by omega)).2.1]; exact app_ok (q := (p, sn, hi, tx)) (len l (48 + (x - x / 10 * 10)) (2 + numE x) hll (by omega)).1 (out_dg (dg_add (rem10 hx.1)))]
    show TT T (0, 0) (p, sn, hi, tx ++ (l ++ [(48 + (x - x / 10 * 10))])) 79 [some (.ref 0), some (.int x)] [.int (nI ((tx ++ l).length + 1))]
    refine tt_seg hT (fun pc => Nat.beq pc 86 || Nat.beq pc 82) 80 (fun c hc hq => ?_)
    refine And.intro (fun (hb79 : (nI ((tx ++ l).length + 1)) ≤ 0) => ?_) (fun (hb79 : ¬ (nI ((tx ++ l).length + 1)) ≤ 0) => ?_)
    · exact absurd hb79 (nI_le0 (by rw [List.length_append]; omega))
    · refine (show TT T (0, 0) (p, sn, hi, tx ++ (l ++ [(48 + (x - x / 10 * 10))])) 82 [some (.ref 0), some (.int x)] [] from ?_) c hc hq
      refine tt_seg hT (fun pc => Nat.beq pc 87) 60 (fun c hc hq => ?_)
      refine (show TT T (0, 0) (p, sn, hi, tx ++ (l ++ [(48 + (x - x / 10 * 10))])) 87 [some (.ref 0), some (.int x)] [.int 1] from ?_) c hc hq
      exact tt_ret hT rfl rfl (fun c hc hq => ⟨rfl, c, .int 1, rfl, hc, rfl, fun _ => rfl, by rw [hq]; exact ⟨rfl, l, (48 + (x - x / 10 * 10)), hll, hla, dg_add (rem10 hx.1), by rw [show qOf (rX (xw c0)) = (p, sn, hi, tx) from hq0]⟩⟩)
  have s45 : ∀ l : List Int32, l.length ≤ (1 + numE x) → (∀ z ∈ l, dgC z) → TT T (0, 0) (p, sn, hi, tx ++ l) 45 [some (.ref 0), some (.int x)] [] := by
    intro l hll hla
    refine tt_seg hT (fun pc => Nat.beq pc 68 || Nat.beq pc 51) 80 (fun c hc hq => ?_)
    refine And.intro (fun (hb48 : x < 10) => ?_) (fun (hb48 : ¬ x < 10) => ?_)
    · refine (show TT T (0, 0) (p, sn, hi, tx ++ l) 68 [some (.ref 0), some (.int x)] [] from ?_) c hc hq
      exact s68 l (by omega) hla
    · refine (show TT T (0, 0) (p, sn, hi, tx ++ l) 51 [some (.ref 0), some (.int x)] [] from ?_) c hc hq
      refine tt_seg hT (fun pc => Nat.beq pc 62) 60 (fun c hc hq => ?_)
      refine (show TT T (0, 0) (p, sn, hi, tx ++ l) 62 [some (.ref 0), some (.int x)] [.int (48 + ((x / 10) - (x / 10) / 10 * 10)), .ref 0] from ?_) c hc hq
      refine tt_v1 (W := wAppend) aq_append hT rfl rfl rfl rfl rfl ?_
      rw [show wAppend (p, sn, hi, tx ++ l) (48 + ((x / 10) - (x / 10) / 10 * 10)) = ((p, sn, hi, tx ++ (l ++ [(48 + (x / 10 - x / 10 / 10 * 10))])), (nI ((tx ++ l).length + 1))) from by rw [← (len l (48 + (x / 10 - x / 10 / 10 * 10)) (1 + numE x) hll (by omega)).2.1]; exact app_ok (q := (p, sn, hi, tx)) (len l (48 + (x / 10 - x / 10 / 10 * 10)) (1 + numE x) hll (by omega)).1 (out_dg (dg_add (rem10 (x := x / 10) (by rw [div_ti hx.1 (by decide), e10]; omega))))]
      show TT T (0, 0) (p, sn, hi, tx ++ (l ++ [(48 + (x / 10 - x / 10 / 10 * 10))])) 65 [some (.ref 0), some (.int x)] [.int (nI ((tx ++ l).length + 1))]
      refine tt_seg hT (fun pc => Nat.beq pc 86 || Nat.beq pc 68) 80 (fun c hc hq => ?_)
      refine And.intro (fun (hb65 : (nI ((tx ++ l).length + 1)) ≤ 0) => ?_) (fun (hb65 : ¬ (nI ((tx ++ l).length + 1)) ≤ 0) => ?_)
      · exact absurd hb65 (nI_le0 (by rw [List.length_append]; omega))
      · refine (show TT T (0, 0) (p, sn, hi, tx ++ (l ++ [(48 + (x / 10 - x / 10 / 10 * 10))])) 68 [some (.ref 0), some (.int x)] [] from ?_) c hc hq
        exact s68 (l ++ [(48 + (x / 10 - x / 10 / 10 * 10))]) (by have := (len l (48 + (x / 10 - x / 10 / 10 * 10)) (1 + numE x) hll (by omega)).2.2; first | omega | (rw [he2 hb4]; omega)) (all l _ hla (dg_add (rem10 (x := x / 10) (by rw [div_ti hx.1 (by decide), e10]; omega))))
  have s22 : ∀ l : List Int32, l.length ≤ (numE x) → (∀ z ∈ l, dgC z) → TT T (0, 0) (p, sn, hi, tx ++ l) 22 [some (.ref 0), some (.int x)] [] := by
    intro l hll hla
    refine tt_seg hT (fun pc => Nat.beq pc 45 || Nat.beq pc 28) 80 (fun c hc hq => ?_)
    refine And.intro (fun (hb25 : x < 100) => ?_) (fun (hb25 : ¬ x < 100) => ?_)
    · refine (show TT T (0, 0) (p, sn, hi, tx ++ l) 45 [some (.ref 0), some (.int x)] [] from ?_) c hc hq
      exact s45 l (by omega) hla
    · refine (show TT T (0, 0) (p, sn, hi, tx ++ l) 28 [some (.ref 0), some (.int x)] [] from ?_) c hc hq
      refine tt_seg hT (fun pc => Nat.beq pc 39) 60 (fun c hc hq => ?_)
      refine (show TT T (0, 0) (p, sn, hi, tx ++ l) 39 [some (.ref 0), some (.int x)] [.int (48 + ((x / 100) - (x / 100) / 10 * 10)), .ref 0] from ?_) c hc hq
      refine tt_v1 (W := wAppend) aq_append hT rfl rfl rfl rfl rfl ?_
      rw [show wAppend (p, sn, hi, tx ++ l) (48 + ((x / 100) - (x / 100) / 10 * 10)) = ((p, sn, hi, tx ++ (l ++ [(48 + (x / 100 - x / 100 / 10 * 10))])), (nI ((tx ++ l).length + 1))) from by rw [← (len l (48 + (x / 100 - x / 100 / 10 * 10)) (numE x) hll (by omega)).2.1]; exact app_ok (q := (p, sn, hi, tx)) (len l (48 + (x / 100 - x / 100 / 10 * 10)) (numE x) hll (by omega)).1 (out_dg (dg_add (rem10 (x := x / 100) (by rw [div_ti hx.1 (by decide), e100]; omega))))]
      show TT T (0, 0) (p, sn, hi, tx ++ (l ++ [(48 + (x / 100 - x / 100 / 10 * 10))])) 42 [some (.ref 0), some (.int x)] [.int (nI ((tx ++ l).length + 1))]
      refine tt_seg hT (fun pc => Nat.beq pc 86 || Nat.beq pc 45) 80 (fun c hc hq => ?_)
      refine And.intro (fun (hb42 : (nI ((tx ++ l).length + 1)) ≤ 0) => ?_) (fun (hb42 : ¬ (nI ((tx ++ l).length + 1)) ≤ 0) => ?_)
      · exact absurd hb42 (nI_le0 (by rw [List.length_append]; omega))
      · refine (show TT T (0, 0) (p, sn, hi, tx ++ (l ++ [(48 + (x / 100 - x / 100 / 10 * 10))])) 45 [some (.ref 0), some (.int x)] [] from ?_) c hc hq
        exact s45 (l ++ [(48 + (x / 100 - x / 100 / 10 * 10))]) (by have := (len l (48 + (x / 100 - x / 100 / 10 * 10)) (numE x) hll (by omega)).2.2; first | omega | (rw [he2 hb4]; omega)) (all l _ hla (dg_add (rem10 (x := x / 100) (by rw [div_ti hx.1 (by decide), e100]; omega))))
  have s0 : ∀ l : List Int32, l.length ≤ 0 → (∀ z ∈ l, dgC z) → TT T (0, 0) (p, sn, hi, tx ++ l) 0 [some (.ref 0), some (.int x)] [] := by
    intro l hll hla
    refine tt_seg hT (fun pc => Nat.beq pc 22 || Nat.beq pc 7) 80 (fun c hc hq => ?_)
    refine And.intro (fun (hb4 : x < 1000) => ?_) (fun (hb4 : ¬ x < 1000) => ?_)
    · refine (show TT T (0, 0) (p, sn, hi, tx ++ l) 22 [some (.ref 0), some (.int x)] [] from ?_) c hc hq
      exact s22 l (by omega) hla
    · refine (show TT T (0, 0) (p, sn, hi, tx ++ l) 7 [some (.ref 0), some (.int x)] [] from ?_) c hc hq
      refine tt_seg hT (fun pc => Nat.beq pc 16) 60 (fun c hc hq => ?_)
      refine (show TT T (0, 0) (p, sn, hi, tx ++ l) 16 [some (.ref 0), some (.int x)] [.int (48 + (x / 1000)), .ref 0] from ?_) c hc hq
      refine tt_v1 (W := wAppend) aq_append hT rfl rfl rfl rfl rfl ?_
      rw [show wAppend (p, sn, hi, tx ++ l) (48 + (x / 1000)) = ((p, sn, hi, tx ++ (l ++ [(48 + x / 1000)])), (nI ((tx ++ l).length + 1))) from by rw [← (len l (48 + x / 1000) 0 hll (by omega)).2.1]; exact app_ok (q := (p, sn, hi, tx)) (len l (48 + x / 1000) 0 hll (by omega)).1 (out_dg (dg_add (by rw [div_ti hx.1 (by decide), e1000]; omega)))]
      show TT T (0, 0) (p, sn, hi, tx ++ (l ++ [(48 + x / 1000)])) 19 [some (.ref 0), some (.int x)] [.int (nI ((tx ++ l).length + 1))]
      refine tt_seg hT (fun pc => Nat.beq pc 86 || Nat.beq pc 22) 80 (fun c hc hq => ?_)
      refine And.intro (fun (hb19 : (nI ((tx ++ l).length + 1)) ≤ 0) => ?_) (fun (hb19 : ¬ (nI ((tx ++ l).length + 1)) ≤ 0) => ?_)
      · exact absurd hb19 (nI_le0 (by rw [List.length_append]; omega))
      · refine (show TT T (0, 0) (p, sn, hi, tx ++ (l ++ [(48 + x / 1000)])) 22 [some (.ref 0), some (.int x)] [] from ?_) c hc hq
        exact s22 (l ++ [(48 + x / 1000)]) (by have := (len l (48 + x / 1000) 0 hll (by omega)).2.2; first | omega | (rw [he2 hb4]; omega)) (all l _ hla (dg_add (by rw [div_ti hx.1 (by decide), e1000]; omega)))
  have := s0 [] (Nat.le_refl 0) (fun z hz => absurd hz List.not_mem_nil)
  rw [List.append_nil] at this
  exact this
set_option maxRecDepth 10000 in
theorem ct_L_number (l : Launch) : mjCTr l yL_number cL_number 2 (some .boolean) rm_L_number R_L_number :=
  mjCTr_of (own := RL) (G := G_L_number) (plainFor_of_name pn_L) rfl ok_L_number (fun meth hm => ⟨fun pc row h => (I_L_number_ok pc row h).1, (fun _ _ _ _ h => by cases h), List.forall_mem_cons.mpr ⟨⟨yX6_append, cX6_append, 2, (some .int), rm_X6_append, ct_X6_append l, ⟨rfl, rfl⟩, ⟨by decide, by decide⟩, by decide, by decide, nk_X6_append, ln_L_51, im_X6_append, se_X6_append, rfl⟩, fun _ h => absurd h List.not_mem_nil⟩, (fun _ _ _ h => by cases h), (mjcons_ok CN_L_ok), ⟨Nat.zero_le _, Nat.zero_le _⟩, (fun h => by cases h), (fun h => absurd h (by decide)), fun _ h => absurd h List.not_mem_nil⟩) rfl rfl rfl (fun pc row h => (I_L_number_ok pc row h).2)
