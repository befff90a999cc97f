/-! the law, from a new object to the end -/
def rm_L_law : Room := { frames := 9, cells := 100, slots := 5000, locals := 221 }
noncomputable def G_L_law : mjG := (I_L_law, (fun _ => none), [(103, 2, 5, 1, 46, 1640, S_X6_init), (111, 0, 5, 1, 0, 0, S_X6_undo), (114, 0, 5, 1, 0, 0, S_X6_restore), (117, 0, 5, 1, 0, 0, S_X6_save), (120, 6, 0, 2, 0, 0, S_none), (13, 0, 5, 2, 0, 0, S_X6_count), (39, 1, 0, 2, 0, 0, S_L_low)], (fun pc => bif Nat.beq pc 226 then [] else bif Nat.beq pc 90 then [] else bif Nat.beq pc 78 then [] else bif Nat.beq pc 4 then [0] else [0, 1, 2, 3, 4, 5, 6, 7, 8, 9, 10, 11, 12, 13, 14, 15, 16, 17, 18, 19, 20, 21, 22, 23, 24, 25, 26, 27, 28, 29, 30, 31, 32, 33, 34, 35, 36, 37, 38, 39, 40, 41, 42, 43, 44, 45, 46]), Y0, (fun i => bif Nat.beq i 14 then some (5, nf_X6) else none), (mjcons CN_L), (some .boolean), 100, 5000, false, [(104, 1, R_L_holds), (108, 2, R_L_would), (62, 1, R_L_look), (124, 3, R_L_acts)])
set_option maxRecDepth 10000 in
theorem gok_L_law (l : Launch) (meth : Method) : mjG_ok l room_1 cL_law RL G_L_law meth 13 :=
  ⟨fun pc row h => (I_L_law_ok pc row h).1, (fun _ _ _ _ h => by cases h), List.forall_mem_cons.mpr ⟨⟨yX6_init, cX6_init, 1, rm_X6_init, ct_X6_init l, ⟨rfl, rfl⟩, ⟨by decide, by decide⟩, by decide, by decide, nk_X6_init, ln_L_103, im_X6_init, rfl⟩, List.forall_mem_cons.mpr ⟨⟨yX6_undo, cX6_undo, 1, (some .int), rm_X6_undo, ct_X6_undo l, ⟨rfl, rfl⟩, ⟨by decide, by decide⟩, by decide, by decide, nk_X6_undo, ln_L_111, im_X6_undo, se_X6_undo, rfl⟩, List.forall_mem_cons.mpr ⟨⟨yX6_restore, cX6_restore, 1, (some .int), rm_X6_restore, ct_X6_restore l, ⟨rfl, rfl⟩, ⟨by decide, by decide⟩, by decide, by decide, nk_X6_restore, ln_L_114, im_X6_restore, se_X6_restore, rfl⟩, List.forall_mem_cons.mpr ⟨⟨yX6_save, cX6_save, 1, (some .int), rm_X6_save, ct_X6_save l, ⟨rfl, rfl⟩, ⟨by decide, by decide⟩, by decide, by decide, nk_X6_save, ln_L_117, im_X6_save, se_X6_save, rfl⟩, List.forall_mem_cons.mpr ⟨⟨yL_lot, cL_lot, 2, (some .int), rm_L_lot, ct_L_lot l, ⟨rfl, rfl⟩, ⟨by decide, by decide⟩, by decide, nk_L_lot, ln_L_120, st_L_lot⟩, List.forall_mem_cons.mpr ⟨⟨yX6_count, cX6_count, 2, (some .int), rm_X6_count, ct_X6_count l, ⟨rfl, rfl⟩, ⟨by decide, by decide⟩, by decide, by decide, nk_X6_count, ln_L_13, im_X6_count, se_X6_count, rfl⟩, List.forall_mem_cons.mpr ⟨⟨yL_low, cL_low, 2, (some .int), rm_L_low, ct_L_low l, ⟨rfl, rfl⟩, ⟨by decide, by decide⟩, by decide, nk_L_low, ln_L_39, st_L_low⟩, fun _ h => absurd h List.not_mem_nil⟩⟩⟩⟩⟩⟩⟩, (fun _ _ _ h => mjnw h (nw_X6 cl_L_14) (fun h => by cases h)), (mjcons_ok CN_L_ok), ⟨show (100 : Nat) ≤ 600000 by decide, show (5000 : Nat) ≤ 7302250 by decide⟩, (fun h => by cases h), (fun _ => ⟨ac_int, ac_char, mjna_ok (q := fun _ => false) (n := 398) (by decide +kernel) (mjhi rfl) (fun _ h => by cases h)⟩), List.forall_mem_cons.mpr ⟨⟨yL_holds, cL_holds, 13, (some .boolean), rm_L_holds, ct_L_holds l, ⟨rfl, rfl⟩, ⟨by decide, by decide⟩, by decide, nk_L_holds, ln_L_104, st_L_holds⟩, List.forall_mem_cons.mpr ⟨⟨yL_would, cL_would, 12, (some .boolean), rm_L_would, ct_L_would l, ⟨rfl, rfl⟩, ⟨by decide, by decide⟩, by decide, nk_L_would, ln_L_108, st_L_would⟩, List.forall_mem_cons.mpr ⟨⟨yL_look, cL_look, 4, (some .long), rm_L_look, ct_L_look l, ⟨rfl, rfl⟩, ⟨by decide, by decide⟩, by decide, nk_L_look, ln_L_62, st_L_look⟩, List.forall_mem_cons.mpr ⟨⟨yL_acts, cL_acts, 12, (some .boolean), rm_L_acts, ct_L_acts l, ⟨rfl, rfl⟩, ⟨by decide, by decide⟩, by decide, nk_L_acts, ln_L_124, st_L_acts⟩, fun _ h => absurd h List.not_mem_nil⟩⟩⟩⟩⟩
theorem tt_lot {G : mjG} {n : Nat} {f : Nat → Int32} {R : mjM → Option Value → Nat × Nat → Prop} {T : Nat → mjL → List Value → mjM → Nat × Nat → Prop} {pc i : Nat} {v : Int32} {t : Nat} {L : mjL} {S0 : List Value} {q : QSt} {u : Nat × Nat} {k : Int32} {Sp : mjSp} (hT : mjC G (some (n, f)) R T) (hr : G.1 pc = some (.invokestatic i, 3, v, t)) (hf : mjfindr G.2.2.2.2.2.2.2.2.2.2.2 i = none) (hg : mjfind G.2.2.1 i = some (6, 0, 2, 0, 0, Sp)) (hk : ¬ k < 0) (hn : n < 2147483648) (hS0 : Nat.ble (mjcat S0) 8 = true)
    (h : ∀ x, TT T u q (pc + 3) L (.int x :: S0)) : TT T u q pc L (.int k :: .ref 4095 :: S0) := by
  intro c hc hq
  refine hT.1 (fun _ => true) 1 pc L _ (xw c) u ?_
  unfold mj
  rw [hr]
  simp only [mjs, hf, hg, mjo]
  refine ⟨⟨hk, hn⟩, ?_⟩
  exact mjb_i hS0 (h _ c hc hq)
theorem tt_nrm {T : Nat → mjL → List Value → mjM → Nat × Nat → Prop} {u : Nat × Nat} {q : QSt} {pc : Nat} {L : mjL} {S : List Value} (h : nrm q.1 = q.1 → (∀ p, q.2.1 = some p → nrm p = p) → q.2.2.2.length ≤ 60 → TT T u q pc L S) : TT T u q pc L S := by
  intro c hc hq
  refine h (by rw [← hq]; rfl) (fun p hp => ?_) (by rw [← hq]; exact text60 hc) c hc hq
  rw [← hq] at hp
  have hp : (if c.2.2.2.1 = 0 then none else some (nrm c.2.2.1)) = some p := hp
  by_cases hb : c.2.2.2.1 = 0
  · rw [if_pos hb] at hp
    cases hp
  · rw [if_neg hb] at hp
    cases hp
    rfl
noncomputable def hL0 (p : PSt) : Int64 := hLook (p, none, [], [])
theorem hL0_is (q : QSt) : hLook q = hL0 q.1 := hLook_c rfl
def LI (n : Nat) (q : QSt) (kept : Int64) : Prop := QI n q ∧ ∃ p, q.2.1 = some p ∧ kept = hL0 p
theorem LI_mono {n : Nat} {q : QSt} {kept : Int64} (h : LI n q kept) : LI (n + 1) q kept := ⟨QI_mono h.1, h.2⟩
/-! a new object -/
theorem P0_I : PI 0 kP0 := by
  rw [kP0, kseal_eq]
  refine ⟨⟨⟨fun k hk => (if_neg (by omega)), fun k hk => (if_neg (by omega)), fun k hk => (if_neg (by omega))⟩, gZ_z0, fun k hk => ?_, by decide, by decide, by decide, by decide, by decide⟩, by decide, fun j hj => ?_⟩
  · show 0 ≤ (fillA 36 z0 600 k).toInt ∧ (fillA 36 z0 600 k).toInt ≤ bK 0
    rw [show fillA 36 z0 600 k = 600 from if_pos hk]
    decide
  · show (1 ≤ (fillA 60 z0 100 j).toInt ∧ (fillA 60 z0 100 j).toInt ≤ 500) ∧ 0 ≤ (fillA 60 z0 0 j).toInt ∧ (fillA 60 z0 0 j).toInt ≤ (0 : Int32).toInt
    rw [show fillA 60 z0 100 j = 100 from if_pos hj, show fillA 60 z0 0 j = 0 from if_pos hj]
    decide
theorem hf0_inj : ∀ i, i < 4 → ∀ j, j < 4 → hf0 i = hf0 j → i = j := by decide
theorem c0_ok : cOk cInit := by
  have ht : tOk kP0 := MI_tOk P0_I
  refine ⟨ht, ht, ht, ⟨⟨hOk_up hf0_ok, show ¬ (0 : Int32) < 0 by decide, show (0 : Int32) ≤ 4 by decide⟩, ?_⟩, ⟨⟨0, by omega, rfl⟩, fun k _ => show ¬ (0 : Int32) < 0 by decide⟩⟩
  show hGood (zDn (zUp (0, hf0, kP0, kP0, kP0, kP0)))
  rw [dn_up]
  exact ⟨⟨hf0_ok, fun i j hi hj e => hf0_inj i hi j hj e, ht, ht, ht, ht⟩, 0, by omega, rfl⟩
theorem c0_hist : (qOf cInit).2.2.1 = [] := by
  show List.map (fun i => nrm (hAt (zDn cInit.2.2.2.2.1) i)) (List.range (nI 0).toNatClampNeg).reverse = []
  rw [nI_clamp (by omega)]
  rfl
theorem c0_I : QI 0 (qOf cInit) := by
  refine ⟨PI_nrm P0_I, fun p hp => (by cases hp), fun p hp => ?_, ?_⟩
  · rw [c0_hist] at hp
    cases hp
  · rw [c0_hist]
    decide
theorem c0_min : pMinutes (qOf cInit).1 = 0 := by
  show pMinutes kP0 = 0
  rw [kP0, kseal_eq]
  rfl
set_option maxHeartbeats 20000000 in
set_option maxRecDepth 100000 in
theorem law_start {n0 : Nat} {f : Nat → Int32} {T : Nat → mjL → List Value → mjM → Nat × Nat → Prop} (hT : mjC G_L_law (some (n0, f)) (fun _ r _ => r = some (.int 1)) T) (hn0 : n0 ≤ 260) : T 0 [some (.ref 4095), none, none, none, none, none, none, none, none, none, none, none, none] [] [] (0, 0) := by
  have e381 : ∀ q kept, LI 92 q kept → TT T (47, 1648) q 381 [some (.ref 4095), some (.ref 0), some (.int 1), some (.long kept), none, some (.int (nI 46)), none, none, none, none, none, none, none] [] := by
    intro q kept hL
    refine tt_seg hT (fun pc => Nat.beq pc 396 || Nat.beq pc 385) 80 (fun c hc hq => ?_)
    refine And.intro (fun (hb382 : 1 = 0) => ?_) (fun (hb382 : ¬ 1 = 0) => ?_)
    · exact absurd hb382 (by decide)
    · refine (show TT T (47, 1648) q 385 [some (.ref 4095), some (.ref 0), some (.int 1), some (.long kept), none, some (.int (nI 46)), none, none, none, none, none, none, none] [] from ?_) c hc hq
      refine tt_seg hT (fun pc => Nat.beq pc 386) 60 (fun c hc hq => ?_)
      refine (show TT T (47, 1648) q 386 [some (.ref 4095), some (.ref 0), some (.int 1), some (.long kept), none, some (.int (nI 46)), none, none, none, none, none, none, none] [.ref 0] from ?_) c hc hq
      refine tt_r0 (P := holdP) (Q := holdQ) hT rfl rfl rfl rfl rfl ⟨92, by decide, hL.1⟩ ?_
      intro q2 w2 h2
      rw [h2.1, h2.2]
      show TT T (47, 1648) q 389 [some (.ref 4095), some (.ref 0), some (.int 1), some (.long kept), none, some (.int (nI 46)), none, none, none, none, none, none, none] [.int 1]
      refine tt_seg hT (fun pc => Nat.beq pc 396 || Nat.beq pc 392) 80 (fun c hc hq => ?_)
      refine And.intro (fun (hb389 : 1 = 0) => ?_) (fun (hb389 : ¬ 1 = 0) => ?_)
      · exact absurd hb389 (by decide)
      · refine (show TT T (47, 1648) q 392 [some (.ref 4095), some (.ref 0), some (.int 1), some (.long kept), none, some (.int (nI 46)), none, none, none, none, none, none, none] [] from ?_) c hc hq
        refine tt_seg hT (fun pc => Nat.beq pc 397) 60 (fun c hc hq => ?_)
        refine (show TT T (47, 1648) q 397 [some (.ref 4095), some (.ref 0), some (.int 1), some (.long kept), none, some (.int (nI 46)), none, none, none, none, none, none, none] [.int 1] from ?_) c hc hq
        exact tt_ret hT rfl rfl (fun c hc hq => rfl)
  have l62 : ∀ m n : Nat, n + m = 46 → ∀ q kept, LI (2 * n) q kept → TT T (47, 1648) q 62 [some (.ref 4095), some (.ref 0), some (.int 1), some (.long kept), none, some (.int (nI n)), none, none, none, none, none, none, none] [] := by
    intro m
    induction m with
    | zero =>
      intro n hn q kept hL
      obtain rfl : n = 46 := by omega
      refine tt_seg hT (fun pc => Nat.beq pc 381 || Nat.beq pc 69) 80 (fun c hc hq => ?_)
      refine And.intro (fun (hb66 : 46 ≤ (nI 46)) => ?_) (fun (hb66 : ¬ 46 ≤ (nI 46)) => ?_)
      · refine (show TT T (47, 1648) q 381 [some (.ref 4095), some (.ref 0), some (.int 1), some (.long kept), none, some (.int (nI 46)), none, none, none, none, none, none, none] [] from ?_) c hc hq
        exact e381 q kept hL
      · exact absurd (nI_le (Nat.le_refl 46) (by decide)) hb66
    | succ m ih =>
      intro n hn q kept hL
      have s375 : ∀ q kept, LI (2 * n + 1) q kept → TT T (47, 1648) q 375 [some (.ref 4095), some (.ref 0), some (.int 1), some (.long kept), none, some (.int (nI n)), none, none, none, none, none, none, none] [] := by
        intro q kept hL
        refine tt_seg hT (fun pc => Nat.beq pc 62) 60 (fun c hc hq => ?_)
        refine (show TT T (47, 1648) q 62 [some (.ref 4095), some (.ref 0), some (.int 1), some (.long kept), none, some (.int ((nI n) + 1)), none, none, none, none, none, none, none] [] from ?_) c hc hq
        exact (nI_succ n).symm ▸ ih (n + 1) (by omega) q kept (LI_mono hL)
      have s340 : ∀ q kept, LI (2 * n + 1) q kept → TT T (47, 1648) q 340 [some (.ref 4095), some (.ref 0), some (.int 1), some (.long kept), none, some (.int (nI n)), none, none, none, none, none, none, none] [] := by
        intro q kept hL
        rcases hh : q.2.2.1 with _ | ⟨p, l⟩
        · refine tt_seg hT (fun pc => Nat.beq pc 343) 60 (fun c hc hq => ?_)
          refine (show TT T (47, 1648) q 343 [some (.ref 4095), some (.ref 0), some (.int 1), some (.long kept), none, some (.int (nI n)), none, none, none, none, none, none, none] [.int 16, .ref 0] from ?_) c hc hq
          refine tt_k1 (w := vCount) (r := (nI 0)) lq_count (vN16.trans (by rw [hh]; rfl)) hT rfl rfl rfl rfl rfl ?_
          show TT T (47, 1648) q 346 [some (.ref 4095), some (.ref 0), some (.int 1), some (.long kept), none, some (.int (nI n)), none, none, none, none, none, none, none] [.int (nI 0)]
          refine tt_seg hT (fun pc => Nat.beq pc 349) 60 (fun c hc hq => ?_)
          refine (show TT T (47, 1648) q 349 [some (.ref 4095), some (.ref 0), some (.int 1), some (.long kept), none, some (.int (nI n)), none, none, none, none, none, none, some (.int (nI 0))] [.ref 0] from ?_) c hc hq
          refine tt_e0 (W := wUndo) (q' := q) (r := (-2)) aq_undo (by unfold wUndo; rw [hh]) hT rfl rfl rfl rfl rfl ?_
          show TT T (47, 1648) q 352 [some (.ref 4095), some (.ref 0), some (.int 1), some (.long kept), none, some (.int (nI n)), none, none, none, none, none, none, some (.int (nI 0))] [.int (-2)]
          refine tt_seg hT (fun pc => Nat.beq pc 362 || Nat.beq pc 357) 80 (fun c hc hq => ?_)
          refine And.intro (fun (hb354 : ¬ (nI 0) = 0) => ?_) (fun (hb354 : (nI 0) = 0) => ?_)
          · exact absurd (rfl) hb354
          · refine (show TT T (47, 1648) q 357 [some (.ref 4095), some (.ref 0), some (.int 1), some (.long kept), none, some (.int (nI n)), none, none, none, none, none, none, some (.int (nI 0))] [.int (-2)] from ?_) c hc hq
            refine tt_seg hT (fun pc => Nat.beq pc 373 || Nat.beq pc 369) 80 (fun c hc hq => ?_)
            refine And.intro (fun (hb366 : ¬ (-2) = (-2)) => ?_) (fun (hb366 : (-2) = (-2)) => ?_)
            · exact absurd (by decide) hb366
            · refine (show TT T (47, 1648) q 369 [some (.ref 4095), some (.ref 0), some (.int 1), some (.long kept), none, some (.int (nI n)), none, none, none, none, none, none, some (.int (nI 0))] [] from ?_) c hc hq
              refine tt_seg hT (fun pc => Nat.beq pc 375) 60 (fun c hc hq => ?_)
              refine (show TT T (47, 1648) q 375 [some (.ref 4095), some (.ref 0), some (.int 1), some (.long kept), none, some (.int (nI n)), none, none, none, none, none, none, some (.int (nI 0))] [] from ?_) c hc hq
              exact tt_mask hT [true, true, true, true, true, true, false, false, false, false, false, false, false] (s375 q kept hL)
        · have h4 : l.length + 1 ≤ 4 := by have := hL.1.2.2.2; rw [hh] at this; exact this
          have hl : LI (2 * n + 1) (p, q.2.1, l, q.2.2.2) kept := by
            refine ⟨⟨hL.1.2.2.1 p (by rw [hh]; exact List.mem_cons_self), hL.1.2.1, fun p2 h2 => hL.1.2.2.1 p2 (by rw [hh]; exact List.mem_cons_of_mem _ h2), ?_⟩, hL.2⟩
            show l.length ≤ 4
            omega
          refine tt_seg hT (fun pc => Nat.beq pc 343) 60 (fun c hc hq => ?_)
          refine (show TT T (47, 1648) q 343 [some (.ref 4095), some (.ref 0), some (.int 1), some (.long kept), none, some (.int (nI n)), none, none, none, none, none, none, none] [.int 16, .ref 0] from ?_) c hc hq
          refine tt_k1 (w := vCount) (r := (nI (l.length + 1))) lq_count (vN16.trans (by rw [hh]; rfl)) hT rfl rfl rfl rfl rfl ?_
          show TT T (47, 1648) q 346 [some (.ref 4095), some (.ref 0), some (.int 1), some (.long kept), none, some (.int (nI n)), none, none, none, none, none, none, none] [.int (nI (l.length + 1))]
          refine tt_seg hT (fun pc => Nat.beq pc 349) 60 (fun c hc hq => ?_)
          refine (show TT T (47, 1648) q 349 [some (.ref 4095), some (.ref 0), some (.int 1), some (.long kept), none, some (.int (nI n)), none, none, none, none, none, none, some (.int (nI (l.length + 1)))] [.ref 0] from ?_) c hc hq
          refine tt_e0 (W := wUndo) (q' := (p, q.2.1, l, q.2.2.2)) (r := (nI l.length)) aq_undo (by unfold wUndo; rw [hh]) hT rfl rfl rfl rfl rfl ?_
          show TT T (47, 1648) (p, q.2.1, l, q.2.2.2) 352 [some (.ref 4095), some (.ref 0), some (.int 1), some (.long kept), none, some (.int (nI n)), none, none, none, none, none, none, some (.int (nI (l.length + 1)))] [.int (nI l.length)]
          refine tt_seg hT (fun pc => Nat.beq pc 362 || Nat.beq pc 357) 80 (fun c hc hq => ?_)
          refine And.intro (fun (hb354 : ¬ (nI (l.length + 1)) = 0) => ?_) (fun (hb354 : (nI (l.length + 1)) = 0) => ?_)
          · refine (show TT T (47, 1648) (p, q.2.1, l, q.2.2.2) 362 [some (.ref 4095), some (.ref 0), some (.int 1), some (.long kept), none, some (.int (nI n)), none, none, none, none, none, none, some (.int (nI (l.length + 1)))] [.int (nI l.length)] from ?_) c hc hq
            refine tt_seg hT (fun pc => Nat.beq pc 373 || Nat.beq pc 369) 80 (fun c hc hq => ?_)
            refine And.intro (fun (hb366 : ¬ (nI l.length) = ((nI (l.length + 1)) - 1)) => ?_) (fun (hb366 : (nI l.length) = ((nI (l.length + 1)) - 1)) => ?_)
            · exact absurd ((nI_pred1 _).symm) hb366
            · refine (show TT T (47, 1648) (p, q.2.1, l, q.2.2.2) 369 [some (.ref 4095), some (.ref 0), some (.int 1), some (.long kept), none, some (.int (nI n)), none, none, none, none, none, none, some (.int (nI (l.length + 1)))] [] from ?_) c hc hq
              refine tt_seg hT (fun pc => Nat.beq pc 375) 60 (fun c hc hq => ?_)
              refine (show TT T (47, 1648) (p, q.2.1, l, q.2.2.2) 375 [some (.ref 4095), some (.ref 0), some (.int 1), some (.long kept), none, some (.int (nI n)), none, none, none, none, none, none, some (.int (nI (l.length + 1)))] [] from ?_) c hc hq
              exact tt_mask hT [true, true, true, true, true, true, false, false, false, false, false, false, false] (s375 _ kept hl)
          · exact absurd hb354 (nI_ne00 (by omega) (by omega))
      have s326 : ∀ q kept, LI (2 * n + 1) q kept → TT T (47, 1648) q 326 [some (.ref 4095), some (.ref 0), some (.int 1), some (.long kept), none, some (.int (nI n)), none, none, none, none, none, none, none] [] := by
        intro q kept hL
        refine tt_seg hT (fun pc => Nat.beq pc 375 || Nat.beq pc 330) 80 (fun c hc hq => ?_)
        refine And.intro (fun (hb327 : 1 = 0) => ?_) (fun (hb327 : ¬ 1 = 0) => ?_)
        · exact absurd hb327 (by decide)
        · refine (show TT T (47, 1648) q 330 [some (.ref 4095), some (.ref 0), some (.int 1), some (.long kept), none, some (.int (nI n)), none, none, none, none, none, none, none] [] from ?_) c hc hq
          refine tt_seg hT (fun pc => Nat.beq pc 375 || Nat.beq pc 340) 80 (fun c hc hq => ?_)
          refine And.intro (fun (hb337 : ¬ ((nI n) - (nI n) / 11 * 11) = 10) => ?_) (fun (hb337 : ((nI n) - (nI n) / 11 * 11) = 10) => ?_)
          · refine (show TT T (47, 1648) q 375 [some (.ref 4095), some (.ref 0), some (.int 1), some (.long kept), none, some (.int (nI n)), none, none, none, none, none, none, none] [] from ?_) c hc hq
            exact s375 q kept hL
          · refine (show TT T (47, 1648) q 340 [some (.ref 4095), some (.ref 0), some (.int 1), some (.long kept), none, some (.int (nI n)), none, none, none, none, none, none, none] [] from ?_) c hc hq
            exact s340 q kept hL
      have s271 : ∀ q p, QI (2 * n + 1) q → q.2.1 = some p → TT T (47, 1648) q 271 [some (.ref 4095), some (.ref 0), some (.int 1), some (.long (hL0 p)), none, some (.int (nI n)), none, none, none, none, none, none, none] [] := by
        intro q p hI hp
        refine tt_nrm (fun hn1 hn2 _ => ?_)
        have hnp : nrm p = p := hn2 p hp
        have hlt : (q.2.2.1.take 3).length ≤ 4 := by rw [List.length_take]; omega
        refine tt_seg hT (fun pc => Nat.beq pc 272) 60 (fun c hc hq => ?_)
        refine (show TT T (47, 1648) q 272 [some (.ref 4095), some (.ref 0), some (.int 1), some (.long (hL0 p)), none, some (.int (nI n)), none, none, none, none, none, none, none] [.ref 0] from ?_) c hc hq
        refine tt_e0 (W := wRestore) (q' := (qNow q p)) (r := (pMinutes p)) aq_restore (by unfold wRestore; rw [hp]) hT rfl rfl rfl rfl rfl ?_
        show TT T (47, 1648) (qNow q p) 275 [some (.ref 4095), some (.ref 0), some (.int 1), some (.long (hL0 p)), none, some (.int (nI n)), none, none, none, none, none, none, none] [.int (pMinutes p)]
        refine tt_seg hT (fun pc => Nat.beq pc 281) 60 (fun c hc hq => ?_)
        refine (show TT T (47, 1648) (qNow q p) 281 [some (.ref 4095), some (.ref 0), some (.int 1), some (.long (hL0 p)), none, some (.int (nI n)), none, none, none, none, none, none, some (.int (pMinutes p))] [.int 3, .ref 0, .int (pMinutes p)] from ?_) c hc hq
        refine tt_k1 (w := vCount) (r := (pMinutes p)) lq_count (by rw [vN3]; rfl) hT rfl rfl rfl rfl rfl ?_
        show TT T (47, 1648) (qNow q p) 284 [some (.ref 4095), some (.ref 0), some (.int 1), some (.long (hL0 p)), none, some (.int (nI n)), none, none, none, none, none, none, some (.int (pMinutes p))] [.int (pMinutes p), .int (pMinutes p)]
        refine tt_seg hT (fun pc => Nat.beq pc 319 || Nat.beq pc 287) 80 (fun c hc hq => ?_)
        refine And.intro (fun (hb284 : ¬ (pMinutes p) = (pMinutes p)) => ?_) (fun (hb284 : (pMinutes p) = (pMinutes p)) => ?_)
        · exact absurd (rfl) hb284
        · refine (show TT T (47, 1648) (qNow q p) 287 [some (.ref 4095), some (.ref 0), some (.int 1), some (.long (hL0 p)), none, some (.int (nI n)), none, none, none, none, none, none, some (.int (pMinutes p))] [] from ?_) c hc hq
          refine tt_seg hT (fun pc => Nat.beq pc 288) 60 (fun c hc hq => ?_)
          refine (show TT T (47, 1648) (qNow q p) 288 [some (.ref 4095), some (.ref 0), some (.int 1), some (.long (hL0 p)), none, some (.int (nI n)), none, none, none, none, none, none, some (.int (pMinutes p))] [.ref 0] from ?_) c hc hq
          refine tt_r0 (P := fun _ => True) (Q := fun q q' w => q' = q ∧ w = .long (hLook q)) hT rfl rfl rfl rfl rfl trivial ?_
          intro q2 w2 h2
          rw [h2.1, h2.2]
          rw [show hLook (qNow q p) = (hL0 p) from (hL0_is _).trans (congrArg hL0 hnp)]
          show TT T (47, 1648) (qNow q p) 291 [some (.ref 4095), some (.ref 0), some (.int 1), some (.long (hL0 p)), none, some (.int (nI n)), none, none, none, none, none, none, some (.int (pMinutes p))] [.long (hL0 p)]
          refine tt_seg hT (fun pc => Nat.beq pc 319 || Nat.beq pc 296) 80 (fun c hc hq => ?_)
          refine And.intro (fun (hb293 : ¬ (lg_cmp (hL0 p) (hL0 p)) = 0) => ?_) (fun (hb293 : (lg_cmp (hL0 p) (hL0 p)) = 0) => ?_)
          · exact absurd (lcmp_refl _) hb293
          · refine (show TT T (47, 1648) (qNow q p) 296 [some (.ref 4095), some (.ref 0), some (.int 1), some (.long (hL0 p)), none, some (.int (nI n)), none, none, none, none, none, none, some (.int (pMinutes p))] [] from ?_) c hc hq
            refine tt_seg hT (fun pc => Nat.beq pc 297) 60 (fun c hc hq => ?_)
            refine (show TT T (47, 1648) (qNow q p) 297 [some (.ref 4095), some (.ref 0), some (.int 1), some (.long (hL0 p)), none, some (.int (nI n)), none, none, none, none, none, none, some (.int (pMinutes p))] [.ref 0] from ?_) c hc hq
            refine tt_e0 (W := wUndo) (q' := (q.1, q.2.1, q.2.2.1.take 3, q.2.2.2)) (r := (nI (q.2.2.1.take 3).length)) aq_undo (rfl) hT rfl rfl rfl rfl rfl ?_
            show TT T (47, 1648) (q.1, q.2.1, q.2.2.1.take 3, q.2.2.2) 300 [some (.ref 4095), some (.ref 0), some (.int 1), some (.long (hL0 p)), none, some (.int (nI n)), none, none, none, none, none, none, some (.int (pMinutes p))] [.int (nI (q.2.2.1.take 3).length)]
            refine tt_seg hT (fun pc => Nat.beq pc 319 || Nat.beq pc 303) 80 (fun c hc hq => ?_)
            refine And.intro (fun (hb300 : (nI (q.2.2.1.take 3).length) < 0) => ?_) (fun (hb300 : ¬ (nI (q.2.2.1.take 3).length) < 0) => ?_)
            · exact absurd hb300 (nI_pos (by omega))
            · refine (show TT T (47, 1648) (q.1, q.2.1, q.2.2.1.take 3, q.2.2.2) 303 [some (.ref 4095), some (.ref 0), some (.int 1), some (.long (hL0 p)), none, some (.int (nI n)), none, none, none, none, none, none, some (.int (pMinutes p))] [] from ?_) c hc hq
              refine tt_seg hT (fun pc => Nat.beq pc 304) 60 (fun c hc hq => ?_)
              refine (show TT T (47, 1648) (q.1, q.2.1, q.2.2.1.take 3, q.2.2.2) 304 [some (.ref 4095), some (.ref 0), some (.int 1), some (.long (hL0 p)), none, some (.int (nI n)), none, none, none, none, none, none, some (.int (pMinutes p))] [.ref 0] from ?_) c hc hq
              refine tt_e0 (W := wSave) (q' := (q.1, some q.1, q.2.2.1.take 3, q.2.2.2)) (r := (pMinutes q.1)) aq_save (rfl) hT rfl rfl rfl rfl rfl ?_
              show TT T (47, 1648) (q.1, some q.1, q.2.2.1.take 3, q.2.2.2) 307 [some (.ref 4095), some (.ref 0), some (.int 1), some (.long (hL0 p)), none, some (.int (nI n)), none, none, none, none, none, none, some (.int (pMinutes p))] [.int (pMinutes q.1)]
              refine tt_seg hT (fun pc => Nat.beq pc 309) 60 (fun c hc hq => ?_)
              refine (show TT T (47, 1648) (q.1, some q.1, q.2.2.1.take 3, q.2.2.2) 309 [some (.ref 4095), some (.ref 0), some (.int 1), some (.long (hL0 p)), none, some (.int (nI n)), none, none, none, none, none, none, some (.int (pMinutes p))] [.int 3, .ref 0, .int (pMinutes q.1)] from ?_) c hc hq
              refine tt_k1 (w := vCount) (r := (pMinutes q.1)) lq_count (vN3) hT rfl rfl rfl rfl rfl ?_
              show TT T (47, 1648) (q.1, some q.1, q.2.2.1.take 3, q.2.2.2) 312 [some (.ref 4095), some (.ref 0), some (.int 1), some (.long (hL0 p)), none, some (.int (nI n)), none, none, none, none, none, none, some (.int (pMinutes p))] [.int (pMinutes q.1), .int (pMinutes q.1)]
              refine tt_seg hT (fun pc => Nat.beq pc 319 || Nat.beq pc 315) 80 (fun c hc hq => ?_)
              refine And.intro (fun (hb312 : ¬ (pMinutes q.1) = (pMinutes q.1)) => ?_) (fun (hb312 : (pMinutes q.1) = (pMinutes q.1)) => ?_)
              · exact absurd (rfl) hb312
              · refine (show TT T (47, 1648) (q.1, some q.1, q.2.2.1.take 3, q.2.2.2) 315 [some (.ref 4095), some (.ref 0), some (.int 1), some (.long (hL0 p)), none, some (.int (nI n)), none, none, none, none, none, none, some (.int (pMinutes p))] [] from ?_) c hc hq
                refine tt_seg hT (fun pc => Nat.beq pc 322) 60 (fun c hc hq => ?_)
                refine (show TT T (47, 1648) (q.1, some q.1, q.2.2.1.take 3, q.2.2.2) 322 [some (.ref 4095), some (.ref 0), some (.int 1), some (.long (hL0 p)), none, some (.int (nI n)), none, none, none, none, none, none, some (.int (pMinutes p))] [.ref 0] from ?_) c hc hq
                refine tt_r0 (P := fun _ => True) (Q := fun q q' w => q' = q ∧ w = .long (hLook q)) hT rfl rfl rfl rfl rfl trivial ?_
                intro q2 w2 h2
                rw [h2.1, h2.2]
                rw [show hLook (q.1, some q.1, q.2.2.1.take 3, q.2.2.2) = (hL0 q.1) from hL0_is _]
                show TT T (47, 1648) (q.1, some q.1, q.2.2.1.take 3, q.2.2.2) 325 [some (.ref 4095), some (.ref 0), some (.int 1), some (.long (hL0 p)), none, some (.int (nI n)), none, none, none, none, none, none, some (.int (pMinutes p))] [.long (hL0 q.1)]
                refine tt_seg hT (fun pc => Nat.beq pc 326) 60 (fun c hc hq => ?_)
                refine (show TT T (47, 1648) (q.1, some q.1, q.2.2.1.take 3, q.2.2.2) 326 [some (.ref 4095), some (.ref 0), some (.int 1), some (.long (hL0 q.1)), none, some (.int (nI n)), none, none, none, none, none, none, some (.int (pMinutes p))] [] from ?_) c hc hq
                exact tt_mask hT [true, true, true, true, true, true, false, false, false, false, false, false, false] (s326 _ _ ⟨⟨hI.1, fun p2 h2 => (by cases h2; exact hI.1), fun p2 h2 => hI.2.2.1 p2 (List.mem_of_mem_take h2), hlt⟩, q.1, rfl, rfl⟩)
      have s257 : ∀ q kept, LI (2 * n + 1) q kept → TT T (47, 1648) q 257 [some (.ref 4095), some (.ref 0), some (.int 1), some (.long kept), none, some (.int (nI n)), none, none, none, none, none, none, none] [] := by
        intro q kept hL
        refine tt_seg hT (fun pc => Nat.beq pc 326 || Nat.beq pc 261) 80 (fun c hc hq => ?_)
        refine And.intro (fun (hb258 : 1 = 0) => ?_) (fun (hb258 : ¬ 1 = 0) => ?_)
        · exact absurd hb258 (by decide)
        · refine (show TT T (47, 1648) q 261 [some (.ref 4095), some (.ref 0), some (.int 1), some (.long kept), none, some (.int (nI n)), none, none, none, none, none, none, none] [] from ?_) c hc hq
          refine tt_seg hT (fun pc => Nat.beq pc 326 || Nat.beq pc 271) 80 (fun c hc hq => ?_)
          refine And.intro (fun (hb268 : ¬ ((nI n) - (nI n) / 15 * 15) = 14) => ?_) (fun (hb268 : ((nI n) - (nI n) / 15 * 15) = 14) => ?_)
          · refine (show TT T (47, 1648) q 326 [some (.ref 4095), some (.ref 0), some (.int 1), some (.long kept), none, some (.int (nI n)), none, none, none, none, none, none, none] [] from ?_) c hc hq
            exact s326 q kept hL
          · refine (show TT T (47, 1648) q 271 [some (.ref 4095), some (.ref 0), some (.int 1), some (.long kept), none, some (.int (nI n)), none, none, none, none, none, none, none] [] from ?_) c hc hq
            obtain ⟨hI, p, hp, rfl⟩ := hL; exact s271 q p hI hp
      obtain ⟨hI, p, hp, hkept⟩ := hL
      have hI1 : QI (2 * n + 1) q := QI_mono hI
      have hlen4 : q.2.2.1.length ≤ 4 := hI.2.2.2
      have s157 : ∀ x y q', stepQ q q' → TT T (47, 1648) q' 157 [some (.ref 4095), some (.ref 0), some (.int 1), some (.long kept), none, some (.int (nI n)), some (.int x), some (.int y), some (.long (hLook q)), none, some (.int (nI q.2.2.1.length)), none, none] [] := by
        intro x y q' hst
        obtain ⟨g1, g2, g3⟩ := hst
        have hI' : QI (2 * n + 1) q' := g3 (2 * n) (by omega) hI
        have hLq : LI (2 * n + 1) q' kept := ⟨hI', p, g1.trans hp, hkept⟩
        rcases g2 with ⟨e1, e2⟩ | e2
        · have s201 : TT T (47, 1648) q' 201 [some (.ref 4095), some (.ref 0), some (.int 1), some (.long kept), none, some (.int (nI n)), some (.int x), some (.int y), some (.long (hLook q)), none, some (.int (nI q.2.2.1.length)), some (.int (nI q.2.2.1.length)), none] [] := by
            refine tt_seg hT (fun pc => Nat.beq pc 257 || Nat.beq pc 211) 80 (fun c hc hq => ?_)
            refine And.intro (fun (hb208 : 1 = 0) => ?_) (fun (hb208 : ¬ 1 = 0) => ?_)
            · exact absurd hb208 (by decide)
            · refine (show TT T (47, 1648) q' 211 [some (.ref 4095), some (.ref 0), some (.int 1), some (.long kept), none, some (.int (nI n)), some (.int x), some (.int y), some (.long (hLook q)), none, some (.int (nI q.2.2.1.length)), some (.int (nI q.2.2.1.length)), none] [] from ?_) c hc hq
              refine tt_seg hT (fun pc => Nat.beq pc 257 || Nat.beq pc 220) 80 (fun c hc hq => ?_)
              refine And.intro (fun (hb217 : ¬ (nI q.2.2.1.length) = ((nI q.2.2.1.length) + 1)) => ?_) (fun (hb217 : (nI q.2.2.1.length) = ((nI q.2.2.1.length) + 1)) => ?_)
              · refine (show TT T (47, 1648) q' 257 [some (.ref 4095), some (.ref 0), some (.int 1), some (.long kept), none, some (.int (nI n)), some (.int x), some (.int y), some (.long (hLook q)), none, some (.int (nI q.2.2.1.length)), some (.int (nI q.2.2.1.length)), none] [] from ?_) c hc hq
                exact tt_mask hT [true, true, true, true, true, true, false, false, false, false, false, false, false] (s257 q' kept hLq)
              · exact absurd hb217 ((fun e => absurd ((nI_eq (by omega) (by omega)).mp (e.trans (nI_succ _).symm)) (by omega)))
          refine tt_seg hT (fun pc => Nat.beq pc 160) 60 (fun c hc hq => ?_)
          refine (show TT T (47, 1648) q' 160 [some (.ref 4095), some (.ref 0), some (.int 1), some (.long kept), none, some (.int (nI n)), some (.int x), some (.int y), some (.long (hLook q)), none, some (.int (nI q.2.2.1.length)), none, none] [.int 16, .ref 0] from ?_) c hc hq
          refine tt_k1 (w := vCount) (r := (nI q.2.2.1.length)) lq_count (by rw [vN16, e2]) hT rfl rfl rfl rfl rfl ?_
          show TT T (47, 1648) q' 163 [some (.ref 4095), some (.ref 0), some (.int 1), some (.long kept), none, some (.int (nI n)), some (.int x), some (.int y), some (.long (hLook q)), none, some (.int (nI q.2.2.1.length)), none, none] [.int (nI q.2.2.1.length)]
          refine tt_seg hT (fun pc => Nat.beq pc 205 || Nat.beq pc 169) 80 (fun c hc hq => ?_)
          refine And.intro (fun (hb166 : 1 = 0) => ?_) (fun (hb166 : ¬ 1 = 0) => ?_)
          · exact absurd hb166 (by decide)
          · refine (show TT T (47, 1648) q' 169 [some (.ref 4095), some (.ref 0), some (.int 1), some (.long kept), none, some (.int (nI n)), some (.int x), some (.int y), some (.long (hLook q)), none, some (.int (nI q.2.2.1.length)), some (.int (nI q.2.2.1.length)), none] [] from ?_) c hc hq
            refine tt_seg hT (fun pc => Nat.beq pc 192 || Nat.beq pc 176) 80 (fun c hc hq => ?_)
            refine And.intro (fun (hb173 : ¬ (nI q.2.2.1.length) = (nI q.2.2.1.length)) => ?_) (fun (hb173 : (nI q.2.2.1.length) = (nI q.2.2.1.length)) => ?_)
            · exact absurd (rfl) hb173
            · refine (show TT T (47, 1648) q' 176 [some (.ref 4095), some (.ref 0), some (.int 1), some (.long kept), none, some (.int (nI n)), some (.int x), some (.int y), some (.long (hLook q)), none, some (.int (nI q.2.2.1.length)), some (.int (nI q.2.2.1.length)), none] [] from ?_) c hc hq
              refine tt_seg hT (fun pc => Nat.beq pc 201 || Nat.beq pc 182) 80 (fun c hc hq => ?_)
              refine And.intro (fun (hb179 : (nI q.2.2.1.length) = 4) => ?_) (fun (hb179 : ¬ (nI q.2.2.1.length) = 4) => ?_)
              · refine (show TT T (47, 1648) q' 201 [some (.ref 4095), some (.ref 0), some (.int 1), some (.long kept), none, some (.int (nI n)), some (.int x), some (.int y), some (.long (hLook q)), none, some (.int (nI q.2.2.1.length)), some (.int (nI q.2.2.1.length)), none] [] from ?_) c hc hq
                exact s201
              · refine (show TT T (47, 1648) q' 182 [some (.ref 4095), some (.ref 0), some (.int 1), some (.long kept), none, some (.int (nI n)), some (.int x), some (.int y), some (.long (hLook q)), none, some (.int (nI q.2.2.1.length)), some (.int (nI q.2.2.1.length)), none] [] from ?_) c hc hq
                refine tt_seg hT (fun pc => Nat.beq pc 183) 60 (fun c hc hq => ?_)
                refine (show TT T (47, 1648) q' 183 [some (.ref 4095), some (.ref 0), some (.int 1), some (.long kept), none, some (.int (nI n)), some (.int x), some (.int y), some (.long (hLook q)), none, some (.int (nI q.2.2.1.length)), some (.int (nI q.2.2.1.length)), none] [.ref 0] from ?_) c hc hq
                refine tt_r0 (P := fun _ => True) (Q := fun q q' w => q' = q ∧ w = .long (hLook q)) hT rfl rfl rfl rfl rfl trivial ?_
                intro q2 w2 h2
                rw [h2.1, h2.2]
                rw [show hLook q' = (hLook q) from hLook_c e1]
                show TT T (47, 1648) q' 186 [some (.ref 4095), some (.ref 0), some (.int 1), some (.long kept), none, some (.int (nI n)), some (.int x), some (.int y), some (.long (hLook q)), none, some (.int (nI q.2.2.1.length)), some (.int (nI q.2.2.1.length)), none] [.long (hLook q)]
                refine tt_seg hT (fun pc => Nat.beq pc 201 || Nat.beq pc 192) 80 (fun c hc hq => ?_)
                refine And.intro (fun (hb189 : (lg_cmp (hLook q) (hLook q)) = 0) => ?_) (fun (hb189 : ¬ (lg_cmp (hLook q) (hLook q)) = 0) => ?_)
                · refine (show TT T (47, 1648) q' 201 [some (.ref 4095), some (.ref 0), some (.int 1), some (.long kept), none, some (.int (nI n)), some (.int x), some (.int y), some (.long (hLook q)), none, some (.int (nI q.2.2.1.length)), some (.int (nI q.2.2.1.length)), none] [] from ?_) c hc hq
                  exact s201
                · exact absurd (lcmp_refl _) hb189
        · by_cases h4 : q.2.2.1.length < 4
          · refine tt_seg hT (fun pc => Nat.beq pc 160) 60 (fun c hc hq => ?_)
            refine (show TT T (47, 1648) q' 160 [some (.ref 4095), some (.ref 0), some (.int 1), some (.long kept), none, some (.int (nI n)), some (.int x), some (.int y), some (.long (hLook q)), none, some (.int (nI q.2.2.1.length)), none, none] [.int 16, .ref 0] from ?_) c hc hq
            refine tt_k1 (w := vCount) (r := (nI (q.2.2.1.length + 1))) lq_count (by rw [vN16, e2, push_len q hlen4, if_pos h4]) hT rfl rfl rfl rfl rfl ?_
            show TT T (47, 1648) q' 163 [some (.ref 4095), some (.ref 0), some (.int 1), some (.long kept), none, some (.int (nI n)), some (.int x), some (.int y), some (.long (hLook q)), none, some (.int (nI q.2.2.1.length)), none, none] [.int (nI (q.2.2.1.length + 1))]
            refine tt_seg hT (fun pc => Nat.beq pc 205 || Nat.beq pc 169) 80 (fun c hc hq => ?_)
            refine And.intro (fun (hb166 : 1 = 0) => ?_) (fun (hb166 : ¬ 1 = 0) => ?_)
            · exact absurd hb166 (by decide)
            · refine (show TT T (47, 1648) q' 169 [some (.ref 4095), some (.ref 0), some (.int 1), some (.long kept), none, some (.int (nI n)), some (.int x), some (.int y), some (.long (hLook q)), none, some (.int (nI q.2.2.1.length)), some (.int (nI (q.2.2.1.length + 1))), none] [] from ?_) c hc hq
              refine tt_seg hT (fun pc => Nat.beq pc 192 || Nat.beq pc 176) 80 (fun c hc hq => ?_)
              refine And.intro (fun (hb173 : ¬ (nI (q.2.2.1.length + 1)) = (nI q.2.2.1.length)) => ?_) (fun (hb173 : (nI (q.2.2.1.length + 1)) = (nI q.2.2.1.length)) => ?_)
              · refine (show TT T (47, 1648) q' 192 [some (.ref 4095), some (.ref 0), some (.int 1), some (.long kept), none, some (.int (nI n)), some (.int x), some (.int y), some (.long (hLook q)), none, some (.int (nI q.2.2.1.length)), some (.int (nI (q.2.2.1.length + 1))), none] [] from ?_) c hc hq
                refine tt_seg hT (fun pc => Nat.beq pc 205 || Nat.beq pc 201) 80 (fun c hc hq => ?_)
                refine And.intro (fun (hb198 : ¬ (nI (q.2.2.1.length + 1)) = ((nI q.2.2.1.length) + 1)) => ?_) (fun (hb198 : (nI (q.2.2.1.length + 1)) = ((nI q.2.2.1.length) + 1)) => ?_)
                · exact absurd (nI_succ _) hb198
                · refine (show TT T (47, 1648) q' 201 [some (.ref 4095), some (.ref 0), some (.int 1), some (.long kept), none, some (.int (nI n)), some (.int x), some (.int y), some (.long (hLook q)), none, some (.int (nI q.2.2.1.length)), some (.int (nI (q.2.2.1.length + 1))), none] [] from ?_) c hc hq
                  refine tt_seg hT (fun pc => Nat.beq pc 257 || Nat.beq pc 211) 80 (fun c hc hq => ?_)
                  refine And.intro (fun (hb208 : 1 = 0) => ?_) (fun (hb208 : ¬ 1 = 0) => ?_)
                  · exact absurd hb208 (by decide)
                  · refine (show TT T (47, 1648) q' 211 [some (.ref 4095), some (.ref 0), some (.int 1), some (.long kept), none, some (.int (nI n)), some (.int x), some (.int y), some (.long (hLook q)), none, some (.int (nI q.2.2.1.length)), some (.int (nI (q.2.2.1.length + 1))), none] [] from ?_) c hc hq
                    refine tt_seg hT (fun pc => Nat.beq pc 257 || Nat.beq pc 220) 80 (fun c hc hq => ?_)
                    refine And.intro (fun (hb217 : ¬ (nI (q.2.2.1.length + 1)) = ((nI q.2.2.1.length) + 1)) => ?_) (fun (hb217 : (nI (q.2.2.1.length + 1)) = ((nI q.2.2.1.length) + 1)) => ?_)
                    · exact absurd (nI_succ _) hb217
                    · refine (show TT T (47, 1648) q' 220 [some (.ref 4095), some (.ref 0), some (.int 1), some (.long kept), none, some (.int (nI n)), some (.int x), some (.int y), some (.long (hLook q)), none, some (.int (nI q.2.2.1.length)), some (.int (nI (q.2.2.1.length + 1))), none] [] from ?_) c hc hq
                      refine tt_seg hT (fun pc => Nat.beq pc 257 || Nat.beq pc 232) 80 (fun c hc hq => ?_)
                      refine And.intro ⟨⟨rfl, rfl⟩, (show ¬ ((3 : Int32) = 0) by decide)⟩ ?_
                      refine And.intro (fun (hb229 : ¬ (lowV (y >>> (8 &&& 31)) 3) = 0) => ?_) (fun (hb229 : (lowV (y >>> (8 &&& 31)) 3) = 0) => ?_)
                      · refine (show TT T (47, 1648) q' 257 [some (.ref 4095), some (.ref 0), some (.int 1), some (.long kept), none, some (.int (nI n)), some (.int x), some (.int y), some (.long (hLook q)), none, some (.int (nI q.2.2.1.length)), some (.int (nI (q.2.2.1.length + 1))), none] [] from ?_) c hc hq
                        exact tt_mask hT [true, true, true, true, true, true, false, false, false, false, false, false, false] (s257 q' kept hLq)
                      · refine (show TT T (47, 1648) q' 232 [some (.ref 4095), some (.ref 0), some (.int 1), some (.long kept), none, some (.int (nI n)), some (.int x), some (.int y), some (.long (hLook q)), none, some (.int (nI q.2.2.1.length)), some (.int (nI (q.2.2.1.length + 1))), none] [] from ?_) c hc hq
                        refine tt_seg hT (fun pc => Nat.beq pc 233) 60 (fun c hc hq => ?_)
                        refine (show TT T (47, 1648) q' 233 [some (.ref 4095), some (.ref 0), some (.int 1), some (.long kept), none, some (.int (nI n)), some (.int x), some (.int y), some (.long (hLook q)), none, some (.int (nI q.2.2.1.length)), some (.int (nI (q.2.2.1.length + 1))), none] [.ref 0] from ?_) c hc hq
                        refine tt_e0 (W := wUndo) (q' := (q.1, q'.2.1, q.2.2.1, q'.2.2.2)) (r := (nI q.2.2.1.length)) aq_undo (by unfold wUndo; rw [e2, show qPush q = q.1 :: q.2.2.1 from List.take_of_length_le (by rw [List.length_cons]; omega)]) hT rfl rfl rfl rfl rfl ?_
                        show TT T (47, 1648) (q.1, q'.2.1, q.2.2.1, q'.2.2.2) 236 [some (.ref 4095), some (.ref 0), some (.int 1), some (.long kept), none, some (.int (nI n)), some (.int x), some (.int y), some (.long (hLook q)), none, some (.int (nI q.2.2.1.length)), some (.int (nI (q.2.2.1.length + 1))), none] [.int (nI q.2.2.1.length)]
                        refine tt_seg hT (fun pc => Nat.beq pc 255 || Nat.beq pc 241) 80 (fun c hc hq => ?_)
                        refine And.intro (fun (hb238 : ¬ (nI q.2.2.1.length) = (nI q.2.2.1.length)) => ?_) (fun (hb238 : (nI q.2.2.1.length) = (nI q.2.2.1.length)) => ?_)
                        · exact absurd (rfl) hb238
                        · refine (show TT T (47, 1648) (q.1, q'.2.1, q.2.2.1, q'.2.2.2) 241 [some (.ref 4095), some (.ref 0), some (.int 1), some (.long kept), none, some (.int (nI n)), some (.int x), some (.int y), some (.long (hLook q)), none, some (.int (nI q.2.2.1.length)), some (.int (nI (q.2.2.1.length + 1))), none] [] from ?_) c hc hq
                          refine tt_seg hT (fun pc => Nat.beq pc 242) 60 (fun c hc hq => ?_)
                          refine (show TT T (47, 1648) (q.1, q'.2.1, q.2.2.1, q'.2.2.2) 242 [some (.ref 4095), some (.ref 0), some (.int 1), some (.long kept), none, some (.int (nI n)), some (.int x), some (.int y), some (.long (hLook q)), none, some (.int (nI q.2.2.1.length)), some (.int (nI (q.2.2.1.length + 1))), none] [.ref 0] from ?_) c hc hq
                          refine tt_r0 (P := fun _ => True) (Q := fun q q' w => q' = q ∧ w = .long (hLook q)) hT rfl rfl rfl rfl rfl trivial ?_
                          intro q2 w2 h2
                          rw [h2.1, h2.2]
                          rw [show hLook (q.1, q'.2.1, q.2.2.1, q'.2.2.2) = (hLook q) from hLook_c rfl]
                          show TT T (47, 1648) (q.1, q'.2.1, q.2.2.1, q'.2.2.2) 245 [some (.ref 4095), some (.ref 0), some (.int 1), some (.long kept), none, some (.int (nI n)), some (.int x), some (.int y), some (.long (hLook q)), none, some (.int (nI q.2.2.1.length)), some (.int (nI (q.2.2.1.length + 1))), none] [.long (hLook q)]
                          refine tt_seg hT (fun pc => Nat.beq pc 255 || Nat.beq pc 251) 80 (fun c hc hq => ?_)
                          refine And.intro (fun (hb248 : ¬ (lg_cmp (hLook q) (hLook q)) = 0) => ?_) (fun (hb248 : (lg_cmp (hLook q) (hLook q)) = 0) => ?_)
                          · exact absurd (lcmp_refl _) hb248
                          · refine (show TT T (47, 1648) (q.1, q'.2.1, q.2.2.1, q'.2.2.2) 251 [some (.ref 4095), some (.ref 0), some (.int 1), some (.long kept), none, some (.int (nI n)), some (.int x), some (.int y), some (.long (hLook q)), none, some (.int (nI q.2.2.1.length)), some (.int (nI (q.2.2.1.length + 1))), none] [] from ?_) c hc hq
                            refine tt_seg hT (fun pc => Nat.beq pc 257) 60 (fun c hc hq => ?_)
                            refine (show TT T (47, 1648) (q.1, q'.2.1, q.2.2.1, q'.2.2.2) 257 [some (.ref 4095), some (.ref 0), some (.int 1), some (.long kept), none, some (.int (nI n)), some (.int x), some (.int y), some (.long (hLook q)), none, some (.int (nI q.2.2.1.length)), some (.int (nI (q.2.2.1.length + 1))), none] [] from ?_) c hc hq
                            exact tt_mask hT [true, true, true, true, true, true, false, false, false, false, false, false, false] (s257 (q.1, q'.2.1, q.2.2.1, q'.2.2.2) kept ⟨⟨hI1.1, hI'.2.1, hI1.2.2.1, hI1.2.2.2⟩, p, g1.trans hp, hkept⟩)
              · exact absurd hb173 ((fun e => absurd ((nI_eq (by omega) (by omega)).mp e) (by omega)))
          · have hl : q.2.2.1.length = 4 := by omega
            refine tt_seg hT (fun pc => Nat.beq pc 160) 60 (fun c hc hq => ?_)
            refine (show TT T (47, 1648) q' 160 [some (.ref 4095), some (.ref 0), some (.int 1), some (.long kept), none, some (.int (nI n)), some (.int x), some (.int y), some (.long (hLook q)), none, some (.int (nI q.2.2.1.length)), none, none] [.int 16, .ref 0] from ?_) c hc hq
            refine tt_k1 (w := vCount) (r := (nI 4)) lq_count (by rw [vN16, e2, push_len q hlen4, if_neg h4]) hT rfl rfl rfl rfl rfl ?_
            show TT T (47, 1648) q' 163 [some (.ref 4095), some (.ref 0), some (.int 1), some (.long kept), none, some (.int (nI n)), some (.int x), some (.int y), some (.long (hLook q)), none, some (.int (nI q.2.2.1.length)), none, none] [.int (nI 4)]
            refine tt_seg hT (fun pc => Nat.beq pc 205 || Nat.beq pc 169) 80 (fun c hc hq => ?_)
            refine And.intro (fun (hb166 : 1 = 0) => ?_) (fun (hb166 : ¬ 1 = 0) => ?_)
            · exact absurd hb166 (by decide)
            · refine (show TT T (47, 1648) q' 169 [some (.ref 4095), some (.ref 0), some (.int 1), some (.long kept), none, some (.int (nI n)), some (.int x), some (.int y), some (.long (hLook q)), none, some (.int (nI q.2.2.1.length)), some (.int (nI 4)), none] [] from ?_) c hc hq
              refine tt_seg hT (fun pc => Nat.beq pc 192 || Nat.beq pc 176) 80 (fun c hc hq => ?_)
              refine And.intro (fun (hb173 : ¬ (nI 4) = (nI q.2.2.1.length)) => ?_) (fun (hb173 : (nI 4) = (nI q.2.2.1.length)) => ?_)
              · exact absurd (by rw [hl]) hb173
              · refine (show TT T (47, 1648) q' 176 [some (.ref 4095), some (.ref 0), some (.int 1), some (.long kept), none, some (.int (nI n)), some (.int x), some (.int y), some (.long (hLook q)), none, some (.int (nI q.2.2.1.length)), some (.int (nI 4)), none] [] from ?_) c hc hq
                refine tt_seg hT (fun pc => Nat.beq pc 201 || Nat.beq pc 182) 80 (fun c hc hq => ?_)
                refine And.intro (fun (hb179 : (nI q.2.2.1.length) = 4) => ?_) (fun (hb179 : ¬ (nI q.2.2.1.length) = 4) => ?_)
                · refine (show TT T (47, 1648) q' 201 [some (.ref 4095), some (.ref 0), some (.int 1), some (.long kept), none, some (.int (nI n)), some (.int x), some (.int y), some (.long (hLook q)), none, some (.int (nI q.2.2.1.length)), some (.int (nI 4)), none] [] from ?_) c hc hq
                  refine tt_seg hT (fun pc => Nat.beq pc 257 || Nat.beq pc 211) 80 (fun c hc hq => ?_)
                  refine And.intro (fun (hb208 : 1 = 0) => ?_) (fun (hb208 : ¬ 1 = 0) => ?_)
                  · exact absurd hb208 (by decide)
                  · refine (show TT T (47, 1648) q' 211 [some (.ref 4095), some (.ref 0), some (.int 1), some (.long kept), none, some (.int (nI n)), some (.int x), some (.int y), some (.long (hLook q)), none, some (.int (nI q.2.2.1.length)), some (.int (nI 4)), none] [] from ?_) c hc hq
                    refine tt_seg hT (fun pc => Nat.beq pc 257 || Nat.beq pc 220) 80 (fun c hc hq => ?_)
                    refine And.intro (fun (hb217 : ¬ (nI 4) = ((nI q.2.2.1.length) + 1)) => ?_) (fun (hb217 : (nI 4) = ((nI q.2.2.1.length) + 1)) => ?_)
                    · refine (show TT T (47, 1648) q' 257 [some (.ref 4095), some (.ref 0), some (.int 1), some (.long kept), none, some (.int (nI n)), some (.int x), some (.int y), some (.long (hLook q)), none, some (.int (nI q.2.2.1.length)), some (.int (nI 4)), none] [] from ?_) c hc hq
                      exact tt_mask hT [true, true, true, true, true, true, false, false, false, false, false, false, false] (s257 q' kept hLq)
                    · exact absurd hb217 ((by rw [hl]; decide))
                · exact absurd (by rw [hl]; rfl) hb179
      have s134 : ∀ x y q', stepQ q q' → TT T (47, 1648) q' 134 [some (.ref 4095), some (.ref 0), some (.int 1), some (.long kept), none, some (.int (nI n)), some (.int x), some (.int y), some (.long (hLook q)), none, some (.int (nI q.2.2.1.length)), none, none] [] := by
        intro x y q' hst
        have hI' : QI (2 * n + 1) q' := hst.2.2 (2 * n) (by omega) hI
        refine tt_seg hT (fun pc => Nat.beq pc 151 || Nat.beq pc 142) 80 (fun c hc hq => ?_)
        refine And.intro (fun (hb139 : ¬ ((nI n) - (nI n) / 5 * 5) = 2) => ?_) (fun (hb139 : ((nI n) - (nI n) / 5 * 5) = 2) => ?_)
        · refine (show TT T (47, 1648) q' 151 [some (.ref 4095), some (.ref 0), some (.int 1), some (.long kept), none, some (.int (nI n)), some (.int x), some (.int y), some (.long (hLook q)), none, some (.int (nI q.2.2.1.length)), none, none] [] from ?_) c hc hq
          refine tt_seg hT (fun pc => Nat.beq pc 157) 60 (fun c hc hq => ?_)
          refine (show TT T (47, 1648) q' 157 [some (.ref 4095), some (.ref 0), some (.int 1), some (.long kept), none, some (.int (nI n)), some (.int x), some (.int y), some (.long (hLook q)), none, some (.int (nI q.2.2.1.length)), none, none] [] from ?_) c hc hq
          exact s157 x y q' hst
        · refine (show TT T (47, 1648) q' 142 [some (.ref 4095), some (.ref 0), some (.int 1), some (.long kept), none, some (.int (nI n)), some (.int x), some (.int y), some (.long (hLook q)), none, some (.int (nI q.2.2.1.length)), none, none] [] from ?_) c hc hq
          refine tt_seg hT (fun pc => Nat.beq pc 145) 60 (fun c hc hq => ?_)
          refine (show TT T (47, 1648) q' 145 [some (.ref 4095), some (.ref 0), some (.int 1), some (.long kept), none, some (.int (nI n)), some (.int x), some (.int y), some (.long (hLook q)), none, some (.int (nI q.2.2.1.length)), none, none] [.int y, .ref 0] from ?_) c hc hq
          refine tt_r1 (P := wouldP) (Q := sameQ) hT rfl rfl rfl rfl rfl ⟨2 * n + 1, by omega, hI'⟩ ?_
          intro q2 w2 h2
          rw [h2.1, h2.2]
          show TT T (47, 1648) q' 148 [some (.ref 4095), some (.ref 0), some (.int 1), some (.long kept), none, some (.int (nI n)), some (.int x), some (.int y), some (.long (hLook q)), none, some (.int (nI q.2.2.1.length)), none, none] [.int 1]
          refine tt_seg hT (fun pc => Nat.beq pc 155 || Nat.beq pc 151) 80 (fun c hc hq => ?_)
          refine And.intro (fun (hb148 : 1 = 0) => ?_) (fun (hb148 : ¬ 1 = 0) => ?_)
          · exact absurd hb148 (by decide)
          · refine (show TT T (47, 1648) q' 151 [some (.ref 4095), some (.ref 0), some (.int 1), some (.long kept), none, some (.int (nI n)), some (.int x), some (.int y), some (.long (hLook q)), none, some (.int (nI q.2.2.1.length)), none, none] [] from ?_) c hc hq
            refine tt_seg hT (fun pc => Nat.beq pc 157) 60 (fun c hc hq => ?_)
            refine (show TT T (47, 1648) q' 157 [some (.ref 4095), some (.ref 0), some (.int 1), some (.long kept), none, some (.int (nI n)), some (.int x), some (.int y), some (.long (hLook q)), none, some (.int (nI q.2.2.1.length)), none, none] [] from ?_) c hc hq
            exact s157 x y q' hst
      have s117 : ∀ x y q', stepQ q q' → TT T (47, 1648) q' 117 [some (.ref 4095), some (.ref 0), some (.int 1), some (.long kept), none, some (.int (nI n)), some (.int x), some (.int y), some (.long (hLook q)), none, some (.int (nI q.2.2.1.length)), none, none] [.int 1] := by
        intro x y q' hst
        have hI' : QI (2 * n + 1) q' := hst.2.2 (2 * n) (by omega) hI
        refine tt_seg hT (fun pc => Nat.beq pc 155 || Nat.beq pc 120) 80 (fun c hc hq => ?_)
        refine And.intro (fun (hb117 : 1 = 0) => ?_) (fun (hb117 : ¬ 1 = 0) => ?_)
        · exact absurd hb117 (by decide)
        · refine (show TT T (47, 1648) q' 120 [some (.ref 4095), some (.ref 0), some (.int 1), some (.long kept), none, some (.int (nI n)), some (.int x), some (.int y), some (.long (hLook q)), none, some (.int (nI q.2.2.1.length)), none, none] [] from ?_) c hc hq
          refine tt_seg hT (fun pc => Nat.beq pc 134 || Nat.beq pc 127) 80 (fun c hc hq => ?_)
          refine And.intro (fun (hb124 : 0 < ((nI n) - (nI n) / 3 * 3)) => ?_) (fun (hb124 : ¬ 0 < ((nI n) - (nI n) / 3 * 3)) => ?_)
          · refine (show TT T (47, 1648) q' 134 [some (.ref 4095), some (.ref 0), some (.int 1), some (.long kept), none, some (.int (nI n)), some (.int x), some (.int y), some (.long (hLook q)), none, some (.int (nI q.2.2.1.length)), none, none] [] from ?_) c hc hq
            exact s134 x y q' hst
          · refine (show TT T (47, 1648) q' 127 [some (.ref 4095), some (.ref 0), some (.int 1), some (.long kept), none, some (.int (nI n)), some (.int x), some (.int y), some (.long (hLook q)), none, some (.int (nI q.2.2.1.length)), none, none] [] from ?_) c hc hq
            refine tt_seg hT (fun pc => Nat.beq pc 128) 60 (fun c hc hq => ?_)
            refine (show TT T (47, 1648) q' 128 [some (.ref 4095), some (.ref 0), some (.int 1), some (.long kept), none, some (.int (nI n)), some (.int x), some (.int y), some (.long (hLook q)), none, some (.int (nI q.2.2.1.length)), none, none] [.ref 0] from ?_) c hc hq
            refine tt_r0 (P := holdP) (Q := holdQ) hT rfl rfl rfl rfl rfl ⟨2 * n + 1, by omega, hI'⟩ ?_
            intro q2 w2 h2
            rw [h2.1, h2.2]
            show TT T (47, 1648) q' 131 [some (.ref 4095), some (.ref 0), some (.int 1), some (.long kept), none, some (.int (nI n)), some (.int x), some (.int y), some (.long (hLook q)), none, some (.int (nI q.2.2.1.length)), none, none] [.int 1]
            refine tt_seg hT (fun pc => Nat.beq pc 155 || Nat.beq pc 134) 80 (fun c hc hq => ?_)
            refine And.intro (fun (hb131 : 1 = 0) => ?_) (fun (hb131 : ¬ 1 = 0) => ?_)
            · exact absurd hb131 (by decide)
            · refine (show TT T (47, 1648) q' 134 [some (.ref 4095), some (.ref 0), some (.int 1), some (.long kept), none, some (.int (nI n)), some (.int x), some (.int y), some (.long (hLook q)), none, some (.int (nI q.2.2.1.length)), none, none] [] from ?_) c hc hq
              exact s134 x y q' hst
      refine tt_nrm (fun _ _ hlen => ?_)
      have k2 : ((2 : Int32) * nI n).toInt = 2 * (n : Int) := by
        rw [ti_mul] <;> rw [nI_toInt (by omega), show (2 : Int32).toInt = 2 from rfl] <;> omega
      have k3 : ((2 : Int32) * nI n + 1).toInt = 2 * (n : Int) + 1 := by
        rw [ti_add] <;> rw [k2, show (1 : Int32).toInt = 1 from rfl] <;> omega
      refine tt_seg hT (fun pc => Nat.beq pc 381 || Nat.beq pc 69) 80 (fun c hc hq => ?_)
      refine And.intro (fun (hb66 : 46 ≤ (nI n)) => ?_) (fun (hb66 : ¬ 46 ≤ (nI n)) => ?_)
      · exact absurd hb66 (nI_ge (show n < 46 by omega) (by decide))
      · refine (show TT T (47, 1648) q 69 [some (.ref 4095), some (.ref 0), some (.int 1), some (.long kept), none, some (.int (nI n)), none, none, none, none, none, none, none] [] from ?_) c hc hq
        refine tt_seg hT (fun pc => Nat.beq pc 381 || Nat.beq pc 73) 80 (fun c hc hq => ?_)
        refine And.intro (fun (hb70 : 1 = 0) => ?_) (fun (hb70 : ¬ 1 = 0) => ?_)
        · exact absurd hb70 (by decide)
        · refine (show TT T (47, 1648) q 73 [some (.ref 4095), some (.ref 0), some (.int 1), some (.long kept), none, some (.int (nI n)), none, none, none, none, none, none, none] [] from ?_) c hc hq
          refine tt_seg hT (fun pc => Nat.beq pc 78) 60 (fun c hc hq => ?_)
          refine (show TT T (47, 1648) q 78 [some (.ref 4095), some (.ref 0), some (.int 1), some (.long kept), none, some (.int (nI n)), none, none, none, none, none, none, none] [.int (2 * (nI n)), .ref 4095] from ?_) c hc hq
          refine tt_lot hT rfl rfl rfl (by rw [Int32.lt_iff_toInt_lt, k2, show (0 : Int32).toInt = 0 from rfl]; omega) (by omega) rfl (fun x => ?_)
          show TT T (47, 1648) q 81 [some (.ref 4095), some (.ref 0), some (.int 1), some (.long kept), none, some (.int (nI n)), none, none, none, none, none, none, none] [.int x]
          refine tt_seg hT (fun pc => Nat.beq pc 90) 60 (fun c hc hq => ?_)
          refine (show TT T (47, 1648) q 90 [some (.ref 4095), some (.ref 0), some (.int 1), some (.long kept), none, some (.int (nI n)), some (.int x), none, none, none, none, none, none] [.int ((2 * (nI n)) + 1), .ref 4095] from ?_) c hc hq
          refine tt_lot hT rfl rfl rfl (by rw [Int32.lt_iff_toInt_lt, k3, show (0 : Int32).toInt = 0 from rfl]; omega) (by omega) rfl (fun y => ?_)
          show TT T (47, 1648) q 93 [some (.ref 4095), some (.ref 0), some (.int 1), some (.long kept), none, some (.int (nI n)), some (.int x), none, none, none, none, none, none] [.int y]
          refine tt_seg hT (fun pc => Nat.beq pc 96) 60 (fun c hc hq => ?_)
          refine (show TT T (47, 1648) q 96 [some (.ref 4095), some (.ref 0), some (.int 1), some (.long kept), none, some (.int (nI n)), some (.int x), some (.int y), none, none, none, none, none] [.ref 0] from ?_) c hc hq
          refine tt_r0 (P := fun _ => True) (Q := fun q q' w => q' = q ∧ w = .long (hLook q)) hT rfl rfl rfl rfl rfl trivial ?_
          intro q2 w2 h2
          rw [h2.1, h2.2]
          show TT T (47, 1648) q 99 [some (.ref 4095), some (.ref 0), some (.int 1), some (.long kept), none, some (.int (nI n)), some (.int x), some (.int y), none, none, none, none, none] [.long (hLook q)]
          refine tt_seg hT (fun pc => Nat.beq pc 104) 60 (fun c hc hq => ?_)
          refine (show TT T (47, 1648) q 104 [some (.ref 4095), some (.ref 0), some (.int 1), some (.long kept), none, some (.int (nI n)), some (.int x), some (.int y), some (.long (hLook q)), none, none, none, none] [.int 16, .ref 0] from ?_) c hc hq
          refine tt_k1 (w := vCount) (r := (nI q.2.2.1.length)) lq_count (vN16) hT rfl rfl rfl rfl rfl ?_
          show TT T (47, 1648) q 107 [some (.ref 4095), some (.ref 0), some (.int 1), some (.long kept), none, some (.int (nI n)), some (.int x), some (.int y), some (.long (hLook q)), none, none, none, none] [.int (nI q.2.2.1.length)]
          refine tt_seg hT (fun pc => Nat.beq pc 114) 60 (fun c hc hq => ?_)
          refine (show TT T (47, 1648) q 114 [some (.ref 4095), some (.ref 0), some (.int 1), some (.long kept), none, some (.int (nI n)), some (.int x), some (.int y), some (.long (hLook q)), none, some (.int (nI q.2.2.1.length)), none, none] [.int y, .int x, .ref 0] from ?_) c hc hq
          refine tt_r2 (P := actsP) (Q := actsQ) hT rfl rfl rfl rfl rfl ⟨⟨2 * n, by omega, hI⟩, hlen⟩ ?_
          rintro q' w2 ⟨rfl, hst⟩
          show TT T (47, 1648) q' 117 [some (.ref 4095), some (.ref 0), some (.int 1), some (.long kept), none, some (.int (nI n)), some (.int x), some (.int y), some (.long (hLook q)), none, some (.int (nI q.2.2.1.length)), none, none] [.int 1]
          exact s117 x y q' hst
  have l7 : ∀ q, QI 0 q → q.2.2.1 = [] → q.2.1 = none → pMinutes q.1 = 0 → TT T (47, 1648) q 7 [some (.ref 4095), none, none, none, none, none, none, none, none, none, none, none, none] [.ref 0] := by
    intro q hI hh hs hm
    refine tt_seg hT (fun pc => Nat.beq pc 9) 60 (fun c hc hq => ?_)
    refine (show TT T (47, 1648) q 9 [some (.ref 4095), some (.ref 0), none, none, none, none, none, none, none, none, none, none, none] [.ref 0] from ?_) c hc hq
    refine tt_r0 (P := holdP) (Q := holdQ) hT rfl rfl rfl rfl rfl ⟨0, by decide, hI⟩ ?_
    intro q2 w2 h2
    rw [h2.1, h2.2]
    show TT T (47, 1648) q 12 [some (.ref 4095), some (.ref 0), none, none, none, none, none, none, none, none, none, none, none] [.int 1]
    refine tt_seg hT (fun pc => Nat.beq pc 52 || Nat.beq pc 15) 80 (fun c hc hq => ?_)
    refine And.intro (fun (hb12 : 1 = 0) => ?_) (fun (hb12 : ¬ 1 = 0) => ?_)
    · exact absurd hb12 (by decide)
    · refine (show TT T (47, 1648) q 15 [some (.ref 4095), some (.ref 0), none, none, none, none, none, none, none, none, none, none, none] [] from ?_) c hc hq
      refine tt_seg hT (fun pc => Nat.beq pc 17) 60 (fun c hc hq => ?_)
      refine (show TT T (47, 1648) q 17 [some (.ref 4095), some (.ref 0), none, none, none, none, none, none, none, none, none, none, none] [.int 0, .ref 0] from ?_) c hc hq
      refine tt_r1 (P := wouldP) (Q := sameQ) hT rfl rfl rfl rfl rfl ⟨0, by decide, hI⟩ ?_
      intro q2 w2 h2
      rw [h2.1, h2.2]
      show TT T (47, 1648) q 20 [some (.ref 4095), some (.ref 0), none, none, none, none, none, none, none, none, none, none, none] [.int 1]
      refine tt_seg hT (fun pc => Nat.beq pc 52 || Nat.beq pc 23) 80 (fun c hc hq => ?_)
      refine And.intro (fun (hb20 : 1 = 0) => ?_) (fun (hb20 : ¬ 1 = 0) => ?_)
      · exact absurd hb20 (by decide)
      · refine (show TT T (47, 1648) q 23 [some (.ref 4095), some (.ref 0), none, none, none, none, none, none, none, none, none, none, none] [] from ?_) c hc hq
        refine tt_seg hT (fun pc => Nat.beq pc 24) 60 (fun c hc hq => ?_)
        refine (show TT T (47, 1648) q 24 [some (.ref 4095), some (.ref 0), none, none, none, none, none, none, none, none, none, none, none] [.ref 0] from ?_) c hc hq
        refine tt_e0 (W := wUndo) (q' := q) (r := (-2)) aq_undo (by unfold wUndo; rw [hh]) hT rfl rfl rfl rfl rfl ?_
        show TT T (47, 1648) q 27 [some (.ref 4095), some (.ref 0), none, none, none, none, none, none, none, none, none, none, none] [.int (-2)]
        refine tt_seg hT (fun pc => Nat.beq pc 52 || Nat.beq pc 32) 80 (fun c hc hq => ?_)
        refine And.intro (fun (hb29 : ¬ (-2) = (-2)) => ?_) (fun (hb29 : (-2) = (-2)) => ?_)
        · exact absurd (by decide) hb29
        · refine (show TT T (47, 1648) q 32 [some (.ref 4095), some (.ref 0), none, none, none, none, none, none, none, none, none, none, none] [] from ?_) c hc hq
          refine tt_seg hT (fun pc => Nat.beq pc 33) 60 (fun c hc hq => ?_)
          refine (show TT T (47, 1648) q 33 [some (.ref 4095), some (.ref 0), none, none, none, none, none, none, none, none, none, none, none] [.ref 0] from ?_) c hc hq
          refine tt_e0 (W := wRestore) (q' := q) (r := (-2)) aq_restore (by unfold wRestore; rw [hs]) hT rfl rfl rfl rfl rfl ?_
          show TT T (47, 1648) q 36 [some (.ref 4095), some (.ref 0), none, none, none, none, none, none, none, none, none, none, none] [.int (-2)]
          refine tt_seg hT (fun pc => Nat.beq pc 52 || Nat.beq pc 41) 80 (fun c hc hq => ?_)
          refine And.intro (fun (hb38 : ¬ (-2) = (-2)) => ?_) (fun (hb38 : (-2) = (-2)) => ?_)
          · exact absurd (by decide) hb38
          · refine (show TT T (47, 1648) q 41 [some (.ref 4095), some (.ref 0), none, none, none, none, none, none, none, none, none, none, none] [] from ?_) c hc hq
            refine tt_seg hT (fun pc => Nat.beq pc 42) 60 (fun c hc hq => ?_)
            refine (show TT T (47, 1648) q 42 [some (.ref 4095), some (.ref 0), none, none, none, none, none, none, none, none, none, none, none] [.ref 0] from ?_) c hc hq
            refine tt_e0 (W := wSave) (q' := (q.1, some q.1, q.2.2)) (r := 0) aq_save (by rw [← hm]; rfl) hT rfl rfl rfl rfl rfl ?_
            show TT T (47, 1648) (q.1, some q.1, q.2.2) 45 [some (.ref 4095), some (.ref 0), none, none, none, none, none, none, none, none, none, none, none] [.int 0]
            refine tt_seg hT (fun pc => Nat.beq pc 52 || Nat.beq pc 48) 80 (fun c hc hq => ?_)
            refine And.intro (fun (hb45 : ¬ 0 = 0) => ?_) (fun (hb45 : 0 = 0) => ?_)
            · exact absurd (by decide) hb45
            · refine (show TT T (47, 1648) (q.1, some q.1, q.2.2) 48 [some (.ref 4095), some (.ref 0), none, none, none, none, none, none, none, none, none, none, none] [] from ?_) c hc hq
              refine tt_seg hT (fun pc => Nat.beq pc 55) 60 (fun c hc hq => ?_)
              refine (show TT T (47, 1648) (q.1, some q.1, q.2.2) 55 [some (.ref 4095), some (.ref 0), some (.int 1), none, none, none, none, none, none, none, none, none, none] [.ref 0] from ?_) c hc hq
              refine tt_r0 (P := fun _ => True) (Q := fun q q' w => q' = q ∧ w = .long (hLook q)) hT rfl rfl rfl rfl rfl trivial ?_
              intro q2 w2 h2
              rw [h2.1, h2.2]
              rw [show hLook (q.1, some q.1, q.2.2) = (hL0 q.1) from hL0_is _]
              show TT T (47, 1648) (q.1, some q.1, q.2.2) 58 [some (.ref 4095), some (.ref 0), some (.int 1), none, none, none, none, none, none, none, none, none, none] [.long (hL0 q.1)]
              refine tt_seg hT (fun pc => Nat.beq pc 62) 60 (fun c hc hq => ?_)
              refine (show TT T (47, 1648) (q.1, some q.1, q.2.2) 62 [some (.ref 4095), some (.ref 0), some (.int 1), some (.long (hL0 q.1)), none, some (.int 0), none, none, none, none, none, none, none] [] from ?_) c hc hq
              exact l62 46 0 rfl (q.1, some q.1, q.2.2) (hL0 q.1) ⟨⟨hI.1, fun p hp => (by cases hp; exact hI.1), hI.2.2.1, hI.2.2.2⟩, q.1, rfl, rfl⟩
  have s7 : ∀ g, g = hUp hf0 → T 7 [some (.ref 4095), none, none, none, none, none, none, none, none, none, none, none, none] [.ref 0] (xw (kP0, kP0, kP0, 0, (0, g, kP0, kP0, kP0, kP0), dInit, zInit, (0, 0, 0))) (47, 1648) := by
    intro g hg
    subst hg
    exact l7 (qOf cInit) c0_I c0_hist rfl c0_min cInit c0_ok rfl
  refine hT.1 (fun pc => Nat.beq pc 7) 60 _ _ _ _ _ ?_
  exact And.intro ⟨rfl, rfl⟩ (s7 (mjcut (mjui [0] 1) 4 (hUp hf0)) (cut_id (hOk_up hf0_ok) (fun k hk => by rcases hk with rfl | rfl | rfl | rfl <;> rfl)))
