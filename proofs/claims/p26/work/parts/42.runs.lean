/-! the law: runs -/
def runsP (q : QSt) (_ : Int32) : Prop := actP q ∧ q.2.2.2.length ≤ 60
def runsQ (q : QSt) (_ : Int32) (q' : QSt) (w : Value) : Prop := w = .int 1 ∧ stepQ q q'
noncomputable def R_L_runs : mjSr := lr1 runsP runsQ
theorem lcmp_refl (x : Int64) : lg_cmp x x = 0 := by
  unfold lg_cmp
  rw [if_neg (by simp), if_pos rfl]
theorem nofault : ¬ vFault [] = -4 := by
  intro e
  have := scan_is (fun i => ([] : List Int32).getD i 0) (z0, z0, z0) 0 (0, 0, -1) 59 0 (by decide) (by decide)
  have e2 : vFault [] = (dScan (59 + 1) 0 (mkD (fun i => ([] : List Int32).getD i 0) (z0, z0, z0) (nI 0) (0, 0, -1))).2 := rfl
  rw [e2, this, if_pos (Nat.le_refl 0), fin_is] at e
  exact absurd e (by decide)
def rm_L_runs : Room := { frames := 7, cells := 0, slots := 0, locals := 157 }
noncomputable def G_L_runs : mjG := (I_L_runs, (fun _ => none), [(39, 1, 0, 2, 0, 0, S_L_low), (13, 0, 5, 2, 0, 0, S_X6_count), (69, 0, 5, 1, 0, 0, S_X6_fault), (72, 0, 5, 1, 0, 0, S_X6_run), (54, 0, 5, 1, 0, 0, S_X6_clear)], (fun pc => bif Nat.beq pc 7 then [] else [0, 1, 2, 3, 4, 5, 6, 7, 8, 9, 10, 11, 12, 13, 14, 15, 16, 17, 18, 19, 20, 21, 22, 23, 24, 25, 26, 27, 28, 29, 30, 31, 32, 33, 34, 35, 36, 37, 38, 39, 40, 41, 42, 43, 44, 45, 46]), Y0, (fun _ => none), (mjcons CN_L), (some .boolean), 0, 0, false, [(62, 1, R_L_look), (66, 2, R_L_types)])
set_option maxHeartbeats 20000000 in
set_option maxRecDepth 100000 in
theorem ok_L_runs : mjOKr G_L_runs 14 R_L_runs := by
  intro M as hP T hT
  obtain ⟨c0, x, rfl, rfl, hc0, ⟨⟨k, hk, hI⟩, hlen⟩⟩ : ∃ c x, M = xw c ∧ as = [.ref 0, .int x] ∧ cOk c ∧ runsP (qOf c) x := ⟨_, _, hP.1.1, hP.1.2, hP.2.1, hP.2.2⟩
  refine (?_ : TT T (0, 0) (qOf c0) 0 [some (.ref 0), some (.int x), none, none, none, none, none, none, none, none, none, none, none, none] []) c0 hc0 rfl
  generalize hq0 : qOf c0 = q at hI hlen ⊢
  obtain ⟨p, sn, hi, tx0⟩ := q
  obtain ⟨n0, hn0, en0⟩ : ∃ n : Nat, n < 5 ∧ lowV x 5 = nI n := low_n x 5 (by decide) (by decide)
  have bad : ∀ tx : List Int32, tx.length ≤ 60 → ¬ vFault tx = -4 → TT T (0, 0) (p, sn, hi, tx) 60 [some (.ref 0), some (.int x), some (.long (hLook (p, sn, hi, tx0))), none, some (.int (nI n0)), some (.int (vCount (p, sn, hi, tx0) 16)), some (.int (vCount (p, sn, hi, tx0) 3)), some (.int (vCount (p, sn, hi, tx0) 6)), some (.int 1), some (.int (vCount (p, sn, hi, tx) 15)), some (.int (vFault tx)), none, none, none] [.int (-2)] := by
    intro tx htl hv
    obtain ⟨j, hj, ej⟩ := (fault_j htl).resolve_left hv
    refine tt_seg hT (fun pc => Nat.beq pc 63) 60 (fun c hc hq => ?_)
    refine (show TT T (0, 0) (p, sn, hi, tx) 63 [some (.ref 0), some (.int x), some (.long (hLook (p, sn, hi, tx0))), none, some (.int (nI n0)), some (.int (vCount (p, sn, hi, tx0) 16)), some (.int (vCount (p, sn, hi, tx0) 3)), some (.int (vCount (p, sn, hi, tx0) 6)), some (.int 1), some (.int (vCount (p, sn, hi, tx) 15)), some (.int (vFault tx)), some (.int (-2)), none, none] [.ref 0] from ?_) c hc hq
    refine tt_v0 (W := wClear) aq_clear hT rfl rfl rfl rfl rfl ?_
    rw [show wClear (p, sn, hi, tx) = ((p, sn, hi, []), (nI tx.length)) from rfl]
    show TT T (0, 0) (p, sn, hi, []) 66 [some (.ref 0), some (.int x), some (.long (hLook (p, sn, hi, tx0))), none, some (.int (nI n0)), some (.int (vCount (p, sn, hi, tx0) 16)), some (.int (vCount (p, sn, hi, tx0) 3)), some (.int (vCount (p, sn, hi, tx0) 6)), some (.int 1), some (.int (vCount (p, sn, hi, tx) 15)), some (.int (vFault tx)), some (.int (-2)), none, none] [.int (nI tx.length)]
    refine tt_seg hT (fun pc => Nat.beq pc 104 || Nat.beq pc 73) 80 (fun c hc hq => ?_)
    refine And.intro (fun (hb70 : 1 = 0) => ?_) (fun (hb70 : ¬ 1 = 0) => ?_)
    · exact absurd hb70 (by decide)
    · refine (show TT T (0, 0) (p, sn, hi, []) 73 [some (.ref 0), some (.int x), some (.long (hLook (p, sn, hi, tx0))), none, some (.int (nI n0)), some (.int (vCount (p, sn, hi, tx0) 16)), some (.int (vCount (p, sn, hi, tx0) 3)), some (.int (vCount (p, sn, hi, tx0) 6)), some (.int 1), some (.int (vCount (p, sn, hi, tx) 15)), some (.int (vFault tx)), some (.int (-2)), some (.int (nI tx.length)), none] [] from ?_) c hc hq
      refine tt_seg hT (fun pc => Nat.beq pc 84 || Nat.beq pc 80) 80 (fun c hc hq => ?_)
      refine And.intro (fun (hb77 : ¬ (-2) = (-2)) => ?_) (fun (hb77 : (-2) = (-2)) => ?_)
      · exact absurd (rfl) hb77
      · refine (show TT T (0, 0) (p, sn, hi, []) 80 [some (.ref 0), some (.int x), some (.long (hLook (p, sn, hi, tx0))), none, some (.int (nI n0)), some (.int (vCount (p, sn, hi, tx0) 16)), some (.int (vCount (p, sn, hi, tx0) 3)), some (.int (vCount (p, sn, hi, tx0) 6)), some (.int 1), some (.int (vCount (p, sn, hi, tx) 15)), some (.int (vFault tx)), some (.int (-2)), some (.int (nI tx.length)), none] [] from ?_) c hc hq
        refine tt_seg hT (fun pc => Nat.beq pc 96 || Nat.beq pc 92) 80 (fun c hc hq => ?_)
        refine And.intro (fun (hb89 : (vFault tx) = (-4)) => ?_) (fun (hb89 : ¬ (vFault tx) = (-4)) => ?_)
        · exact absurd hb89 (hv)
        · refine (show TT T (0, 0) (p, sn, hi, []) 92 [some (.ref 0), some (.int x), some (.long (hLook (p, sn, hi, tx0))), none, some (.int (nI n0)), some (.int (vCount (p, sn, hi, tx0) 16)), some (.int (vCount (p, sn, hi, tx0) 3)), some (.int (vCount (p, sn, hi, tx0) 6)), some (.int 1), some (.int (vCount (p, sn, hi, tx) 15)), some (.int (vFault tx)), some (.int (-2)), some (.int (nI tx.length)), none] [.int 1] from ?_) c hc hq
          refine tt_seg hT (fun pc => Nat.beq pc 104 || Nat.beq pc 100) 80 (fun c hc hq => ?_)
          refine And.intro (fun (hb97 : ¬ 1 = 1) => ?_) (fun (hb97 : 1 = 1) => ?_)
          · exact absurd (by decide) hb97
          · refine (show TT T (0, 0) (p, sn, hi, []) 100 [some (.ref 0), some (.int x), some (.long (hLook (p, sn, hi, tx0))), none, some (.int (nI n0)), some (.int (vCount (p, sn, hi, tx0) 16)), some (.int (vCount (p, sn, hi, tx0) 3)), some (.int (vCount (p, sn, hi, tx0) 6)), some (.int 1), some (.int (vCount (p, sn, hi, tx) 15)), some (.int (vFault tx)), some (.int (-2)), some (.int (nI tx.length)), none] [] from ?_) c hc hq
            refine tt_seg hT (fun pc => Nat.beq pc 164 || Nat.beq pc 114) 80 (fun c hc hq => ?_)
            refine And.intro (fun (hb111 : (vFault tx) = (-4)) => ?_) (fun (hb111 : ¬ (vFault tx) = (-4)) => ?_)
            · exact absurd hb111 (hv)
            · refine (show TT T (0, 0) (p, sn, hi, []) 114 [some (.ref 0), some (.int x), some (.long (hLook (p, sn, hi, tx0))), none, some (.int (nI n0)), some (.int (vCount (p, sn, hi, tx0) 16)), some (.int (vCount (p, sn, hi, tx0) 3)), some (.int (vCount (p, sn, hi, tx0) 6)), some (.int 1), some (.int (vCount (p, sn, hi, tx) 15)), some (.int (vFault tx)), some (.int (-2)), some (.int (nI tx.length)), some (.int 1)] [] from ?_) c hc hq
              refine tt_seg hT (fun pc => Nat.beq pc 162 || Nat.beq pc 119) 80 (fun c hc hq => ?_)
              refine And.intro (fun (hb116 : 1 = 0) => ?_) (fun (hb116 : ¬ 1 = 0) => ?_)
              · exact absurd hb116 (by decide)
              · refine (show TT T (0, 0) (p, sn, hi, []) 119 [some (.ref 0), some (.int x), some (.long (hLook (p, sn, hi, tx0))), none, some (.int (nI n0)), some (.int (vCount (p, sn, hi, tx0) 16)), some (.int (vCount (p, sn, hi, tx0) 3)), some (.int (vCount (p, sn, hi, tx0) 6)), some (.int 1), some (.int (vCount (p, sn, hi, tx) 15)), some (.int (vFault tx)), some (.int (-2)), some (.int (nI tx.length)), some (.int 1)] [] from ?_) c hc hq
                refine tt_seg hT (fun pc => Nat.beq pc 162 || Nat.beq pc 124) 80 (fun c hc hq => ?_)
                refine And.intro (fun (hb121 : (vFault tx) < 0) => ?_) (fun (hb121 : ¬ (vFault tx) < 0) => ?_)
                · exact absurd hb121 (by rw [ej]; exact nI_pos (by omega))
                · refine (show TT T (0, 0) (p, sn, hi, []) 124 [some (.ref 0), some (.int x), some (.long (hLook (p, sn, hi, tx0))), none, some (.int (nI n0)), some (.int (vCount (p, sn, hi, tx0) 16)), some (.int (vCount (p, sn, hi, tx0) 3)), some (.int (vCount (p, sn, hi, tx0) 6)), some (.int 1), some (.int (vCount (p, sn, hi, tx) 15)), some (.int (vFault tx)), some (.int (-2)), some (.int (nI tx.length)), some (.int 1)] [] from ?_) c hc hq
                  refine tt_seg hT (fun pc => Nat.beq pc 162 || Nat.beq pc 131) 80 (fun c hc hq => ?_)
                  refine And.intro (fun (hb128 : (vCount (p, sn, hi, tx) 15) < (vFault tx)) => ?_) (fun (hb128 : ¬ (vCount (p, sn, hi, tx) 15) < (vFault tx)) => ?_)
                  · exact absurd hb128 (by rw [ej]; exact show ¬ nI tx.length < nI j from nI_nlt hj (by omega))
                  · refine (show TT T (0, 0) (p, sn, hi, []) 131 [some (.ref 0), some (.int x), some (.long (hLook (p, sn, hi, tx0))), none, some (.int (nI n0)), some (.int (vCount (p, sn, hi, tx0) 16)), some (.int (vCount (p, sn, hi, tx0) 3)), some (.int (vCount (p, sn, hi, tx0) 6)), some (.int 1), some (.int (vCount (p, sn, hi, tx) 15)), some (.int (vFault tx)), some (.int (-2)), some (.int (nI tx.length)), some (.int 1)] [] from ?_) c hc hq
                    refine tt_seg hT (fun pc => Nat.beq pc 162 || Nat.beq pc 138) 80 (fun c hc hq => ?_)
                    refine And.intro (fun (hb135 : ¬ (nI tx.length) = (vCount (p, sn, hi, tx) 15)) => ?_) (fun (hb135 : (nI tx.length) = (vCount (p, sn, hi, tx) 15)) => ?_)
                    · exact absurd (rfl) hb135
                    · refine (show TT T (0, 0) (p, sn, hi, []) 138 [some (.ref 0), some (.int x), some (.long (hLook (p, sn, hi, tx0))), none, some (.int (nI n0)), some (.int (vCount (p, sn, hi, tx0) 16)), some (.int (vCount (p, sn, hi, tx0) 3)), some (.int (vCount (p, sn, hi, tx0) 6)), some (.int 1), some (.int (vCount (p, sn, hi, tx) 15)), some (.int (vFault tx)), some (.int (-2)), some (.int (nI tx.length)), some (.int 1)] [] from ?_) c hc hq
                      refine tt_seg hT (fun pc => Nat.beq pc 139) 60 (fun c hc hq => ?_)
                      refine (show TT T (0, 0) (p, sn, hi, []) 139 [some (.ref 0), some (.int x), some (.long (hLook (p, sn, hi, tx0))), none, some (.int (nI n0)), some (.int (vCount (p, sn, hi, tx0) 16)), some (.int (vCount (p, sn, hi, tx0) 3)), some (.int (vCount (p, sn, hi, tx0) 6)), some (.int 1), some (.int (vCount (p, sn, hi, tx) 15)), some (.int (vFault tx)), some (.int (-2)), some (.int (nI tx.length)), some (.int 1)] [.ref 0] from ?_) c hc hq
                      refine tt_r0 (P := fun _ => True) (Q := fun q q' w => q' = q ∧ w = .long (hLook q)) hT rfl rfl rfl rfl rfl trivial ?_
                      rintro q' w' ⟨rfl, rfl⟩
                      rw [show hLook (p, sn, hi, []) = hLook (p, sn, hi, tx0) from hLook_c rfl]
                      show TT T (0, 0) (p, sn, hi, []) 142 [some (.ref 0), some (.int x), some (.long (hLook (p, sn, hi, tx0))), none, some (.int (nI n0)), some (.int (vCount (p, sn, hi, tx0) 16)), some (.int (vCount (p, sn, hi, tx0) 3)), some (.int (vCount (p, sn, hi, tx0) 6)), some (.int 1), some (.int (vCount (p, sn, hi, tx) 15)), some (.int (vFault tx)), some (.int (-2)), some (.int (nI tx.length)), some (.int 1)] [.long (hLook (p, sn, hi, tx0))]
                      refine tt_seg hT (fun pc => Nat.beq pc 162 || Nat.beq pc 147) 80 (fun c hc hq => ?_)
                      refine And.intro (fun (hb144 : ¬ (lg_cmp (hLook (p, sn, hi, tx0)) (hLook (p, sn, hi, tx0))) = 0) => ?_) (fun (hb144 : (lg_cmp (hLook (p, sn, hi, tx0)) (hLook (p, sn, hi, tx0))) = 0) => ?_)
                      · exact absurd (lcmp_refl _) hb144
                      · refine (show TT T (0, 0) (p, sn, hi, []) 147 [some (.ref 0), some (.int x), some (.long (hLook (p, sn, hi, tx0))), none, some (.int (nI n0)), some (.int (vCount (p, sn, hi, tx0) 16)), some (.int (vCount (p, sn, hi, tx0) 3)), some (.int (vCount (p, sn, hi, tx0) 6)), some (.int 1), some (.int (vCount (p, sn, hi, tx) 15)), some (.int (vFault tx)), some (.int (-2)), some (.int (nI tx.length)), some (.int 1)] [] from ?_) c hc hq
                        refine tt_seg hT (fun pc => Nat.beq pc 150) 60 (fun c hc hq => ?_)
                        refine (show TT T (0, 0) (p, sn, hi, []) 150 [some (.ref 0), some (.int x), some (.long (hLook (p, sn, hi, tx0))), none, some (.int (nI n0)), some (.int (vCount (p, sn, hi, tx0) 16)), some (.int (vCount (p, sn, hi, tx0) 3)), some (.int (vCount (p, sn, hi, tx0) 6)), some (.int 1), some (.int (vCount (p, sn, hi, tx) 15)), some (.int (vFault tx)), some (.int (-2)), some (.int (nI tx.length)), some (.int 1)] [.int 16, .ref 0] from ?_) c hc hq
                        refine tt_v1 (W := fun q x => (q, vCount q x)) lq_count hT rfl rfl rfl rfl rfl ?_
                        show TT T (0, 0) (p, sn, hi, []) 153 [some (.ref 0), some (.int x), some (.long (hLook (p, sn, hi, tx0))), none, some (.int (nI n0)), some (.int (vCount (p, sn, hi, tx0) 16)), some (.int (vCount (p, sn, hi, tx0) 3)), some (.int (vCount (p, sn, hi, tx0) 6)), some (.int 1), some (.int (vCount (p, sn, hi, tx) 15)), some (.int (vFault tx)), some (.int (-2)), some (.int (nI tx.length)), some (.int 1)] [.int (vCount (p, sn, hi, []) 16)]
                        refine tt_seg hT (fun pc => Nat.beq pc 162 || Nat.beq pc 158) 80 (fun c hc hq => ?_)
                        refine And.intro (fun (hb155 : ¬ (vCount (p, sn, hi, []) 16) = (vCount (p, sn, hi, tx0) 16)) => ?_) (fun (hb155 : (vCount (p, sn, hi, []) 16) = (vCount (p, sn, hi, tx0) 16)) => ?_)
                        · exact absurd (rfl) hb155
                        · refine (show TT T (0, 0) (p, sn, hi, []) 158 [some (.ref 0), some (.int x), some (.long (hLook (p, sn, hi, tx0))), none, some (.int (nI n0)), some (.int (vCount (p, sn, hi, tx0) 16)), some (.int (vCount (p, sn, hi, tx0) 3)), some (.int (vCount (p, sn, hi, tx0) 6)), some (.int 1), some (.int (vCount (p, sn, hi, tx) 15)), some (.int (vFault tx)), some (.int (-2)), some (.int (nI tx.length)), some (.int 1)] [] from ?_) c hc hq
                          refine tt_seg hT (fun pc => Nat.beq pc 163) 60 (fun c hc hq => ?_)
                          refine (show TT T (0, 0) (p, sn, hi, []) 163 [some (.ref 0), some (.int x), some (.long (hLook (p, sn, hi, tx0))), none, some (.int (nI n0)), some (.int (vCount (p, sn, hi, tx0) 16)), some (.int (vCount (p, sn, hi, tx0) 3)), some (.int (vCount (p, sn, hi, tx0) 6)), some (.int 1), some (.int (vCount (p, sn, hi, tx) 15)), some (.int (vFault tx)), some (.int (-2)), some (.int (nI tx.length)), some (.int 1)] [.int 1] from ?_) c hc hq
                          exact tt_ret hT rfl rfl (fun c hc hq => ⟨rfl, c, .int 1, rfl, hc, rfl, fun _ => rfl, by rw [hq]; exact ⟨rfl, by rw [show qOf (rX (xw c0)) = (p, sn, hi, tx0) from hq0]; exact ⟨rfl, Or.inl ⟨rfl, rfl⟩, fun _ _ h => QI_mono h⟩⟩⟩)
  have good : ∀ tx : List Int32, tx.length ≤ 60 → (TX n0 tx ∨ ∃ l : List Int32, l.length ≤ 52 ∧ tx = l ++ [59]) → ∀ (p' : PSt) (t : Nat), 1 ≤ t → t ≤ tx.count 59 + 1 → tx.count 59 + 1 ≤ 20 → (∀ l : List Int32, ¬ tx = l ++ [59]) → (∀ k : Nat, k ≤ 99 → PI k p → PI (k + 1) p' ∧ (pMinutes p).toInt + t ≤ (pMinutes p').toInt ∧ (t = tx.count 59 + 1 ∨ crN (pC p) 60 < crN (pC p') 60)) → vFault tx = -4 → TT T (0, 0) (nrm p', sn, qPush (p, sn, hi, tx), []) 60 [some (.ref 0), some (.int x), some (.long (hLook (p, sn, hi, tx0))), none, some (.int (nI n0)), some (.int (vCount (p, sn, hi, tx0) 16)), some (.int (vCount (p, sn, hi, tx0) 3)), some (.int (vCount (p, sn, hi, tx0) 6)), some (.int 1), some (.int (vCount (p, sn, hi, tx) 15)), some (.int (vFault tx)), none, none, none] [.int (nI t)] := by
    intro tx htl hty p' t ht1 ht2 ht3 ht4 ht5 hv
    have hTX : TX n0 tx := by rcases hty with h | ⟨l, _, h⟩; exact h; exact absurd h (ht4 l)
    have hnn : tx.count 59 + 1 = n0 := by
      by_cases h0 : n0 = 0
      · exfalso
        rw [hTX.2.1 h0] at hv
        exact absurd hv nofault
      · exact (hTX.2.2 (by omega)).1
    rw [hnn] at ht2 ht5
    obtain ⟨i1, i2, i3⟩ := ht5 k hk hI.1
    have b1 : 0 ≤ (pMinutes p).toInt ∧ (pMinutes p).toInt ≤ 2000 * (k : Int) := hI.1.2.1
    have b2 := i1.2.1
    refine tt_seg hT (fun pc => Nat.beq pc 63) 60 (fun c hc hq => ?_)
    refine (show TT T (0, 0) (nrm p', sn, qPush (p, sn, hi, tx), []) 63 [some (.ref 0), some (.int x), some (.long (hLook (p, sn, hi, tx0))), none, some (.int (nI n0)), some (.int (vCount (p, sn, hi, tx0) 16)), some (.int (vCount (p, sn, hi, tx0) 3)), some (.int (vCount (p, sn, hi, tx0) 6)), some (.int 1), some (.int (vCount (p, sn, hi, tx) 15)), some (.int (vFault tx)), some (.int (nI t)), none, none] [.ref 0] from ?_) c hc hq
    refine tt_v0 (W := wClear) aq_clear hT rfl rfl rfl rfl rfl ?_
    rw [show wClear (nrm p', sn, qPush (p, sn, hi, tx), []) = ((nrm p', sn, qPush (p, sn, hi, tx), []), 0) from rfl]
    show TT T (0, 0) (nrm p', sn, qPush (p, sn, hi, tx), []) 66 [some (.ref 0), some (.int x), some (.long (hLook (p, sn, hi, tx0))), none, some (.int (nI n0)), some (.int (vCount (p, sn, hi, tx0) 16)), some (.int (vCount (p, sn, hi, tx0) 3)), some (.int (vCount (p, sn, hi, tx0) 6)), some (.int 1), some (.int (vCount (p, sn, hi, tx) 15)), some (.int (vFault tx)), some (.int (nI t)), none, none] [.int 0]
    refine tt_seg hT (fun pc => Nat.beq pc 104 || Nat.beq pc 73) 80 (fun c hc hq => ?_)
    refine And.intro (fun (hb70 : 1 = 0) => ?_) (fun (hb70 : ¬ 1 = 0) => ?_)
    · exact absurd hb70 (by decide)
    · refine (show TT T (0, 0) (nrm p', sn, qPush (p, sn, hi, tx), []) 73 [some (.ref 0), some (.int x), some (.long (hLook (p, sn, hi, tx0))), none, some (.int (nI n0)), some (.int (vCount (p, sn, hi, tx0) 16)), some (.int (vCount (p, sn, hi, tx0) 3)), some (.int (vCount (p, sn, hi, tx0) 6)), some (.int 1), some (.int (vCount (p, sn, hi, tx) 15)), some (.int (vFault tx)), some (.int (nI t)), some (.int 0), none] [] from ?_) c hc hq
      refine tt_seg hT (fun pc => Nat.beq pc 84 || Nat.beq pc 80) 80 (fun c hc hq => ?_)
      refine And.intro (fun (hb77 : ¬ (nI t) = (-2)) => ?_) (fun (hb77 : (nI t) = (-2)) => ?_)
      · refine (show TT T (0, 0) (nrm p', sn, qPush (p, sn, hi, tx), []) 84 [some (.ref 0), some (.int x), some (.long (hLook (p, sn, hi, tx0))), none, some (.int (nI n0)), some (.int (vCount (p, sn, hi, tx0) 16)), some (.int (vCount (p, sn, hi, tx0) 3)), some (.int (vCount (p, sn, hi, tx0) 6)), some (.int 1), some (.int (vCount (p, sn, hi, tx) 15)), some (.int (vFault tx)), some (.int (nI t)), some (.int 0), none] [] from ?_) c hc hq
        refine tt_seg hT (fun pc => Nat.beq pc 96 || Nat.beq pc 92) 80 (fun c hc hq => ?_)
        refine And.intro (fun (hb89 : (vFault tx) = (-4)) => ?_) (fun (hb89 : ¬ (vFault tx) = (-4)) => ?_)
        · refine (show TT T (0, 0) (nrm p', sn, qPush (p, sn, hi, tx), []) 96 [some (.ref 0), some (.int x), some (.long (hLook (p, sn, hi, tx0))), none, some (.int (nI n0)), some (.int (vCount (p, sn, hi, tx0) 16)), some (.int (vCount (p, sn, hi, tx0) 3)), some (.int (vCount (p, sn, hi, tx0) 6)), some (.int 1), some (.int (vCount (p, sn, hi, tx) 15)), some (.int (vFault tx)), some (.int (nI t)), some (.int 0), none] [.int 0] from ?_) c hc hq
          refine tt_seg hT (fun pc => Nat.beq pc 104 || Nat.beq pc 100) 80 (fun c hc hq => ?_)
          refine And.intro (fun (hb97 : ¬ 0 = 0) => ?_) (fun (hb97 : 0 = 0) => ?_)
          · exact absurd (by decide) hb97
          · refine (show TT T (0, 0) (nrm p', sn, qPush (p, sn, hi, tx), []) 100 [some (.ref 0), some (.int x), some (.long (hLook (p, sn, hi, tx0))), none, some (.int (nI n0)), some (.int (vCount (p, sn, hi, tx0) 16)), some (.int (vCount (p, sn, hi, tx0) 3)), some (.int (vCount (p, sn, hi, tx0) 6)), some (.int 1), some (.int (vCount (p, sn, hi, tx) 15)), some (.int (vFault tx)), some (.int (nI t)), some (.int 0), none] [] from ?_) c hc hq
            refine tt_seg hT (fun pc => Nat.beq pc 164 || Nat.beq pc 114) 80 (fun c hc hq => ?_)
            refine And.intro (fun (hb111 : (vFault tx) = (-4)) => ?_) (fun (hb111 : ¬ (vFault tx) = (-4)) => ?_)
            · refine (show TT T (0, 0) (nrm p', sn, qPush (p, sn, hi, tx), []) 164 [some (.ref 0), some (.int x), some (.long (hLook (p, sn, hi, tx0))), none, some (.int (nI n0)), some (.int (vCount (p, sn, hi, tx0) 16)), some (.int (vCount (p, sn, hi, tx0) 3)), some (.int (vCount (p, sn, hi, tx0) 6)), some (.int 1), some (.int (vCount (p, sn, hi, tx) 15)), some (.int (vFault tx)), some (.int (nI t)), some (.int 0), some (.int 1)] [] from ?_) c hc hq
              refine tt_seg hT (fun pc => Nat.beq pc 245 || Nat.beq pc 169) 80 (fun c hc hq => ?_)
              refine And.intro (fun (hb166 : 1 = 0) => ?_) (fun (hb166 : ¬ 1 = 0) => ?_)
              · exact absurd hb166 (by decide)
              · refine (show TT T (0, 0) (nrm p', sn, qPush (p, sn, hi, tx), []) 169 [some (.ref 0), some (.int x), some (.long (hLook (p, sn, hi, tx0))), none, some (.int (nI n0)), some (.int (vCount (p, sn, hi, tx0) 16)), some (.int (vCount (p, sn, hi, tx0) 3)), some (.int (vCount (p, sn, hi, tx0) 6)), some (.int 1), some (.int (vCount (p, sn, hi, tx) 15)), some (.int (vFault tx)), some (.int (nI t)), some (.int 0), some (.int 1)] [] from ?_) c hc hq
                refine tt_seg hT (fun pc => Nat.beq pc 245 || Nat.beq pc 175) 80 (fun c hc hq => ?_)
                refine And.intro (fun (hb172 : (nI t) < 1) => ?_) (fun (hb172 : ¬ (nI t) < 1) => ?_)
                · exact absurd hb172 (show ¬ nI t < nI 1 from nI_nlt ht1 (by omega))
                · refine (show TT T (0, 0) (nrm p', sn, qPush (p, sn, hi, tx), []) 175 [some (.ref 0), some (.int x), some (.long (hLook (p, sn, hi, tx0))), none, some (.int (nI n0)), some (.int (vCount (p, sn, hi, tx0) 16)), some (.int (vCount (p, sn, hi, tx0) 3)), some (.int (vCount (p, sn, hi, tx0) 6)), some (.int 1), some (.int (vCount (p, sn, hi, tx) 15)), some (.int (vFault tx)), some (.int (nI t)), some (.int 0), some (.int 1)] [] from ?_) c hc hq
                  refine tt_seg hT (fun pc => Nat.beq pc 245 || Nat.beq pc 182) 80 (fun c hc hq => ?_)
                  refine And.intro (fun (hb179 : (nI n0) < (nI t)) => ?_) (fun (hb179 : ¬ (nI n0) < (nI t)) => ?_)
                  · exact absurd hb179 (show ¬ nI n0 < nI t from nI_nlt ht2 (by omega))
                  · refine (show TT T (0, 0) (nrm p', sn, qPush (p, sn, hi, tx), []) 182 [some (.ref 0), some (.int x), some (.long (hLook (p, sn, hi, tx0))), none, some (.int (nI n0)), some (.int (vCount (p, sn, hi, tx0) 16)), some (.int (vCount (p, sn, hi, tx0) 3)), some (.int (vCount (p, sn, hi, tx0) 6)), some (.int 1), some (.int (vCount (p, sn, hi, tx) 15)), some (.int (vFault tx)), some (.int (nI t)), some (.int 0), some (.int 1)] [] from ?_) c hc hq
                    refine tt_seg hT (fun pc => Nat.beq pc 245 || Nat.beq pc 187) 80 (fun c hc hq => ?_)
                    refine And.intro (fun (hb184 : ¬ 0 = 0) => ?_) (fun (hb184 : 0 = 0) => ?_)
                    · exact absurd (by decide) hb184
                    · refine (show TT T (0, 0) (nrm p', sn, qPush (p, sn, hi, tx), []) 187 [some (.ref 0), some (.int x), some (.long (hLook (p, sn, hi, tx0))), none, some (.int (nI n0)), some (.int (vCount (p, sn, hi, tx0) 16)), some (.int (vCount (p, sn, hi, tx0) 3)), some (.int (vCount (p, sn, hi, tx0) 6)), some (.int 1), some (.int (vCount (p, sn, hi, tx) 15)), some (.int (vFault tx)), some (.int (nI t)), some (.int 0), some (.int 1)] [] from ?_) c hc hq
                      refine tt_seg hT (fun pc => Nat.beq pc 190) 60 (fun c hc hq => ?_)
                      refine (show TT T (0, 0) (nrm p', sn, qPush (p, sn, hi, tx), []) 190 [some (.ref 0), some (.int x), some (.long (hLook (p, sn, hi, tx0))), none, some (.int (nI n0)), some (.int (vCount (p, sn, hi, tx0) 16)), some (.int (vCount (p, sn, hi, tx0) 3)), some (.int (vCount (p, sn, hi, tx0) 6)), some (.int 1), some (.int (vCount (p, sn, hi, tx) 15)), some (.int (vFault tx)), some (.int (nI t)), some (.int 0), some (.int 1)] [.int 16, .ref 0] from ?_) c hc hq
                      refine tt_v1 (W := fun q x => (q, vCount q x)) lq_count hT rfl rfl rfl rfl rfl ?_
                      show TT T (0, 0) (nrm p', sn, qPush (p, sn, hi, tx), []) 193 [some (.ref 0), some (.int x), some (.long (hLook (p, sn, hi, tx0))), none, some (.int (nI n0)), some (.int (vCount (p, sn, hi, tx0) 16)), some (.int (vCount (p, sn, hi, tx0) 3)), some (.int (vCount (p, sn, hi, tx0) 6)), some (.int 1), some (.int (vCount (p, sn, hi, tx) 15)), some (.int (vFault tx)), some (.int (nI t)), some (.int 0), some (.int 1)] [.int (vCount (nrm p', sn, qPush (p, sn, hi, tx), []) 16)]
                      rw [show (vCount (nrm p', sn, qPush (p, sn, hi, tx), []) 16) = (nI (if hi.length < 4 then hi.length + 1 else 4)) from by show nI (qPush (p, sn, hi, tx)).length = _; rw [push_len (p, sn, hi, tx) hI.2.2.2]]
                      refine tt_seg hT (fun pc => Nat.beq pc 206 || Nat.beq pc 199) 80 (fun c hc hq => ?_)
                      refine And.intro (fun (hb196 : 4 ≤ (vCount (p, sn, hi, tx0) 16)) => ?_) (fun (hb196 : ¬ 4 ≤ (vCount (p, sn, hi, tx0) 16)) => ?_)
                      · refine (show TT T (0, 0) (nrm p', sn, qPush (p, sn, hi, tx), []) 206 [some (.ref 0), some (.int x), some (.long (hLook (p, sn, hi, tx0))), none, some (.int (nI n0)), some (.int (vCount (p, sn, hi, tx0) 16)), some (.int (vCount (p, sn, hi, tx0) 3)), some (.int (vCount (p, sn, hi, tx0) 6)), some (.int 1), some (.int (vCount (p, sn, hi, tx) 15)), some (.int (vFault tx)), some (.int (nI t)), some (.int 0), some (.int 1)] [.int (nI (if hi.length < 4 then hi.length + 1 else 4))] from ?_) c hc hq
                        refine tt_seg hT (fun pc => Nat.beq pc 245 || Nat.beq pc 210) 80 (fun c hc hq => ?_)
                        refine And.intro (fun (hb207 : ¬ (nI (if hi.length < 4 then hi.length + 1 else 4)) = 4) => ?_) (fun (hb207 : (nI (if hi.length < 4 then hi.length + 1 else 4)) = 4) => ?_)
                        · exact absurd (by rw [if_neg (fun h => absurd hb196 (show ¬ nI 4 ≤ nI hi.length from nI_ge h (by decide)))]; rfl) hb207
                        · refine (show TT T (0, 0) (nrm p', sn, qPush (p, sn, hi, tx), []) 210 [some (.ref 0), some (.int x), some (.long (hLook (p, sn, hi, tx0))), none, some (.int (nI n0)), some (.int (vCount (p, sn, hi, tx0) 16)), some (.int (vCount (p, sn, hi, tx0) 3)), some (.int (vCount (p, sn, hi, tx0) 6)), some (.int 1), some (.int (vCount (p, sn, hi, tx) 15)), some (.int (vFault tx)), some (.int (nI t)), some (.int 0), some (.int 1)] [] from ?_) c hc hq
                          refine tt_seg hT (fun pc => Nat.beq pc 212) 60 (fun c hc hq => ?_)
                          refine (show TT T (0, 0) (nrm p', sn, qPush (p, sn, hi, tx), []) 212 [some (.ref 0), some (.int x), some (.long (hLook (p, sn, hi, tx0))), none, some (.int (nI n0)), some (.int (vCount (p, sn, hi, tx0) 16)), some (.int (vCount (p, sn, hi, tx0) 3)), some (.int (vCount (p, sn, hi, tx0) 6)), some (.int 1), some (.int (vCount (p, sn, hi, tx) 15)), some (.int (vFault tx)), some (.int (nI t)), some (.int 0), some (.int 1)] [.int 3, .ref 0] from ?_) c hc hq
                          refine tt_v1 (W := fun q x => (q, vCount q x)) lq_count hT rfl rfl rfl rfl rfl ?_
                          show TT T (0, 0) (nrm p', sn, qPush (p, sn, hi, tx), []) 215 [some (.ref 0), some (.int x), some (.long (hLook (p, sn, hi, tx0))), none, some (.int (nI n0)), some (.int (vCount (p, sn, hi, tx0) 16)), some (.int (vCount (p, sn, hi, tx0) 3)), some (.int (vCount (p, sn, hi, tx0) 6)), some (.int 1), some (.int (vCount (p, sn, hi, tx) 15)), some (.int (vFault tx)), some (.int (nI t)), some (.int 0), some (.int 1)] [.int (vCount (nrm p', sn, qPush (p, sn, hi, tx), []) 3)]
                          refine tt_seg hT (fun pc => Nat.beq pc 245 || Nat.beq pc 223) 80 (fun c hc hq => ?_)
                          refine And.intro (fun (hb220 : (vCount (nrm p', sn, qPush (p, sn, hi, tx), []) 3) < ((vCount (p, sn, hi, tx0) 3) + (nI t))) => ?_) (fun (hb220 : ¬ (vCount (nrm p', sn, qPush (p, sn, hi, tx), []) 3) < ((vCount (p, sn, hi, tx0) 3) + (nI t))) => ?_)
                          · exact absurd hb220 (by rw [Int32.lt_iff_toInt_lt, vN3, vN3]; show ¬ (pMinutes p').toInt < (pMinutes p + nI t).toInt; have h9 : (pMinutes p + nI t).toInt = (pMinutes p).toInt + t := (by rw [ti_add] <;> rw [nI_toInt (by omega)] <;> omega); rw [h9]; omega)
                          · refine (show TT T (0, 0) (nrm p', sn, qPush (p, sn, hi, tx), []) 223 [some (.ref 0), some (.int x), some (.long (hLook (p, sn, hi, tx0))), none, some (.int (nI n0)), some (.int (vCount (p, sn, hi, tx0) 16)), some (.int (vCount (p, sn, hi, tx0) 3)), some (.int (vCount (p, sn, hi, tx0) 6)), some (.int 1), some (.int (vCount (p, sn, hi, tx) 15)), some (.int (vFault tx)), some (.int (nI t)), some (.int 0), some (.int 1)] [] from ?_) c hc hq
                            refine tt_seg hT (fun pc => Nat.beq pc 241 || Nat.beq pc 230) 80 (fun c hc hq => ?_)
                            refine And.intro (fun (hb227 : (nI t) = (nI n0)) => ?_) (fun (hb227 : ¬ (nI t) = (nI n0)) => ?_)
                            · refine (show TT T (0, 0) (nrm p', sn, qPush (p, sn, hi, tx), []) 241 [some (.ref 0), some (.int x), some (.long (hLook (p, sn, hi, tx0))), none, some (.int (nI n0)), some (.int (vCount (p, sn, hi, tx0) 16)), some (.int (vCount (p, sn, hi, tx0) 3)), some (.int (vCount (p, sn, hi, tx0) 6)), some (.int 1), some (.int (vCount (p, sn, hi, tx) 15)), some (.int (vFault tx)), some (.int (nI t)), some (.int 0), some (.int 1)] [] from ?_) c hc hq
                              refine tt_seg hT (fun pc => Nat.beq pc 246) 60 (fun c hc hq => ?_)
                              refine (show TT T (0, 0) (nrm p', sn, qPush (p, sn, hi, tx), []) 246 [some (.ref 0), some (.int x), some (.long (hLook (p, sn, hi, tx0))), none, some (.int (nI n0)), some (.int (vCount (p, sn, hi, tx0) 16)), some (.int (vCount (p, sn, hi, tx0) 3)), some (.int (vCount (p, sn, hi, tx0) 6)), some (.int 1), some (.int (vCount (p, sn, hi, tx) 15)), some (.int (vFault tx)), some (.int (nI t)), some (.int 0), some (.int 1)] [.int 1] from ?_) c hc hq
                              exact tt_ret hT rfl rfl (fun c hc hq => ⟨rfl, c, .int 1, rfl, hc, rfl, fun _ => rfl, by rw [hq]; exact ⟨rfl, by rw [show qOf (rX (xw c0)) = (p, sn, hi, tx0) from hq0]; exact ⟨rfl, Or.inr rfl, fun k2 hk2 h2 => ⟨(QI_now h2 (ht5 k2 hk2 h2.1).1).1, (QI_now h2 (ht5 k2 hk2 h2.1).1).2.1, (QI_now h2 (ht5 k2 hk2 h2.1).1).2.2.1, (QI_now h2 (ht5 k2 hk2 h2.1).1).2.2.2⟩⟩⟩⟩)
                            · refine (show TT T (0, 0) (nrm p', sn, qPush (p, sn, hi, tx), []) 230 [some (.ref 0), some (.int x), some (.long (hLook (p, sn, hi, tx0))), none, some (.int (nI n0)), some (.int (vCount (p, sn, hi, tx0) 16)), some (.int (vCount (p, sn, hi, tx0) 3)), some (.int (vCount (p, sn, hi, tx0) 6)), some (.int 1), some (.int (vCount (p, sn, hi, tx) 15)), some (.int (vFault tx)), some (.int (nI t)), some (.int 0), some (.int 1)] [] from ?_) c hc hq
                              refine tt_seg hT (fun pc => Nat.beq pc 233) 60 (fun c hc hq => ?_)
                              refine (show TT T (0, 0) (nrm p', sn, qPush (p, sn, hi, tx), []) 233 [some (.ref 0), some (.int x), some (.long (hLook (p, sn, hi, tx0))), none, some (.int (nI n0)), some (.int (vCount (p, sn, hi, tx0) 16)), some (.int (vCount (p, sn, hi, tx0) 3)), some (.int (vCount (p, sn, hi, tx0) 6)), some (.int 1), some (.int (vCount (p, sn, hi, tx) 15)), some (.int (vFault tx)), some (.int (nI t)), some (.int 0), some (.int 1)] [.int 6, .ref 0] from ?_) c hc hq
                              refine tt_v1 (W := fun q x => (q, vCount q x)) lq_count hT rfl rfl rfl rfl rfl ?_
                              show TT T (0, 0) (nrm p', sn, qPush (p, sn, hi, tx), []) 236 [some (.ref 0), some (.int x), some (.long (hLook (p, sn, hi, tx0))), none, some (.int (nI n0)), some (.int (vCount (p, sn, hi, tx0) 16)), some (.int (vCount (p, sn, hi, tx0) 3)), some (.int (vCount (p, sn, hi, tx0) 6)), some (.int 1), some (.int (vCount (p, sn, hi, tx) 15)), some (.int (vFault tx)), some (.int (nI t)), some (.int 0), some (.int 1)] [.int (vCount (nrm p', sn, qPush (p, sn, hi, tx), []) 6)]
                              refine tt_seg hT (fun pc => Nat.beq pc 245 || Nat.beq pc 241) 80 (fun c hc hq => ?_)
                              refine And.intro (fun (hb238 : (vCount (nrm p', sn, qPush (p, sn, hi, tx), []) 6) ≤ (vCount (p, sn, hi, tx0) 6)) => ?_) (fun (hb238 : ¬ (vCount (nrm p', sn, qPush (p, sn, hi, tx), []) 6) ≤ (vCount (p, sn, hi, tx0) 6)) => ?_)
                              · exact absurd hb238 (by have h8 : crN (pC p) 60 < crN (pC p') 60 := i3.resolve_left (fun e => hb227 (by rw [e])); have h7 := crN_le (pC p') 60; rw [vN6, vN6]; exact Int32.not_le.mpr (show nI (crN (pC p) 60) < nI (crN (pC p') 60) from nI_lt h8 (by omega)))
                              · refine (show TT T (0, 0) (nrm p', sn, qPush (p, sn, hi, tx), []) 241 [some (.ref 0), some (.int x), some (.long (hLook (p, sn, hi, tx0))), none, some (.int (nI n0)), some (.int (vCount (p, sn, hi, tx0) 16)), some (.int (vCount (p, sn, hi, tx0) 3)), some (.int (vCount (p, sn, hi, tx0) 6)), some (.int 1), some (.int (vCount (p, sn, hi, tx) 15)), some (.int (vFault tx)), some (.int (nI t)), some (.int 0), some (.int 1)] [] from ?_) c hc hq
                                refine tt_seg hT (fun pc => Nat.beq pc 246) 60 (fun c hc hq => ?_)
                                refine (show TT T (0, 0) (nrm p', sn, qPush (p, sn, hi, tx), []) 246 [some (.ref 0), some (.int x), some (.long (hLook (p, sn, hi, tx0))), none, some (.int (nI n0)), some (.int (vCount (p, sn, hi, tx0) 16)), some (.int (vCount (p, sn, hi, tx0) 3)), some (.int (vCount (p, sn, hi, tx0) 6)), some (.int 1), some (.int (vCount (p, sn, hi, tx) 15)), some (.int (vFault tx)), some (.int (nI t)), some (.int 0), some (.int 1)] [.int 1] from ?_) c hc hq
                                exact tt_ret hT rfl rfl (fun c hc hq => ⟨rfl, c, .int 1, rfl, hc, rfl, fun _ => rfl, by rw [hq]; exact ⟨rfl, by rw [show qOf (rX (xw c0)) = (p, sn, hi, tx0) from hq0]; exact ⟨rfl, Or.inr rfl, fun k2 hk2 h2 => ⟨(QI_now h2 (ht5 k2 hk2 h2.1).1).1, (QI_now h2 (ht5 k2 hk2 h2.1).1).2.1, (QI_now h2 (ht5 k2 hk2 h2.1).1).2.2.1, (QI_now h2 (ht5 k2 hk2 h2.1).1).2.2.2⟩⟩⟩⟩)
                      · refine (show TT T (0, 0) (nrm p', sn, qPush (p, sn, hi, tx), []) 199 [some (.ref 0), some (.int x), some (.long (hLook (p, sn, hi, tx0))), none, some (.int (nI n0)), some (.int (vCount (p, sn, hi, tx0) 16)), some (.int (vCount (p, sn, hi, tx0) 3)), some (.int (vCount (p, sn, hi, tx0) 6)), some (.int 1), some (.int (vCount (p, sn, hi, tx) 15)), some (.int (vFault tx)), some (.int (nI t)), some (.int 0), some (.int 1)] [.int (nI (if hi.length < 4 then hi.length + 1 else 4))] from ?_) c hc hq
                        refine tt_seg hT (fun pc => Nat.beq pc 245 || Nat.beq pc 210) 80 (fun c hc hq => ?_)
                        refine And.intro (fun (hb207 : ¬ (nI (if hi.length < 4 then hi.length + 1 else 4)) = ((vCount (p, sn, hi, tx0) 16) + 1)) => ?_) (fun (hb207 : (nI (if hi.length < 4 then hi.length + 1 else 4)) = ((vCount (p, sn, hi, tx0) 16) + 1)) => ?_)
                        · exact absurd (by rw [if_pos (by rcases Nat.lt_or_ge hi.length 4 with h | h; exact h; exact absurd (show (4 : Int32) ≤ vCount (p, sn, hi, tx0) 16 from show nI 4 ≤ nI hi.length from nI_le h (by have := hI.2.2.2; show hi.length < 2147483648; have h9 : hi.length ≤ 4 := this; omega)) hb196), nI_succ]; rfl) hb207
                        · refine (show TT T (0, 0) (nrm p', sn, qPush (p, sn, hi, tx), []) 210 [some (.ref 0), some (.int x), some (.long (hLook (p, sn, hi, tx0))), none, some (.int (nI n0)), some (.int (vCount (p, sn, hi, tx0) 16)), some (.int (vCount (p, sn, hi, tx0) 3)), some (.int (vCount (p, sn, hi, tx0) 6)), some (.int 1), some (.int (vCount (p, sn, hi, tx) 15)), some (.int (vFault tx)), some (.int (nI t)), some (.int 0), some (.int 1)] [] from ?_) c hc hq
                          refine tt_seg hT (fun pc => Nat.beq pc 212) 60 (fun c hc hq => ?_)
                          refine (show TT T (0, 0) (nrm p', sn, qPush (p, sn, hi, tx), []) 212 [some (.ref 0), some (.int x), some (.long (hLook (p, sn, hi, tx0))), none, some (.int (nI n0)), some (.int (vCount (p, sn, hi, tx0) 16)), some (.int (vCount (p, sn, hi, tx0) 3)), some (.int (vCount (p, sn, hi, tx0) 6)), some (.int 1), some (.int (vCount (p, sn, hi, tx) 15)), some (.int (vFault tx)), some (.int (nI t)), some (.int 0), some (.int 1)] [.int 3, .ref 0] from ?_) c hc hq
                          refine tt_v1 (W := fun q x => (q, vCount q x)) lq_count hT rfl rfl rfl rfl rfl ?_
                          show TT T (0, 0) (nrm p', sn, qPush (p, sn, hi, tx), []) 215 [some (.ref 0), some (.int x), some (.long (hLook (p, sn, hi, tx0))), none, some (.int (nI n0)), some (.int (vCount (p, sn, hi, tx0) 16)), some (.int (vCount (p, sn, hi, tx0) 3)), some (.int (vCount (p, sn, hi, tx0) 6)), some (.int 1), some (.int (vCount (p, sn, hi, tx) 15)), some (.int (vFault tx)), some (.int (nI t)), some (.int 0), some (.int 1)] [.int (vCount (nrm p', sn, qPush (p, sn, hi, tx), []) 3)]
                          refine tt_seg hT (fun pc => Nat.beq pc 245 || Nat.beq pc 223) 80 (fun c hc hq => ?_)
                          refine And.intro (fun (hb220 : (vCount (nrm p', sn, qPush (p, sn, hi, tx), []) 3) < ((vCount (p, sn, hi, tx0) 3) + (nI t))) => ?_) (fun (hb220 : ¬ (vCount (nrm p', sn, qPush (p, sn, hi, tx), []) 3) < ((vCount (p, sn, hi, tx0) 3) + (nI t))) => ?_)
                          · exact absurd hb220 (by rw [Int32.lt_iff_toInt_lt, vN3, vN3]; show ¬ (pMinutes p').toInt < (pMinutes p + nI t).toInt; have h9 : (pMinutes p + nI t).toInt = (pMinutes p).toInt + t := (by rw [ti_add] <;> rw [nI_toInt (by omega)] <;> omega); rw [h9]; omega)
                          · refine (show TT T (0, 0) (nrm p', sn, qPush (p, sn, hi, tx), []) 223 [some (.ref 0), some (.int x), some (.long (hLook (p, sn, hi, tx0))), none, some (.int (nI n0)), some (.int (vCount (p, sn, hi, tx0) 16)), some (.int (vCount (p, sn, hi, tx0) 3)), some (.int (vCount (p, sn, hi, tx0) 6)), some (.int 1), some (.int (vCount (p, sn, hi, tx) 15)), some (.int (vFault tx)), some (.int (nI t)), some (.int 0), some (.int 1)] [] from ?_) c hc hq
                            refine tt_seg hT (fun pc => Nat.beq pc 241 || Nat.beq pc 230) 80 (fun c hc hq => ?_)
                            refine And.intro (fun (hb227 : (nI t) = (nI n0)) => ?_) (fun (hb227 : ¬ (nI t) = (nI n0)) => ?_)
                            · refine (show TT T (0, 0) (nrm p', sn, qPush (p, sn, hi, tx), []) 241 [some (.ref 0), some (.int x), some (.long (hLook (p, sn, hi, tx0))), none, some (.int (nI n0)), some (.int (vCount (p, sn, hi, tx0) 16)), some (.int (vCount (p, sn, hi, tx0) 3)), some (.int (vCount (p, sn, hi, tx0) 6)), some (.int 1), some (.int (vCount (p, sn, hi, tx) 15)), some (.int (vFault tx)), some (.int (nI t)), some (.int 0), some (.int 1)] [] from ?_) c hc hq
                              refine tt_seg hT (fun pc => Nat.beq pc 246) 60 (fun c hc hq => ?_)
                              refine (show TT T (0, 0) (nrm p', sn, qPush (p, sn, hi, tx), []) 246 [some (.ref 0), some (.int x), some (.long (hLook (p, sn, hi, tx0))), none, some (.int (nI n0)), some (.int (vCount (p, sn, hi, tx0) 16)), some (.int (vCount (p, sn, hi, tx0) 3)), some (.int (vCount (p, sn, hi, tx0) 6)), some (.int 1), some (.int (vCount (p, sn, hi, tx) 15)), some (.int (vFault tx)), some (.int (nI t)), some (.int 0), some (.int 1)] [.int 1] from ?_) c hc hq
                              exact tt_ret hT rfl rfl (fun c hc hq => ⟨rfl, c, .int 1, rfl, hc, rfl, fun _ => rfl, by rw [hq]; exact ⟨rfl, by rw [show qOf (rX (xw c0)) = (p, sn, hi, tx0) from hq0]; exact ⟨rfl, Or.inr rfl, fun k2 hk2 h2 => ⟨(QI_now h2 (ht5 k2 hk2 h2.1).1).1, (QI_now h2 (ht5 k2 hk2 h2.1).1).2.1, (QI_now h2 (ht5 k2 hk2 h2.1).1).2.2.1, (QI_now h2 (ht5 k2 hk2 h2.1).1).2.2.2⟩⟩⟩⟩)
                            · refine (show TT T (0, 0) (nrm p', sn, qPush (p, sn, hi, tx), []) 230 [some (.ref 0), some (.int x), some (.long (hLook (p, sn, hi, tx0))), none, some (.int (nI n0)), some (.int (vCount (p, sn, hi, tx0) 16)), some (.int (vCount (p, sn, hi, tx0) 3)), some (.int (vCount (p, sn, hi, tx0) 6)), some (.int 1), some (.int (vCount (p, sn, hi, tx) 15)), some (.int (vFault tx)), some (.int (nI t)), some (.int 0), some (.int 1)] [] from ?_) c hc hq
                              refine tt_seg hT (fun pc => Nat.beq pc 233) 60 (fun c hc hq => ?_)
                              refine (show TT T (0, 0) (nrm p', sn, qPush (p, sn, hi, tx), []) 233 [some (.ref 0), some (.int x), some (.long (hLook (p, sn, hi, tx0))), none, some (.int (nI n0)), some (.int (vCount (p, sn, hi, tx0) 16)), some (.int (vCount (p, sn, hi, tx0) 3)), some (.int (vCount (p, sn, hi, tx0) 6)), some (.int 1), some (.int (vCount (p, sn, hi, tx) 15)), some (.int (vFault tx)), some (.int (nI t)), some (.int 0), some (.int 1)] [.int 6, .ref 0] from ?_) c hc hq
                              refine tt_v1 (W := fun q x => (q, vCount q x)) lq_count hT rfl rfl rfl rfl rfl ?_
                              show TT T (0, 0) (nrm p', sn, qPush (p, sn, hi, tx), []) 236 [some (.ref 0), some (.int x), some (.long (hLook (p, sn, hi, tx0))), none, some (.int (nI n0)), some (.int (vCount (p, sn, hi, tx0) 16)), some (.int (vCount (p, sn, hi, tx0) 3)), some (.int (vCount (p, sn, hi, tx0) 6)), some (.int 1), some (.int (vCount (p, sn, hi, tx) 15)), some (.int (vFault tx)), some (.int (nI t)), some (.int 0), some (.int 1)] [.int (vCount (nrm p', sn, qPush (p, sn, hi, tx), []) 6)]
                              refine tt_seg hT (fun pc => Nat.beq pc 245 || Nat.beq pc 241) 80 (fun c hc hq => ?_)
                              refine And.intro (fun (hb238 : (vCount (nrm p', sn, qPush (p, sn, hi, tx), []) 6) ≤ (vCount (p, sn, hi, tx0) 6)) => ?_) (fun (hb238 : ¬ (vCount (nrm p', sn, qPush (p, sn, hi, tx), []) 6) ≤ (vCount (p, sn, hi, tx0) 6)) => ?_)
                              · exact absurd hb238 (by have h8 : crN (pC p) 60 < crN (pC p') 60 := i3.resolve_left (fun e => hb227 (by rw [e])); have h7 := crN_le (pC p') 60; rw [vN6, vN6]; exact Int32.not_le.mpr (show nI (crN (pC p) 60) < nI (crN (pC p') 60) from nI_lt h8 (by omega)))
                              · refine (show TT T (0, 0) (nrm p', sn, qPush (p, sn, hi, tx), []) 241 [some (.ref 0), some (.int x), some (.long (hLook (p, sn, hi, tx0))), none, some (.int (nI n0)), some (.int (vCount (p, sn, hi, tx0) 16)), some (.int (vCount (p, sn, hi, tx0) 3)), some (.int (vCount (p, sn, hi, tx0) 6)), some (.int 1), some (.int (vCount (p, sn, hi, tx) 15)), some (.int (vFault tx)), some (.int (nI t)), some (.int 0), some (.int 1)] [] from ?_) c hc hq
                                refine tt_seg hT (fun pc => Nat.beq pc 246) 60 (fun c hc hq => ?_)
                                refine (show TT T (0, 0) (nrm p', sn, qPush (p, sn, hi, tx), []) 246 [some (.ref 0), some (.int x), some (.long (hLook (p, sn, hi, tx0))), none, some (.int (nI n0)), some (.int (vCount (p, sn, hi, tx0) 16)), some (.int (vCount (p, sn, hi, tx0) 3)), some (.int (vCount (p, sn, hi, tx0) 6)), some (.int 1), some (.int (vCount (p, sn, hi, tx) 15)), some (.int (vFault tx)), some (.int (nI t)), some (.int 0), some (.int 1)] [.int 1] from ?_) c hc hq
                                exact tt_ret hT rfl rfl (fun c hc hq => ⟨rfl, c, .int 1, rfl, hc, rfl, fun _ => rfl, by rw [hq]; exact ⟨rfl, by rw [show qOf (rX (xw c0)) = (p, sn, hi, tx0) from hq0]; exact ⟨rfl, Or.inr rfl, fun k2 hk2 h2 => ⟨(QI_now h2 (ht5 k2 hk2 h2.1).1).1, (QI_now h2 (ht5 k2 hk2 h2.1).1).2.1, (QI_now h2 (ht5 k2 hk2 h2.1).1).2.2.1, (QI_now h2 (ht5 k2 hk2 h2.1).1).2.2.2⟩⟩⟩⟩)
            · exact absurd (hv) hb111
        · exact absurd (hv) hb89
      · exact absurd hb77 (fun e => absurd (congrArg Int32.toInt e) (by rw [nI_toInt (by omega), show (-2 : Int32).toInt = -2 from rfl]; omega))
  refine tt_seg hT (fun pc => Nat.beq pc 1) 60 (fun c hc hq => ?_)
  refine (show TT T (0, 0) (p, sn, hi, tx0) 1 [some (.ref 0), some (.int x), none, none, none, none, none, none, none, none, none, none, none, none] [.ref 0] from ?_) c hc hq
  refine tt_r0 (P := fun _ => True) (Q := fun q q' w => q' = q ∧ w = .long (hLook q)) hT rfl rfl rfl rfl rfl trivial ?_
  rintro q' w' ⟨rfl, rfl⟩
  show TT T (0, 0) (p, sn, hi, tx0) 4 [some (.ref 0), some (.int x), none, none, none, none, none, none, none, none, none, none, none, none] [.long (hLook (p, sn, hi, tx0))]
  refine tt_seg hT (fun pc => Nat.beq pc 10) 60 (fun c hc hq => ?_)
  refine And.intro ⟨⟨rfl, rfl⟩, (show ¬ ((5 : Int32) = 0) by decide)⟩ ?_
  refine (show TT T (0, 0) (p, sn, hi, tx0) 10 [some (.ref 0), some (.int x), some (.long (hLook (p, sn, hi, tx0))), none, none, none, none, none, none, none, none, none, none, none] [.int (lowV x 5)] from ?_) c hc hq
  rw [en0]
  refine tt_seg hT (fun pc => Nat.beq pc 15) 60 (fun c hc hq => ?_)
  refine (show TT T (0, 0) (p, sn, hi, tx0) 15 [some (.ref 0), some (.int x), some (.long (hLook (p, sn, hi, tx0))), none, some (.int (nI n0)), none, none, none, none, none, none, none, none, none] [.int 16, .ref 0] from ?_) c hc hq
  refine tt_v1 (W := fun q x => (q, vCount q x)) lq_count hT rfl rfl rfl rfl rfl ?_
  show TT T (0, 0) (p, sn, hi, tx0) 18 [some (.ref 0), some (.int x), some (.long (hLook (p, sn, hi, tx0))), none, some (.int (nI n0)), none, none, none, none, none, none, none, none, none] [.int (vCount (p, sn, hi, tx0) 16)]
  refine tt_seg hT (fun pc => Nat.beq pc 22) 60 (fun c hc hq => ?_)
  refine (show TT T (0, 0) (p, sn, hi, tx0) 22 [some (.ref 0), some (.int x), some (.long (hLook (p, sn, hi, tx0))), none, some (.int (nI n0)), some (.int (vCount (p, sn, hi, tx0) 16)), none, none, none, none, none, none, none, none] [.int 3, .ref 0] from ?_) c hc hq
  refine tt_v1 (W := fun q x => (q, vCount q x)) lq_count hT rfl rfl rfl rfl rfl ?_
  show TT T (0, 0) (p, sn, hi, tx0) 25 [some (.ref 0), some (.int x), some (.long (hLook (p, sn, hi, tx0))), none, some (.int (nI n0)), some (.int (vCount (p, sn, hi, tx0) 16)), none, none, none, none, none, none, none, none] [.int (vCount (p, sn, hi, tx0) 3)]
  refine tt_seg hT (fun pc => Nat.beq pc 30) 60 (fun c hc hq => ?_)
  refine (show TT T (0, 0) (p, sn, hi, tx0) 30 [some (.ref 0), some (.int x), some (.long (hLook (p, sn, hi, tx0))), none, some (.int (nI n0)), some (.int (vCount (p, sn, hi, tx0) 16)), some (.int (vCount (p, sn, hi, tx0) 3)), none, none, none, none, none, none, none] [.int 6, .ref 0] from ?_) c hc hq
  refine tt_v1 (W := fun q x => (q, vCount q x)) lq_count hT rfl rfl rfl rfl rfl ?_
  show TT T (0, 0) (p, sn, hi, tx0) 33 [some (.ref 0), some (.int x), some (.long (hLook (p, sn, hi, tx0))), none, some (.int (nI n0)), some (.int (vCount (p, sn, hi, tx0) 16)), some (.int (vCount (p, sn, hi, tx0) 3)), none, none, none, none, none, none, none] [.int (vCount (p, sn, hi, tx0) 6)]
  refine tt_seg hT (fun pc => Nat.beq pc 37) 60 (fun c hc hq => ?_)
  refine (show TT T (0, 0) (p, sn, hi, tx0) 37 [some (.ref 0), some (.int x), some (.long (hLook (p, sn, hi, tx0))), none, some (.int (nI n0)), some (.int (vCount (p, sn, hi, tx0) 16)), some (.int (vCount (p, sn, hi, tx0) 3)), some (.int (vCount (p, sn, hi, tx0) 6)), none, none, none, none, none, none] [.int x, .ref 0] from ?_) c hc hq
  refine tt_r1 (P := typP) (Q := typQ) hT rfl rfl rfl rfl rfl hlen ?_
  rintro q' w' ⟨rfl, n, tx, hn, en, hty, rfl⟩
  have enn : n0 = n := nI_is (by omega) (by omega) (en0.symm.trans en)
  subst enn
  have htl : tx.length ≤ 60 := by rcases hty with h | ⟨l, hl, rfl⟩; (have := h.1; omega); (rw [List.length_append, List.length_singleton]; omega)
  show TT T (0, 0) (p, sn, hi, tx) 40 [some (.ref 0), some (.int x), some (.long (hLook (p, sn, hi, tx0))), none, some (.int (nI n0)), some (.int (vCount (p, sn, hi, tx0) 16)), some (.int (vCount (p, sn, hi, tx0) 3)), some (.int (vCount (p, sn, hi, tx0) 6)), none, none, none, none, none, none] [.int 1]
  refine tt_seg hT (fun pc => Nat.beq pc 45) 60 (fun c hc hq => ?_)
  refine (show TT T (0, 0) (p, sn, hi, tx) 45 [some (.ref 0), some (.int x), some (.long (hLook (p, sn, hi, tx0))), none, some (.int (nI n0)), some (.int (vCount (p, sn, hi, tx0) 16)), some (.int (vCount (p, sn, hi, tx0) 3)), some (.int (vCount (p, sn, hi, tx0) 6)), some (.int 1), none, none, none, none, none] [.int 15, .ref 0] from ?_) c hc hq
  refine tt_v1 (W := fun q x => (q, vCount q x)) lq_count hT rfl rfl rfl rfl rfl ?_
  show TT T (0, 0) (p, sn, hi, tx) 48 [some (.ref 0), some (.int x), some (.long (hLook (p, sn, hi, tx0))), none, some (.int (nI n0)), some (.int (vCount (p, sn, hi, tx0) 16)), some (.int (vCount (p, sn, hi, tx0) 3)), some (.int (vCount (p, sn, hi, tx0) 6)), some (.int 1), none, none, none, none, none] [.int (vCount (p, sn, hi, tx) 15)]
  refine tt_seg hT (fun pc => Nat.beq pc 51) 60 (fun c hc hq => ?_)
  refine (show TT T (0, 0) (p, sn, hi, tx) 51 [some (.ref 0), some (.int x), some (.long (hLook (p, sn, hi, tx0))), none, some (.int (nI n0)), some (.int (vCount (p, sn, hi, tx0) 16)), some (.int (vCount (p, sn, hi, tx0) 3)), some (.int (vCount (p, sn, hi, tx0) 6)), some (.int 1), some (.int (vCount (p, sn, hi, tx) 15)), none, none, none, none] [.ref 0] from ?_) c hc hq
  refine tt_v0 (W := fun q => (q, vFault q.2.2.2)) aq_fault hT rfl rfl rfl rfl rfl ?_
  show TT T (0, 0) (p, sn, hi, tx) 54 [some (.ref 0), some (.int x), some (.long (hLook (p, sn, hi, tx0))), none, some (.int (nI n0)), some (.int (vCount (p, sn, hi, tx0) 16)), some (.int (vCount (p, sn, hi, tx0) 3)), some (.int (vCount (p, sn, hi, tx0) 6)), some (.int 1), some (.int (vCount (p, sn, hi, tx) 15)), none, none, none, none] [.int (vFault (p, sn, hi, tx).2.2.2)]
  refine tt_seg hT (fun pc => Nat.beq pc 57) 60 (fun c hc hq => ?_)
  refine (show TT T (0, 0) (p, sn, hi, tx) 57 [some (.ref 0), some (.int x), some (.long (hLook (p, sn, hi, tx0))), none, some (.int (nI n0)), some (.int (vCount (p, sn, hi, tx0) 16)), some (.int (vCount (p, sn, hi, tx0) 3)), some (.int (vCount (p, sn, hi, tx0) 6)), some (.int 1), some (.int (vCount (p, sn, hi, tx) 15)), some (.int (vFault (p, sn, hi, tx).2.2.2)), none, none, none] [.ref 0] from ?_) c hc hq
  refine tt_run ⟨k, hk, hI.1⟩ hT rfl rfl rfl rfl rfl ?_
  rintro q' r ⟨hr1, hr2⟩
  by_cases hv : vFault tx = -4
  · obtain ⟨p', t, rfl, rfl, ht1, ht2, ht3, ht4, ht5⟩ := hr2 hv
    exact good tx htl hty p' t ht1 ht2 ht3 ht4 ht5 hv
  · obtain ⟨rfl, rfl⟩ := hr1 hv
    exact bad tx htl hv
set_option maxRecDepth 10000 in
theorem ct_L_runs (l : Launch) : mjCTr l yL_runs cL_runs 14 (some .boolean) rm_L_runs R_L_runs :=
  mjCTr_of (own := RL) (G := G_L_runs) (plainFor_of_name pn_L) rfl ok_L_runs (fun meth hm => ⟨fun pc row h => (I_L_runs_ok pc row h).1, (fun _ _ _ _ h => by cases h), List.forall_mem_cons.mpr ⟨⟨yL_low, cL_low, 2, (some .int), rm_L_low, ct_L_low l, ⟨rfl, rfl⟩, ⟨by decide, by decide⟩, by decide, nk_L_low, ln_L_39, st_L_low⟩, List.forall_mem_cons.mpr ⟨⟨yX6_count, cX6_count, 2, (some .int), rm_X6_count, ct_X6_count l, ⟨rfl, rfl⟩, ⟨by decide, by decide⟩, by decide, by decide, nk_X6_count, ln_L_13, im_X6_count, se_X6_count, rfl⟩, List.forall_mem_cons.mpr ⟨⟨yX6_fault, cX6_fault, 1, (some .int), rm_X6_fault, ct_X6_fault l, ⟨rfl, rfl⟩, ⟨by decide, by decide⟩, by decide, by decide, nk_X6_fault, ln_L_69, im_X6_fault, se_X6_fault, rfl⟩, List.forall_mem_cons.mpr ⟨⟨yX6_run, cX6_run, 3, (some .int), rm_X6_run, ct_X6_run l, ⟨rfl, rfl⟩, ⟨by decide, by decide⟩, by decide, by decide, nk_X6_run, ln_L_72, im_X6_run, se_X6_run, rfl⟩, List.forall_mem_cons.mpr ⟨⟨yX6_clear, cX6_clear, 2, (some .int), rm_X6_clear, ct_X6_clear l, ⟨rfl, rfl⟩, ⟨by decide, by decide⟩, by decide, by decide, nk_X6_clear, ln_L_54, im_X6_clear, se_X6_clear, rfl⟩, fun _ h => absurd h List.not_mem_nil⟩⟩⟩⟩⟩, (fun _ _ _ h => by cases h), (mjcons_ok CN_L_ok), ⟨Nat.zero_le _, Nat.zero_le _⟩, (fun h => by cases h), (fun h => absurd h (by decide)), List.forall_mem_cons.mpr ⟨⟨yL_look, cL_look, 4, (some .long), rm_L_look, ct_L_look l, ⟨rfl, rfl⟩, ⟨by decide, by decide⟩, by decide, nk_L_look, ln_L_62, st_L_look⟩, List.forall_mem_cons.mpr ⟨⟨yL_types, cL_types, 6, (some .boolean), rm_L_types, ct_L_types l, ⟨rfl, rfl⟩, ⟨by decide, by decide⟩, by decide, nk_L_types, ln_L_66, st_L_types⟩, fun _ h => absurd h List.not_mem_nil⟩⟩⟩) rfl rfl rfl (fun pc row h => (I_L_runs_ok pc row h).2)
