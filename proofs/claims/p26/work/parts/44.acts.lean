/-! the law: acts -/
def actsP (q : QSt) (_ _ : Int32) : Prop := actP q ∧ q.2.2.2.length ≤ 60
def actsQ (q : QSt) (_ _ : Int32) (q' : QSt) (w : Value) : Prop := w = .int 1 ∧ stepQ q q'
noncomputable def R_L_acts : mjSr := lr2 actsP actsQ
def rm_L_acts : Room := { frames := 8, cells := 0, slots := 0, locals := 190 }
noncomputable def G_L_acts : mjG := (I_L_acts, (fun _ => none), [(39, 1, 0, 2, 0, 0, S_L_low), (42, 0, 5, 3, 0, 0, S_X6_ifPassed), (13, 0, 5, 2, 0, 0, S_X6_count), (81, 0, 5, 2, 0, 0, S_X6_pass), (84, 0, 5, 3, 0, 0, S_X6_aim), (19, 0, 5, 3, 0, 0, S_X6_cell), (91, 0, 5, 3, 0, 0, S_X6_heat), (94, 0, 5, 3, 0, 0, S_X6_set), (100, 0, 5, 2, 0, 0, S_X6_begin), (36, 0, 5, 2, 0, 0, S_X6_pieces)], (fun pc => bif Nat.beq pc 725 then [] else bif Nat.beq pc 702 then [] else bif Nat.beq pc 692 then [] else bif Nat.beq pc 565 then [] else bif Nat.beq pc 555 then [] else bif Nat.beq pc 409 then [] else bif Nat.beq pc 397 then [] else bif Nat.beq pc 246 then [] else bif Nat.beq pc 233 then [] else bif Nat.beq pc 32 then [] else bif Nat.beq pc 19 then [] else bif Nat.beq pc 3 then [] else [0, 1, 2, 3, 4, 5, 6, 7, 8, 9, 10, 11, 12, 13, 14, 15, 16, 17, 18, 19, 20, 21, 22, 23, 24, 25, 26, 27, 28, 29, 30, 31, 32, 33, 34, 35, 36, 37, 38, 39, 40, 41, 42, 43, 44, 45, 46]), Y0, (fun _ => none), (mjcons CN_L), (some .boolean), 0, 0, false, [(87, 3, R_L_joints), (97, 2, R_L_runs)])
set_option maxHeartbeats 20000000 in
set_option maxRecDepth 100000 in
theorem ok_L_acts : mjOKr G_L_acts 12 R_L_acts := by
  intro M as hP T hT
  obtain ⟨c0, x, y, rfl, rfl, hc0, ⟨⟨k, hk, hI⟩, hlen⟩⟩ : ∃ c x y, M = xw c ∧ as = [.ref 0, .int x, .int y] ∧ cOk c ∧ actsP (qOf c) x y := ⟨_, _, _, hP.1.1, hP.1.2, hP.2.1, hP.2.2⟩
  refine (?_ : TT T (0, 0) (qOf c0) 0 [some (.ref 0), some (.int x), some (.int y), none, none, none, none, none, none, none, none, none] []) c0 hc0 rfl
  generalize hq0 : qOf c0 = q at hI hlen ⊢
  have hb : bOk (bK k) := bK_ok (by omega)
  have hM : MI (bK k) (2000 * (k : Int)) q.1 := hI.1
  have t0 : (0 : Int32).toInt = 0 := rfl
  have t1 : (1 : Int32).toInt = 1 := rfl
  have t20 : (20 : Int32).toInt = 20 := rfl
  have t200 : (200 : Int32).toInt = 200 := rfl
  have tm200 : (-200 : Int32).toInt = -200 := rfl
  have t201 : (201 : Int32).toInt = 201 := rfl
  have t1000 : (1000 : Int32).toInt = 1000 := rfl
  have sett : ∀ h ww vv : Nat, ww < 3 → vv < 23 → TT T (0, 0) q 572 [some (.ref 0), some (.int x), some (.int y), some (.int (nI h)), some (.int (nI ww)), some (.int ((nI vv) - 1)), none, none, none, none, none, none] [] := by
    intro h ww vv hww hvv
    have pv := pred_ti (n := vv) (a := 1) (by omega) (by decide)
    rw [t1] at pv
    rcases (show ww = 0 ∨ ww = 1 ∨ ww = 2 by omega) with rfl | rfl | rfl
    · refine tt_seg hT (fun pc => Nat.beq pc 590 || Nat.beq pc 578) 80 (fun c hc hq => ?_)
      refine And.intro (fun (hb575 : (nI 0) = 2) => ?_) (fun (hb575 : ¬ (nI 0) = 2) => ?_)
      · exact absurd hb575 (by decide)
      · refine (show TT T (0, 0) q 578 [some (.ref 0), some (.int x), some (.int y), some (.int (nI h)), some (.int (nI 0)), some (.int ((nI vv) - 1)), none, none, none, none, none, none] [] from ?_) c hc hq
        refine tt_seg hT (fun pc => Nat.beq pc 590 || Nat.beq pc 583) 80 (fun c hc hq => ?_)
        refine And.intro (fun (hb580 : ((nI vv) - 1) < 0) => ?_) (fun (hb580 : ¬ ((nI vv) - 1) < 0) => ?_)
        · refine (show TT T (0, 0) q 590 [some (.ref 0), some (.int x), some (.int y), some (.int (nI h)), some (.int (nI 0)), some (.int ((nI vv) - 1)), none, none, none, none, none, none] [] from ?_) c hc hq
          refine tt_seg hT (fun pc => Nat.beq pc 607 || Nat.beq pc 603) 80 (fun c hc hq => ?_)
          refine And.intro (fun (hb600 : ¬ (nI 0) = 2) => ?_) (fun (hb600 : (nI 0) = 2) => ?_)
          · refine (show TT T (0, 0) q 607 [some (.ref 0), some (.int x), some (.int y), some (.int (nI h)), some (.int (nI 0)), some (.int ((nI vv) - 1)), some (.int 1), none, none, none, none, none] [] from ?_) c hc hq
            refine tt_seg hT (fun pc => Nat.beq pc 613) 60 (fun c hc hq => ?_)
            refine (show TT T (0, 0) q 613 [some (.ref 0), some (.int x), some (.int y), some (.int (nI h)), some (.int (nI 0)), some (.int ((nI vv) - 1)), some (.int 1), none, none, none, none, none] [.int (12 + (nI 0)), .ref 0] from ?_) c hc hq
            refine tt_k1 (w := vCount) (r := (pLead q.1)) lq_count ((congrArg (vCount q) (show (12 : Int32) + nI 0 = 12 by decide)).trans vN12) hT rfl rfl rfl rfl rfl ?_
            show TT T (0, 0) q 616 [some (.ref 0), some (.int x), some (.int y), some (.int (nI h)), some (.int (nI 0)), some (.int ((nI vv) - 1)), some (.int 1), none, none, none, none, none] [.int (pLead q.1)]
            refine tt_seg hT (fun pc => Nat.beq pc 623) 60 (fun c hc hq => ?_)
            refine (show TT T (0, 0) q 623 [some (.ref 0), some (.int x), some (.int y), some (.int (nI h)), some (.int (nI 0)), some (.int ((nI vv) - 1)), some (.int 1), some (.int (pLead q.1)), none, none, none, none] [.int ((nI vv) - 1), .int (nI 0), .ref 0] from ?_) c hc hq
            refine tt_e2 (W := wSet) (q' := q) (r := (-1)) aq_set (set_no (fun hg => by first | (rw [Int32.lt_iff_toInt_lt, t0] at hb580; omega) | (rw [Int32.le_iff_toInt_le, t20] at hb587; omega))) hT rfl rfl rfl rfl rfl ?_
            show TT T (0, 0) q 626 [some (.ref 0), some (.int x), some (.int y), some (.int (nI h)), some (.int (nI 0)), some (.int ((nI vv) - 1)), some (.int 1), some (.int (pLead q.1)), none, none, none, none] [.int (-1)]
            refine tt_seg hT (fun pc => Nat.beq pc 635 || Nat.beq pc 631) 80 (fun c hc hq => ?_)
            refine And.intro (fun (hb628 : 1 = 0) => ?_) (fun (hb628 : ¬ 1 = 0) => ?_)
            · exact absurd hb628 (by decide)
            · refine (show TT T (0, 0) q 631 [some (.ref 0), some (.int x), some (.int y), some (.int (nI h)), some (.int (nI 0)), some (.int ((nI vv) - 1)), some (.int 1), some (.int (pLead q.1)), none, none, none, none] [.int (-1)] from ?_) c hc hq
              refine tt_seg hT (fun pc => Nat.beq pc 674 || Nat.beq pc 640) 80 (fun c hc hq => ?_)
              refine And.intro (fun (hb637 : ¬ (-1) = (-1)) => ?_) (fun (hb637 : (-1) = (-1)) => ?_)
              · exact absurd (by decide) hb637
              · refine (show TT T (0, 0) q 640 [some (.ref 0), some (.int x), some (.int y), some (.int (nI h)), some (.int (nI 0)), some (.int ((nI vv) - 1)), some (.int 1), some (.int (pLead q.1)), none, none, none, none] [] from ?_) c hc hq
                refine tt_seg hT (fun pc => Nat.beq pc 670 || Nat.beq pc 646) 80 (fun c hc hq => ?_)
                refine And.intro (fun (hb643 : (nI 0) = 2) => ?_) (fun (hb643 : ¬ (nI 0) = 2) => ?_)
                · exact absurd hb643 (by decide)
                · refine (show TT T (0, 0) q 646 [some (.ref 0), some (.int x), some (.int y), some (.int (nI h)), some (.int (nI 0)), some (.int ((nI vv) - 1)), some (.int 1), some (.int (pLead q.1)), none, none, none, none] [] from ?_) c hc hq
                  refine tt_seg hT (fun pc => Nat.beq pc 652) 60 (fun c hc hq => ?_)
                  refine (show TT T (0, 0) q 652 [some (.ref 0), some (.int x), some (.int y), some (.int (nI h)), some (.int (nI 0)), some (.int ((nI vv) - 1)), some (.int 1), some (.int (pLead q.1)), none, none, none, none] [.int (12 + (nI 0)), .ref 0] from ?_) c hc hq
                  refine tt_k1 (w := vCount) (r := (pLead q.1)) lq_count ((congrArg (vCount q) (show (12 : Int32) + nI 0 = 12 by decide)).trans vN12) hT rfl rfl rfl rfl rfl ?_
                  show TT T (0, 0) q 655 [some (.ref 0), some (.int x), some (.int y), some (.int (nI h)), some (.int (nI 0)), some (.int ((nI vv) - 1)), some (.int 1), some (.int (pLead q.1)), none, none, none, none] [.int (pLead q.1)]
                  refine tt_seg hT (fun pc => Nat.beq pc 665 || Nat.beq pc 660) 80 (fun c hc hq => ?_)
                  refine And.intro (fun (hb657 : 1 = 0) => ?_) (fun (hb657 : ¬ 1 = 0) => ?_)
                  · exact absurd hb657 (by decide)
                  · refine (show TT T (0, 0) q 660 [some (.ref 0), some (.int x), some (.int y), some (.int (nI h)), some (.int (nI 0)), some (.int ((nI vv) - 1)), some (.int 1), some (.int (pLead q.1)), none, none, none, none] [.int (pLead q.1)] from ?_) c hc hq
                    refine tt_seg hT (fun pc => Nat.beq pc 674 || Nat.beq pc 670) 80 (fun c hc hq => ?_)
                    refine And.intro (fun (hb667 : ¬ (pLead q.1) = (pLead q.1)) => ?_) (fun (hb667 : (pLead q.1) = (pLead q.1)) => ?_)
                    · exact absurd (rfl) hb667
                    · refine (show TT T (0, 0) q 670 [some (.ref 0), some (.int x), some (.int y), some (.int (nI h)), some (.int (nI 0)), some (.int ((nI vv) - 1)), some (.int 1), some (.int (pLead q.1)), none, none, none, none] [] from ?_) c hc hq
                      refine tt_seg hT (fun pc => Nat.beq pc 675) 60 (fun c hc hq => ?_)
                      refine (show TT T (0, 0) q 675 [some (.ref 0), some (.int x), some (.int y), some (.int (nI h)), some (.int (nI 0)), some (.int ((nI vv) - 1)), some (.int 1), some (.int (pLead q.1)), none, none, none, none] [.int 1] from ?_) c hc hq
                      exact tt_ret hT rfl rfl (fun c hc hq => ⟨rfl, c, .int 1, rfl, hc, rfl, fun _ => rfl, by rw [hq]; exact ⟨rfl, by rw [show qOf (rX (xw c0)) = q from hq0]; exact step_same⟩⟩)
          · exact absurd hb600 (by decide)
        · refine (show TT T (0, 0) q 583 [some (.ref 0), some (.int x), some (.int y), some (.int (nI h)), some (.int (nI 0)), some (.int ((nI vv) - 1)), none, none, none, none, none, none] [] from ?_) c hc hq
          refine tt_seg hT (fun pc => Nat.beq pc 594 || Nat.beq pc 590) 80 (fun c hc hq => ?_)
          refine And.intro (fun (hb587 : ((nI vv) - 1) ≤ 20) => ?_) (fun (hb587 : ¬ ((nI vv) - 1) ≤ 20) => ?_)
          · refine (show TT T (0, 0) q 594 [some (.ref 0), some (.int x), some (.int y), some (.int (nI h)), some (.int (nI 0)), some (.int ((nI vv) - 1)), none, none, none, none, none, none] [] from ?_) c hc hq
            have hg : 0 ≤ (nI vv - 1).toInt ∧ (nI vv - 1).toInt ≤ 20 := by rw [Int32.lt_iff_toInt_lt, t0] at hb580; rw [Int32.le_iff_toInt_le, t20] at hb587; omega
            refine tt_seg hT (fun pc => Nat.beq pc 607 || Nat.beq pc 603) 80 (fun c hc hq => ?_)
            refine And.intro (fun (hb600 : ¬ (nI 0) = 2) => ?_) (fun (hb600 : (nI 0) = 2) => ?_)
            · refine (show TT T (0, 0) q 607 [some (.ref 0), some (.int x), some (.int y), some (.int (nI h)), some (.int (nI 0)), some (.int ((nI vv) - 1)), some (.int 0), none, none, none, none, none] [] from ?_) c hc hq
              refine tt_seg hT (fun pc => Nat.beq pc 613) 60 (fun c hc hq => ?_)
              refine (show TT T (0, 0) q 613 [some (.ref 0), some (.int x), some (.int y), some (.int (nI h)), some (.int (nI 0)), some (.int ((nI vv) - 1)), some (.int 0), none, none, none, none, none] [.int (12 + (nI 0)), .ref 0] from ?_) c hc hq
              refine tt_k1 (w := vCount) (r := (pLead q.1)) lq_count ((congrArg (vCount q) (show (12 : Int32) + nI 0 = 12 by decide)).trans vN12) hT rfl rfl rfl rfl rfl ?_
              show TT T (0, 0) q 616 [some (.ref 0), some (.int x), some (.int y), some (.int (nI h)), some (.int (nI 0)), some (.int ((nI vv) - 1)), some (.int 0), none, none, none, none, none] [.int (pLead q.1)]
              refine tt_seg hT (fun pc => Nat.beq pc 623) 60 (fun c hc hq => ?_)
              refine (show TT T (0, 0) q 623 [some (.ref 0), some (.int x), some (.int y), some (.int (nI h)), some (.int (nI 0)), some (.int ((nI vv) - 1)), some (.int 0), some (.int (pLead q.1)), none, none, none, none] [.int ((nI vv) - 1), .int (nI 0), .ref 0] from ?_) c hc hq
              refine tt_e2 (W := wSet) (q' := (qNow q (pSetLead q.1 ((nI vv) - 1)))) (r := (pLead q.1)) aq_set (set_0 hg) hT rfl rfl rfl rfl rfl ?_
              show TT T (0, 0) (qNow q (pSetLead q.1 ((nI vv) - 1))) 626 [some (.ref 0), some (.int x), some (.int y), some (.int (nI h)), some (.int (nI 0)), some (.int ((nI vv) - 1)), some (.int 0), some (.int (pLead q.1)), none, none, none, none] [.int (pLead q.1)]
              refine tt_seg hT (fun pc => Nat.beq pc 635 || Nat.beq pc 631) 80 (fun c hc hq => ?_)
              refine And.intro (fun (hb628 : 0 = 0) => ?_) (fun (hb628 : ¬ 0 = 0) => ?_)
              · refine (show TT T (0, 0) (qNow q (pSetLead q.1 ((nI vv) - 1))) 635 [some (.ref 0), some (.int x), some (.int y), some (.int (nI h)), some (.int (nI 0)), some (.int ((nI vv) - 1)), some (.int 0), some (.int (pLead q.1)), none, none, none, none] [.int (pLead q.1)] from ?_) c hc hq
                refine tt_seg hT (fun pc => Nat.beq pc 674 || Nat.beq pc 640) 80 (fun c hc hq => ?_)
                refine And.intro (fun (hb637 : ¬ (pLead q.1) = (pLead q.1)) => ?_) (fun (hb637 : (pLead q.1) = (pLead q.1)) => ?_)
                · exact absurd (rfl) hb637
                · refine (show TT T (0, 0) (qNow q (pSetLead q.1 ((nI vv) - 1))) 640 [some (.ref 0), some (.int x), some (.int y), some (.int (nI h)), some (.int (nI 0)), some (.int ((nI vv) - 1)), some (.int 0), some (.int (pLead q.1)), none, none, none, none] [] from ?_) c hc hq
                  refine tt_seg hT (fun pc => Nat.beq pc 670 || Nat.beq pc 646) 80 (fun c hc hq => ?_)
                  refine And.intro (fun (hb643 : (nI 0) = 2) => ?_) (fun (hb643 : ¬ (nI 0) = 2) => ?_)
                  · exact absurd hb643 (by decide)
                  · refine (show TT T (0, 0) (qNow q (pSetLead q.1 ((nI vv) - 1))) 646 [some (.ref 0), some (.int x), some (.int y), some (.int (nI h)), some (.int (nI 0)), some (.int ((nI vv) - 1)), some (.int 0), some (.int (pLead q.1)), none, none, none, none] [] from ?_) c hc hq
                    refine tt_seg hT (fun pc => Nat.beq pc 652) 60 (fun c hc hq => ?_)
                    refine (show TT T (0, 0) (qNow q (pSetLead q.1 ((nI vv) - 1))) 652 [some (.ref 0), some (.int x), some (.int y), some (.int (nI h)), some (.int (nI 0)), some (.int ((nI vv) - 1)), some (.int 0), some (.int (pLead q.1)), none, none, none, none] [.int (12 + (nI 0)), .ref 0] from ?_) c hc hq
                    refine tt_k1 (w := vCount) (r := ((nI vv) - 1)) lq_count ((congrArg (vCount (qNow q (pSetLead q.1 ((nI vv) - 1)))) (show (12 : Int32) + nI 0 = 12 by decide)).trans vN12) hT rfl rfl rfl rfl rfl ?_
                    show TT T (0, 0) (qNow q (pSetLead q.1 ((nI vv) - 1))) 655 [some (.ref 0), some (.int x), some (.int y), some (.int (nI h)), some (.int (nI 0)), some (.int ((nI vv) - 1)), some (.int 0), some (.int (pLead q.1)), none, none, none, none] [.int ((nI vv) - 1)]
                    refine tt_seg hT (fun pc => Nat.beq pc 665 || Nat.beq pc 660) 80 (fun c hc hq => ?_)
                    refine And.intro (fun (hb657 : 0 = 0) => ?_) (fun (hb657 : ¬ 0 = 0) => ?_)
                    · refine (show TT T (0, 0) (qNow q (pSetLead q.1 ((nI vv) - 1))) 665 [some (.ref 0), some (.int x), some (.int y), some (.int (nI h)), some (.int (nI 0)), some (.int ((nI vv) - 1)), some (.int 0), some (.int (pLead q.1)), none, none, none, none] [.int ((nI vv) - 1)] from ?_) c hc hq
                      refine tt_seg hT (fun pc => Nat.beq pc 674 || Nat.beq pc 670) 80 (fun c hc hq => ?_)
                      refine And.intro (fun (hb667 : ¬ ((nI vv) - 1) = ((nI vv) - 1)) => ?_) (fun (hb667 : ((nI vv) - 1) = ((nI vv) - 1)) => ?_)
                      · exact absurd (rfl) hb667
                      · refine (show TT T (0, 0) (qNow q (pSetLead q.1 ((nI vv) - 1))) 670 [some (.ref 0), some (.int x), some (.int y), some (.int (nI h)), some (.int (nI 0)), some (.int ((nI vv) - 1)), some (.int 0), some (.int (pLead q.1)), none, none, none, none] [] from ?_) c hc hq
                        refine tt_seg hT (fun pc => Nat.beq pc 675) 60 (fun c hc hq => ?_)
                        refine (show TT T (0, 0) (qNow q (pSetLead q.1 ((nI vv) - 1))) 675 [some (.ref 0), some (.int x), some (.int y), some (.int (nI h)), some (.int (nI 0)), some (.int ((nI vv) - 1)), some (.int 0), some (.int (pLead q.1)), none, none, none, none] [.int 1] from ?_) c hc hq
                        exact tt_ret hT rfl rfl (fun c hc hq => ⟨rfl, c, .int 1, rfl, hc, rfl, fun _ => rfl, by rw [hq]; exact ⟨rfl, by rw [show qOf (rX (xw c0)) = q from hq0]; exact step_now (fun k hk h => PI_lead h.1 hg)⟩⟩)
                    · exact absurd (by decide) hb657
              · exact absurd (by decide) hb628
            · exact absurd hb600 (by decide)
          · refine (show TT T (0, 0) q 590 [some (.ref 0), some (.int x), some (.int y), some (.int (nI h)), some (.int (nI 0)), some (.int ((nI vv) - 1)), none, none, none, none, none, none] [] from ?_) c hc hq
            refine tt_seg hT (fun pc => Nat.beq pc 607 || Nat.beq pc 603) 80 (fun c hc hq => ?_)
            refine And.intro (fun (hb600 : ¬ (nI 0) = 2) => ?_) (fun (hb600 : (nI 0) = 2) => ?_)
            · refine (show TT T (0, 0) q 607 [some (.ref 0), some (.int x), some (.int y), some (.int (nI h)), some (.int (nI 0)), some (.int ((nI vv) - 1)), some (.int 1), none, none, none, none, none] [] from ?_) c hc hq
              refine tt_seg hT (fun pc => Nat.beq pc 613) 60 (fun c hc hq => ?_)
              refine (show TT T (0, 0) q 613 [some (.ref 0), some (.int x), some (.int y), some (.int (nI h)), some (.int (nI 0)), some (.int ((nI vv) - 1)), some (.int 1), none, none, none, none, none] [.int (12 + (nI 0)), .ref 0] from ?_) c hc hq
              refine tt_k1 (w := vCount) (r := (pLead q.1)) lq_count ((congrArg (vCount q) (show (12 : Int32) + nI 0 = 12 by decide)).trans vN12) hT rfl rfl rfl rfl rfl ?_
              show TT T (0, 0) q 616 [some (.ref 0), some (.int x), some (.int y), some (.int (nI h)), some (.int (nI 0)), some (.int ((nI vv) - 1)), some (.int 1), none, none, none, none, none] [.int (pLead q.1)]
              refine tt_seg hT (fun pc => Nat.beq pc 623) 60 (fun c hc hq => ?_)
              refine (show TT T (0, 0) q 623 [some (.ref 0), some (.int x), some (.int y), some (.int (nI h)), some (.int (nI 0)), some (.int ((nI vv) - 1)), some (.int 1), some (.int (pLead q.1)), none, none, none, none] [.int ((nI vv) - 1), .int (nI 0), .ref 0] from ?_) c hc hq
              refine tt_e2 (W := wSet) (q' := q) (r := (-1)) aq_set (set_no (fun hg => by first | (rw [Int32.lt_iff_toInt_lt, t0] at hb580; omega) | (rw [Int32.le_iff_toInt_le, t20] at hb587; omega))) hT rfl rfl rfl rfl rfl ?_
              show TT T (0, 0) q 626 [some (.ref 0), some (.int x), some (.int y), some (.int (nI h)), some (.int (nI 0)), some (.int ((nI vv) - 1)), some (.int 1), some (.int (pLead q.1)), none, none, none, none] [.int (-1)]
              refine tt_seg hT (fun pc => Nat.beq pc 635 || Nat.beq pc 631) 80 (fun c hc hq => ?_)
              refine And.intro (fun (hb628 : 1 = 0) => ?_) (fun (hb628 : ¬ 1 = 0) => ?_)
              · exact absurd hb628 (by decide)
              · refine (show TT T (0, 0) q 631 [some (.ref 0), some (.int x), some (.int y), some (.int (nI h)), some (.int (nI 0)), some (.int ((nI vv) - 1)), some (.int 1), some (.int (pLead q.1)), none, none, none, none] [.int (-1)] from ?_) c hc hq
                refine tt_seg hT (fun pc => Nat.beq pc 674 || Nat.beq pc 640) 80 (fun c hc hq => ?_)
                refine And.intro (fun (hb637 : ¬ (-1) = (-1)) => ?_) (fun (hb637 : (-1) = (-1)) => ?_)
                · exact absurd (by decide) hb637
                · refine (show TT T (0, 0) q 640 [some (.ref 0), some (.int x), some (.int y), some (.int (nI h)), some (.int (nI 0)), some (.int ((nI vv) - 1)), some (.int 1), some (.int (pLead q.1)), none, none, none, none] [] from ?_) c hc hq
                  refine tt_seg hT (fun pc => Nat.beq pc 670 || Nat.beq pc 646) 80 (fun c hc hq => ?_)
                  refine And.intro (fun (hb643 : (nI 0) = 2) => ?_) (fun (hb643 : ¬ (nI 0) = 2) => ?_)
                  · exact absurd hb643 (by decide)
                  · refine (show TT T (0, 0) q 646 [some (.ref 0), some (.int x), some (.int y), some (.int (nI h)), some (.int (nI 0)), some (.int ((nI vv) - 1)), some (.int 1), some (.int (pLead q.1)), none, none, none, none] [] from ?_) c hc hq
                    refine tt_seg hT (fun pc => Nat.beq pc 652) 60 (fun c hc hq => ?_)
                    refine (show TT T (0, 0) q 652 [some (.ref 0), some (.int x), some (.int y), some (.int (nI h)), some (.int (nI 0)), some (.int ((nI vv) - 1)), some (.int 1), some (.int (pLead q.1)), none, none, none, none] [.int (12 + (nI 0)), .ref 0] from ?_) c hc hq
                    refine tt_k1 (w := vCount) (r := (pLead q.1)) lq_count ((congrArg (vCount q) (show (12 : Int32) + nI 0 = 12 by decide)).trans vN12) hT rfl rfl rfl rfl rfl ?_
                    show TT T (0, 0) q 655 [some (.ref 0), some (.int x), some (.int y), some (.int (nI h)), some (.int (nI 0)), some (.int ((nI vv) - 1)), some (.int 1), some (.int (pLead q.1)), none, none, none, none] [.int (pLead q.1)]
                    refine tt_seg hT (fun pc => Nat.beq pc 665 || Nat.beq pc 660) 80 (fun c hc hq => ?_)
                    refine And.intro (fun (hb657 : 1 = 0) => ?_) (fun (hb657 : ¬ 1 = 0) => ?_)
                    · exact absurd hb657 (by decide)
                    · refine (show TT T (0, 0) q 660 [some (.ref 0), some (.int x), some (.int y), some (.int (nI h)), some (.int (nI 0)), some (.int ((nI vv) - 1)), some (.int 1), some (.int (pLead q.1)), none, none, none, none] [.int (pLead q.1)] from ?_) c hc hq
                      refine tt_seg hT (fun pc => Nat.beq pc 674 || Nat.beq pc 670) 80 (fun c hc hq => ?_)
                      refine And.intro (fun (hb667 : ¬ (pLead q.1) = (pLead q.1)) => ?_) (fun (hb667 : (pLead q.1) = (pLead q.1)) => ?_)
                      · exact absurd (rfl) hb667
                      · refine (show TT T (0, 0) q 670 [some (.ref 0), some (.int x), some (.int y), some (.int (nI h)), some (.int (nI 0)), some (.int ((nI vv) - 1)), some (.int 1), some (.int (pLead q.1)), none, none, none, none] [] from ?_) c hc hq
                        refine tt_seg hT (fun pc => Nat.beq pc 675) 60 (fun c hc hq => ?_)
                        refine (show TT T (0, 0) q 675 [some (.ref 0), some (.int x), some (.int y), some (.int (nI h)), some (.int (nI 0)), some (.int ((nI vv) - 1)), some (.int 1), some (.int (pLead q.1)), none, none, none, none] [.int 1] from ?_) c hc hq
                        exact tt_ret hT rfl rfl (fun c hc hq => ⟨rfl, c, .int 1, rfl, hc, rfl, fun _ => rfl, by rw [hq]; exact ⟨rfl, by rw [show qOf (rX (xw c0)) = q from hq0]; exact step_same⟩⟩)
            · exact absurd hb600 (by decide)
    · refine tt_seg hT (fun pc => Nat.beq pc 590 || Nat.beq pc 578) 80 (fun c hc hq => ?_)
      refine And.intro (fun (hb575 : (nI 1) = 2) => ?_) (fun (hb575 : ¬ (nI 1) = 2) => ?_)
      · exact absurd hb575 (by decide)
      · refine (show TT T (0, 0) q 578 [some (.ref 0), some (.int x), some (.int y), some (.int (nI h)), some (.int (nI 1)), some (.int ((nI vv) - 1)), none, none, none, none, none, none] [] from ?_) c hc hq
        refine tt_seg hT (fun pc => Nat.beq pc 590 || Nat.beq pc 583) 80 (fun c hc hq => ?_)
        refine And.intro (fun (hb580 : ((nI vv) - 1) < 0) => ?_) (fun (hb580 : ¬ ((nI vv) - 1) < 0) => ?_)
        · refine (show TT T (0, 0) q 590 [some (.ref 0), some (.int x), some (.int y), some (.int (nI h)), some (.int (nI 1)), some (.int ((nI vv) - 1)), none, none, none, none, none, none] [] from ?_) c hc hq
          refine tt_seg hT (fun pc => Nat.beq pc 607 || Nat.beq pc 603) 80 (fun c hc hq => ?_)
          refine And.intro (fun (hb600 : ¬ (nI 1) = 2) => ?_) (fun (hb600 : (nI 1) = 2) => ?_)
          · refine (show TT T (0, 0) q 607 [some (.ref 0), some (.int x), some (.int y), some (.int (nI h)), some (.int (nI 1)), some (.int ((nI vv) - 1)), some (.int 1), none, none, none, none, none] [] from ?_) c hc hq
            refine tt_seg hT (fun pc => Nat.beq pc 613) 60 (fun c hc hq => ?_)
            refine (show TT T (0, 0) q 613 [some (.ref 0), some (.int x), some (.int y), some (.int (nI h)), some (.int (nI 1)), some (.int ((nI vv) - 1)), some (.int 1), none, none, none, none, none] [.int (12 + (nI 1)), .ref 0] from ?_) c hc hq
            refine tt_k1 (w := vCount) (r := (pRim q.1)) lq_count ((congrArg (vCount q) (show (12 : Int32) + nI 1 = 13 by decide)).trans vN13) hT rfl rfl rfl rfl rfl ?_
            show TT T (0, 0) q 616 [some (.ref 0), some (.int x), some (.int y), some (.int (nI h)), some (.int (nI 1)), some (.int ((nI vv) - 1)), some (.int 1), none, none, none, none, none] [.int (pRim q.1)]
            refine tt_seg hT (fun pc => Nat.beq pc 623) 60 (fun c hc hq => ?_)
            refine (show TT T (0, 0) q 623 [some (.ref 0), some (.int x), some (.int y), some (.int (nI h)), some (.int (nI 1)), some (.int ((nI vv) - 1)), some (.int 1), some (.int (pRim q.1)), none, none, none, none] [.int ((nI vv) - 1), .int (nI 1), .ref 0] from ?_) c hc hq
            refine tt_e2 (W := wSet) (q' := q) (r := (-1)) aq_set (set_no (fun hg => by first | (rw [Int32.lt_iff_toInt_lt, t0] at hb580; omega) | (rw [Int32.le_iff_toInt_le, t20] at hb587; omega))) hT rfl rfl rfl rfl rfl ?_
            show TT T (0, 0) q 626 [some (.ref 0), some (.int x), some (.int y), some (.int (nI h)), some (.int (nI 1)), some (.int ((nI vv) - 1)), some (.int 1), some (.int (pRim q.1)), none, none, none, none] [.int (-1)]
            refine tt_seg hT (fun pc => Nat.beq pc 635 || Nat.beq pc 631) 80 (fun c hc hq => ?_)
            refine And.intro (fun (hb628 : 1 = 0) => ?_) (fun (hb628 : ¬ 1 = 0) => ?_)
            · exact absurd hb628 (by decide)
            · refine (show TT T (0, 0) q 631 [some (.ref 0), some (.int x), some (.int y), some (.int (nI h)), some (.int (nI 1)), some (.int ((nI vv) - 1)), some (.int 1), some (.int (pRim q.1)), none, none, none, none] [.int (-1)] from ?_) c hc hq
              refine tt_seg hT (fun pc => Nat.beq pc 674 || Nat.beq pc 640) 80 (fun c hc hq => ?_)
              refine And.intro (fun (hb637 : ¬ (-1) = (-1)) => ?_) (fun (hb637 : (-1) = (-1)) => ?_)
              · exact absurd (by decide) hb637
              · refine (show TT T (0, 0) q 640 [some (.ref 0), some (.int x), some (.int y), some (.int (nI h)), some (.int (nI 1)), some (.int ((nI vv) - 1)), some (.int 1), some (.int (pRim q.1)), none, none, none, none] [] from ?_) c hc hq
                refine tt_seg hT (fun pc => Nat.beq pc 670 || Nat.beq pc 646) 80 (fun c hc hq => ?_)
                refine And.intro (fun (hb643 : (nI 1) = 2) => ?_) (fun (hb643 : ¬ (nI 1) = 2) => ?_)
                · exact absurd hb643 (by decide)
                · refine (show TT T (0, 0) q 646 [some (.ref 0), some (.int x), some (.int y), some (.int (nI h)), some (.int (nI 1)), some (.int ((nI vv) - 1)), some (.int 1), some (.int (pRim q.1)), none, none, none, none] [] from ?_) c hc hq
                  refine tt_seg hT (fun pc => Nat.beq pc 652) 60 (fun c hc hq => ?_)
                  refine (show TT T (0, 0) q 652 [some (.ref 0), some (.int x), some (.int y), some (.int (nI h)), some (.int (nI 1)), some (.int ((nI vv) - 1)), some (.int 1), some (.int (pRim q.1)), none, none, none, none] [.int (12 + (nI 1)), .ref 0] from ?_) c hc hq
                  refine tt_k1 (w := vCount) (r := (pRim q.1)) lq_count ((congrArg (vCount q) (show (12 : Int32) + nI 1 = 13 by decide)).trans vN13) hT rfl rfl rfl rfl rfl ?_
                  show TT T (0, 0) q 655 [some (.ref 0), some (.int x), some (.int y), some (.int (nI h)), some (.int (nI 1)), some (.int ((nI vv) - 1)), some (.int 1), some (.int (pRim q.1)), none, none, none, none] [.int (pRim q.1)]
                  refine tt_seg hT (fun pc => Nat.beq pc 665 || Nat.beq pc 660) 80 (fun c hc hq => ?_)
                  refine And.intro (fun (hb657 : 1 = 0) => ?_) (fun (hb657 : ¬ 1 = 0) => ?_)
                  · exact absurd hb657 (by decide)
                  · refine (show TT T (0, 0) q 660 [some (.ref 0), some (.int x), some (.int y), some (.int (nI h)), some (.int (nI 1)), some (.int ((nI vv) - 1)), some (.int 1), some (.int (pRim q.1)), none, none, none, none] [.int (pRim q.1)] from ?_) c hc hq
                    refine tt_seg hT (fun pc => Nat.beq pc 674 || Nat.beq pc 670) 80 (fun c hc hq => ?_)
                    refine And.intro (fun (hb667 : ¬ (pRim q.1) = (pRim q.1)) => ?_) (fun (hb667 : (pRim q.1) = (pRim q.1)) => ?_)
                    · exact absurd (rfl) hb667
                    · refine (show TT T (0, 0) q 670 [some (.ref 0), some (.int x), some (.int y), some (.int (nI h)), some (.int (nI 1)), some (.int ((nI vv) - 1)), some (.int 1), some (.int (pRim q.1)), none, none, none, none] [] from ?_) c hc hq
                      refine tt_seg hT (fun pc => Nat.beq pc 675) 60 (fun c hc hq => ?_)
                      refine (show TT T (0, 0) q 675 [some (.ref 0), some (.int x), some (.int y), some (.int (nI h)), some (.int (nI 1)), some (.int ((nI vv) - 1)), some (.int 1), some (.int (pRim q.1)), none, none, none, none] [.int 1] from ?_) c hc hq
                      exact tt_ret hT rfl rfl (fun c hc hq => ⟨rfl, c, .int 1, rfl, hc, rfl, fun _ => rfl, by rw [hq]; exact ⟨rfl, by rw [show qOf (rX (xw c0)) = q from hq0]; exact step_same⟩⟩)
          · exact absurd hb600 (by decide)
        · refine (show TT T (0, 0) q 583 [some (.ref 0), some (.int x), some (.int y), some (.int (nI h)), some (.int (nI 1)), some (.int ((nI vv) - 1)), none, none, none, none, none, none] [] from ?_) c hc hq
          refine tt_seg hT (fun pc => Nat.beq pc 594 || Nat.beq pc 590) 80 (fun c hc hq => ?_)
          refine And.intro (fun (hb587 : ((nI vv) - 1) ≤ 20) => ?_) (fun (hb587 : ¬ ((nI vv) - 1) ≤ 20) => ?_)
          · refine (show TT T (0, 0) q 594 [some (.ref 0), some (.int x), some (.int y), some (.int (nI h)), some (.int (nI 1)), some (.int ((nI vv) - 1)), none, none, none, none, none, none] [] from ?_) c hc hq
            have hg : 0 ≤ (nI vv - 1).toInt ∧ (nI vv - 1).toInt ≤ 20 := by rw [Int32.lt_iff_toInt_lt, t0] at hb580; rw [Int32.le_iff_toInt_le, t20] at hb587; omega
            refine tt_seg hT (fun pc => Nat.beq pc 607 || Nat.beq pc 603) 80 (fun c hc hq => ?_)
            refine And.intro (fun (hb600 : ¬ (nI 1) = 2) => ?_) (fun (hb600 : (nI 1) = 2) => ?_)
            · refine (show TT T (0, 0) q 607 [some (.ref 0), some (.int x), some (.int y), some (.int (nI h)), some (.int (nI 1)), some (.int ((nI vv) - 1)), some (.int 0), none, none, none, none, none] [] from ?_) c hc hq
              refine tt_seg hT (fun pc => Nat.beq pc 613) 60 (fun c hc hq => ?_)
              refine (show TT T (0, 0) q 613 [some (.ref 0), some (.int x), some (.int y), some (.int (nI h)), some (.int (nI 1)), some (.int ((nI vv) - 1)), some (.int 0), none, none, none, none, none] [.int (12 + (nI 1)), .ref 0] from ?_) c hc hq
              refine tt_k1 (w := vCount) (r := (pRim q.1)) lq_count ((congrArg (vCount q) (show (12 : Int32) + nI 1 = 13 by decide)).trans vN13) hT rfl rfl rfl rfl rfl ?_
              show TT T (0, 0) q 616 [some (.ref 0), some (.int x), some (.int y), some (.int (nI h)), some (.int (nI 1)), some (.int ((nI vv) - 1)), some (.int 0), none, none, none, none, none] [.int (pRim q.1)]
              refine tt_seg hT (fun pc => Nat.beq pc 623) 60 (fun c hc hq => ?_)
              refine (show TT T (0, 0) q 623 [some (.ref 0), some (.int x), some (.int y), some (.int (nI h)), some (.int (nI 1)), some (.int ((nI vv) - 1)), some (.int 0), some (.int (pRim q.1)), none, none, none, none] [.int ((nI vv) - 1), .int (nI 1), .ref 0] from ?_) c hc hq
              refine tt_e2 (W := wSet) (q' := (qNow q (pSetRim q.1 ((nI vv) - 1)))) (r := (pRim q.1)) aq_set (set_1 hg) hT rfl rfl rfl rfl rfl ?_
              show TT T (0, 0) (qNow q (pSetRim q.1 ((nI vv) - 1))) 626 [some (.ref 0), some (.int x), some (.int y), some (.int (nI h)), some (.int (nI 1)), some (.int ((nI vv) - 1)), some (.int 0), some (.int (pRim q.1)), none, none, none, none] [.int (pRim q.1)]
              refine tt_seg hT (fun pc => Nat.beq pc 635 || Nat.beq pc 631) 80 (fun c hc hq => ?_)
              refine And.intro (fun (hb628 : 0 = 0) => ?_) (fun (hb628 : ¬ 0 = 0) => ?_)
              · refine (show TT T (0, 0) (qNow q (pSetRim q.1 ((nI vv) - 1))) 635 [some (.ref 0), some (.int x), some (.int y), some (.int (nI h)), some (.int (nI 1)), some (.int ((nI vv) - 1)), some (.int 0), some (.int (pRim q.1)), none, none, none, none] [.int (pRim q.1)] from ?_) c hc hq
                refine tt_seg hT (fun pc => Nat.beq pc 674 || Nat.beq pc 640) 80 (fun c hc hq => ?_)
                refine And.intro (fun (hb637 : ¬ (pRim q.1) = (pRim q.1)) => ?_) (fun (hb637 : (pRim q.1) = (pRim q.1)) => ?_)
                · exact absurd (rfl) hb637
                · refine (show TT T (0, 0) (qNow q (pSetRim q.1 ((nI vv) - 1))) 640 [some (.ref 0), some (.int x), some (.int y), some (.int (nI h)), some (.int (nI 1)), some (.int ((nI vv) - 1)), some (.int 0), some (.int (pRim q.1)), none, none, none, none] [] from ?_) c hc hq
                  refine tt_seg hT (fun pc => Nat.beq pc 670 || Nat.beq pc 646) 80 (fun c hc hq => ?_)
                  refine And.intro (fun (hb643 : (nI 1) = 2) => ?_) (fun (hb643 : ¬ (nI 1) = 2) => ?_)
                  · exact absurd hb643 (by decide)
                  · refine (show TT T (0, 0) (qNow q (pSetRim q.1 ((nI vv) - 1))) 646 [some (.ref 0), some (.int x), some (.int y), some (.int (nI h)), some (.int (nI 1)), some (.int ((nI vv) - 1)), some (.int 0), some (.int (pRim q.1)), none, none, none, none] [] from ?_) c hc hq
                    refine tt_seg hT (fun pc => Nat.beq pc 652) 60 (fun c hc hq => ?_)
                    refine (show TT T (0, 0) (qNow q (pSetRim q.1 ((nI vv) - 1))) 652 [some (.ref 0), some (.int x), some (.int y), some (.int (nI h)), some (.int (nI 1)), some (.int ((nI vv) - 1)), some (.int 0), some (.int (pRim q.1)), none, none, none, none] [.int (12 + (nI 1)), .ref 0] from ?_) c hc hq
                    refine tt_k1 (w := vCount) (r := ((nI vv) - 1)) lq_count ((congrArg (vCount (qNow q (pSetRim q.1 ((nI vv) - 1)))) (show (12 : Int32) + nI 1 = 13 by decide)).trans vN13) hT rfl rfl rfl rfl rfl ?_
                    show TT T (0, 0) (qNow q (pSetRim q.1 ((nI vv) - 1))) 655 [some (.ref 0), some (.int x), some (.int y), some (.int (nI h)), some (.int (nI 1)), some (.int ((nI vv) - 1)), some (.int 0), some (.int (pRim q.1)), none, none, none, none] [.int ((nI vv) - 1)]
                    refine tt_seg hT (fun pc => Nat.beq pc 665 || Nat.beq pc 660) 80 (fun c hc hq => ?_)
                    refine And.intro (fun (hb657 : 0 = 0) => ?_) (fun (hb657 : ¬ 0 = 0) => ?_)
                    · refine (show TT T (0, 0) (qNow q (pSetRim q.1 ((nI vv) - 1))) 665 [some (.ref 0), some (.int x), some (.int y), some (.int (nI h)), some (.int (nI 1)), some (.int ((nI vv) - 1)), some (.int 0), some (.int (pRim q.1)), none, none, none, none] [.int ((nI vv) - 1)] from ?_) c hc hq
                      refine tt_seg hT (fun pc => Nat.beq pc 674 || Nat.beq pc 670) 80 (fun c hc hq => ?_)
                      refine And.intro (fun (hb667 : ¬ ((nI vv) - 1) = ((nI vv) - 1)) => ?_) (fun (hb667 : ((nI vv) - 1) = ((nI vv) - 1)) => ?_)
                      · exact absurd (rfl) hb667
                      · refine (show TT T (0, 0) (qNow q (pSetRim q.1 ((nI vv) - 1))) 670 [some (.ref 0), some (.int x), some (.int y), some (.int (nI h)), some (.int (nI 1)), some (.int ((nI vv) - 1)), some (.int 0), some (.int (pRim q.1)), none, none, none, none] [] from ?_) c hc hq
                        refine tt_seg hT (fun pc => Nat.beq pc 675) 60 (fun c hc hq => ?_)
                        refine (show TT T (0, 0) (qNow q (pSetRim q.1 ((nI vv) - 1))) 675 [some (.ref 0), some (.int x), some (.int y), some (.int (nI h)), some (.int (nI 1)), some (.int ((nI vv) - 1)), some (.int 0), some (.int (pRim q.1)), none, none, none, none] [.int 1] from ?_) c hc hq
                        exact tt_ret hT rfl rfl (fun c hc hq => ⟨rfl, c, .int 1, rfl, hc, rfl, fun _ => rfl, by rw [hq]; exact ⟨rfl, by rw [show qOf (rX (xw c0)) = q from hq0]; exact step_now (fun k hk h => PI_rim h.1 hg)⟩⟩)
                    · exact absurd (by decide) hb657
              · exact absurd (by decide) hb628
            · exact absurd hb600 (by decide)
          · refine (show TT T (0, 0) q 590 [some (.ref 0), some (.int x), some (.int y), some (.int (nI h)), some (.int (nI 1)), some (.int ((nI vv) - 1)), none, none, none, none, none, none] [] from ?_) c hc hq
            refine tt_seg hT (fun pc => Nat.beq pc 607 || Nat.beq pc 603) 80 (fun c hc hq => ?_)
            refine And.intro (fun (hb600 : ¬ (nI 1) = 2) => ?_) (fun (hb600 : (nI 1) = 2) => ?_)
            · refine (show TT T (0, 0) q 607 [some (.ref 0), some (.int x), some (.int y), some (.int (nI h)), some (.int (nI 1)), some (.int ((nI vv) - 1)), some (.int 1), none, none, none, none, none] [] from ?_) c hc hq
              refine tt_seg hT (fun pc => Nat.beq pc 613) 60 (fun c hc hq => ?_)
              refine (show TT T (0, 0) q 613 [some (.ref 0), some (.int x), some (.int y), some (.int (nI h)), some (.int (nI 1)), some (.int ((nI vv) - 1)), some (.int 1), none, none, none, none, none] [.int (12 + (nI 1)), .ref 0] from ?_) c hc hq
              refine tt_k1 (w := vCount) (r := (pRim q.1)) lq_count ((congrArg (vCount q) (show (12 : Int32) + nI 1 = 13 by decide)).trans vN13) hT rfl rfl rfl rfl rfl ?_
              show TT T (0, 0) q 616 [some (.ref 0), some (.int x), some (.int y), some (.int (nI h)), some (.int (nI 1)), some (.int ((nI vv) - 1)), some (.int 1), none, none, none, none, none] [.int (pRim q.1)]
              refine tt_seg hT (fun pc => Nat.beq pc 623) 60 (fun c hc hq => ?_)
              refine (show TT T (0, 0) q 623 [some (.ref 0), some (.int x), some (.int y), some (.int (nI h)), some (.int (nI 1)), some (.int ((nI vv) - 1)), some (.int 1), some (.int (pRim q.1)), none, none, none, none] [.int ((nI vv) - 1), .int (nI 1), .ref 0] from ?_) c hc hq
              refine tt_e2 (W := wSet) (q' := q) (r := (-1)) aq_set (set_no (fun hg => by first | (rw [Int32.lt_iff_toInt_lt, t0] at hb580; omega) | (rw [Int32.le_iff_toInt_le, t20] at hb587; omega))) hT rfl rfl rfl rfl rfl ?_
              show TT T (0, 0) q 626 [some (.ref 0), some (.int x), some (.int y), some (.int (nI h)), some (.int (nI 1)), some (.int ((nI vv) - 1)), some (.int 1), some (.int (pRim q.1)), none, none, none, none] [.int (-1)]
              refine tt_seg hT (fun pc => Nat.beq pc 635 || Nat.beq pc 631) 80 (fun c hc hq => ?_)
              refine And.intro (fun (hb628 : 1 = 0) => ?_) (fun (hb628 : ¬ 1 = 0) => ?_)
              · exact absurd hb628 (by decide)
              · refine (show TT T (0, 0) q 631 [some (.ref 0), some (.int x), some (.int y), some (.int (nI h)), some (.int (nI 1)), some (.int ((nI vv) - 1)), some (.int 1), some (.int (pRim q.1)), none, none, none, none] [.int (-1)] from ?_) c hc hq
                refine tt_seg hT (fun pc => Nat.beq pc 674 || Nat.beq pc 640) 80 (fun c hc hq => ?_)
                refine And.intro (fun (hb637 : ¬ (-1) = (-1)) => ?_) (fun (hb637 : (-1) = (-1)) => ?_)
                · exact absurd (by decide) hb637
                · refine (show TT T (0, 0) q 640 [some (.ref 0), some (.int x), some (.int y), some (.int (nI h)), some (.int (nI 1)), some (.int ((nI vv) - 1)), some (.int 1), some (.int (pRim q.1)), none, none, none, none] [] from ?_) c hc hq
                  refine tt_seg hT (fun pc => Nat.beq pc 670 || Nat.beq pc 646) 80 (fun c hc hq => ?_)
                  refine And.intro (fun (hb643 : (nI 1) = 2) => ?_) (fun (hb643 : ¬ (nI 1) = 2) => ?_)
                  · exact absurd hb643 (by decide)
                  · refine (show TT T (0, 0) q 646 [some (.ref 0), some (.int x), some (.int y), some (.int (nI h)), some (.int (nI 1)), some (.int ((nI vv) - 1)), some (.int 1), some (.int (pRim q.1)), none, none, none, none] [] from ?_) c hc hq
                    refine tt_seg hT (fun pc => Nat.beq pc 652) 60 (fun c hc hq => ?_)
                    refine (show TT T (0, 0) q 652 [some (.ref 0), some (.int x), some (.int y), some (.int (nI h)), some (.int (nI 1)), some (.int ((nI vv) - 1)), some (.int 1), some (.int (pRim q.1)), none, none, none, none] [.int (12 + (nI 1)), .ref 0] from ?_) c hc hq
                    refine tt_k1 (w := vCount) (r := (pRim q.1)) lq_count ((congrArg (vCount q) (show (12 : Int32) + nI 1 = 13 by decide)).trans vN13) hT rfl rfl rfl rfl rfl ?_
                    show TT T (0, 0) q 655 [some (.ref 0), some (.int x), some (.int y), some (.int (nI h)), some (.int (nI 1)), some (.int ((nI vv) - 1)), some (.int 1), some (.int (pRim q.1)), none, none, none, none] [.int (pRim q.1)]
                    refine tt_seg hT (fun pc => Nat.beq pc 665 || Nat.beq pc 660) 80 (fun c hc hq => ?_)
                    refine And.intro (fun (hb657 : 1 = 0) => ?_) (fun (hb657 : ¬ 1 = 0) => ?_)
                    · exact absurd hb657 (by decide)
                    · refine (show TT T (0, 0) q 660 [some (.ref 0), some (.int x), some (.int y), some (.int (nI h)), some (.int (nI 1)), some (.int ((nI vv) - 1)), some (.int 1), some (.int (pRim q.1)), none, none, none, none] [.int (pRim q.1)] from ?_) c hc hq
                      refine tt_seg hT (fun pc => Nat.beq pc 674 || Nat.beq pc 670) 80 (fun c hc hq => ?_)
                      refine And.intro (fun (hb667 : ¬ (pRim q.1) = (pRim q.1)) => ?_) (fun (hb667 : (pRim q.1) = (pRim q.1)) => ?_)
                      · exact absurd (rfl) hb667
                      · refine (show TT T (0, 0) q 670 [some (.ref 0), some (.int x), some (.int y), some (.int (nI h)), some (.int (nI 1)), some (.int ((nI vv) - 1)), some (.int 1), some (.int (pRim q.1)), none, none, none, none] [] from ?_) c hc hq
                        refine tt_seg hT (fun pc => Nat.beq pc 675) 60 (fun c hc hq => ?_)
                        refine (show TT T (0, 0) q 675 [some (.ref 0), some (.int x), some (.int y), some (.int (nI h)), some (.int (nI 1)), some (.int ((nI vv) - 1)), some (.int 1), some (.int (pRim q.1)), none, none, none, none] [.int 1] from ?_) c hc hq
                        exact tt_ret hT rfl rfl (fun c hc hq => ⟨rfl, c, .int 1, rfl, hc, rfl, fun _ => rfl, by rw [hq]; exact ⟨rfl, by rw [show qOf (rX (xw c0)) = q from hq0]; exact step_same⟩⟩)
            · exact absurd hb600 (by decide)
    · refine tt_seg hT (fun pc => Nat.beq pc 590 || Nat.beq pc 578) 80 (fun c hc hq => ?_)
      refine And.intro (fun (hb575 : (nI 2) = 2) => ?_) (fun (hb575 : ¬ (nI 2) = 2) => ?_)
      · refine (show TT T (0, 0) q 590 [some (.ref 0), some (.int x), some (.int y), some (.int (nI h)), some (.int (nI 2)), some (.int ((nI vv) - 1)), none, none, none, none, none, none] [] from ?_) c hc hq
        refine tt_seg hT (fun pc => Nat.beq pc 607 || Nat.beq pc 603) 80 (fun c hc hq => ?_)
        refine And.intro (fun (hb600 : ¬ (nI 2) = 2) => ?_) (fun (hb600 : (nI 2) = 2) => ?_)
        · exact absurd (rfl) hb600
        · refine (show TT T (0, 0) q 603 [some (.ref 0), some (.int x), some (.int y), some (.int (nI h)), some (.int (nI 2)), some (.int ((nI vv) - 1)), some (.int 1), none, none, none, none, none] [] from ?_) c hc hq
          refine tt_seg hT (fun pc => Nat.beq pc 623) 60 (fun c hc hq => ?_)
          refine (show TT T (0, 0) q 623 [some (.ref 0), some (.int x), some (.int y), some (.int (nI h)), some (.int (nI 2)), some (.int ((nI vv) - 1)), some (.int 1), some (.int 0), none, none, none, none] [.int ((nI vv) - 1), .int (nI 2), .ref 0] from ?_) c hc hq
          refine tt_e2 (W := wSet) (q' := q) (r := (-1)) aq_set (set_no (fun hg => absurd hg.1.2 (by decide))) hT rfl rfl rfl rfl rfl ?_
          show TT T (0, 0) q 626 [some (.ref 0), some (.int x), some (.int y), some (.int (nI h)), some (.int (nI 2)), some (.int ((nI vv) - 1)), some (.int 1), some (.int 0), none, none, none, none] [.int (-1)]
          refine tt_seg hT (fun pc => Nat.beq pc 635 || Nat.beq pc 631) 80 (fun c hc hq => ?_)
          refine And.intro (fun (hb628 : 1 = 0) => ?_) (fun (hb628 : ¬ 1 = 0) => ?_)
          · exact absurd hb628 (by decide)
          · refine (show TT T (0, 0) q 631 [some (.ref 0), some (.int x), some (.int y), some (.int (nI h)), some (.int (nI 2)), some (.int ((nI vv) - 1)), some (.int 1), some (.int 0), none, none, none, none] [.int (-1)] from ?_) c hc hq
            refine tt_seg hT (fun pc => Nat.beq pc 674 || Nat.beq pc 640) 80 (fun c hc hq => ?_)
            refine And.intro (fun (hb637 : ¬ (-1) = (-1)) => ?_) (fun (hb637 : (-1) = (-1)) => ?_)
            · exact absurd (by decide) hb637
            · refine (show TT T (0, 0) q 640 [some (.ref 0), some (.int x), some (.int y), some (.int (nI h)), some (.int (nI 2)), some (.int ((nI vv) - 1)), some (.int 1), some (.int 0), none, none, none, none] [] from ?_) c hc hq
              refine tt_seg hT (fun pc => Nat.beq pc 670 || Nat.beq pc 646) 80 (fun c hc hq => ?_)
              refine And.intro (fun (hb643 : (nI 2) = 2) => ?_) (fun (hb643 : ¬ (nI 2) = 2) => ?_)
              · refine (show TT T (0, 0) q 670 [some (.ref 0), some (.int x), some (.int y), some (.int (nI h)), some (.int (nI 2)), some (.int ((nI vv) - 1)), some (.int 1), some (.int 0), none, none, none, none] [] from ?_) c hc hq
                refine tt_seg hT (fun pc => Nat.beq pc 675) 60 (fun c hc hq => ?_)
                refine (show TT T (0, 0) q 675 [some (.ref 0), some (.int x), some (.int y), some (.int (nI h)), some (.int (nI 2)), some (.int ((nI vv) - 1)), some (.int 1), some (.int 0), none, none, none, none] [.int 1] from ?_) c hc hq
                exact tt_ret hT rfl rfl (fun c hc hq => ⟨rfl, c, .int 1, rfl, hc, rfl, fun _ => rfl, by rw [hq]; exact ⟨rfl, by rw [show qOf (rX (xw c0)) = q from hq0]; exact step_same⟩⟩)
              · exact absurd (rfl) hb643
      · exact absurd (rfl) hb575
  have begt : ∀ h tb : Nat, tb < 1002 → TT T (0, 0) q 697 [some (.ref 0), some (.int x), some (.int y), some (.int (nI h)), some (.int (nI tb)), none, none, none, none, none, none, none] [] := by
    intro h tb htb
    obtain ⟨lo, hlo, elo⟩ : ∃ j : Nat, j < 2 ∧ lowV (y >>> (10 &&& 31)) 2 = nI j := low_n _ 2 (by decide) (by decide)
    by_cases hbig : tb = 1001
    · refine tt_seg hT (fun pc => Nat.beq pc 705) 60 (fun c hc hq => ?_)
      refine And.intro ⟨⟨rfl, rfl⟩, (show ¬ ((2 : Int32) = 0) by decide)⟩ ?_
      refine (show TT T (0, 0) q 705 [some (.ref 0), some (.int x), some (.int y), some (.int (nI h)), some (.int (nI tb)), none, none, none, none, none, none, none] [.int (lowV (y >>> (10 &&& 31)) 2)] from ?_) c hc hq
      rw [elo]
      refine tt_seg hT (fun pc => Nat.beq pc 712 || Nat.beq pc 708) 80 (fun c hc hq => ?_)
      refine And.intro (fun (hb705 : ¬ (nI lo) = 0) => ?_) (fun (hb705 : (nI lo) = 0) => ?_)
      · refine (show TT T (0, 0) q 712 [some (.ref 0), some (.int x), some (.int y), some (.int (nI h)), some (.int (nI tb)), none, none, none, none, none, none, none] [] from ?_) c hc hq
        refine tt_seg hT (fun pc => Nat.beq pc 715) 60 (fun c hc hq => ?_)
        refine (show TT T (0, 0) q 715 [some (.ref 0), some (.int x), some (.int y), some (.int (nI h)), some (.int (nI tb)), none, none, none, none, none, none, none] [.int (nI tb), .ref 0] from ?_) c hc hq
        refine tt_e1 (W := wBegin) (q' := q) (r := (-1)) aq_begin (beg_no (by omega) (by omega)) hT rfl rfl rfl rfl rfl ?_
        show TT T (0, 0) q 718 [some (.ref 0), some (.int x), some (.int y), some (.int (nI h)), some (.int (nI tb)), none, none, none, none, none, none, none] [.int (-1)]
        refine tt_seg hT (fun pc => Nat.beq pc 728) 60 (fun c hc hq => ?_)
        refine And.intro ⟨⟨rfl, rfl⟩, (show ¬ ((2 : Int32) = 0) by decide)⟩ ?_
        refine (show TT T (0, 0) q 728 [some (.ref 0), some (.int x), some (.int y), some (.int (nI h)), some (.int (nI tb)), some (.int (-1)), none, none, none, none, none, none] [.int (lowV (y >>> (10 &&& 31)) 2)] from ?_) c hc hq
        rw [elo]
        refine tt_seg hT (fun pc => Nat.beq pc 833 || Nat.beq pc 731) 80 (fun c hc hq => ?_)
        refine And.intro (fun (hb728 : (nI lo) = 0) => ?_) (fun (hb728 : ¬ (nI lo) = 0) => ?_)
        · exact absurd hb728 (hb705)
        · refine (show TT T (0, 0) q 731 [some (.ref 0), some (.int x), some (.int y), some (.int (nI h)), some (.int (nI tb)), some (.int (-1)), none, none, none, none, none, none] [] from ?_) c hc hq
          refine tt_seg hT (fun pc => Nat.beq pc 748 || Nat.beq pc 739) 80 (fun c hc hq => ?_)
          refine And.intro (fun (hb736 : ¬ (nI tb) = 1001) => ?_) (fun (hb736 : (nI tb) = 1001) => ?_)
          · exact absurd (nI_e hbig) hb736
          · refine (show TT T (0, 0) q 739 [some (.ref 0), some (.int x), some (.int y), some (.int (nI h)), some (.int (nI tb)), some (.int (-1)), none, none, none, none, none, none] [] from ?_) c hc hq
            refine tt_seg hT (fun pc => Nat.beq pc 837 || Nat.beq pc 745) 80 (fun c hc hq => ?_)
            refine And.intro (fun (hb742 : ¬ (-1) = (-1)) => ?_) (fun (hb742 : (-1) = (-1)) => ?_)
            · exact absurd (by decide) hb742
            · refine (show TT T (0, 0) q 745 [some (.ref 0), some (.int x), some (.int y), some (.int (nI h)), some (.int (nI tb)), some (.int (-1)), none, none, none, none, none, none] [] from ?_) c hc hq
              refine tt_seg hT (fun pc => Nat.beq pc 838) 60 (fun c hc hq => ?_)
              refine (show TT T (0, 0) q 838 [some (.ref 0), some (.int x), some (.int y), some (.int (nI h)), some (.int (nI tb)), some (.int (-1)), none, none, none, none, none, none] [.int 1] from ?_) c hc hq
              exact tt_ret hT rfl rfl (fun c hc hq => ⟨rfl, c, .int 1, rfl, hc, rfl, fun _ => rfl, by rw [hq]; exact ⟨rfl, by rw [show qOf (rX (xw c0)) = q from hq0]; exact step_same⟩⟩)
      · refine (show TT T (0, 0) q 708 [some (.ref 0), some (.int x), some (.int y), some (.int (nI h)), some (.int (nI tb)), none, none, none, none, none, none, none] [] from ?_) c hc hq
        refine tt_seg hT (fun pc => Nat.beq pc 728) 60 (fun c hc hq => ?_)
        refine And.intro ⟨⟨rfl, rfl⟩, (show ¬ ((2 : Int32) = 0) by decide)⟩ ?_
        refine (show TT T (0, 0) q 728 [some (.ref 0), some (.int x), some (.int y), some (.int (nI h)), some (.int (nI tb)), some (.int 0), none, none, none, none, none, none] [.int (lowV (y >>> (10 &&& 31)) 2)] from ?_) c hc hq
        rw [elo]
        refine tt_seg hT (fun pc => Nat.beq pc 833 || Nat.beq pc 731) 80 (fun c hc hq => ?_)
        refine And.intro (fun (hb728 : (nI lo) = 0) => ?_) (fun (hb728 : ¬ (nI lo) = 0) => ?_)
        · refine (show TT T (0, 0) q 833 [some (.ref 0), some (.int x), some (.int y), some (.int (nI h)), some (.int (nI tb)), some (.int 0), none, none, none, none, none, none] [] from ?_) c hc hq
          refine tt_seg hT (fun pc => Nat.beq pc 838) 60 (fun c hc hq => ?_)
          refine (show TT T (0, 0) q 838 [some (.ref 0), some (.int x), some (.int y), some (.int (nI h)), some (.int (nI tb)), some (.int 0), none, none, none, none, none, none] [.int 1] from ?_) c hc hq
          exact tt_ret hT rfl rfl (fun c hc hq => ⟨rfl, c, .int 1, rfl, hc, rfl, fun _ => rfl, by rw [hq]; exact ⟨rfl, by rw [show qOf (rX (xw c0)) = q from hq0]; exact step_same⟩⟩)
        · exact absurd (hb705) hb728
    · refine tt_seg hT (fun pc => Nat.beq pc 705) 60 (fun c hc hq => ?_)
      refine And.intro ⟨⟨rfl, rfl⟩, (show ¬ ((2 : Int32) = 0) by decide)⟩ ?_
      refine (show TT T (0, 0) q 705 [some (.ref 0), some (.int x), some (.int y), some (.int (nI h)), some (.int (nI tb)), none, none, none, none, none, none, none] [.int (lowV (y >>> (10 &&& 31)) 2)] from ?_) c hc hq
      rw [elo]
      refine tt_seg hT (fun pc => Nat.beq pc 712 || Nat.beq pc 708) 80 (fun c hc hq => ?_)
      refine And.intro (fun (hb705 : ¬ (nI lo) = 0) => ?_) (fun (hb705 : (nI lo) = 0) => ?_)
      · refine (show TT T (0, 0) q 712 [some (.ref 0), some (.int x), some (.int y), some (.int (nI h)), some (.int (nI tb)), none, none, none, none, none, none, none] [] from ?_) c hc hq
        refine tt_seg hT (fun pc => Nat.beq pc 715) 60 (fun c hc hq => ?_)
        refine (show TT T (0, 0) q 715 [some (.ref 0), some (.int x), some (.int y), some (.int (nI h)), some (.int (nI tb)), none, none, none, none, none, none, none] [.int (nI tb), .ref 0] from ?_) c hc hq
        refine tt_e1 (W := wBegin) (q' := (qNow q (pNew q.1 (nI tb)))) (r := (36 * nI tb)) aq_begin (beg_w (by omega)) hT rfl rfl rfl rfl rfl ?_
        show TT T (0, 0) (qNow q (pNew q.1 (nI tb))) 718 [some (.ref 0), some (.int x), some (.int y), some (.int (nI h)), some (.int (nI tb)), none, none, none, none, none, none, none] [.int (36 * nI tb)]
        refine tt_seg hT (fun pc => Nat.beq pc 728) 60 (fun c hc hq => ?_)
        refine And.intro ⟨⟨rfl, rfl⟩, (show ¬ ((2 : Int32) = 0) by decide)⟩ ?_
        refine (show TT T (0, 0) (qNow q (pNew q.1 (nI tb))) 728 [some (.ref 0), some (.int x), some (.int y), some (.int (nI h)), some (.int (nI tb)), some (.int (36 * nI tb)), none, none, none, none, none, none] [.int (lowV (y >>> (10 &&& 31)) 2)] from ?_) c hc hq
        rw [elo]
        refine tt_seg hT (fun pc => Nat.beq pc 833 || Nat.beq pc 731) 80 (fun c hc hq => ?_)
        refine And.intro (fun (hb728 : (nI lo) = 0) => ?_) (fun (hb728 : ¬ (nI lo) = 0) => ?_)
        · exact absurd hb728 (hb705)
        · refine (show TT T (0, 0) (qNow q (pNew q.1 (nI tb))) 731 [some (.ref 0), some (.int x), some (.int y), some (.int (nI h)), some (.int (nI tb)), some (.int (36 * nI tb)), none, none, none, none, none, none] [] from ?_) c hc hq
          refine tt_seg hT (fun pc => Nat.beq pc 748 || Nat.beq pc 739) 80 (fun c hc hq => ?_)
          refine And.intro (fun (hb736 : ¬ (nI tb) = 1001) => ?_) (fun (hb736 : (nI tb) = 1001) => ?_)
          · refine (show TT T (0, 0) (qNow q (pNew q.1 (nI tb))) 748 [some (.ref 0), some (.int x), some (.int y), some (.int (nI h)), some (.int (nI tb)), some (.int (36 * nI tb)), none, none, none, none, none, none] [] from ?_) c hc hq
            refine tt_seg hT (fun pc => Nat.beq pc 837 || Nat.beq pc 758) 80 (fun c hc hq => ?_)
            refine And.intro (fun (hb755 : ¬ (36 * nI tb) = (36 * (nI tb))) => ?_) (fun (hb755 : (36 * nI tb) = (36 * (nI tb))) => ?_)
            · exact absurd (rfl) hb755
            · refine (show TT T (0, 0) (qNow q (pNew q.1 (nI tb))) 758 [some (.ref 0), some (.int x), some (.int y), some (.int (nI h)), some (.int (nI tb)), some (.int (36 * nI tb)), none, none, none, none, none, none] [] from ?_) c hc hq
              refine tt_seg hT (fun pc => Nat.beq pc 760) 60 (fun c hc hq => ?_)
              refine (show TT T (0, 0) (qNow q (pNew q.1 (nI tb))) 760 [some (.ref 0), some (.int x), some (.int y), some (.int (nI h)), some (.int (nI tb)), some (.int (36 * nI tb)), none, none, none, none, none, none] [.int 0, .ref 0] from ?_) c hc hq
              refine tt_k1 (w := vCount) (r := (nI tb)) lq_count (vN0) hT rfl rfl rfl rfl rfl ?_
              show TT T (0, 0) (qNow q (pNew q.1 (nI tb))) 763 [some (.ref 0), some (.int x), some (.int y), some (.int (nI h)), some (.int (nI tb)), some (.int (36 * nI tb)), none, none, none, none, none, none] [.int (nI tb)]
              refine tt_seg hT (fun pc => Nat.beq pc 837 || Nat.beq pc 768) 80 (fun c hc hq => ?_)
              refine And.intro (fun (hb765 : ¬ (nI tb) = (nI tb)) => ?_) (fun (hb765 : (nI tb) = (nI tb)) => ?_)
              · exact absurd (rfl) hb765
              · refine (show TT T (0, 0) (qNow q (pNew q.1 (nI tb))) 768 [some (.ref 0), some (.int x), some (.int y), some (.int (nI h)), some (.int (nI tb)), some (.int (36 * nI tb)), none, none, none, none, none, none] [] from ?_) c hc hq
                refine tt_seg hT (fun pc => Nat.beq pc 770) 60 (fun c hc hq => ?_)
                refine (show TT T (0, 0) (qNow q (pNew q.1 (nI tb))) 770 [some (.ref 0), some (.int x), some (.int y), some (.int (nI h)), some (.int (nI tb)), some (.int (36 * nI tb)), none, none, none, none, none, none] [.int 1, .ref 0] from ?_) c hc hq
                refine tt_k1 (w := vCount) (r := (nI tb)) lq_count (vN1) hT rfl rfl rfl rfl rfl ?_
                show TT T (0, 0) (qNow q (pNew q.1 (nI tb))) 773 [some (.ref 0), some (.int x), some (.int y), some (.int (nI h)), some (.int (nI tb)), some (.int (36 * nI tb)), none, none, none, none, none, none] [.int (nI tb)]
                refine tt_seg hT (fun pc => Nat.beq pc 837 || Nat.beq pc 778) 80 (fun c hc hq => ?_)
                refine And.intro (fun (hb775 : ¬ (nI tb) = (nI tb)) => ?_) (fun (hb775 : (nI tb) = (nI tb)) => ?_)
                · exact absurd (rfl) hb775
                · refine (show TT T (0, 0) (qNow q (pNew q.1 (nI tb))) 778 [some (.ref 0), some (.int x), some (.int y), some (.int (nI h)), some (.int (nI tb)), some (.int (36 * nI tb)), none, none, none, none, none, none] [] from ?_) c hc hq
                  refine tt_seg hT (fun pc => Nat.beq pc 780) 60 (fun c hc hq => ?_)
                  refine (show TT T (0, 0) (qNow q (pNew q.1 (nI tb))) 780 [some (.ref 0), some (.int x), some (.int y), some (.int (nI h)), some (.int (nI tb)), some (.int (36 * nI tb)), none, none, none, none, none, none] [.int 3, .ref 0] from ?_) c hc hq
                  refine tt_k1 (w := vCount) (r := 0) lq_count (vN3) hT rfl rfl rfl rfl rfl ?_
                  show TT T (0, 0) (qNow q (pNew q.1 (nI tb))) 783 [some (.ref 0), some (.int x), some (.int y), some (.int (nI h)), some (.int (nI tb)), some (.int (36 * nI tb)), none, none, none, none, none, none] [.int 0]
                  refine tt_seg hT (fun pc => Nat.beq pc 785) 60 (fun c hc hq => ?_)
                  refine (show TT T (0, 0) (qNow q (pNew q.1 (nI tb))) 785 [some (.ref 0), some (.int x), some (.int y), some (.int (nI h)), some (.int (nI tb)), some (.int (36 * nI tb)), none, none, none, none, none, none] [.int 5, .ref 0, .int 0] from ?_) c hc hq
                  refine tt_k1 (w := vCount) (r := 0) lq_count (vN5) hT rfl rfl rfl rfl rfl ?_
                  show TT T (0, 0) (qNow q (pNew q.1 (nI tb))) 788 [some (.ref 0), some (.int x), some (.int y), some (.int (nI h)), some (.int (nI tb)), some (.int (36 * nI tb)), none, none, none, none, none, none] [.int 0, .int 0]
                  refine tt_seg hT (fun pc => Nat.beq pc 792) 60 (fun c hc hq => ?_)
                  refine (show TT T (0, 0) (qNow q (pNew q.1 (nI tb))) 792 [some (.ref 0), some (.int x), some (.int y), some (.int (nI h)), some (.int (nI tb)), some (.int (36 * nI tb)), none, none, none, none, none, none] [.int 6, .ref 0, .int (0 + 0)] from ?_) c hc hq
                  refine tt_k1 (w := vCount) (r := 0) lq_count (beg_6) hT rfl rfl rfl rfl rfl ?_
                  show TT T (0, 0) (qNow q (pNew q.1 (nI tb))) 795 [some (.ref 0), some (.int x), some (.int y), some (.int (nI h)), some (.int (nI tb)), some (.int (36 * nI tb)), none, none, none, none, none, none] [.int 0, .int (0 + 0)]
                  refine tt_seg hT (fun pc => Nat.beq pc 799) 60 (fun c hc hq => ?_)
                  refine (show TT T (0, 0) (qNow q (pNew q.1 (nI tb))) 799 [some (.ref 0), some (.int x), some (.int y), some (.int (nI h)), some (.int (nI tb)), some (.int (36 * nI tb)), none, none, none, none, none, none] [.int 9, .ref 0, .int ((0 + 0) + 0)] from ?_) c hc hq
                  refine tt_k1 (w := vCount) (r := 0) lq_count (beg_9) hT rfl rfl rfl rfl rfl ?_
                  show TT T (0, 0) (qNow q (pNew q.1 (nI tb))) 802 [some (.ref 0), some (.int x), some (.int y), some (.int (nI h)), some (.int (nI tb)), some (.int (36 * nI tb)), none, none, none, none, none, none] [.int 0, .int ((0 + 0) + 0)]
                  refine tt_seg hT (fun pc => Nat.beq pc 806) 60 (fun c hc hq => ?_)
                  refine (show TT T (0, 0) (qNow q (pNew q.1 (nI tb))) 806 [some (.ref 0), some (.int x), some (.int y), some (.int (nI h)), some (.int (nI tb)), some (.int (36 * nI tb)), none, none, none, none, none, none] [.int 14, .ref 0, .int (((0 + 0) + 0) + 0)] from ?_) c hc hq
                  refine tt_k1 (w := vCount) (r := 0) lq_count (vN14) hT rfl rfl rfl rfl rfl ?_
                  show TT T (0, 0) (qNow q (pNew q.1 (nI tb))) 809 [some (.ref 0), some (.int x), some (.int y), some (.int (nI h)), some (.int (nI tb)), some (.int (36 * nI tb)), none, none, none, none, none, none] [.int 0, .int (((0 + 0) + 0) + 0)]
                  refine tt_seg hT (fun pc => Nat.beq pc 837 || Nat.beq pc 813) 80 (fun c hc hq => ?_)
                  refine And.intro (fun (hb810 : ¬ ((((0 + 0) + 0) + 0) + 0) = 0) => ?_) (fun (hb810 : ((((0 + 0) + 0) + 0) + 0) = 0) => ?_)
                  · exact absurd (by decide) hb810
                  · refine (show TT T (0, 0) (qNow q (pNew q.1 (nI tb))) 813 [some (.ref 0), some (.int x), some (.int y), some (.int (nI h)), some (.int (nI tb)), some (.int (36 * nI tb)), none, none, none, none, none, none] [] from ?_) c hc hq
                    refine tt_seg hT (fun pc => Nat.beq pc 816) 60 (fun c hc hq => ?_)
                    refine (show TT T (0, 0) (qNow q (pNew q.1 (nI tb))) 816 [some (.ref 0), some (.int x), some (.int y), some (.int (nI h)), some (.int (nI tb)), some (.int (36 * nI tb)), none, none, none, none, none, none] [.int 10, .ref 0] from ?_) c hc hq
                    refine tt_k1 (w := vCount) (r := 100) lq_count (beg_10) hT rfl rfl rfl rfl rfl ?_
                    show TT T (0, 0) (qNow q (pNew q.1 (nI tb))) 819 [some (.ref 0), some (.int x), some (.int y), some (.int (nI h)), some (.int (nI tb)), some (.int (36 * nI tb)), none, none, none, none, none, none] [.int 100]
                    refine tt_seg hT (fun pc => Nat.beq pc 837 || Nat.beq pc 824) 80 (fun c hc hq => ?_)
                    refine And.intro (fun (hb821 : ¬ 100 = 100) => ?_) (fun (hb821 : 100 = 100) => ?_)
                    · exact absurd (by decide) hb821
                    · refine (show TT T (0, 0) (qNow q (pNew q.1 (nI tb))) 824 [some (.ref 0), some (.int x), some (.int y), some (.int (nI h)), some (.int (nI tb)), some (.int (36 * nI tb)), none, none, none, none, none, none] [] from ?_) c hc hq
                      refine tt_seg hT (fun pc => Nat.beq pc 826) 60 (fun c hc hq => ?_)
                      refine (show TT T (0, 0) (qNow q (pNew q.1 (nI tb))) 826 [some (.ref 0), some (.int x), some (.int y), some (.int (nI h)), some (.int (nI tb)), some (.int (36 * nI tb)), none, none, none, none, none, none] [.int 0, .ref 0] from ?_) c hc hq
                      refine tt_k1 (w := fun q x => vPieces q.1 x) (r := 1) lq_pieces (beg_p) hT rfl rfl rfl rfl rfl ?_
                      show TT T (0, 0) (qNow q (pNew q.1 (nI tb))) 829 [some (.ref 0), some (.int x), some (.int y), some (.int (nI h)), some (.int (nI tb)), some (.int (36 * nI tb)), none, none, none, none, none, none] [.int 1]
                      refine tt_seg hT (fun pc => Nat.beq pc 837 || Nat.beq pc 833) 80 (fun c hc hq => ?_)
                      refine And.intro (fun (hb830 : ¬ 1 = 1) => ?_) (fun (hb830 : 1 = 1) => ?_)
                      · exact absurd (by decide) hb830
                      · refine (show TT T (0, 0) (qNow q (pNew q.1 (nI tb))) 833 [some (.ref 0), some (.int x), some (.int y), some (.int (nI h)), some (.int (nI tb)), some (.int (36 * nI tb)), none, none, none, none, none, none] [] from ?_) c hc hq
                        refine tt_seg hT (fun pc => Nat.beq pc 838) 60 (fun c hc hq => ?_)
                        refine (show TT T (0, 0) (qNow q (pNew q.1 (nI tb))) 838 [some (.ref 0), some (.int x), some (.int y), some (.int (nI h)), some (.int (nI tb)), some (.int (36 * nI tb)), none, none, none, none, none, none] [.int 1] from ?_) c hc hq
                        exact tt_ret hT rfl rfl (fun c hc hq => ⟨rfl, c, .int 1, rfl, hc, rfl, fun _ => rfl, by rw [hq]; exact ⟨rfl, by rw [show qOf (rX (xw c0)) = q from hq0]; exact step_now (fun k hk h => PI_new h.1 (by rw [nI_toInt (by omega)]; omega))⟩⟩)
          · exact absurd hb736 (fun e => hbig ((nI_eq (a := tb) (b := 1001) (by omega) (by decide)).mp e))
      · refine (show TT T (0, 0) q 708 [some (.ref 0), some (.int x), some (.int y), some (.int (nI h)), some (.int (nI tb)), none, none, none, none, none, none, none] [] from ?_) c hc hq
        refine tt_seg hT (fun pc => Nat.beq pc 728) 60 (fun c hc hq => ?_)
        refine And.intro ⟨⟨rfl, rfl⟩, (show ¬ ((2 : Int32) = 0) by decide)⟩ ?_
        refine (show TT T (0, 0) q 728 [some (.ref 0), some (.int x), some (.int y), some (.int (nI h)), some (.int (nI tb)), some (.int 0), none, none, none, none, none, none] [.int (lowV (y >>> (10 &&& 31)) 2)] from ?_) c hc hq
        rw [elo]
        refine tt_seg hT (fun pc => Nat.beq pc 833 || Nat.beq pc 731) 80 (fun c hc hq => ?_)
        refine And.intro (fun (hb728 : (nI lo) = 0) => ?_) (fun (hb728 : ¬ (nI lo) = 0) => ?_)
        · refine (show TT T (0, 0) q 833 [some (.ref 0), some (.int x), some (.int y), some (.int (nI h)), some (.int (nI tb)), some (.int 0), none, none, none, none, none, none] [] from ?_) c hc hq
          refine tt_seg hT (fun pc => Nat.beq pc 838) 60 (fun c hc hq => ?_)
          refine (show TT T (0, 0) q 838 [some (.ref 0), some (.int x), some (.int y), some (.int (nI h)), some (.int (nI tb)), some (.int 0), none, none, none, none, none, none] [.int 1] from ?_) c hc hq
          exact tt_ret hT rfl rfl (fun c hc hq => ⟨rfl, c, .int 1, rfl, hc, rfl, fun _ => rfl, by rw [hq]; exact ⟨rfl, by rw [show qOf (rX (xw c0)) = q from hq0]; exact step_same⟩⟩)
        · exact absurd (hb705) hb728
  refine tt_seg hT (fun pc => Nat.beq pc 6) 60 (fun c hc hq => ?_)
  refine And.intro ⟨⟨rfl, rfl⟩, (show ¬ ((24 : Int32) = 0) by decide)⟩ ?_
  refine (show TT T (0, 0) q 6 [some (.ref 0), some (.int x), some (.int y), none, none, none, none, none, none, none, none, none] [.int (lowV x 24)] from ?_) c hc hq
  obtain ⟨h, hh, eh⟩ : ∃ j : Nat, j < 24 ∧ lowV x 24 = nI j := low_n x 24 (by decide) (by decide)
  rw [eh]
  refine tt_seg hT (fun pc => Nat.beq pc 223 || Nat.beq pc 13) 80 (fun c hc hq => ?_)
  refine And.intro (fun (hb10 : 7 ≤ (nI h)) => ?_) (fun (hb10 : ¬ 7 ≤ (nI h)) => ?_)
  · refine (show TT T (0, 0) q 223 [some (.ref 0), some (.int x), some (.int y), some (.int (nI h)), none, none, none, none, none, none, none, none] [] from ?_) c hc hq
    refine tt_seg hT (fun pc => Nat.beq pc 365 || Nat.beq pc 229) 80 (fun c hc hq => ?_)
    refine And.intro (fun (hb226 : 11 ≤ (nI h)) => ?_) (fun (hb226 : ¬ 11 ≤ (nI h)) => ?_)
    · refine (show TT T (0, 0) q 365 [some (.ref 0), some (.int x), some (.int y), some (.int (nI h)), none, none, none, none, none, none, none, none] [] from ?_) c hc hq
      refine tt_seg hT (fun pc => Nat.beq pc 388 || Nat.beq pc 371) 80 (fun c hc hq => ?_)
      refine And.intro (fun (hb368 : 16 ≤ (nI h)) => ?_) (fun (hb368 : ¬ 16 ≤ (nI h)) => ?_)
      · refine (show TT T (0, 0) q 388 [some (.ref 0), some (.int x), some (.int y), some (.int (nI h)), none, none, none, none, none, none, none, none] [] from ?_) c hc hq
        refine tt_seg hT (fun pc => Nat.beq pc 547 || Nat.beq pc 394) 80 (fun c hc hq => ?_)
        refine And.intro (fun (hb391 : 18 ≤ (nI h)) => ?_) (fun (hb391 : ¬ 18 ≤ (nI h)) => ?_)
        · refine (show TT T (0, 0) q 547 [some (.ref 0), some (.int x), some (.int y), some (.int (nI h)), none, none, none, none, none, none, none, none] [] from ?_) c hc hq
          refine tt_seg hT (fun pc => Nat.beq pc 676 || Nat.beq pc 553) 80 (fun c hc hq => ?_)
          refine And.intro (fun (hb550 : ¬ (nI h) = 18) => ?_) (fun (hb550 : (nI h) = 18) => ?_)
          · refine (show TT T (0, 0) q 676 [some (.ref 0), some (.int x), some (.int y), some (.int (nI h)), none, none, none, none, none, none, none, none] [] from ?_) c hc hq
            refine tt_seg hT (fun pc => Nat.beq pc 688 || Nat.beq pc 682) 80 (fun c hc hq => ?_)
            refine And.intro (fun (hb679 : 23 ≤ (nI h)) => ?_) (fun (hb679 : ¬ 23 ≤ (nI h)) => ?_)
            · refine (show TT T (0, 0) q 688 [some (.ref 0), some (.int x), some (.int y), some (.int (nI h)), none, none, none, none, none, none, none, none] [] from ?_) c hc hq
              refine tt_seg hT (fun pc => Nat.beq pc 695) 60 (fun c hc hq => ?_)
              refine And.intro ⟨⟨rfl, rfl⟩, (show ¬ ((1002 : Int32) = 0) by decide)⟩ ?_
              refine (show TT T (0, 0) q 695 [some (.ref 0), some (.int x), some (.int y), some (.int (nI h)), none, none, none, none, none, none, none, none] [.int (lowV y 1002)] from ?_) c hc hq
              obtain ⟨tb, htb, etb⟩ : ∃ j : Nat, j < 1002 ∧ lowV y 1002 = nI j := low_n y 1002 (by decide) (by decide)
              rw [etb]
              refine tt_seg hT (fun pc => Nat.beq pc 697) 60 (fun c hc hq => ?_)
              refine (show TT T (0, 0) q 697 [some (.ref 0), some (.int x), some (.int y), some (.int (nI h)), some (.int (nI tb)), none, none, none, none, none, none, none] [] from ?_) c hc hq
              exact begt h tb htb
            · refine (show TT T (0, 0) q 682 [some (.ref 0), some (.int x), some (.int y), some (.int (nI h)), none, none, none, none, none, none, none, none] [] from ?_) c hc hq
              refine tt_seg hT (fun pc => Nat.beq pc 684) 60 (fun c hc hq => ?_)
              refine (show TT T (0, 0) q 684 [some (.ref 0), some (.int x), some (.int y), some (.int (nI h)), none, none, none, none, none, none, none, none] [.int y, .ref 0] from ?_) c hc hq
              refine tt_r1 (P := runsP) (Q := runsQ) hT rfl rfl rfl rfl rfl ⟨⟨k, hk, hI⟩, hlen⟩ ?_
              rintro q' w' ⟨rfl, hst⟩
              show TT T (0, 0) q' 687 [some (.ref 0), some (.int x), some (.int y), some (.int (nI h)), none, none, none, none, none, none, none, none] [.int 1]
              exact tt_ret hT rfl rfl (fun c hc hq => ⟨rfl, c, .int 1, rfl, hc, rfl, fun _ => rfl, by rw [hq]; exact ⟨rfl, by rw [show qOf (rX (xw c0)) = q from hq0]; exact hst⟩⟩)
          · refine (show TT T (0, 0) q 553 [some (.ref 0), some (.int x), some (.int y), some (.int (nI h)), none, none, none, none, none, none, none, none] [] from ?_) c hc hq
            refine tt_seg hT (fun pc => Nat.beq pc 558) 60 (fun c hc hq => ?_)
            refine And.intro ⟨⟨rfl, rfl⟩, (show ¬ ((3 : Int32) = 0) by decide)⟩ ?_
            refine (show TT T (0, 0) q 558 [some (.ref 0), some (.int x), some (.int y), some (.int (nI h)), none, none, none, none, none, none, none, none] [.int (lowV y 3)] from ?_) c hc hq
            obtain ⟨ww, hww, eww⟩ : ∃ j : Nat, j < 3 ∧ lowV y 3 = nI j := low_n y 3 (by decide) (by decide)
            rw [eww]
            refine tt_seg hT (fun pc => Nat.beq pc 568) 60 (fun c hc hq => ?_)
            refine And.intro ⟨⟨rfl, rfl⟩, (show ¬ ((23 : Int32) = 0) by decide)⟩ ?_
            refine (show TT T (0, 0) q 568 [some (.ref 0), some (.int x), some (.int y), some (.int (nI h)), some (.int (nI ww)), none, none, none, none, none, none, none] [.int (lowV (y >>> (2 &&& 31)) 23)] from ?_) c hc hq
            obtain ⟨vv, hvv, evv⟩ : ∃ j : Nat, j < 23 ∧ lowV (y >>> (2 &&& 31)) 23 = nI j := low_n (y >>> (2 &&& 31)) 23 (by decide) (by decide)
            rw [evv]
            refine tt_seg hT (fun pc => Nat.beq pc 572) 60 (fun c hc hq => ?_)
            refine (show TT T (0, 0) q 572 [some (.ref 0), some (.int x), some (.int y), some (.int (nI h)), some (.int (nI ww)), some (.int ((nI vv) - 1)), none, none, none, none, none, none] [] from ?_) c hc hq
            exact sett h ww vv hww hvv
        · refine (show TT T (0, 0) q 394 [some (.ref 0), some (.int x), some (.int y), some (.int (nI h)), none, none, none, none, none, none, none, none] [] from ?_) c hc hq
          refine tt_seg hT (fun pc => Nat.beq pc 400) 60 (fun c hc hq => ?_)
          refine And.intro ⟨⟨rfl, rfl⟩, (show ¬ ((37 : Int32) = 0) by decide)⟩ ?_
          refine (show TT T (0, 0) q 400 [some (.ref 0), some (.int x), some (.int y), some (.int (nI h)), none, none, none, none, none, none, none, none] [.int (lowV y 37)] from ?_) c hc hq
          obtain ⟨cc, hcc, ecc⟩ : ∃ j : Nat, j < 37 ∧ lowV y 37 = nI j := low_n y 37 (by decide) (by decide)
          rw [ecc]
          refine tt_seg hT (fun pc => Nat.beq pc 412) 60 (fun c hc hq => ?_)
          refine And.intro ⟨⟨rfl, rfl⟩, (show ¬ ((403 : Int32) = 0) by decide)⟩ ?_
          refine (show TT T (0, 0) q 412 [some (.ref 0), some (.int x), some (.int y), some (.int (nI h)), some (.int (nI cc)), none, none, none, none, none, none, none] [.int (lowV (y >>> (6 &&& 31)) 403)] from ?_) c hc hq
          obtain ⟨bb, hbb, ebb⟩ : ∃ j : Nat, j < 403 ∧ lowV (y >>> (6 &&& 31)) 403 = nI j := low_n (y >>> (6 &&& 31)) 403 (by decide) (by decide)
          have pb := pred_ti (n := bb) (a := 201) (by omega) (by decide)
          rw [t201] at pb
          rw [ebb]
          refine tt_seg hT (fun pc => Nat.beq pc 441 || Nat.beq pc 425) 80 (fun c hc hq => ?_)
          refine And.intro (fun (hb422 : (nI cc) = 36) => ?_) (fun (hb422 : ¬ (nI cc) = 36) => ?_)
          · refine (show TT T (0, 0) q 441 [some (.ref 0), some (.int x), some (.int y), some (.int (nI h)), some (.int (nI cc)), some (.int ((nI bb) - 201)), none, none, none, none, none, none] [] from ?_) c hc hq
            refine tt_seg hT (fun pc => Nat.beq pc 457 || Nat.beq pc 453) 80 (fun c hc hq => ?_)
            refine And.intro (fun (hb450 : 1 = 0) => ?_) (fun (hb450 : ¬ 1 = 0) => ?_)
            · exact absurd hb450 (by decide)
            · refine (show TT T (0, 0) q 453 [some (.ref 0), some (.int x), some (.int y), some (.int (nI h)), some (.int (nI cc)), some (.int ((nI bb) - 201)), some (.int 1), none, none, none, none, none] [] from ?_) c hc hq
              refine tt_seg hT (fun pc => Nat.beq pc 469) 60 (fun c hc hq => ?_)
              refine (show TT T (0, 0) q 469 [some (.ref 0), some (.int x), some (.int y), some (.int (nI h)), some (.int (nI cc)), some (.int ((nI bb) - 201)), some (.int 1), some (.int 0), none, none, none, none] [.int 14, .ref 0] from ?_) c hc hq
              refine tt_k1 (w := vCount) (r := (pFlames q.1)) lq_count (vN14) hT rfl rfl rfl rfl rfl ?_
              show TT T (0, 0) q 472 [some (.ref 0), some (.int x), some (.int y), some (.int (nI h)), some (.int (nI cc)), some (.int ((nI bb) - 201)), some (.int 1), some (.int 0), none, none, none, none] [.int (pFlames q.1)]
              refine tt_seg hT (fun pc => Nat.beq pc 486 || Nat.beq pc 482) 80 (fun c hc hq => ?_)
              refine And.intro (fun (hb479 : 0 ≤ (0 + ((nI bb) - 201))) => ?_) (fun (hb479 : ¬ 0 ≤ (0 + ((nI bb) - 201))) => ?_)
              · refine (show TT T (0, 0) q 486 [some (.ref 0), some (.int x), some (.int y), some (.int (nI h)), some (.int (nI cc)), some (.int ((nI bb) - 201)), some (.int 1), some (.int 0), some (.int (pFlames q.1)), none, none, none] [] from ?_) c hc hq
                refine tt_seg hT (fun pc => Nat.beq pc 498) 60 (fun c hc hq => ?_)
                refine (show TT T (0, 0) q 498 [some (.ref 0), some (.int x), some (.int y), some (.int (nI h)), some (.int (nI cc)), some (.int ((nI bb) - 201)), some (.int 1), some (.int 0), some (.int (pFlames q.1)), some (.int (0 + ((nI bb) - 201))), none, none] [.int ((nI bb) - 201), .int (nI cc), .ref 0] from ?_) c hc hq
                refine tt_e2 (W := wHeat) (q' := q) (r := (-1)) aq_heat (heat_no (by first | exact Or.inl (by rw [hb422]; decide) | (rw [Int32.lt_iff_toInt_lt, tm200] at hb430; exact Or.inr (by omega)) | (rw [Int32.le_iff_toInt_le, t200] at hb438; exact Or.inr (by omega)))) hT rfl rfl rfl rfl rfl ?_
                show TT T (0, 0) q 501 [some (.ref 0), some (.int x), some (.int y), some (.int (nI h)), some (.int (nI cc)), some (.int ((nI bb) - 201)), some (.int 1), some (.int 0), some (.int (pFlames q.1)), some (.int (0 + ((nI bb) - 201))), none, none] [.int (-1)]
                refine tt_seg hT (fun pc => Nat.beq pc 510 || Nat.beq pc 506) 80 (fun c hc hq => ?_)
                refine And.intro (fun (hb503 : 1 = 0) => ?_) (fun (hb503 : ¬ 1 = 0) => ?_)
                · exact absurd hb503 (by decide)
                · refine (show TT T (0, 0) q 506 [some (.ref 0), some (.int x), some (.int y), some (.int (nI h)), some (.int (nI cc)), some (.int ((nI bb) - 201)), some (.int 1), some (.int 0), some (.int (pFlames q.1)), some (.int (0 + ((nI bb) - 201))), none, none] [.int (-1)] from ?_) c hc hq
                  refine tt_seg hT (fun pc => Nat.beq pc 545 || Nat.beq pc 515) 80 (fun c hc hq => ?_)
                  refine And.intro (fun (hb512 : ¬ (-1) = (-1)) => ?_) (fun (hb512 : (-1) = (-1)) => ?_)
                  · exact absurd (by decide) hb512
                  · refine (show TT T (0, 0) q 515 [some (.ref 0), some (.int x), some (.int y), some (.int (nI h)), some (.int (nI cc)), some (.int ((nI bb) - 201)), some (.int 1), some (.int 0), some (.int (pFlames q.1)), some (.int (0 + ((nI bb) - 201))), none, none] [] from ?_) c hc hq
                    refine tt_seg hT (fun pc => Nat.beq pc 518) 60 (fun c hc hq => ?_)
                    refine (show TT T (0, 0) q 518 [some (.ref 0), some (.int x), some (.int y), some (.int (nI h)), some (.int (nI cc)), some (.int ((nI bb) - 201)), some (.int 1), some (.int 0), some (.int (pFlames q.1)), some (.int (0 + ((nI bb) - 201))), none, none] [.int 14, .ref 0] from ?_) c hc hq
                    refine tt_k1 (w := vCount) (r := (pFlames q.1)) lq_count (vN14) hT rfl rfl rfl rfl rfl ?_
                    show TT T (0, 0) q 521 [some (.ref 0), some (.int x), some (.int y), some (.int (nI h)), some (.int (nI cc)), some (.int ((nI bb) - 201)), some (.int 1), some (.int 0), some (.int (pFlames q.1)), some (.int (0 + ((nI bb) - 201))), none, none] [.int (pFlames q.1)]
                    refine tt_seg hT (fun pc => Nat.beq pc 532 || Nat.beq pc 528) 80 (fun c hc hq => ?_)
                    refine And.intro (fun (hb525 : 1 = 0) => ?_) (fun (hb525 : ¬ 1 = 0) => ?_)
                    · exact absurd hb525 (by decide)
                    · refine (show TT T (0, 0) q 528 [some (.ref 0), some (.int x), some (.int y), some (.int (nI h)), some (.int (nI cc)), some (.int ((nI bb) - 201)), some (.int 1), some (.int 0), some (.int (pFlames q.1)), some (.int (0 + ((nI bb) - 201))), none, none] [.int (pFlames q.1), .int (pFlames q.1)] from ?_) c hc hq
                      refine tt_seg hT (fun pc => Nat.beq pc 545 || Nat.beq pc 541) 80 (fun c hc hq => ?_)
                      refine And.intro (fun (hb538 : ¬ (pFlames q.1) = ((pFlames q.1) + 0)) => ?_) (fun (hb538 : (pFlames q.1) = ((pFlames q.1) + 0)) => ?_)
                      · exact absurd ((Int32.add_zero _).symm) hb538
                      · refine (show TT T (0, 0) q 541 [some (.ref 0), some (.int x), some (.int y), some (.int (nI h)), some (.int (nI cc)), some (.int ((nI bb) - 201)), some (.int 1), some (.int 0), some (.int (pFlames q.1)), some (.int (0 + ((nI bb) - 201))), none, none] [] from ?_) c hc hq
                        refine tt_seg hT (fun pc => Nat.beq pc 546) 60 (fun c hc hq => ?_)
                        refine (show TT T (0, 0) q 546 [some (.ref 0), some (.int x), some (.int y), some (.int (nI h)), some (.int (nI cc)), some (.int ((nI bb) - 201)), some (.int 1), some (.int 0), some (.int (pFlames q.1)), some (.int (0 + ((nI bb) - 201))), none, none] [.int 1] from ?_) c hc hq
                        exact tt_ret hT rfl rfl (fun c hc hq => ⟨rfl, c, .int 1, rfl, hc, rfl, fun _ => rfl, by rw [hq]; exact ⟨rfl, by rw [show qOf (rX (xw c0)) = q from hq0]; exact step_same⟩⟩)
              · refine (show TT T (0, 0) q 482 [some (.ref 0), some (.int x), some (.int y), some (.int (nI h)), some (.int (nI cc)), some (.int ((nI bb) - 201)), some (.int 1), some (.int 0), some (.int (pFlames q.1)), none, none, none] [] from ?_) c hc hq
                refine tt_seg hT (fun pc => Nat.beq pc 498) 60 (fun c hc hq => ?_)
                refine (show TT T (0, 0) q 498 [some (.ref 0), some (.int x), some (.int y), some (.int (nI h)), some (.int (nI cc)), some (.int ((nI bb) - 201)), some (.int 1), some (.int 0), some (.int (pFlames q.1)), some (.int 0), none, none] [.int ((nI bb) - 201), .int (nI cc), .ref 0] from ?_) c hc hq
                refine tt_e2 (W := wHeat) (q' := q) (r := (-1)) aq_heat (heat_no (by first | exact Or.inl (by rw [hb422]; decide) | (rw [Int32.lt_iff_toInt_lt, tm200] at hb430; exact Or.inr (by omega)) | (rw [Int32.le_iff_toInt_le, t200] at hb438; exact Or.inr (by omega)))) hT rfl rfl rfl rfl rfl ?_
                show TT T (0, 0) q 501 [some (.ref 0), some (.int x), some (.int y), some (.int (nI h)), some (.int (nI cc)), some (.int ((nI bb) - 201)), some (.int 1), some (.int 0), some (.int (pFlames q.1)), some (.int 0), none, none] [.int (-1)]
                refine tt_seg hT (fun pc => Nat.beq pc 510 || Nat.beq pc 506) 80 (fun c hc hq => ?_)
                refine And.intro (fun (hb503 : 1 = 0) => ?_) (fun (hb503 : ¬ 1 = 0) => ?_)
                · exact absurd hb503 (by decide)
                · refine (show TT T (0, 0) q 506 [some (.ref 0), some (.int x), some (.int y), some (.int (nI h)), some (.int (nI cc)), some (.int ((nI bb) - 201)), some (.int 1), some (.int 0), some (.int (pFlames q.1)), some (.int 0), none, none] [.int (-1)] from ?_) c hc hq
                  refine tt_seg hT (fun pc => Nat.beq pc 545 || Nat.beq pc 515) 80 (fun c hc hq => ?_)
                  refine And.intro (fun (hb512 : ¬ (-1) = (-1)) => ?_) (fun (hb512 : (-1) = (-1)) => ?_)
                  · exact absurd (by decide) hb512
                  · refine (show TT T (0, 0) q 515 [some (.ref 0), some (.int x), some (.int y), some (.int (nI h)), some (.int (nI cc)), some (.int ((nI bb) - 201)), some (.int 1), some (.int 0), some (.int (pFlames q.1)), some (.int 0), none, none] [] from ?_) c hc hq
                    refine tt_seg hT (fun pc => Nat.beq pc 518) 60 (fun c hc hq => ?_)
                    refine (show TT T (0, 0) q 518 [some (.ref 0), some (.int x), some (.int y), some (.int (nI h)), some (.int (nI cc)), some (.int ((nI bb) - 201)), some (.int 1), some (.int 0), some (.int (pFlames q.1)), some (.int 0), none, none] [.int 14, .ref 0] from ?_) c hc hq
                    refine tt_k1 (w := vCount) (r := (pFlames q.1)) lq_count (vN14) hT rfl rfl rfl rfl rfl ?_
                    show TT T (0, 0) q 521 [some (.ref 0), some (.int x), some (.int y), some (.int (nI h)), some (.int (nI cc)), some (.int ((nI bb) - 201)), some (.int 1), some (.int 0), some (.int (pFlames q.1)), some (.int 0), none, none] [.int (pFlames q.1)]
                    refine tt_seg hT (fun pc => Nat.beq pc 532 || Nat.beq pc 528) 80 (fun c hc hq => ?_)
                    refine And.intro (fun (hb525 : 1 = 0) => ?_) (fun (hb525 : ¬ 1 = 0) => ?_)
                    · exact absurd hb525 (by decide)
                    · refine (show TT T (0, 0) q 528 [some (.ref 0), some (.int x), some (.int y), some (.int (nI h)), some (.int (nI cc)), some (.int ((nI bb) - 201)), some (.int 1), some (.int 0), some (.int (pFlames q.1)), some (.int 0), none, none] [.int (pFlames q.1), .int (pFlames q.1)] from ?_) c hc hq
                      refine tt_seg hT (fun pc => Nat.beq pc 545 || Nat.beq pc 541) 80 (fun c hc hq => ?_)
                      refine And.intro (fun (hb538 : ¬ (pFlames q.1) = ((pFlames q.1) + 0)) => ?_) (fun (hb538 : (pFlames q.1) = ((pFlames q.1) + 0)) => ?_)
                      · exact absurd ((Int32.add_zero _).symm) hb538
                      · refine (show TT T (0, 0) q 541 [some (.ref 0), some (.int x), some (.int y), some (.int (nI h)), some (.int (nI cc)), some (.int ((nI bb) - 201)), some (.int 1), some (.int 0), some (.int (pFlames q.1)), some (.int 0), none, none] [] from ?_) c hc hq
                        refine tt_seg hT (fun pc => Nat.beq pc 546) 60 (fun c hc hq => ?_)
                        refine (show TT T (0, 0) q 546 [some (.ref 0), some (.int x), some (.int y), some (.int (nI h)), some (.int (nI cc)), some (.int ((nI bb) - 201)), some (.int 1), some (.int 0), some (.int (pFlames q.1)), some (.int 0), none, none] [.int 1] from ?_) c hc hq
                        exact tt_ret hT rfl rfl (fun c hc hq => ⟨rfl, c, .int 1, rfl, hc, rfl, fun _ => rfl, by rw [hq]; exact ⟨rfl, by rw [show qOf (rX (xw c0)) = q from hq0]; exact step_same⟩⟩)
          · refine (show TT T (0, 0) q 425 [some (.ref 0), some (.int x), some (.int y), some (.int (nI h)), some (.int (nI cc)), some (.int ((nI bb) - 201)), none, none, none, none, none, none] [] from ?_) c hc hq
            refine tt_seg hT (fun pc => Nat.beq pc 441 || Nat.beq pc 433) 80 (fun c hc hq => ?_)
            refine And.intro (fun (hb430 : ((nI bb) - 201) < (-200)) => ?_) (fun (hb430 : ¬ ((nI bb) - 201) < (-200)) => ?_)
            · refine (show TT T (0, 0) q 441 [some (.ref 0), some (.int x), some (.int y), some (.int (nI h)), some (.int (nI cc)), some (.int ((nI bb) - 201)), none, none, none, none, none, none] [] from ?_) c hc hq
              refine tt_seg hT (fun pc => Nat.beq pc 457 || Nat.beq pc 453) 80 (fun c hc hq => ?_)
              refine And.intro (fun (hb450 : 1 = 0) => ?_) (fun (hb450 : ¬ 1 = 0) => ?_)
              · exact absurd hb450 (by decide)
              · refine (show TT T (0, 0) q 453 [some (.ref 0), some (.int x), some (.int y), some (.int (nI h)), some (.int (nI cc)), some (.int ((nI bb) - 201)), some (.int 1), none, none, none, none, none] [] from ?_) c hc hq
                refine tt_seg hT (fun pc => Nat.beq pc 469) 60 (fun c hc hq => ?_)
                refine (show TT T (0, 0) q 469 [some (.ref 0), some (.int x), some (.int y), some (.int (nI h)), some (.int (nI cc)), some (.int ((nI bb) - 201)), some (.int 1), some (.int 0), none, none, none, none] [.int 14, .ref 0] from ?_) c hc hq
                refine tt_k1 (w := vCount) (r := (pFlames q.1)) lq_count (vN14) hT rfl rfl rfl rfl rfl ?_
                show TT T (0, 0) q 472 [some (.ref 0), some (.int x), some (.int y), some (.int (nI h)), some (.int (nI cc)), some (.int ((nI bb) - 201)), some (.int 1), some (.int 0), none, none, none, none] [.int (pFlames q.1)]
                refine tt_seg hT (fun pc => Nat.beq pc 486 || Nat.beq pc 482) 80 (fun c hc hq => ?_)
                refine And.intro (fun (hb479 : 0 ≤ (0 + ((nI bb) - 201))) => ?_) (fun (hb479 : ¬ 0 ≤ (0 + ((nI bb) - 201))) => ?_)
                · refine (show TT T (0, 0) q 486 [some (.ref 0), some (.int x), some (.int y), some (.int (nI h)), some (.int (nI cc)), some (.int ((nI bb) - 201)), some (.int 1), some (.int 0), some (.int (pFlames q.1)), none, none, none] [] from ?_) c hc hq
                  refine tt_seg hT (fun pc => Nat.beq pc 498) 60 (fun c hc hq => ?_)
                  refine (show TT T (0, 0) q 498 [some (.ref 0), some (.int x), some (.int y), some (.int (nI h)), some (.int (nI cc)), some (.int ((nI bb) - 201)), some (.int 1), some (.int 0), some (.int (pFlames q.1)), some (.int (0 + ((nI bb) - 201))), none, none] [.int ((nI bb) - 201), .int (nI cc), .ref 0] from ?_) c hc hq
                  refine tt_e2 (W := wHeat) (q' := q) (r := (-1)) aq_heat (heat_no (by first | exact Or.inl (by rw [hb422]; decide) | (rw [Int32.lt_iff_toInt_lt, tm200] at hb430; exact Or.inr (by omega)) | (rw [Int32.le_iff_toInt_le, t200] at hb438; exact Or.inr (by omega)))) hT rfl rfl rfl rfl rfl ?_
                  show TT T (0, 0) q 501 [some (.ref 0), some (.int x), some (.int y), some (.int (nI h)), some (.int (nI cc)), some (.int ((nI bb) - 201)), some (.int 1), some (.int 0), some (.int (pFlames q.1)), some (.int (0 + ((nI bb) - 201))), none, none] [.int (-1)]
                  refine tt_seg hT (fun pc => Nat.beq pc 510 || Nat.beq pc 506) 80 (fun c hc hq => ?_)
                  refine And.intro (fun (hb503 : 1 = 0) => ?_) (fun (hb503 : ¬ 1 = 0) => ?_)
                  · exact absurd hb503 (by decide)
                  · refine (show TT T (0, 0) q 506 [some (.ref 0), some (.int x), some (.int y), some (.int (nI h)), some (.int (nI cc)), some (.int ((nI bb) - 201)), some (.int 1), some (.int 0), some (.int (pFlames q.1)), some (.int (0 + ((nI bb) - 201))), none, none] [.int (-1)] from ?_) c hc hq
                    refine tt_seg hT (fun pc => Nat.beq pc 545 || Nat.beq pc 515) 80 (fun c hc hq => ?_)
                    refine And.intro (fun (hb512 : ¬ (-1) = (-1)) => ?_) (fun (hb512 : (-1) = (-1)) => ?_)
                    · exact absurd (by decide) hb512
                    · refine (show TT T (0, 0) q 515 [some (.ref 0), some (.int x), some (.int y), some (.int (nI h)), some (.int (nI cc)), some (.int ((nI bb) - 201)), some (.int 1), some (.int 0), some (.int (pFlames q.1)), some (.int (0 + ((nI bb) - 201))), none, none] [] from ?_) c hc hq
                      refine tt_seg hT (fun pc => Nat.beq pc 518) 60 (fun c hc hq => ?_)
                      refine (show TT T (0, 0) q 518 [some (.ref 0), some (.int x), some (.int y), some (.int (nI h)), some (.int (nI cc)), some (.int ((nI bb) - 201)), some (.int 1), some (.int 0), some (.int (pFlames q.1)), some (.int (0 + ((nI bb) - 201))), none, none] [.int 14, .ref 0] from ?_) c hc hq
                      refine tt_k1 (w := vCount) (r := (pFlames q.1)) lq_count (vN14) hT rfl rfl rfl rfl rfl ?_
                      show TT T (0, 0) q 521 [some (.ref 0), some (.int x), some (.int y), some (.int (nI h)), some (.int (nI cc)), some (.int ((nI bb) - 201)), some (.int 1), some (.int 0), some (.int (pFlames q.1)), some (.int (0 + ((nI bb) - 201))), none, none] [.int (pFlames q.1)]
                      refine tt_seg hT (fun pc => Nat.beq pc 532 || Nat.beq pc 528) 80 (fun c hc hq => ?_)
                      refine And.intro (fun (hb525 : 1 = 0) => ?_) (fun (hb525 : ¬ 1 = 0) => ?_)
                      · exact absurd hb525 (by decide)
                      · refine (show TT T (0, 0) q 528 [some (.ref 0), some (.int x), some (.int y), some (.int (nI h)), some (.int (nI cc)), some (.int ((nI bb) - 201)), some (.int 1), some (.int 0), some (.int (pFlames q.1)), some (.int (0 + ((nI bb) - 201))), none, none] [.int (pFlames q.1), .int (pFlames q.1)] from ?_) c hc hq
                        refine tt_seg hT (fun pc => Nat.beq pc 545 || Nat.beq pc 541) 80 (fun c hc hq => ?_)
                        refine And.intro (fun (hb538 : ¬ (pFlames q.1) = ((pFlames q.1) + 0)) => ?_) (fun (hb538 : (pFlames q.1) = ((pFlames q.1) + 0)) => ?_)
                        · exact absurd ((Int32.add_zero _).symm) hb538
                        · refine (show TT T (0, 0) q 541 [some (.ref 0), some (.int x), some (.int y), some (.int (nI h)), some (.int (nI cc)), some (.int ((nI bb) - 201)), some (.int 1), some (.int 0), some (.int (pFlames q.1)), some (.int (0 + ((nI bb) - 201))), none, none] [] from ?_) c hc hq
                          refine tt_seg hT (fun pc => Nat.beq pc 546) 60 (fun c hc hq => ?_)
                          refine (show TT T (0, 0) q 546 [some (.ref 0), some (.int x), some (.int y), some (.int (nI h)), some (.int (nI cc)), some (.int ((nI bb) - 201)), some (.int 1), some (.int 0), some (.int (pFlames q.1)), some (.int (0 + ((nI bb) - 201))), none, none] [.int 1] from ?_) c hc hq
                          exact tt_ret hT rfl rfl (fun c hc hq => ⟨rfl, c, .int 1, rfl, hc, rfl, fun _ => rfl, by rw [hq]; exact ⟨rfl, by rw [show qOf (rX (xw c0)) = q from hq0]; exact step_same⟩⟩)
                · refine (show TT T (0, 0) q 482 [some (.ref 0), some (.int x), some (.int y), some (.int (nI h)), some (.int (nI cc)), some (.int ((nI bb) - 201)), some (.int 1), some (.int 0), some (.int (pFlames q.1)), none, none, none] [] from ?_) c hc hq
                  refine tt_seg hT (fun pc => Nat.beq pc 498) 60 (fun c hc hq => ?_)
                  refine (show TT T (0, 0) q 498 [some (.ref 0), some (.int x), some (.int y), some (.int (nI h)), some (.int (nI cc)), some (.int ((nI bb) - 201)), some (.int 1), some (.int 0), some (.int (pFlames q.1)), some (.int 0), none, none] [.int ((nI bb) - 201), .int (nI cc), .ref 0] from ?_) c hc hq
                  refine tt_e2 (W := wHeat) (q' := q) (r := (-1)) aq_heat (heat_no (by first | exact Or.inl (by rw [hb422]; decide) | (rw [Int32.lt_iff_toInt_lt, tm200] at hb430; exact Or.inr (by omega)) | (rw [Int32.le_iff_toInt_le, t200] at hb438; exact Or.inr (by omega)))) hT rfl rfl rfl rfl rfl ?_
                  show TT T (0, 0) q 501 [some (.ref 0), some (.int x), some (.int y), some (.int (nI h)), some (.int (nI cc)), some (.int ((nI bb) - 201)), some (.int 1), some (.int 0), some (.int (pFlames q.1)), some (.int 0), none, none] [.int (-1)]
                  refine tt_seg hT (fun pc => Nat.beq pc 510 || Nat.beq pc 506) 80 (fun c hc hq => ?_)
                  refine And.intro (fun (hb503 : 1 = 0) => ?_) (fun (hb503 : ¬ 1 = 0) => ?_)
                  · exact absurd hb503 (by decide)
                  · refine (show TT T (0, 0) q 506 [some (.ref 0), some (.int x), some (.int y), some (.int (nI h)), some (.int (nI cc)), some (.int ((nI bb) - 201)), some (.int 1), some (.int 0), some (.int (pFlames q.1)), some (.int 0), none, none] [.int (-1)] from ?_) c hc hq
                    refine tt_seg hT (fun pc => Nat.beq pc 545 || Nat.beq pc 515) 80 (fun c hc hq => ?_)
                    refine And.intro (fun (hb512 : ¬ (-1) = (-1)) => ?_) (fun (hb512 : (-1) = (-1)) => ?_)
                    · exact absurd (by decide) hb512
                    · refine (show TT T (0, 0) q 515 [some (.ref 0), some (.int x), some (.int y), some (.int (nI h)), some (.int (nI cc)), some (.int ((nI bb) - 201)), some (.int 1), some (.int 0), some (.int (pFlames q.1)), some (.int 0), none, none] [] from ?_) c hc hq
                      refine tt_seg hT (fun pc => Nat.beq pc 518) 60 (fun c hc hq => ?_)
                      refine (show TT T (0, 0) q 518 [some (.ref 0), some (.int x), some (.int y), some (.int (nI h)), some (.int (nI cc)), some (.int ((nI bb) - 201)), some (.int 1), some (.int 0), some (.int (pFlames q.1)), some (.int 0), none, none] [.int 14, .ref 0] from ?_) c hc hq
                      refine tt_k1 (w := vCount) (r := (pFlames q.1)) lq_count (vN14) hT rfl rfl rfl rfl rfl ?_
                      show TT T (0, 0) q 521 [some (.ref 0), some (.int x), some (.int y), some (.int (nI h)), some (.int (nI cc)), some (.int ((nI bb) - 201)), some (.int 1), some (.int 0), some (.int (pFlames q.1)), some (.int 0), none, none] [.int (pFlames q.1)]
                      refine tt_seg hT (fun pc => Nat.beq pc 532 || Nat.beq pc 528) 80 (fun c hc hq => ?_)
                      refine And.intro (fun (hb525 : 1 = 0) => ?_) (fun (hb525 : ¬ 1 = 0) => ?_)
                      · exact absurd hb525 (by decide)
                      · refine (show TT T (0, 0) q 528 [some (.ref 0), some (.int x), some (.int y), some (.int (nI h)), some (.int (nI cc)), some (.int ((nI bb) - 201)), some (.int 1), some (.int 0), some (.int (pFlames q.1)), some (.int 0), none, none] [.int (pFlames q.1), .int (pFlames q.1)] from ?_) c hc hq
                        refine tt_seg hT (fun pc => Nat.beq pc 545 || Nat.beq pc 541) 80 (fun c hc hq => ?_)
                        refine And.intro (fun (hb538 : ¬ (pFlames q.1) = ((pFlames q.1) + 0)) => ?_) (fun (hb538 : (pFlames q.1) = ((pFlames q.1) + 0)) => ?_)
                        · exact absurd ((Int32.add_zero _).symm) hb538
                        · refine (show TT T (0, 0) q 541 [some (.ref 0), some (.int x), some (.int y), some (.int (nI h)), some (.int (nI cc)), some (.int ((nI bb) - 201)), some (.int 1), some (.int 0), some (.int (pFlames q.1)), some (.int 0), none, none] [] from ?_) c hc hq
                          refine tt_seg hT (fun pc => Nat.beq pc 546) 60 (fun c hc hq => ?_)
                          refine (show TT T (0, 0) q 546 [some (.ref 0), some (.int x), some (.int y), some (.int (nI h)), some (.int (nI cc)), some (.int ((nI bb) - 201)), some (.int 1), some (.int 0), some (.int (pFlames q.1)), some (.int 0), none, none] [.int 1] from ?_) c hc hq
                          exact tt_ret hT rfl rfl (fun c hc hq => ⟨rfl, c, .int 1, rfl, hc, rfl, fun _ => rfl, by rw [hq]; exact ⟨rfl, by rw [show qOf (rX (xw c0)) = q from hq0]; exact step_same⟩⟩)
            · refine (show TT T (0, 0) q 433 [some (.ref 0), some (.int x), some (.int y), some (.int (nI h)), some (.int (nI cc)), some (.int ((nI bb) - 201)), none, none, none, none, none, none] [] from ?_) c hc hq
              refine tt_seg hT (fun pc => Nat.beq pc 445 || Nat.beq pc 441) 80 (fun c hc hq => ?_)
              refine And.intro (fun (hb438 : ((nI bb) - 201) ≤ 200) => ?_) (fun (hb438 : ¬ ((nI bb) - 201) ≤ 200) => ?_)
              · refine (show TT T (0, 0) q 445 [some (.ref 0), some (.int x), some (.int y), some (.int (nI h)), some (.int (nI cc)), some (.int ((nI bb) - 201)), none, none, none, none, none, none] [] from ?_) c hc hq
                have hg1 : cc < 36 := by have h5 : ¬ cc = 36 := (fun e => hb422 (nI_e e)); omega
                have hg2 : -200 ≤ (nI bb - 201).toInt ∧ (nI bb - 201).toInt ≤ 200 := by rw [Int32.lt_iff_toInt_lt, tm200] at hb430; rw [Int32.le_iff_toInt_le, t200] at hb438; omega
                refine tt_seg hT (fun pc => Nat.beq pc 457 || Nat.beq pc 453) 80 (fun c hc hq => ?_)
                refine And.intro (fun (hb450 : 0 = 0) => ?_) (fun (hb450 : ¬ 0 = 0) => ?_)
                · refine (show TT T (0, 0) q 457 [some (.ref 0), some (.int x), some (.int y), some (.int (nI h)), some (.int (nI cc)), some (.int ((nI bb) - 201)), some (.int 0), none, none, none, none, none] [] from ?_) c hc hq
                  refine tt_seg hT (fun pc => Nat.beq pc 461) 60 (fun c hc hq => ?_)
                  refine (show TT T (0, 0) q 461 [some (.ref 0), some (.int x), some (.int y), some (.int (nI h)), some (.int (nI cc)), some (.int ((nI bb) - 201)), some (.int 0), none, none, none, none, none] [.int 0, .int (nI cc), .ref 0] from ?_) c hc hq
                  refine tt_k2 (w := fun q x y => vCell q.1 x y) (r := (pH q.1 cc)) lq_cell (vC0 hg1) hT rfl rfl rfl rfl rfl ?_
                  show TT T (0, 0) q 464 [some (.ref 0), some (.int x), some (.int y), some (.int (nI h)), some (.int (nI cc)), some (.int ((nI bb) - 201)), some (.int 0), none, none, none, none, none] [.int (pH q.1 cc)]
                  refine tt_seg hT (fun pc => Nat.beq pc 469) 60 (fun c hc hq => ?_)
                  refine (show TT T (0, 0) q 469 [some (.ref 0), some (.int x), some (.int y), some (.int (nI h)), some (.int (nI cc)), some (.int ((nI bb) - 201)), some (.int 0), some (.int (pH q.1 cc)), none, none, none, none] [.int 14, .ref 0] from ?_) c hc hq
                  refine tt_k1 (w := vCount) (r := (pFlames q.1)) lq_count (vN14) hT rfl rfl rfl rfl rfl ?_
                  show TT T (0, 0) q 472 [some (.ref 0), some (.int x), some (.int y), some (.int (nI h)), some (.int (nI cc)), some (.int ((nI bb) - 201)), some (.int 0), some (.int (pH q.1 cc)), none, none, none, none] [.int (pFlames q.1)]
                  refine tt_seg hT (fun pc => Nat.beq pc 486 || Nat.beq pc 482) 80 (fun c hc hq => ?_)
                  refine And.intro (fun (hb479 : 0 ≤ ((pH q.1 cc) + ((nI bb) - 201))) => ?_) (fun (hb479 : ¬ 0 ≤ ((pH q.1 cc) + ((nI bb) - 201))) => ?_)
                  · refine (show TT T (0, 0) q 486 [some (.ref 0), some (.int x), some (.int y), some (.int (nI h)), some (.int (nI cc)), some (.int ((nI bb) - 201)), some (.int 0), some (.int (pH q.1 cc)), some (.int (pFlames q.1)), none, none, none] [] from ?_) c hc hq
                    refine tt_seg hT (fun pc => Nat.beq pc 498) 60 (fun c hc hq => ?_)
                    refine (show TT T (0, 0) q 498 [some (.ref 0), some (.int x), some (.int y), some (.int (nI h)), some (.int (nI cc)), some (.int ((nI bb) - 201)), some (.int 0), some (.int (pH q.1 cc)), some (.int (pFlames q.1)), some (.int ((pH q.1 cc) + ((nI bb) - 201))), none, none] [.int ((nI bb) - 201), .int (nI cc), .ref 0] from ?_) c hc hq
                    refine tt_e2 (W := wHeat) (q' := (qNow q (pFlame q.1 (nI cc) ((nI bb) - 201)))) (r := (dueV (pH q.1 cc) ((nI bb) - 201))) aq_heat (heat_w hg1 hg2) hT rfl rfl rfl rfl rfl ?_
                    show TT T (0, 0) (qNow q (pFlame q.1 (nI cc) ((nI bb) - 201))) 501 [some (.ref 0), some (.int x), some (.int y), some (.int (nI h)), some (.int (nI cc)), some (.int ((nI bb) - 201)), some (.int 0), some (.int (pH q.1 cc)), some (.int (pFlames q.1)), some (.int ((pH q.1 cc) + ((nI bb) - 201))), none, none] [.int (dueV (pH q.1 cc) ((nI bb) - 201))]
                    refine tt_seg hT (fun pc => Nat.beq pc 510 || Nat.beq pc 506) 80 (fun c hc hq => ?_)
                    refine And.intro (fun (hb503 : 0 = 0) => ?_) (fun (hb503 : ¬ 0 = 0) => ?_)
                    · refine (show TT T (0, 0) (qNow q (pFlame q.1 (nI cc) ((nI bb) - 201))) 510 [some (.ref 0), some (.int x), some (.int y), some (.int (nI h)), some (.int (nI cc)), some (.int ((nI bb) - 201)), some (.int 0), some (.int (pH q.1 cc)), some (.int (pFlames q.1)), some (.int ((pH q.1 cc) + ((nI bb) - 201))), none, none] [.int (dueV (pH q.1 cc) ((nI bb) - 201))] from ?_) c hc hq
                      refine tt_seg hT (fun pc => Nat.beq pc 545 || Nat.beq pc 515) 80 (fun c hc hq => ?_)
                      refine And.intro (fun (hb512 : ¬ (dueV (pH q.1 cc) ((nI bb) - 201)) = ((pH q.1 cc) + ((nI bb) - 201))) => ?_) (fun (hb512 : (dueV (pH q.1 cc) ((nI bb) - 201)) = ((pH q.1 cc) + ((nI bb) - 201))) => ?_)
                      · exact absurd (if_pos hb479) hb512
                      · refine (show TT T (0, 0) (qNow q (pFlame q.1 (nI cc) ((nI bb) - 201))) 515 [some (.ref 0), some (.int x), some (.int y), some (.int (nI h)), some (.int (nI cc)), some (.int ((nI bb) - 201)), some (.int 0), some (.int (pH q.1 cc)), some (.int (pFlames q.1)), some (.int ((pH q.1 cc) + ((nI bb) - 201))), none, none] [] from ?_) c hc hq
                        refine tt_seg hT (fun pc => Nat.beq pc 518) 60 (fun c hc hq => ?_)
                        refine (show TT T (0, 0) (qNow q (pFlame q.1 (nI cc) ((nI bb) - 201))) 518 [some (.ref 0), some (.int x), some (.int y), some (.int (nI h)), some (.int (nI cc)), some (.int ((nI bb) - 201)), some (.int 0), some (.int (pH q.1 cc)), some (.int (pFlames q.1)), some (.int ((pH q.1 cc) + ((nI bb) - 201))), none, none] [.int 14, .ref 0] from ?_) c hc hq
                        refine tt_k1 (w := vCount) (r := (pFlames q.1 + (dueV (pH q.1 cc) ((nI bb) - 201) - pH q.1 cc))) lq_count (vN14.trans (flame_F hg1)) hT rfl rfl rfl rfl rfl ?_
                        show TT T (0, 0) (qNow q (pFlame q.1 (nI cc) ((nI bb) - 201))) 521 [some (.ref 0), some (.int x), some (.int y), some (.int (nI h)), some (.int (nI cc)), some (.int ((nI bb) - 201)), some (.int 0), some (.int (pH q.1 cc)), some (.int (pFlames q.1)), some (.int ((pH q.1 cc) + ((nI bb) - 201))), none, none] [.int (pFlames q.1 + (dueV (pH q.1 cc) ((nI bb) - 201) - pH q.1 cc))]
                        refine tt_seg hT (fun pc => Nat.beq pc 532 || Nat.beq pc 528) 80 (fun c hc hq => ?_)
                        refine And.intro (fun (hb525 : 0 = 0) => ?_) (fun (hb525 : ¬ 0 = 0) => ?_)
                        · refine (show TT T (0, 0) (qNow q (pFlame q.1 (nI cc) ((nI bb) - 201))) 532 [some (.ref 0), some (.int x), some (.int y), some (.int (nI h)), some (.int (nI cc)), some (.int ((nI bb) - 201)), some (.int 0), some (.int (pH q.1 cc)), some (.int (pFlames q.1)), some (.int ((pH q.1 cc) + ((nI bb) - 201))), none, none] [.int (pFlames q.1), .int (pFlames q.1 + (dueV (pH q.1 cc) ((nI bb) - 201) - pH q.1 cc))] from ?_) c hc hq
                          refine tt_seg hT (fun pc => Nat.beq pc 545 || Nat.beq pc 541) 80 (fun c hc hq => ?_)
                          refine And.intro (fun (hb538 : ¬ (pFlames q.1 + (dueV (pH q.1 cc) ((nI bb) - 201) - pH q.1 cc)) = ((pFlames q.1) + (((pH q.1 cc) + ((nI bb) - 201)) - (pH q.1 cc)))) => ?_) (fun (hb538 : (pFlames q.1 + (dueV (pH q.1 cc) ((nI bb) - 201) - pH q.1 cc)) = ((pFlames q.1) + (((pH q.1 cc) + ((nI bb) - 201)) - (pH q.1 cc)))) => ?_)
                          · exact absurd (by rw [show dueV (pH q.1 cc) (nI bb - 201) = pH q.1 cc + (nI bb - 201) from if_pos hb479]) hb538
                          · refine (show TT T (0, 0) (qNow q (pFlame q.1 (nI cc) ((nI bb) - 201))) 541 [some (.ref 0), some (.int x), some (.int y), some (.int (nI h)), some (.int (nI cc)), some (.int ((nI bb) - 201)), some (.int 0), some (.int (pH q.1 cc)), some (.int (pFlames q.1)), some (.int ((pH q.1 cc) + ((nI bb) - 201))), none, none] [] from ?_) c hc hq
                            refine tt_seg hT (fun pc => Nat.beq pc 546) 60 (fun c hc hq => ?_)
                            refine (show TT T (0, 0) (qNow q (pFlame q.1 (nI cc) ((nI bb) - 201))) 546 [some (.ref 0), some (.int x), some (.int y), some (.int (nI h)), some (.int (nI cc)), some (.int ((nI bb) - 201)), some (.int 0), some (.int (pH q.1 cc)), some (.int (pFlames q.1)), some (.int ((pH q.1 cc) + ((nI bb) - 201))), none, none] [.int 1] from ?_) c hc hq
                            exact tt_ret hT rfl rfl (fun c hc hq => ⟨rfl, c, .int 1, rfl, hc, rfl, fun _ => rfl, by rw [hq]; exact ⟨rfl, by rw [show qOf (rX (xw c0)) = q from hq0]; exact step_now (fun k hk h => PI_flame (by omega) h.1 hg1 hg2)⟩⟩)
                        · exact absurd (by decide) hb525
                    · exact absurd (by decide) hb503
                  · refine (show TT T (0, 0) q 482 [some (.ref 0), some (.int x), some (.int y), some (.int (nI h)), some (.int (nI cc)), some (.int ((nI bb) - 201)), some (.int 0), some (.int (pH q.1 cc)), some (.int (pFlames q.1)), none, none, none] [] from ?_) c hc hq
                    refine tt_seg hT (fun pc => Nat.beq pc 498) 60 (fun c hc hq => ?_)
                    refine (show TT T (0, 0) q 498 [some (.ref 0), some (.int x), some (.int y), some (.int (nI h)), some (.int (nI cc)), some (.int ((nI bb) - 201)), some (.int 0), some (.int (pH q.1 cc)), some (.int (pFlames q.1)), some (.int 0), none, none] [.int ((nI bb) - 201), .int (nI cc), .ref 0] from ?_) c hc hq
                    refine tt_e2 (W := wHeat) (q' := (qNow q (pFlame q.1 (nI cc) ((nI bb) - 201)))) (r := (dueV (pH q.1 cc) ((nI bb) - 201))) aq_heat (heat_w hg1 hg2) hT rfl rfl rfl rfl rfl ?_
                    show TT T (0, 0) (qNow q (pFlame q.1 (nI cc) ((nI bb) - 201))) 501 [some (.ref 0), some (.int x), some (.int y), some (.int (nI h)), some (.int (nI cc)), some (.int ((nI bb) - 201)), some (.int 0), some (.int (pH q.1 cc)), some (.int (pFlames q.1)), some (.int 0), none, none] [.int (dueV (pH q.1 cc) ((nI bb) - 201))]
                    refine tt_seg hT (fun pc => Nat.beq pc 510 || Nat.beq pc 506) 80 (fun c hc hq => ?_)
                    refine And.intro (fun (hb503 : 0 = 0) => ?_) (fun (hb503 : ¬ 0 = 0) => ?_)
                    · refine (show TT T (0, 0) (qNow q (pFlame q.1 (nI cc) ((nI bb) - 201))) 510 [some (.ref 0), some (.int x), some (.int y), some (.int (nI h)), some (.int (nI cc)), some (.int ((nI bb) - 201)), some (.int 0), some (.int (pH q.1 cc)), some (.int (pFlames q.1)), some (.int 0), none, none] [.int (dueV (pH q.1 cc) ((nI bb) - 201))] from ?_) c hc hq
                      refine tt_seg hT (fun pc => Nat.beq pc 545 || Nat.beq pc 515) 80 (fun c hc hq => ?_)
                      refine And.intro (fun (hb512 : ¬ (dueV (pH q.1 cc) ((nI bb) - 201)) = 0) => ?_) (fun (hb512 : (dueV (pH q.1 cc) ((nI bb) - 201)) = 0) => ?_)
                      · exact absurd (if_neg hb479) hb512
                      · refine (show TT T (0, 0) (qNow q (pFlame q.1 (nI cc) ((nI bb) - 201))) 515 [some (.ref 0), some (.int x), some (.int y), some (.int (nI h)), some (.int (nI cc)), some (.int ((nI bb) - 201)), some (.int 0), some (.int (pH q.1 cc)), some (.int (pFlames q.1)), some (.int 0), none, none] [] from ?_) c hc hq
                        refine tt_seg hT (fun pc => Nat.beq pc 518) 60 (fun c hc hq => ?_)
                        refine (show TT T (0, 0) (qNow q (pFlame q.1 (nI cc) ((nI bb) - 201))) 518 [some (.ref 0), some (.int x), some (.int y), some (.int (nI h)), some (.int (nI cc)), some (.int ((nI bb) - 201)), some (.int 0), some (.int (pH q.1 cc)), some (.int (pFlames q.1)), some (.int 0), none, none] [.int 14, .ref 0] from ?_) c hc hq
                        refine tt_k1 (w := vCount) (r := (pFlames q.1 + (dueV (pH q.1 cc) ((nI bb) - 201) - pH q.1 cc))) lq_count (vN14.trans (flame_F hg1)) hT rfl rfl rfl rfl rfl ?_
                        show TT T (0, 0) (qNow q (pFlame q.1 (nI cc) ((nI bb) - 201))) 521 [some (.ref 0), some (.int x), some (.int y), some (.int (nI h)), some (.int (nI cc)), some (.int ((nI bb) - 201)), some (.int 0), some (.int (pH q.1 cc)), some (.int (pFlames q.1)), some (.int 0), none, none] [.int (pFlames q.1 + (dueV (pH q.1 cc) ((nI bb) - 201) - pH q.1 cc))]
                        refine tt_seg hT (fun pc => Nat.beq pc 532 || Nat.beq pc 528) 80 (fun c hc hq => ?_)
                        refine And.intro (fun (hb525 : 0 = 0) => ?_) (fun (hb525 : ¬ 0 = 0) => ?_)
                        · refine (show TT T (0, 0) (qNow q (pFlame q.1 (nI cc) ((nI bb) - 201))) 532 [some (.ref 0), some (.int x), some (.int y), some (.int (nI h)), some (.int (nI cc)), some (.int ((nI bb) - 201)), some (.int 0), some (.int (pH q.1 cc)), some (.int (pFlames q.1)), some (.int 0), none, none] [.int (pFlames q.1), .int (pFlames q.1 + (dueV (pH q.1 cc) ((nI bb) - 201) - pH q.1 cc))] from ?_) c hc hq
                          refine tt_seg hT (fun pc => Nat.beq pc 545 || Nat.beq pc 541) 80 (fun c hc hq => ?_)
                          refine And.intro (fun (hb538 : ¬ (pFlames q.1 + (dueV (pH q.1 cc) ((nI bb) - 201) - pH q.1 cc)) = ((pFlames q.1) + (0 - (pH q.1 cc)))) => ?_) (fun (hb538 : (pFlames q.1 + (dueV (pH q.1 cc) ((nI bb) - 201) - pH q.1 cc)) = ((pFlames q.1) + (0 - (pH q.1 cc)))) => ?_)
                          · exact absurd (by rw [show dueV (pH q.1 cc) (nI bb - 201) = 0 from if_neg hb479]) hb538
                          · refine (show TT T (0, 0) (qNow q (pFlame q.1 (nI cc) ((nI bb) - 201))) 541 [some (.ref 0), some (.int x), some (.int y), some (.int (nI h)), some (.int (nI cc)), some (.int ((nI bb) - 201)), some (.int 0), some (.int (pH q.1 cc)), some (.int (pFlames q.1)), some (.int 0), none, none] [] from ?_) c hc hq
                            refine tt_seg hT (fun pc => Nat.beq pc 546) 60 (fun c hc hq => ?_)
                            refine (show TT T (0, 0) (qNow q (pFlame q.1 (nI cc) ((nI bb) - 201))) 546 [some (.ref 0), some (.int x), some (.int y), some (.int (nI h)), some (.int (nI cc)), some (.int ((nI bb) - 201)), some (.int 0), some (.int (pH q.1 cc)), some (.int (pFlames q.1)), some (.int 0), none, none] [.int 1] from ?_) c hc hq
                            exact tt_ret hT rfl rfl (fun c hc hq => ⟨rfl, c, .int 1, rfl, hc, rfl, fun _ => rfl, by rw [hq]; exact ⟨rfl, by rw [show qOf (rX (xw c0)) = q from hq0]; exact step_now (fun k hk h => PI_flame (by omega) h.1 hg1 hg2)⟩⟩)
                        · exact absurd (by decide) hb525
                    · exact absurd (by decide) hb503
                · exact absurd (by decide) hb450
              · refine (show TT T (0, 0) q 441 [some (.ref 0), some (.int x), some (.int y), some (.int (nI h)), some (.int (nI cc)), some (.int ((nI bb) - 201)), none, none, none, none, none, none] [] from ?_) c hc hq
                refine tt_seg hT (fun pc => Nat.beq pc 457 || Nat.beq pc 453) 80 (fun c hc hq => ?_)
                refine And.intro (fun (hb450 : 1 = 0) => ?_) (fun (hb450 : ¬ 1 = 0) => ?_)
                · exact absurd hb450 (by decide)
                · refine (show TT T (0, 0) q 453 [some (.ref 0), some (.int x), some (.int y), some (.int (nI h)), some (.int (nI cc)), some (.int ((nI bb) - 201)), some (.int 1), none, none, none, none, none] [] from ?_) c hc hq
                  refine tt_seg hT (fun pc => Nat.beq pc 469) 60 (fun c hc hq => ?_)
                  refine (show TT T (0, 0) q 469 [some (.ref 0), some (.int x), some (.int y), some (.int (nI h)), some (.int (nI cc)), some (.int ((nI bb) - 201)), some (.int 1), some (.int 0), none, none, none, none] [.int 14, .ref 0] from ?_) c hc hq
                  refine tt_k1 (w := vCount) (r := (pFlames q.1)) lq_count (vN14) hT rfl rfl rfl rfl rfl ?_
                  show TT T (0, 0) q 472 [some (.ref 0), some (.int x), some (.int y), some (.int (nI h)), some (.int (nI cc)), some (.int ((nI bb) - 201)), some (.int 1), some (.int 0), none, none, none, none] [.int (pFlames q.1)]
                  refine tt_seg hT (fun pc => Nat.beq pc 486 || Nat.beq pc 482) 80 (fun c hc hq => ?_)
                  refine And.intro (fun (hb479 : 0 ≤ (0 + ((nI bb) - 201))) => ?_) (fun (hb479 : ¬ 0 ≤ (0 + ((nI bb) - 201))) => ?_)
                  · refine (show TT T (0, 0) q 486 [some (.ref 0), some (.int x), some (.int y), some (.int (nI h)), some (.int (nI cc)), some (.int ((nI bb) - 201)), some (.int 1), some (.int 0), some (.int (pFlames q.1)), none, none, none] [] from ?_) c hc hq
                    refine tt_seg hT (fun pc => Nat.beq pc 498) 60 (fun c hc hq => ?_)
                    refine (show TT T (0, 0) q 498 [some (.ref 0), some (.int x), some (.int y), some (.int (nI h)), some (.int (nI cc)), some (.int ((nI bb) - 201)), some (.int 1), some (.int 0), some (.int (pFlames q.1)), some (.int (0 + ((nI bb) - 201))), none, none] [.int ((nI bb) - 201), .int (nI cc), .ref 0] from ?_) c hc hq
                    refine tt_e2 (W := wHeat) (q' := q) (r := (-1)) aq_heat (heat_no (by first | exact Or.inl (by rw [hb422]; decide) | (rw [Int32.lt_iff_toInt_lt, tm200] at hb430; exact Or.inr (by omega)) | (rw [Int32.le_iff_toInt_le, t200] at hb438; exact Or.inr (by omega)))) hT rfl rfl rfl rfl rfl ?_
                    show TT T (0, 0) q 501 [some (.ref 0), some (.int x), some (.int y), some (.int (nI h)), some (.int (nI cc)), some (.int ((nI bb) - 201)), some (.int 1), some (.int 0), some (.int (pFlames q.1)), some (.int (0 + ((nI bb) - 201))), none, none] [.int (-1)]
                    refine tt_seg hT (fun pc => Nat.beq pc 510 || Nat.beq pc 506) 80 (fun c hc hq => ?_)
                    refine And.intro (fun (hb503 : 1 = 0) => ?_) (fun (hb503 : ¬ 1 = 0) => ?_)
                    · exact absurd hb503 (by decide)
                    · refine (show TT T (0, 0) q 506 [some (.ref 0), some (.int x), some (.int y), some (.int (nI h)), some (.int (nI cc)), some (.int ((nI bb) - 201)), some (.int 1), some (.int 0), some (.int (pFlames q.1)), some (.int (0 + ((nI bb) - 201))), none, none] [.int (-1)] from ?_) c hc hq
                      refine tt_seg hT (fun pc => Nat.beq pc 545 || Nat.beq pc 515) 80 (fun c hc hq => ?_)
                      refine And.intro (fun (hb512 : ¬ (-1) = (-1)) => ?_) (fun (hb512 : (-1) = (-1)) => ?_)
                      · exact absurd (by decide) hb512
                      · refine (show TT T (0, 0) q 515 [some (.ref 0), some (.int x), some (.int y), some (.int (nI h)), some (.int (nI cc)), some (.int ((nI bb) - 201)), some (.int 1), some (.int 0), some (.int (pFlames q.1)), some (.int (0 + ((nI bb) - 201))), none, none] [] from ?_) c hc hq
                        refine tt_seg hT (fun pc => Nat.beq pc 518) 60 (fun c hc hq => ?_)
                        refine (show TT T (0, 0) q 518 [some (.ref 0), some (.int x), some (.int y), some (.int (nI h)), some (.int (nI cc)), some (.int ((nI bb) - 201)), some (.int 1), some (.int 0), some (.int (pFlames q.1)), some (.int (0 + ((nI bb) - 201))), none, none] [.int 14, .ref 0] from ?_) c hc hq
                        refine tt_k1 (w := vCount) (r := (pFlames q.1)) lq_count (vN14) hT rfl rfl rfl rfl rfl ?_
                        show TT T (0, 0) q 521 [some (.ref 0), some (.int x), some (.int y), some (.int (nI h)), some (.int (nI cc)), some (.int ((nI bb) - 201)), some (.int 1), some (.int 0), some (.int (pFlames q.1)), some (.int (0 + ((nI bb) - 201))), none, none] [.int (pFlames q.1)]
                        refine tt_seg hT (fun pc => Nat.beq pc 532 || Nat.beq pc 528) 80 (fun c hc hq => ?_)
                        refine And.intro (fun (hb525 : 1 = 0) => ?_) (fun (hb525 : ¬ 1 = 0) => ?_)
                        · exact absurd hb525 (by decide)
                        · refine (show TT T (0, 0) q 528 [some (.ref 0), some (.int x), some (.int y), some (.int (nI h)), some (.int (nI cc)), some (.int ((nI bb) - 201)), some (.int 1), some (.int 0), some (.int (pFlames q.1)), some (.int (0 + ((nI bb) - 201))), none, none] [.int (pFlames q.1), .int (pFlames q.1)] from ?_) c hc hq
                          refine tt_seg hT (fun pc => Nat.beq pc 545 || Nat.beq pc 541) 80 (fun c hc hq => ?_)
                          refine And.intro (fun (hb538 : ¬ (pFlames q.1) = ((pFlames q.1) + 0)) => ?_) (fun (hb538 : (pFlames q.1) = ((pFlames q.1) + 0)) => ?_)
                          · exact absurd ((Int32.add_zero _).symm) hb538
                          · refine (show TT T (0, 0) q 541 [some (.ref 0), some (.int x), some (.int y), some (.int (nI h)), some (.int (nI cc)), some (.int ((nI bb) - 201)), some (.int 1), some (.int 0), some (.int (pFlames q.1)), some (.int (0 + ((nI bb) - 201))), none, none] [] from ?_) c hc hq
                            refine tt_seg hT (fun pc => Nat.beq pc 546) 60 (fun c hc hq => ?_)
                            refine (show TT T (0, 0) q 546 [some (.ref 0), some (.int x), some (.int y), some (.int (nI h)), some (.int (nI cc)), some (.int ((nI bb) - 201)), some (.int 1), some (.int 0), some (.int (pFlames q.1)), some (.int (0 + ((nI bb) - 201))), none, none] [.int 1] from ?_) c hc hq
                            exact tt_ret hT rfl rfl (fun c hc hq => ⟨rfl, c, .int 1, rfl, hc, rfl, fun _ => rfl, by rw [hq]; exact ⟨rfl, by rw [show qOf (rX (xw c0)) = q from hq0]; exact step_same⟩⟩)
                  · refine (show TT T (0, 0) q 482 [some (.ref 0), some (.int x), some (.int y), some (.int (nI h)), some (.int (nI cc)), some (.int ((nI bb) - 201)), some (.int 1), some (.int 0), some (.int (pFlames q.1)), none, none, none] [] from ?_) c hc hq
                    refine tt_seg hT (fun pc => Nat.beq pc 498) 60 (fun c hc hq => ?_)
                    refine (show TT T (0, 0) q 498 [some (.ref 0), some (.int x), some (.int y), some (.int (nI h)), some (.int (nI cc)), some (.int ((nI bb) - 201)), some (.int 1), some (.int 0), some (.int (pFlames q.1)), some (.int 0), none, none] [.int ((nI bb) - 201), .int (nI cc), .ref 0] from ?_) c hc hq
                    refine tt_e2 (W := wHeat) (q' := q) (r := (-1)) aq_heat (heat_no (by first | exact Or.inl (by rw [hb422]; decide) | (rw [Int32.lt_iff_toInt_lt, tm200] at hb430; exact Or.inr (by omega)) | (rw [Int32.le_iff_toInt_le, t200] at hb438; exact Or.inr (by omega)))) hT rfl rfl rfl rfl rfl ?_
                    show TT T (0, 0) q 501 [some (.ref 0), some (.int x), some (.int y), some (.int (nI h)), some (.int (nI cc)), some (.int ((nI bb) - 201)), some (.int 1), some (.int 0), some (.int (pFlames q.1)), some (.int 0), none, none] [.int (-1)]
                    refine tt_seg hT (fun pc => Nat.beq pc 510 || Nat.beq pc 506) 80 (fun c hc hq => ?_)
                    refine And.intro (fun (hb503 : 1 = 0) => ?_) (fun (hb503 : ¬ 1 = 0) => ?_)
                    · exact absurd hb503 (by decide)
                    · refine (show TT T (0, 0) q 506 [some (.ref 0), some (.int x), some (.int y), some (.int (nI h)), some (.int (nI cc)), some (.int ((nI bb) - 201)), some (.int 1), some (.int 0), some (.int (pFlames q.1)), some (.int 0), none, none] [.int (-1)] from ?_) c hc hq
                      refine tt_seg hT (fun pc => Nat.beq pc 545 || Nat.beq pc 515) 80 (fun c hc hq => ?_)
                      refine And.intro (fun (hb512 : ¬ (-1) = (-1)) => ?_) (fun (hb512 : (-1) = (-1)) => ?_)
                      · exact absurd (by decide) hb512
                      · refine (show TT T (0, 0) q 515 [some (.ref 0), some (.int x), some (.int y), some (.int (nI h)), some (.int (nI cc)), some (.int ((nI bb) - 201)), some (.int 1), some (.int 0), some (.int (pFlames q.1)), some (.int 0), none, none] [] from ?_) c hc hq
                        refine tt_seg hT (fun pc => Nat.beq pc 518) 60 (fun c hc hq => ?_)
                        refine (show TT T (0, 0) q 518 [some (.ref 0), some (.int x), some (.int y), some (.int (nI h)), some (.int (nI cc)), some (.int ((nI bb) - 201)), some (.int 1), some (.int 0), some (.int (pFlames q.1)), some (.int 0), none, none] [.int 14, .ref 0] from ?_) c hc hq
                        refine tt_k1 (w := vCount) (r := (pFlames q.1)) lq_count (vN14) hT rfl rfl rfl rfl rfl ?_
                        show TT T (0, 0) q 521 [some (.ref 0), some (.int x), some (.int y), some (.int (nI h)), some (.int (nI cc)), some (.int ((nI bb) - 201)), some (.int 1), some (.int 0), some (.int (pFlames q.1)), some (.int 0), none, none] [.int (pFlames q.1)]
                        refine tt_seg hT (fun pc => Nat.beq pc 532 || Nat.beq pc 528) 80 (fun c hc hq => ?_)
                        refine And.intro (fun (hb525 : 1 = 0) => ?_) (fun (hb525 : ¬ 1 = 0) => ?_)
                        · exact absurd hb525 (by decide)
                        · refine (show TT T (0, 0) q 528 [some (.ref 0), some (.int x), some (.int y), some (.int (nI h)), some (.int (nI cc)), some (.int ((nI bb) - 201)), some (.int 1), some (.int 0), some (.int (pFlames q.1)), some (.int 0), none, none] [.int (pFlames q.1), .int (pFlames q.1)] from ?_) c hc hq
                          refine tt_seg hT (fun pc => Nat.beq pc 545 || Nat.beq pc 541) 80 (fun c hc hq => ?_)
                          refine And.intro (fun (hb538 : ¬ (pFlames q.1) = ((pFlames q.1) + 0)) => ?_) (fun (hb538 : (pFlames q.1) = ((pFlames q.1) + 0)) => ?_)
                          · exact absurd ((Int32.add_zero _).symm) hb538
                          · refine (show TT T (0, 0) q 541 [some (.ref 0), some (.int x), some (.int y), some (.int (nI h)), some (.int (nI cc)), some (.int ((nI bb) - 201)), some (.int 1), some (.int 0), some (.int (pFlames q.1)), some (.int 0), none, none] [] from ?_) c hc hq
                            refine tt_seg hT (fun pc => Nat.beq pc 546) 60 (fun c hc hq => ?_)
                            refine (show TT T (0, 0) q 546 [some (.ref 0), some (.int x), some (.int y), some (.int (nI h)), some (.int (nI cc)), some (.int ((nI bb) - 201)), some (.int 1), some (.int 0), some (.int (pFlames q.1)), some (.int 0), none, none] [.int 1] from ?_) c hc hq
                            exact tt_ret hT rfl rfl (fun c hc hq => ⟨rfl, c, .int 1, rfl, hc, rfl, fun _ => rfl, by rw [hq]; exact ⟨rfl, by rw [show qOf (rX (xw c0)) = q from hq0]; exact step_same⟩⟩)
      · refine (show TT T (0, 0) q 371 [some (.ref 0), some (.int x), some (.int y), some (.int (nI h)), none, none, none, none, none, none, none, none] [] from ?_) c hc hq
        refine tt_seg hT (fun pc => Nat.beq pc 382 || Nat.beq pc 378) 80 (fun c hc hq => ?_)
        refine And.intro (fun (hb375 : 14 ≤ (nI h)) => ?_) (fun (hb375 : ¬ 14 ≤ (nI h)) => ?_)
        · refine (show TT T (0, 0) q 382 [some (.ref 0), some (.int x), some (.int y), some (.int (nI h)), none, none, none, none, none, none, none, none] [.ref 0] from ?_) c hc hq
          refine tt_seg hT (fun pc => Nat.beq pc 384) 60 (fun c hc hq => ?_)
          refine (show TT T (0, 0) q 384 [some (.ref 0), some (.int x), some (.int y), some (.int (nI h)), none, none, none, none, none, none, none, none] [.int y, .int 1, .ref 0] from ?_) c hc hq
          refine tt_r2 (P := joiP) (Q := joiQ) hT rfl rfl rfl rfl rfl ⟨⟨k, hk, hI⟩, Or.inr rfl⟩ ?_
          rintro q' w' ⟨rfl, hst⟩
          show TT T (0, 0) q' 387 [some (.ref 0), some (.int x), some (.int y), some (.int (nI h)), none, none, none, none, none, none, none, none] [.int 1]
          exact tt_ret hT rfl rfl (fun c hc hq => ⟨rfl, c, .int 1, rfl, hc, rfl, fun _ => rfl, by rw [hq]; exact ⟨rfl, by rw [show qOf (rX (xw c0)) = q from hq0]; exact hst⟩⟩)
        · refine (show TT T (0, 0) q 378 [some (.ref 0), some (.int x), some (.int y), some (.int (nI h)), none, none, none, none, none, none, none, none] [.ref 0] from ?_) c hc hq
          refine tt_seg hT (fun pc => Nat.beq pc 384) 60 (fun c hc hq => ?_)
          refine (show TT T (0, 0) q 384 [some (.ref 0), some (.int x), some (.int y), some (.int (nI h)), none, none, none, none, none, none, none, none] [.int y, .int 0, .ref 0] from ?_) c hc hq
          refine tt_r2 (P := joiP) (Q := joiQ) hT rfl rfl rfl rfl rfl ⟨⟨k, hk, hI⟩, Or.inl rfl⟩ ?_
          rintro q' w' ⟨rfl, hst⟩
          show TT T (0, 0) q' 387 [some (.ref 0), some (.int x), some (.int y), some (.int (nI h)), none, none, none, none, none, none, none, none] [.int 1]
          exact tt_ret hT rfl rfl (fun c hc hq => ⟨rfl, c, .int 1, rfl, hc, rfl, fun _ => rfl, by rw [hq]; exact ⟨rfl, by rw [show qOf (rX (xw c0)) = q from hq0]; exact hst⟩⟩)
    · refine (show TT T (0, 0) q 229 [some (.ref 0), some (.int x), some (.int y), some (.int (nI h)), none, none, none, none, none, none, none, none] [] from ?_) c hc hq
      refine tt_seg hT (fun pc => Nat.beq pc 236) 60 (fun c hc hq => ?_)
      refine And.intro ⟨⟨rfl, rfl⟩, (show ¬ ((1003 : Int32) = 0) by decide)⟩ ?_
      refine (show TT T (0, 0) q 236 [some (.ref 0), some (.int x), some (.int y), some (.int (nI h)), none, none, none, none, none, none, none, none] [.int (lowV y 1003)] from ?_) c hc hq
      obtain ⟨ta, hta, eta⟩ : ∃ j : Nat, j < 1003 ∧ lowV y 1003 = nI j := low_n y 1003 (by decide) (by decide)
      have pt := pred_ti (n := ta) (a := 1) (by omega) (by decide)
      rw [t1] at pt
      rw [eta]
      refine tt_seg hT (fun pc => Nat.beq pc 249) 60 (fun c hc hq => ?_)
      refine And.intro ⟨⟨rfl, rfl⟩, (show ¬ ((102 : Int32) = 0) by decide)⟩ ?_
      refine (show TT T (0, 0) q 249 [some (.ref 0), some (.int x), some (.int y), some (.int (nI h)), some (.int ((nI ta) - 1)), none, none, none, none, none, none, none] [.int (lowV (y >>> (10 &&& 31)) 102)] from ?_) c hc hq
      obtain ⟨ra, hra, era⟩ : ∃ j : Nat, j < 102 ∧ lowV (y >>> (10 &&& 31)) 102 = nI j := low_n (y >>> (10 &&& 31)) 102 (by decide) (by decide)
      rw [era]
      refine tt_seg hT (fun pc => Nat.beq pc 276 || Nat.beq pc 256) 80 (fun c hc hq => ?_)
      refine And.intro (fun (hb253 : ((nI ta) - 1) < 0) => ?_) (fun (hb253 : ¬ ((nI ta) - 1) < 0) => ?_)
      · refine (show TT T (0, 0) q 276 [some (.ref 0), some (.int x), some (.int y), some (.int (nI h)), some (.int ((nI ta) - 1)), some (.int (nI ra)), none, none, none, none, none, none] [] from ?_) c hc hq
        refine tt_seg hT (fun pc => Nat.beq pc 285) 60 (fun c hc hq => ?_)
        refine (show TT T (0, 0) q 285 [some (.ref 0), some (.int x), some (.int y), some (.int (nI h)), some (.int ((nI ta) - 1)), some (.int (nI ra)), some (.int 1), none, none, none, none, none] [.int 1, .ref 0] from ?_) c hc hq
        refine tt_k1 (w := vCount) (r := (pAim q.1)) lq_count (vN1) hT rfl rfl rfl rfl rfl ?_
        show TT T (0, 0) q 288 [some (.ref 0), some (.int x), some (.int y), some (.int (nI h)), some (.int ((nI ta) - 1)), some (.int (nI ra)), some (.int 1), none, none, none, none, none] [.int (pAim q.1)]
        refine tt_seg hT (fun pc => Nat.beq pc 292) 60 (fun c hc hq => ?_)
        refine (show TT T (0, 0) q 292 [some (.ref 0), some (.int x), some (.int y), some (.int (nI h)), some (.int ((nI ta) - 1)), some (.int (nI ra)), some (.int 1), some (.int (pAim q.1)), none, none, none, none] [.int 2, .ref 0] from ?_) c hc hq
        refine tt_k1 (w := vCount) (r := (pRate q.1)) lq_count (vN2) hT rfl rfl rfl rfl rfl ?_
        show TT T (0, 0) q 295 [some (.ref 0), some (.int x), some (.int y), some (.int (nI h)), some (.int ((nI ta) - 1)), some (.int (nI ra)), some (.int 1), some (.int (pAim q.1)), none, none, none, none] [.int (pRate q.1)]
        refine tt_seg hT (fun pc => Nat.beq pc 302) 60 (fun c hc hq => ?_)
        refine (show TT T (0, 0) q 302 [some (.ref 0), some (.int x), some (.int y), some (.int (nI h)), some (.int ((nI ta) - 1)), some (.int (nI ra)), some (.int 1), some (.int (pAim q.1)), some (.int (pRate q.1)), none, none, none] [.int (nI ra), .int ((nI ta) - 1), .ref 0] from ?_) c hc hq
        refine tt_e2 (W := wAim) (q' := q) (r := (-1)) aq_aim (aim_no (fun hg => by first | (rw [Int32.lt_iff_toInt_lt, t0] at hb253; omega) | (rw [Int32.lt_iff_toInt_lt, t1000] at hb261; omega) | (have h5 : ra = 0 := nI_is (by omega) (by decide) hb266; rw [nI_toInt (by omega)] at hg; omega) | (have h5 : ra = 101 := nI_is (by omega) (by decide) hb273; rw [nI_toInt (by omega)] at hg; omega))) hT rfl rfl rfl rfl rfl ?_
        show TT T (0, 0) q 305 [some (.ref 0), some (.int x), some (.int y), some (.int (nI h)), some (.int ((nI ta) - 1)), some (.int (nI ra)), some (.int 1), some (.int (pAim q.1)), some (.int (pRate q.1)), none, none, none] [.int (-1)]
        refine tt_seg hT (fun pc => Nat.beq pc 314 || Nat.beq pc 310) 80 (fun c hc hq => ?_)
        refine And.intro (fun (hb307 : 1 = 0) => ?_) (fun (hb307 : ¬ 1 = 0) => ?_)
        · exact absurd hb307 (by decide)
        · refine (show TT T (0, 0) q 310 [some (.ref 0), some (.int x), some (.int y), some (.int (nI h)), some (.int ((nI ta) - 1)), some (.int (nI ra)), some (.int 1), some (.int (pAim q.1)), some (.int (pRate q.1)), none, none, none] [.int (-1)] from ?_) c hc hq
          refine tt_seg hT (fun pc => Nat.beq pc 363 || Nat.beq pc 319) 80 (fun c hc hq => ?_)
          refine And.intro (fun (hb316 : ¬ (-1) = (-1)) => ?_) (fun (hb316 : (-1) = (-1)) => ?_)
          · exact absurd (by decide) hb316
          · refine (show TT T (0, 0) q 319 [some (.ref 0), some (.int x), some (.int y), some (.int (nI h)), some (.int ((nI ta) - 1)), some (.int (nI ra)), some (.int 1), some (.int (pAim q.1)), some (.int (pRate q.1)), none, none, none] [] from ?_) c hc hq
            refine tt_seg hT (fun pc => Nat.beq pc 321) 60 (fun c hc hq => ?_)
            refine (show TT T (0, 0) q 321 [some (.ref 0), some (.int x), some (.int y), some (.int (nI h)), some (.int ((nI ta) - 1)), some (.int (nI ra)), some (.int 1), some (.int (pAim q.1)), some (.int (pRate q.1)), none, none, none] [.int 1, .ref 0] from ?_) c hc hq
            refine tt_k1 (w := vCount) (r := (pAim q.1)) lq_count (vN1) hT rfl rfl rfl rfl rfl ?_
            show TT T (0, 0) q 324 [some (.ref 0), some (.int x), some (.int y), some (.int (nI h)), some (.int ((nI ta) - 1)), some (.int (nI ra)), some (.int 1), some (.int (pAim q.1)), some (.int (pRate q.1)), none, none, none] [.int (pAim q.1)]
            refine tt_seg hT (fun pc => Nat.beq pc 334 || Nat.beq pc 329) 80 (fun c hc hq => ?_)
            refine And.intro (fun (hb326 : 1 = 0) => ?_) (fun (hb326 : ¬ 1 = 0) => ?_)
            · exact absurd hb326 (by decide)
            · refine (show TT T (0, 0) q 329 [some (.ref 0), some (.int x), some (.int y), some (.int (nI h)), some (.int ((nI ta) - 1)), some (.int (nI ra)), some (.int 1), some (.int (pAim q.1)), some (.int (pRate q.1)), none, none, none] [.int (pAim q.1)] from ?_) c hc hq
              refine tt_seg hT (fun pc => Nat.beq pc 363 || Nat.beq pc 339) 80 (fun c hc hq => ?_)
              refine And.intro (fun (hb336 : ¬ (pAim q.1) = (pAim q.1)) => ?_) (fun (hb336 : (pAim q.1) = (pAim q.1)) => ?_)
              · exact absurd (rfl) hb336
              · refine (show TT T (0, 0) q 339 [some (.ref 0), some (.int x), some (.int y), some (.int (nI h)), some (.int ((nI ta) - 1)), some (.int (nI ra)), some (.int 1), some (.int (pAim q.1)), some (.int (pRate q.1)), none, none, none] [] from ?_) c hc hq
                refine tt_seg hT (fun pc => Nat.beq pc 341) 60 (fun c hc hq => ?_)
                refine (show TT T (0, 0) q 341 [some (.ref 0), some (.int x), some (.int y), some (.int (nI h)), some (.int ((nI ta) - 1)), some (.int (nI ra)), some (.int 1), some (.int (pAim q.1)), some (.int (pRate q.1)), none, none, none] [.int 2, .ref 0] from ?_) c hc hq
                refine tt_k1 (w := vCount) (r := (pRate q.1)) lq_count (vN2) hT rfl rfl rfl rfl rfl ?_
                show TT T (0, 0) q 344 [some (.ref 0), some (.int x), some (.int y), some (.int (nI h)), some (.int ((nI ta) - 1)), some (.int (nI ra)), some (.int 1), some (.int (pAim q.1)), some (.int (pRate q.1)), none, none, none] [.int (pRate q.1)]
                refine tt_seg hT (fun pc => Nat.beq pc 354 || Nat.beq pc 349) 80 (fun c hc hq => ?_)
                refine And.intro (fun (hb346 : 1 = 0) => ?_) (fun (hb346 : ¬ 1 = 0) => ?_)
                · exact absurd hb346 (by decide)
                · refine (show TT T (0, 0) q 349 [some (.ref 0), some (.int x), some (.int y), some (.int (nI h)), some (.int ((nI ta) - 1)), some (.int (nI ra)), some (.int 1), some (.int (pAim q.1)), some (.int (pRate q.1)), none, none, none] [.int (pRate q.1)] from ?_) c hc hq
                  refine tt_seg hT (fun pc => Nat.beq pc 363 || Nat.beq pc 359) 80 (fun c hc hq => ?_)
                  refine And.intro (fun (hb356 : ¬ (pRate q.1) = (pRate q.1)) => ?_) (fun (hb356 : (pRate q.1) = (pRate q.1)) => ?_)
                  · exact absurd (rfl) hb356
                  · refine (show TT T (0, 0) q 359 [some (.ref 0), some (.int x), some (.int y), some (.int (nI h)), some (.int ((nI ta) - 1)), some (.int (nI ra)), some (.int 1), some (.int (pAim q.1)), some (.int (pRate q.1)), none, none, none] [] from ?_) c hc hq
                    refine tt_seg hT (fun pc => Nat.beq pc 364) 60 (fun c hc hq => ?_)
                    refine (show TT T (0, 0) q 364 [some (.ref 0), some (.int x), some (.int y), some (.int (nI h)), some (.int ((nI ta) - 1)), some (.int (nI ra)), some (.int 1), some (.int (pAim q.1)), some (.int (pRate q.1)), none, none, none] [.int 1] from ?_) c hc hq
                    exact tt_ret hT rfl rfl (fun c hc hq => ⟨rfl, c, .int 1, rfl, hc, rfl, fun _ => rfl, by rw [hq]; exact ⟨rfl, by rw [show qOf (rX (xw c0)) = q from hq0]; exact step_same⟩⟩)
      · refine (show TT T (0, 0) q 256 [some (.ref 0), some (.int x), some (.int y), some (.int (nI h)), some (.int ((nI ta) - 1)), some (.int (nI ra)), none, none, none, none, none, none] [] from ?_) c hc hq
        refine tt_seg hT (fun pc => Nat.beq pc 276 || Nat.beq pc 264) 80 (fun c hc hq => ?_)
        refine And.intro (fun (hb261 : 1000 < ((nI ta) - 1)) => ?_) (fun (hb261 : ¬ 1000 < ((nI ta) - 1)) => ?_)
        · refine (show TT T (0, 0) q 276 [some (.ref 0), some (.int x), some (.int y), some (.int (nI h)), some (.int ((nI ta) - 1)), some (.int (nI ra)), none, none, none, none, none, none] [] from ?_) c hc hq
          refine tt_seg hT (fun pc => Nat.beq pc 285) 60 (fun c hc hq => ?_)
          refine (show TT T (0, 0) q 285 [some (.ref 0), some (.int x), some (.int y), some (.int (nI h)), some (.int ((nI ta) - 1)), some (.int (nI ra)), some (.int 1), none, none, none, none, none] [.int 1, .ref 0] from ?_) c hc hq
          refine tt_k1 (w := vCount) (r := (pAim q.1)) lq_count (vN1) hT rfl rfl rfl rfl rfl ?_
          show TT T (0, 0) q 288 [some (.ref 0), some (.int x), some (.int y), some (.int (nI h)), some (.int ((nI ta) - 1)), some (.int (nI ra)), some (.int 1), none, none, none, none, none] [.int (pAim q.1)]
          refine tt_seg hT (fun pc => Nat.beq pc 292) 60 (fun c hc hq => ?_)
          refine (show TT T (0, 0) q 292 [some (.ref 0), some (.int x), some (.int y), some (.int (nI h)), some (.int ((nI ta) - 1)), some (.int (nI ra)), some (.int 1), some (.int (pAim q.1)), none, none, none, none] [.int 2, .ref 0] from ?_) c hc hq
          refine tt_k1 (w := vCount) (r := (pRate q.1)) lq_count (vN2) hT rfl rfl rfl rfl rfl ?_
          show TT T (0, 0) q 295 [some (.ref 0), some (.int x), some (.int y), some (.int (nI h)), some (.int ((nI ta) - 1)), some (.int (nI ra)), some (.int 1), some (.int (pAim q.1)), none, none, none, none] [.int (pRate q.1)]
          refine tt_seg hT (fun pc => Nat.beq pc 302) 60 (fun c hc hq => ?_)
          refine (show TT T (0, 0) q 302 [some (.ref 0), some (.int x), some (.int y), some (.int (nI h)), some (.int ((nI ta) - 1)), some (.int (nI ra)), some (.int 1), some (.int (pAim q.1)), some (.int (pRate q.1)), none, none, none] [.int (nI ra), .int ((nI ta) - 1), .ref 0] from ?_) c hc hq
          refine tt_e2 (W := wAim) (q' := q) (r := (-1)) aq_aim (aim_no (fun hg => by first | (rw [Int32.lt_iff_toInt_lt, t0] at hb253; omega) | (rw [Int32.lt_iff_toInt_lt, t1000] at hb261; omega) | (have h5 : ra = 0 := nI_is (by omega) (by decide) hb266; rw [nI_toInt (by omega)] at hg; omega) | (have h5 : ra = 101 := nI_is (by omega) (by decide) hb273; rw [nI_toInt (by omega)] at hg; omega))) hT rfl rfl rfl rfl rfl ?_
          show TT T (0, 0) q 305 [some (.ref 0), some (.int x), some (.int y), some (.int (nI h)), some (.int ((nI ta) - 1)), some (.int (nI ra)), some (.int 1), some (.int (pAim q.1)), some (.int (pRate q.1)), none, none, none] [.int (-1)]
          refine tt_seg hT (fun pc => Nat.beq pc 314 || Nat.beq pc 310) 80 (fun c hc hq => ?_)
          refine And.intro (fun (hb307 : 1 = 0) => ?_) (fun (hb307 : ¬ 1 = 0) => ?_)
          · exact absurd hb307 (by decide)
          · refine (show TT T (0, 0) q 310 [some (.ref 0), some (.int x), some (.int y), some (.int (nI h)), some (.int ((nI ta) - 1)), some (.int (nI ra)), some (.int 1), some (.int (pAim q.1)), some (.int (pRate q.1)), none, none, none] [.int (-1)] from ?_) c hc hq
            refine tt_seg hT (fun pc => Nat.beq pc 363 || Nat.beq pc 319) 80 (fun c hc hq => ?_)
            refine And.intro (fun (hb316 : ¬ (-1) = (-1)) => ?_) (fun (hb316 : (-1) = (-1)) => ?_)
            · exact absurd (by decide) hb316
            · refine (show TT T (0, 0) q 319 [some (.ref 0), some (.int x), some (.int y), some (.int (nI h)), some (.int ((nI ta) - 1)), some (.int (nI ra)), some (.int 1), some (.int (pAim q.1)), some (.int (pRate q.1)), none, none, none] [] from ?_) c hc hq
              refine tt_seg hT (fun pc => Nat.beq pc 321) 60 (fun c hc hq => ?_)
              refine (show TT T (0, 0) q 321 [some (.ref 0), some (.int x), some (.int y), some (.int (nI h)), some (.int ((nI ta) - 1)), some (.int (nI ra)), some (.int 1), some (.int (pAim q.1)), some (.int (pRate q.1)), none, none, none] [.int 1, .ref 0] from ?_) c hc hq
              refine tt_k1 (w := vCount) (r := (pAim q.1)) lq_count (vN1) hT rfl rfl rfl rfl rfl ?_
              show TT T (0, 0) q 324 [some (.ref 0), some (.int x), some (.int y), some (.int (nI h)), some (.int ((nI ta) - 1)), some (.int (nI ra)), some (.int 1), some (.int (pAim q.1)), some (.int (pRate q.1)), none, none, none] [.int (pAim q.1)]
              refine tt_seg hT (fun pc => Nat.beq pc 334 || Nat.beq pc 329) 80 (fun c hc hq => ?_)
              refine And.intro (fun (hb326 : 1 = 0) => ?_) (fun (hb326 : ¬ 1 = 0) => ?_)
              · exact absurd hb326 (by decide)
              · refine (show TT T (0, 0) q 329 [some (.ref 0), some (.int x), some (.int y), some (.int (nI h)), some (.int ((nI ta) - 1)), some (.int (nI ra)), some (.int 1), some (.int (pAim q.1)), some (.int (pRate q.1)), none, none, none] [.int (pAim q.1)] from ?_) c hc hq
                refine tt_seg hT (fun pc => Nat.beq pc 363 || Nat.beq pc 339) 80 (fun c hc hq => ?_)
                refine And.intro (fun (hb336 : ¬ (pAim q.1) = (pAim q.1)) => ?_) (fun (hb336 : (pAim q.1) = (pAim q.1)) => ?_)
                · exact absurd (rfl) hb336
                · refine (show TT T (0, 0) q 339 [some (.ref 0), some (.int x), some (.int y), some (.int (nI h)), some (.int ((nI ta) - 1)), some (.int (nI ra)), some (.int 1), some (.int (pAim q.1)), some (.int (pRate q.1)), none, none, none] [] from ?_) c hc hq
                  refine tt_seg hT (fun pc => Nat.beq pc 341) 60 (fun c hc hq => ?_)
                  refine (show TT T (0, 0) q 341 [some (.ref 0), some (.int x), some (.int y), some (.int (nI h)), some (.int ((nI ta) - 1)), some (.int (nI ra)), some (.int 1), some (.int (pAim q.1)), some (.int (pRate q.1)), none, none, none] [.int 2, .ref 0] from ?_) c hc hq
                  refine tt_k1 (w := vCount) (r := (pRate q.1)) lq_count (vN2) hT rfl rfl rfl rfl rfl ?_
                  show TT T (0, 0) q 344 [some (.ref 0), some (.int x), some (.int y), some (.int (nI h)), some (.int ((nI ta) - 1)), some (.int (nI ra)), some (.int 1), some (.int (pAim q.1)), some (.int (pRate q.1)), none, none, none] [.int (pRate q.1)]
                  refine tt_seg hT (fun pc => Nat.beq pc 354 || Nat.beq pc 349) 80 (fun c hc hq => ?_)
                  refine And.intro (fun (hb346 : 1 = 0) => ?_) (fun (hb346 : ¬ 1 = 0) => ?_)
                  · exact absurd hb346 (by decide)
                  · refine (show TT T (0, 0) q 349 [some (.ref 0), some (.int x), some (.int y), some (.int (nI h)), some (.int ((nI ta) - 1)), some (.int (nI ra)), some (.int 1), some (.int (pAim q.1)), some (.int (pRate q.1)), none, none, none] [.int (pRate q.1)] from ?_) c hc hq
                    refine tt_seg hT (fun pc => Nat.beq pc 363 || Nat.beq pc 359) 80 (fun c hc hq => ?_)
                    refine And.intro (fun (hb356 : ¬ (pRate q.1) = (pRate q.1)) => ?_) (fun (hb356 : (pRate q.1) = (pRate q.1)) => ?_)
                    · exact absurd (rfl) hb356
                    · refine (show TT T (0, 0) q 359 [some (.ref 0), some (.int x), some (.int y), some (.int (nI h)), some (.int ((nI ta) - 1)), some (.int (nI ra)), some (.int 1), some (.int (pAim q.1)), some (.int (pRate q.1)), none, none, none] [] from ?_) c hc hq
                      refine tt_seg hT (fun pc => Nat.beq pc 364) 60 (fun c hc hq => ?_)
                      refine (show TT T (0, 0) q 364 [some (.ref 0), some (.int x), some (.int y), some (.int (nI h)), some (.int ((nI ta) - 1)), some (.int (nI ra)), some (.int 1), some (.int (pAim q.1)), some (.int (pRate q.1)), none, none, none] [.int 1] from ?_) c hc hq
                      exact tt_ret hT rfl rfl (fun c hc hq => ⟨rfl, c, .int 1, rfl, hc, rfl, fun _ => rfl, by rw [hq]; exact ⟨rfl, by rw [show qOf (rX (xw c0)) = q from hq0]; exact step_same⟩⟩)
        · refine (show TT T (0, 0) q 264 [some (.ref 0), some (.int x), some (.int y), some (.int (nI h)), some (.int ((nI ta) - 1)), some (.int (nI ra)), none, none, none, none, none, none] [] from ?_) c hc hq
          refine tt_seg hT (fun pc => Nat.beq pc 276 || Nat.beq pc 269) 80 (fun c hc hq => ?_)
          refine And.intro (fun (hb266 : (nI ra) = 0) => ?_) (fun (hb266 : ¬ (nI ra) = 0) => ?_)
          · refine (show TT T (0, 0) q 276 [some (.ref 0), some (.int x), some (.int y), some (.int (nI h)), some (.int ((nI ta) - 1)), some (.int (nI ra)), none, none, none, none, none, none] [] from ?_) c hc hq
            refine tt_seg hT (fun pc => Nat.beq pc 285) 60 (fun c hc hq => ?_)
            refine (show TT T (0, 0) q 285 [some (.ref 0), some (.int x), some (.int y), some (.int (nI h)), some (.int ((nI ta) - 1)), some (.int (nI ra)), some (.int 1), none, none, none, none, none] [.int 1, .ref 0] from ?_) c hc hq
            refine tt_k1 (w := vCount) (r := (pAim q.1)) lq_count (vN1) hT rfl rfl rfl rfl rfl ?_
            show TT T (0, 0) q 288 [some (.ref 0), some (.int x), some (.int y), some (.int (nI h)), some (.int ((nI ta) - 1)), some (.int (nI ra)), some (.int 1), none, none, none, none, none] [.int (pAim q.1)]
            refine tt_seg hT (fun pc => Nat.beq pc 292) 60 (fun c hc hq => ?_)
            refine (show TT T (0, 0) q 292 [some (.ref 0), some (.int x), some (.int y), some (.int (nI h)), some (.int ((nI ta) - 1)), some (.int (nI ra)), some (.int 1), some (.int (pAim q.1)), none, none, none, none] [.int 2, .ref 0] from ?_) c hc hq
            refine tt_k1 (w := vCount) (r := (pRate q.1)) lq_count (vN2) hT rfl rfl rfl rfl rfl ?_
            show TT T (0, 0) q 295 [some (.ref 0), some (.int x), some (.int y), some (.int (nI h)), some (.int ((nI ta) - 1)), some (.int (nI ra)), some (.int 1), some (.int (pAim q.1)), none, none, none, none] [.int (pRate q.1)]
            refine tt_seg hT (fun pc => Nat.beq pc 302) 60 (fun c hc hq => ?_)
            refine (show TT T (0, 0) q 302 [some (.ref 0), some (.int x), some (.int y), some (.int (nI h)), some (.int ((nI ta) - 1)), some (.int (nI ra)), some (.int 1), some (.int (pAim q.1)), some (.int (pRate q.1)), none, none, none] [.int (nI ra), .int ((nI ta) - 1), .ref 0] from ?_) c hc hq
            refine tt_e2 (W := wAim) (q' := q) (r := (-1)) aq_aim (aim_no (fun hg => by first | (rw [Int32.lt_iff_toInt_lt, t0] at hb253; omega) | (rw [Int32.lt_iff_toInt_lt, t1000] at hb261; omega) | (have h5 : ra = 0 := nI_is (by omega) (by decide) hb266; rw [nI_toInt (by omega)] at hg; omega) | (have h5 : ra = 101 := nI_is (by omega) (by decide) hb273; rw [nI_toInt (by omega)] at hg; omega))) hT rfl rfl rfl rfl rfl ?_
            show TT T (0, 0) q 305 [some (.ref 0), some (.int x), some (.int y), some (.int (nI h)), some (.int ((nI ta) - 1)), some (.int (nI ra)), some (.int 1), some (.int (pAim q.1)), some (.int (pRate q.1)), none, none, none] [.int (-1)]
            refine tt_seg hT (fun pc => Nat.beq pc 314 || Nat.beq pc 310) 80 (fun c hc hq => ?_)
            refine And.intro (fun (hb307 : 1 = 0) => ?_) (fun (hb307 : ¬ 1 = 0) => ?_)
            · exact absurd hb307 (by decide)
            · refine (show TT T (0, 0) q 310 [some (.ref 0), some (.int x), some (.int y), some (.int (nI h)), some (.int ((nI ta) - 1)), some (.int (nI ra)), some (.int 1), some (.int (pAim q.1)), some (.int (pRate q.1)), none, none, none] [.int (-1)] from ?_) c hc hq
              refine tt_seg hT (fun pc => Nat.beq pc 363 || Nat.beq pc 319) 80 (fun c hc hq => ?_)
              refine And.intro (fun (hb316 : ¬ (-1) = (-1)) => ?_) (fun (hb316 : (-1) = (-1)) => ?_)
              · exact absurd (by decide) hb316
              · refine (show TT T (0, 0) q 319 [some (.ref 0), some (.int x), some (.int y), some (.int (nI h)), some (.int ((nI ta) - 1)), some (.int (nI ra)), some (.int 1), some (.int (pAim q.1)), some (.int (pRate q.1)), none, none, none] [] from ?_) c hc hq
                refine tt_seg hT (fun pc => Nat.beq pc 321) 60 (fun c hc hq => ?_)
                refine (show TT T (0, 0) q 321 [some (.ref 0), some (.int x), some (.int y), some (.int (nI h)), some (.int ((nI ta) - 1)), some (.int (nI ra)), some (.int 1), some (.int (pAim q.1)), some (.int (pRate q.1)), none, none, none] [.int 1, .ref 0] from ?_) c hc hq
                refine tt_k1 (w := vCount) (r := (pAim q.1)) lq_count (vN1) hT rfl rfl rfl rfl rfl ?_
                show TT T (0, 0) q 324 [some (.ref 0), some (.int x), some (.int y), some (.int (nI h)), some (.int ((nI ta) - 1)), some (.int (nI ra)), some (.int 1), some (.int (pAim q.1)), some (.int (pRate q.1)), none, none, none] [.int (pAim q.1)]
                refine tt_seg hT (fun pc => Nat.beq pc 334 || Nat.beq pc 329) 80 (fun c hc hq => ?_)
                refine And.intro (fun (hb326 : 1 = 0) => ?_) (fun (hb326 : ¬ 1 = 0) => ?_)
                · exact absurd hb326 (by decide)
                · refine (show TT T (0, 0) q 329 [some (.ref 0), some (.int x), some (.int y), some (.int (nI h)), some (.int ((nI ta) - 1)), some (.int (nI ra)), some (.int 1), some (.int (pAim q.1)), some (.int (pRate q.1)), none, none, none] [.int (pAim q.1)] from ?_) c hc hq
                  refine tt_seg hT (fun pc => Nat.beq pc 363 || Nat.beq pc 339) 80 (fun c hc hq => ?_)
                  refine And.intro (fun (hb336 : ¬ (pAim q.1) = (pAim q.1)) => ?_) (fun (hb336 : (pAim q.1) = (pAim q.1)) => ?_)
                  · exact absurd (rfl) hb336
                  · refine (show TT T (0, 0) q 339 [some (.ref 0), some (.int x), some (.int y), some (.int (nI h)), some (.int ((nI ta) - 1)), some (.int (nI ra)), some (.int 1), some (.int (pAim q.1)), some (.int (pRate q.1)), none, none, none] [] from ?_) c hc hq
                    refine tt_seg hT (fun pc => Nat.beq pc 341) 60 (fun c hc hq => ?_)
                    refine (show TT T (0, 0) q 341 [some (.ref 0), some (.int x), some (.int y), some (.int (nI h)), some (.int ((nI ta) - 1)), some (.int (nI ra)), some (.int 1), some (.int (pAim q.1)), some (.int (pRate q.1)), none, none, none] [.int 2, .ref 0] from ?_) c hc hq
                    refine tt_k1 (w := vCount) (r := (pRate q.1)) lq_count (vN2) hT rfl rfl rfl rfl rfl ?_
                    show TT T (0, 0) q 344 [some (.ref 0), some (.int x), some (.int y), some (.int (nI h)), some (.int ((nI ta) - 1)), some (.int (nI ra)), some (.int 1), some (.int (pAim q.1)), some (.int (pRate q.1)), none, none, none] [.int (pRate q.1)]
                    refine tt_seg hT (fun pc => Nat.beq pc 354 || Nat.beq pc 349) 80 (fun c hc hq => ?_)
                    refine And.intro (fun (hb346 : 1 = 0) => ?_) (fun (hb346 : ¬ 1 = 0) => ?_)
                    · exact absurd hb346 (by decide)
                    · refine (show TT T (0, 0) q 349 [some (.ref 0), some (.int x), some (.int y), some (.int (nI h)), some (.int ((nI ta) - 1)), some (.int (nI ra)), some (.int 1), some (.int (pAim q.1)), some (.int (pRate q.1)), none, none, none] [.int (pRate q.1)] from ?_) c hc hq
                      refine tt_seg hT (fun pc => Nat.beq pc 363 || Nat.beq pc 359) 80 (fun c hc hq => ?_)
                      refine And.intro (fun (hb356 : ¬ (pRate q.1) = (pRate q.1)) => ?_) (fun (hb356 : (pRate q.1) = (pRate q.1)) => ?_)
                      · exact absurd (rfl) hb356
                      · refine (show TT T (0, 0) q 359 [some (.ref 0), some (.int x), some (.int y), some (.int (nI h)), some (.int ((nI ta) - 1)), some (.int (nI ra)), some (.int 1), some (.int (pAim q.1)), some (.int (pRate q.1)), none, none, none] [] from ?_) c hc hq
                        refine tt_seg hT (fun pc => Nat.beq pc 364) 60 (fun c hc hq => ?_)
                        refine (show TT T (0, 0) q 364 [some (.ref 0), some (.int x), some (.int y), some (.int (nI h)), some (.int ((nI ta) - 1)), some (.int (nI ra)), some (.int 1), some (.int (pAim q.1)), some (.int (pRate q.1)), none, none, none] [.int 1] from ?_) c hc hq
                        exact tt_ret hT rfl rfl (fun c hc hq => ⟨rfl, c, .int 1, rfl, hc, rfl, fun _ => rfl, by rw [hq]; exact ⟨rfl, by rw [show qOf (rX (xw c0)) = q from hq0]; exact step_same⟩⟩)
          · refine (show TT T (0, 0) q 269 [some (.ref 0), some (.int x), some (.int y), some (.int (nI h)), some (.int ((nI ta) - 1)), some (.int (nI ra)), none, none, none, none, none, none] [] from ?_) c hc hq
            refine tt_seg hT (fun pc => Nat.beq pc 280 || Nat.beq pc 276) 80 (fun c hc hq => ?_)
            refine And.intro (fun (hb273 : ¬ (nI ra) = 101) => ?_) (fun (hb273 : (nI ra) = 101) => ?_)
            · refine (show TT T (0, 0) q 280 [some (.ref 0), some (.int x), some (.int y), some (.int (nI h)), some (.int ((nI ta) - 1)), some (.int (nI ra)), none, none, none, none, none, none] [] from ?_) c hc hq
              have hg : (0 ≤ (nI ta - 1).toInt ∧ (nI ta - 1).toInt ≤ 1000) ∧ 1 ≤ (nI ra).toInt ∧ (nI ra).toInt ≤ 100 := by have h5 : ¬ ra = 0 := (fun e => hb266 (nI_e e)); have h6 : ¬ ra = 101 := (fun e => hb273 (nI_e e)); rw [Int32.lt_iff_toInt_lt, t0] at hb253; rw [Int32.lt_iff_toInt_lt, t1000] at hb261; rw [nI_toInt (by omega)]; omega
              refine tt_seg hT (fun pc => Nat.beq pc 285) 60 (fun c hc hq => ?_)
              refine (show TT T (0, 0) q 285 [some (.ref 0), some (.int x), some (.int y), some (.int (nI h)), some (.int ((nI ta) - 1)), some (.int (nI ra)), some (.int 0), none, none, none, none, none] [.int 1, .ref 0] from ?_) c hc hq
              refine tt_k1 (w := vCount) (r := (pAim q.1)) lq_count (vN1) hT rfl rfl rfl rfl rfl ?_
              show TT T (0, 0) q 288 [some (.ref 0), some (.int x), some (.int y), some (.int (nI h)), some (.int ((nI ta) - 1)), some (.int (nI ra)), some (.int 0), none, none, none, none, none] [.int (pAim q.1)]
              refine tt_seg hT (fun pc => Nat.beq pc 292) 60 (fun c hc hq => ?_)
              refine (show TT T (0, 0) q 292 [some (.ref 0), some (.int x), some (.int y), some (.int (nI h)), some (.int ((nI ta) - 1)), some (.int (nI ra)), some (.int 0), some (.int (pAim q.1)), none, none, none, none] [.int 2, .ref 0] from ?_) c hc hq
              refine tt_k1 (w := vCount) (r := (pRate q.1)) lq_count (vN2) hT rfl rfl rfl rfl rfl ?_
              show TT T (0, 0) q 295 [some (.ref 0), some (.int x), some (.int y), some (.int (nI h)), some (.int ((nI ta) - 1)), some (.int (nI ra)), some (.int 0), some (.int (pAim q.1)), none, none, none, none] [.int (pRate q.1)]
              refine tt_seg hT (fun pc => Nat.beq pc 302) 60 (fun c hc hq => ?_)
              refine (show TT T (0, 0) q 302 [some (.ref 0), some (.int x), some (.int y), some (.int (nI h)), some (.int ((nI ta) - 1)), some (.int (nI ra)), some (.int 0), some (.int (pAim q.1)), some (.int (pRate q.1)), none, none, none] [.int (nI ra), .int ((nI ta) - 1), .ref 0] from ?_) c hc hq
              refine tt_e2 (W := wAim) (q' := (qNow q (pSetAim q.1 ((nI ta) - 1) (nI ra)))) (r := (pAim q.1)) aq_aim (aim_w hg) hT rfl rfl rfl rfl rfl ?_
              show TT T (0, 0) (qNow q (pSetAim q.1 ((nI ta) - 1) (nI ra))) 305 [some (.ref 0), some (.int x), some (.int y), some (.int (nI h)), some (.int ((nI ta) - 1)), some (.int (nI ra)), some (.int 0), some (.int (pAim q.1)), some (.int (pRate q.1)), none, none, none] [.int (pAim q.1)]
              refine tt_seg hT (fun pc => Nat.beq pc 314 || Nat.beq pc 310) 80 (fun c hc hq => ?_)
              refine And.intro (fun (hb307 : 0 = 0) => ?_) (fun (hb307 : ¬ 0 = 0) => ?_)
              · refine (show TT T (0, 0) (qNow q (pSetAim q.1 ((nI ta) - 1) (nI ra))) 314 [some (.ref 0), some (.int x), some (.int y), some (.int (nI h)), some (.int ((nI ta) - 1)), some (.int (nI ra)), some (.int 0), some (.int (pAim q.1)), some (.int (pRate q.1)), none, none, none] [.int (pAim q.1)] from ?_) c hc hq
                refine tt_seg hT (fun pc => Nat.beq pc 363 || Nat.beq pc 319) 80 (fun c hc hq => ?_)
                refine And.intro (fun (hb316 : ¬ (pAim q.1) = (pAim q.1)) => ?_) (fun (hb316 : (pAim q.1) = (pAim q.1)) => ?_)
                · exact absurd (rfl) hb316
                · refine (show TT T (0, 0) (qNow q (pSetAim q.1 ((nI ta) - 1) (nI ra))) 319 [some (.ref 0), some (.int x), some (.int y), some (.int (nI h)), some (.int ((nI ta) - 1)), some (.int (nI ra)), some (.int 0), some (.int (pAim q.1)), some (.int (pRate q.1)), none, none, none] [] from ?_) c hc hq
                  refine tt_seg hT (fun pc => Nat.beq pc 321) 60 (fun c hc hq => ?_)
                  refine (show TT T (0, 0) (qNow q (pSetAim q.1 ((nI ta) - 1) (nI ra))) 321 [some (.ref 0), some (.int x), some (.int y), some (.int (nI h)), some (.int ((nI ta) - 1)), some (.int (nI ra)), some (.int 0), some (.int (pAim q.1)), some (.int (pRate q.1)), none, none, none] [.int 1, .ref 0] from ?_) c hc hq
                  refine tt_k1 (w := vCount) (r := ((nI ta) - 1)) lq_count (vN1) hT rfl rfl rfl rfl rfl ?_
                  show TT T (0, 0) (qNow q (pSetAim q.1 ((nI ta) - 1) (nI ra))) 324 [some (.ref 0), some (.int x), some (.int y), some (.int (nI h)), some (.int ((nI ta) - 1)), some (.int (nI ra)), some (.int 0), some (.int (pAim q.1)), some (.int (pRate q.1)), none, none, none] [.int ((nI ta) - 1)]
                  refine tt_seg hT (fun pc => Nat.beq pc 334 || Nat.beq pc 329) 80 (fun c hc hq => ?_)
                  refine And.intro (fun (hb326 : 0 = 0) => ?_) (fun (hb326 : ¬ 0 = 0) => ?_)
                  · refine (show TT T (0, 0) (qNow q (pSetAim q.1 ((nI ta) - 1) (nI ra))) 334 [some (.ref 0), some (.int x), some (.int y), some (.int (nI h)), some (.int ((nI ta) - 1)), some (.int (nI ra)), some (.int 0), some (.int (pAim q.1)), some (.int (pRate q.1)), none, none, none] [.int ((nI ta) - 1)] from ?_) c hc hq
                    refine tt_seg hT (fun pc => Nat.beq pc 363 || Nat.beq pc 339) 80 (fun c hc hq => ?_)
                    refine And.intro (fun (hb336 : ¬ ((nI ta) - 1) = ((nI ta) - 1)) => ?_) (fun (hb336 : ((nI ta) - 1) = ((nI ta) - 1)) => ?_)
                    · exact absurd (rfl) hb336
                    · refine (show TT T (0, 0) (qNow q (pSetAim q.1 ((nI ta) - 1) (nI ra))) 339 [some (.ref 0), some (.int x), some (.int y), some (.int (nI h)), some (.int ((nI ta) - 1)), some (.int (nI ra)), some (.int 0), some (.int (pAim q.1)), some (.int (pRate q.1)), none, none, none] [] from ?_) c hc hq
                      refine tt_seg hT (fun pc => Nat.beq pc 341) 60 (fun c hc hq => ?_)
                      refine (show TT T (0, 0) (qNow q (pSetAim q.1 ((nI ta) - 1) (nI ra))) 341 [some (.ref 0), some (.int x), some (.int y), some (.int (nI h)), some (.int ((nI ta) - 1)), some (.int (nI ra)), some (.int 0), some (.int (pAim q.1)), some (.int (pRate q.1)), none, none, none] [.int 2, .ref 0] from ?_) c hc hq
                      refine tt_k1 (w := vCount) (r := (nI ra)) lq_count (vN2) hT rfl rfl rfl rfl rfl ?_
                      show TT T (0, 0) (qNow q (pSetAim q.1 ((nI ta) - 1) (nI ra))) 344 [some (.ref 0), some (.int x), some (.int y), some (.int (nI h)), some (.int ((nI ta) - 1)), some (.int (nI ra)), some (.int 0), some (.int (pAim q.1)), some (.int (pRate q.1)), none, none, none] [.int (nI ra)]
                      refine tt_seg hT (fun pc => Nat.beq pc 354 || Nat.beq pc 349) 80 (fun c hc hq => ?_)
                      refine And.intro (fun (hb346 : 0 = 0) => ?_) (fun (hb346 : ¬ 0 = 0) => ?_)
                      · refine (show TT T (0, 0) (qNow q (pSetAim q.1 ((nI ta) - 1) (nI ra))) 354 [some (.ref 0), some (.int x), some (.int y), some (.int (nI h)), some (.int ((nI ta) - 1)), some (.int (nI ra)), some (.int 0), some (.int (pAim q.1)), some (.int (pRate q.1)), none, none, none] [.int (nI ra)] from ?_) c hc hq
                        refine tt_seg hT (fun pc => Nat.beq pc 363 || Nat.beq pc 359) 80 (fun c hc hq => ?_)
                        refine And.intro (fun (hb356 : ¬ (nI ra) = (nI ra)) => ?_) (fun (hb356 : (nI ra) = (nI ra)) => ?_)
                        · exact absurd (rfl) hb356
                        · refine (show TT T (0, 0) (qNow q (pSetAim q.1 ((nI ta) - 1) (nI ra))) 359 [some (.ref 0), some (.int x), some (.int y), some (.int (nI h)), some (.int ((nI ta) - 1)), some (.int (nI ra)), some (.int 0), some (.int (pAim q.1)), some (.int (pRate q.1)), none, none, none] [] from ?_) c hc hq
                          refine tt_seg hT (fun pc => Nat.beq pc 364) 60 (fun c hc hq => ?_)
                          refine (show TT T (0, 0) (qNow q (pSetAim q.1 ((nI ta) - 1) (nI ra))) 364 [some (.ref 0), some (.int x), some (.int y), some (.int (nI h)), some (.int ((nI ta) - 1)), some (.int (nI ra)), some (.int 0), some (.int (pAim q.1)), some (.int (pRate q.1)), none, none, none] [.int 1] from ?_) c hc hq
                          exact tt_ret hT rfl rfl (fun c hc hq => ⟨rfl, c, .int 1, rfl, hc, rfl, fun _ => rfl, by rw [hq]; exact ⟨rfl, by rw [show qOf (rX (xw c0)) = q from hq0]; exact step_now (fun k hk h => PI_aim h.1 hg.1 hg.2)⟩⟩)
                      · exact absurd (by decide) hb346
                  · exact absurd (by decide) hb326
              · exact absurd (by decide) hb307
            · refine (show TT T (0, 0) q 276 [some (.ref 0), some (.int x), some (.int y), some (.int (nI h)), some (.int ((nI ta) - 1)), some (.int (nI ra)), none, none, none, none, none, none] [] from ?_) c hc hq
              refine tt_seg hT (fun pc => Nat.beq pc 285) 60 (fun c hc hq => ?_)
              refine (show TT T (0, 0) q 285 [some (.ref 0), some (.int x), some (.int y), some (.int (nI h)), some (.int ((nI ta) - 1)), some (.int (nI ra)), some (.int 1), none, none, none, none, none] [.int 1, .ref 0] from ?_) c hc hq
              refine tt_k1 (w := vCount) (r := (pAim q.1)) lq_count (vN1) hT rfl rfl rfl rfl rfl ?_
              show TT T (0, 0) q 288 [some (.ref 0), some (.int x), some (.int y), some (.int (nI h)), some (.int ((nI ta) - 1)), some (.int (nI ra)), some (.int 1), none, none, none, none, none] [.int (pAim q.1)]
              refine tt_seg hT (fun pc => Nat.beq pc 292) 60 (fun c hc hq => ?_)
              refine (show TT T (0, 0) q 292 [some (.ref 0), some (.int x), some (.int y), some (.int (nI h)), some (.int ((nI ta) - 1)), some (.int (nI ra)), some (.int 1), some (.int (pAim q.1)), none, none, none, none] [.int 2, .ref 0] from ?_) c hc hq
              refine tt_k1 (w := vCount) (r := (pRate q.1)) lq_count (vN2) hT rfl rfl rfl rfl rfl ?_
              show TT T (0, 0) q 295 [some (.ref 0), some (.int x), some (.int y), some (.int (nI h)), some (.int ((nI ta) - 1)), some (.int (nI ra)), some (.int 1), some (.int (pAim q.1)), none, none, none, none] [.int (pRate q.1)]
              refine tt_seg hT (fun pc => Nat.beq pc 302) 60 (fun c hc hq => ?_)
              refine (show TT T (0, 0) q 302 [some (.ref 0), some (.int x), some (.int y), some (.int (nI h)), some (.int ((nI ta) - 1)), some (.int (nI ra)), some (.int 1), some (.int (pAim q.1)), some (.int (pRate q.1)), none, none, none] [.int (nI ra), .int ((nI ta) - 1), .ref 0] from ?_) c hc hq
              refine tt_e2 (W := wAim) (q' := q) (r := (-1)) aq_aim (aim_no (fun hg => by first | (rw [Int32.lt_iff_toInt_lt, t0] at hb253; omega) | (rw [Int32.lt_iff_toInt_lt, t1000] at hb261; omega) | (have h5 : ra = 0 := nI_is (by omega) (by decide) hb266; rw [nI_toInt (by omega)] at hg; omega) | (have h5 : ra = 101 := nI_is (by omega) (by decide) hb273; rw [nI_toInt (by omega)] at hg; omega))) hT rfl rfl rfl rfl rfl ?_
              show TT T (0, 0) q 305 [some (.ref 0), some (.int x), some (.int y), some (.int (nI h)), some (.int ((nI ta) - 1)), some (.int (nI ra)), some (.int 1), some (.int (pAim q.1)), some (.int (pRate q.1)), none, none, none] [.int (-1)]
              refine tt_seg hT (fun pc => Nat.beq pc 314 || Nat.beq pc 310) 80 (fun c hc hq => ?_)
              refine And.intro (fun (hb307 : 1 = 0) => ?_) (fun (hb307 : ¬ 1 = 0) => ?_)
              · exact absurd hb307 (by decide)
              · refine (show TT T (0, 0) q 310 [some (.ref 0), some (.int x), some (.int y), some (.int (nI h)), some (.int ((nI ta) - 1)), some (.int (nI ra)), some (.int 1), some (.int (pAim q.1)), some (.int (pRate q.1)), none, none, none] [.int (-1)] from ?_) c hc hq
                refine tt_seg hT (fun pc => Nat.beq pc 363 || Nat.beq pc 319) 80 (fun c hc hq => ?_)
                refine And.intro (fun (hb316 : ¬ (-1) = (-1)) => ?_) (fun (hb316 : (-1) = (-1)) => ?_)
                · exact absurd (by decide) hb316
                · refine (show TT T (0, 0) q 319 [some (.ref 0), some (.int x), some (.int y), some (.int (nI h)), some (.int ((nI ta) - 1)), some (.int (nI ra)), some (.int 1), some (.int (pAim q.1)), some (.int (pRate q.1)), none, none, none] [] from ?_) c hc hq
                  refine tt_seg hT (fun pc => Nat.beq pc 321) 60 (fun c hc hq => ?_)
                  refine (show TT T (0, 0) q 321 [some (.ref 0), some (.int x), some (.int y), some (.int (nI h)), some (.int ((nI ta) - 1)), some (.int (nI ra)), some (.int 1), some (.int (pAim q.1)), some (.int (pRate q.1)), none, none, none] [.int 1, .ref 0] from ?_) c hc hq
                  refine tt_k1 (w := vCount) (r := (pAim q.1)) lq_count (vN1) hT rfl rfl rfl rfl rfl ?_
                  show TT T (0, 0) q 324 [some (.ref 0), some (.int x), some (.int y), some (.int (nI h)), some (.int ((nI ta) - 1)), some (.int (nI ra)), some (.int 1), some (.int (pAim q.1)), some (.int (pRate q.1)), none, none, none] [.int (pAim q.1)]
                  refine tt_seg hT (fun pc => Nat.beq pc 334 || Nat.beq pc 329) 80 (fun c hc hq => ?_)
                  refine And.intro (fun (hb326 : 1 = 0) => ?_) (fun (hb326 : ¬ 1 = 0) => ?_)
                  · exact absurd hb326 (by decide)
                  · refine (show TT T (0, 0) q 329 [some (.ref 0), some (.int x), some (.int y), some (.int (nI h)), some (.int ((nI ta) - 1)), some (.int (nI ra)), some (.int 1), some (.int (pAim q.1)), some (.int (pRate q.1)), none, none, none] [.int (pAim q.1)] from ?_) c hc hq
                    refine tt_seg hT (fun pc => Nat.beq pc 363 || Nat.beq pc 339) 80 (fun c hc hq => ?_)
                    refine And.intro (fun (hb336 : ¬ (pAim q.1) = (pAim q.1)) => ?_) (fun (hb336 : (pAim q.1) = (pAim q.1)) => ?_)
                    · exact absurd (rfl) hb336
                    · refine (show TT T (0, 0) q 339 [some (.ref 0), some (.int x), some (.int y), some (.int (nI h)), some (.int ((nI ta) - 1)), some (.int (nI ra)), some (.int 1), some (.int (pAim q.1)), some (.int (pRate q.1)), none, none, none] [] from ?_) c hc hq
                      refine tt_seg hT (fun pc => Nat.beq pc 341) 60 (fun c hc hq => ?_)
                      refine (show TT T (0, 0) q 341 [some (.ref 0), some (.int x), some (.int y), some (.int (nI h)), some (.int ((nI ta) - 1)), some (.int (nI ra)), some (.int 1), some (.int (pAim q.1)), some (.int (pRate q.1)), none, none, none] [.int 2, .ref 0] from ?_) c hc hq
                      refine tt_k1 (w := vCount) (r := (pRate q.1)) lq_count (vN2) hT rfl rfl rfl rfl rfl ?_
                      show TT T (0, 0) q 344 [some (.ref 0), some (.int x), some (.int y), some (.int (nI h)), some (.int ((nI ta) - 1)), some (.int (nI ra)), some (.int 1), some (.int (pAim q.1)), some (.int (pRate q.1)), none, none, none] [.int (pRate q.1)]
                      refine tt_seg hT (fun pc => Nat.beq pc 354 || Nat.beq pc 349) 80 (fun c hc hq => ?_)
                      refine And.intro (fun (hb346 : 1 = 0) => ?_) (fun (hb346 : ¬ 1 = 0) => ?_)
                      · exact absurd hb346 (by decide)
                      · refine (show TT T (0, 0) q 349 [some (.ref 0), some (.int x), some (.int y), some (.int (nI h)), some (.int ((nI ta) - 1)), some (.int (nI ra)), some (.int 1), some (.int (pAim q.1)), some (.int (pRate q.1)), none, none, none] [.int (pRate q.1)] from ?_) c hc hq
                        refine tt_seg hT (fun pc => Nat.beq pc 363 || Nat.beq pc 359) 80 (fun c hc hq => ?_)
                        refine And.intro (fun (hb356 : ¬ (pRate q.1) = (pRate q.1)) => ?_) (fun (hb356 : (pRate q.1) = (pRate q.1)) => ?_)
                        · exact absurd (rfl) hb356
                        · refine (show TT T (0, 0) q 359 [some (.ref 0), some (.int x), some (.int y), some (.int (nI h)), some (.int ((nI ta) - 1)), some (.int (nI ra)), some (.int 1), some (.int (pAim q.1)), some (.int (pRate q.1)), none, none, none] [] from ?_) c hc hq
                          refine tt_seg hT (fun pc => Nat.beq pc 364) 60 (fun c hc hq => ?_)
                          refine (show TT T (0, 0) q 364 [some (.ref 0), some (.int x), some (.int y), some (.int (nI h)), some (.int ((nI ta) - 1)), some (.int (nI ra)), some (.int 1), some (.int (pAim q.1)), some (.int (pRate q.1)), none, none, none] [.int 1] from ?_) c hc hq
                          exact tt_ret hT rfl rfl (fun c hc hq => ⟨rfl, c, .int 1, rfl, hc, rfl, fun _ => rfl, by rw [hq]; exact ⟨rfl, by rw [show qOf (rX (xw c0)) = q from hq0]; exact step_same⟩⟩)
  · refine (show TT T (0, 0) q 13 [some (.ref 0), some (.int x), some (.int y), some (.int (nI h)), none, none, none, none, none, none, none, none] [] from ?_) c hc hq
    refine tt_seg hT (fun pc => Nat.beq pc 22) 60 (fun c hc hq => ?_)
    refine And.intro ⟨⟨rfl, rfl⟩, (show ¬ ((5 : Int32) = 0) by decide)⟩ ?_
    refine (show TT T (0, 0) q 22 [some (.ref 0), some (.int x), some (.int y), some (.int (nI h)), none, none, none, none, none, none, none, none] [.int (lowV (y >>> (8 &&& 31)) 5), .int y] from ?_) c hc hq
    obtain ⟨j22, hj22, ej22⟩ : ∃ j : Nat, j < 5 ∧ lowV (y >>> (8 &&& 31)) 5 = nI j := low_n (y >>> (8 &&& 31)) 5 (by decide) (by decide)
    rw [ej22]
    refine tt_seg hT (fun pc => Nat.beq pc 30 || Nat.beq pc 25) 80 (fun c hc hq => ?_)
    refine And.intro (fun (hb22 : ¬ (nI j22) = 0) => ?_) (fun (hb22 : (nI j22) = 0) => ?_)
    · refine (show TT T (0, 0) q 30 [some (.ref 0), some (.int x), some (.int y), some (.int (nI h)), none, none, none, none, none, none, none, none] [.int y] from ?_) c hc hq
      refine tt_seg hT (fun pc => Nat.beq pc 35) 60 (fun c hc hq => ?_)
      refine And.intro ⟨⟨rfl, rfl⟩, (show ¬ ((16 : Int32) = 0) by decide)⟩ ?_
      refine (show TT T (0, 0) q 35 [some (.ref 0), some (.int x), some (.int y), some (.int (nI h)), none, none, none, none, none, none, none, none] [.int (lowV y 16)] from ?_) c hc hq
      obtain ⟨m, hm, em⟩ : ∃ j : Nat, j < 16 ∧ lowV y 16 = nI j := low_n y 16 (by decide) (by decide)
      rw [em]
      refine tt_seg hT (fun pc => Nat.beq pc 49 || Nat.beq pc 42) 80 (fun c hc hq => ?_)
      refine And.intro (fun (hb39 : (nI m) = 0) => ?_) (fun (hb39 : ¬ (nI m) = 0) => ?_)
      · refine (show TT T (0, 0) q 49 [some (.ref 0), some (.int x), some (.int y), some (.int (nI h)), some (.int (nI m)), none, none, none, none, none, none, none] [] from ?_) c hc hq
        refine tt_seg hT (fun pc => Nat.beq pc 65 || Nat.beq pc 61) 80 (fun c hc hq => ?_)
        refine And.intro (fun (hb58 : 1 = 0) => ?_) (fun (hb58 : ¬ 1 = 0) => ?_)
        · exact absurd hb58 (by decide)
        · refine (show TT T (0, 0) q 61 [some (.ref 0), some (.int x), some (.int y), some (.int (nI h)), some (.int (nI m)), some (.int 1), none, none, none, none, none, none] [] from ?_) c hc hq
          refine tt_seg hT (fun pc => Nat.beq pc 83 || Nat.beq pc 79) 80 (fun c hc hq => ?_)
          refine And.intro (fun (hb76 : 1 = 0) => ?_) (fun (hb76 : ¬ 1 = 0) => ?_)
          · exact absurd hb76 (by decide)
          · refine (show TT T (0, 0) q 79 [some (.ref 0), some (.int x), some (.int y), some (.int (nI h)), some (.int (nI m)), some (.int 1), some (.int 0), none, none, none, none, none] [] from ?_) c hc hq
            refine tt_seg hT (fun pc => Nat.beq pc 94) 60 (fun c hc hq => ?_)
            refine (show TT T (0, 0) q 94 [some (.ref 0), some (.int x), some (.int y), some (.int (nI h)), some (.int (nI m)), some (.int 1), some (.int 0), some (.int 0), none, none, none, none] [.int 3, .ref 0] from ?_) c hc hq
            refine tt_k1 (w := vCount) (r := (pMinutes q.1)) lq_count (vN3) hT rfl rfl rfl rfl rfl ?_
            show TT T (0, 0) q 97 [some (.ref 0), some (.int x), some (.int y), some (.int (nI h)), some (.int (nI m)), some (.int 1), some (.int 0), some (.int 0), none, none, none, none] [.int (pMinutes q.1)]
            refine tt_seg hT (fun pc => Nat.beq pc 102) 60 (fun c hc hq => ?_)
            refine (show TT T (0, 0) q 102 [some (.ref 0), some (.int x), some (.int y), some (.int (nI h)), some (.int (nI m)), some (.int 1), some (.int 0), some (.int 0), some (.int (pMinutes q.1)), none, none, none] [.int 6, .ref 0] from ?_) c hc hq
            refine tt_k1 (w := vCount) (r := (nI (crN (pC q.1) 60))) lq_count (vN6) hT rfl rfl rfl rfl rfl ?_
            show TT T (0, 0) q 105 [some (.ref 0), some (.int x), some (.int y), some (.int (nI h)), some (.int (nI m)), some (.int 1), some (.int 0), some (.int 0), some (.int (pMinutes q.1)), none, none, none] [.int (nI (crN (pC q.1) 60))]
            refine tt_seg hT (fun pc => Nat.beq pc 109) 60 (fun c hc hq => ?_)
            refine (show TT T (0, 0) q 109 [some (.ref 0), some (.int x), some (.int y), some (.int (nI h)), some (.int (nI m)), some (.int 1), some (.int 0), some (.int 0), some (.int (pMinutes q.1)), some (.int (nI (crN (pC q.1) 60))), none, none] [.int 4, .ref 0] from ?_) c hc hq
            refine tt_k1 (w := vCount) (r := (gSum (pH q.1))) lq_count (vN4) hT rfl rfl rfl rfl rfl ?_
            show TT T (0, 0) q 112 [some (.ref 0), some (.int x), some (.int y), some (.int (nI h)), some (.int (nI m)), some (.int 1), some (.int 0), some (.int 0), some (.int (pMinutes q.1)), some (.int (nI (crN (pC q.1) 60))), none, none] [.int (gSum (pH q.1))]
            refine tt_seg hT (fun pc => Nat.beq pc 114) 60 (fun c hc hq => ?_)
            refine (show TT T (0, 0) q 114 [some (.ref 0), some (.int x), some (.int y), some (.int (nI h)), some (.int (nI m)), some (.int 1), some (.int 0), some (.int 0), some (.int (pMinutes q.1)), some (.int (nI (crN (pC q.1) 60))), none, none] [.int 5, .ref 0, .int (gSum (pH q.1))] from ?_) c hc hq
            refine tt_k1 (w := vCount) (r := (pLoss q.1)) lq_count (vN5) hT rfl rfl rfl rfl rfl ?_
            show TT T (0, 0) q 117 [some (.ref 0), some (.int x), some (.int y), some (.int (nI h)), some (.int (nI m)), some (.int 1), some (.int 0), some (.int 0), some (.int (pMinutes q.1)), some (.int (nI (crN (pC q.1) 60))), none, none] [.int (pLoss q.1), .int (gSum (pH q.1))]
            refine tt_seg hT (fun pc => Nat.beq pc 123) 60 (fun c hc hq => ?_)
            refine (show TT T (0, 0) q 123 [some (.ref 0), some (.int x), some (.int y), some (.int (nI h)), some (.int (nI m)), some (.int 1), some (.int 0), some (.int 0), some (.int (pMinutes q.1)), some (.int (nI (crN (pC q.1) 60))), some (.int ((gSum (pH q.1)) + (pLoss q.1))), none] [.int (nI m), .ref 0] from ?_) c hc hq
            refine tt_e1 (W := wPass) (q' := q) (r := (-1)) aq_pass (pass_no (by omega) (by first | (have h5 : m = 0 := nI_is (by omega) (by decide) hb39; omega) | (have h5 : m = 100 := nI_is (by omega) (by decide) hb46; omega))) hT rfl rfl rfl rfl rfl ?_
            show TT T (0, 0) q 126 [some (.ref 0), some (.int x), some (.int y), some (.int (nI h)), some (.int (nI m)), some (.int 1), some (.int 0), some (.int 0), some (.int (pMinutes q.1)), some (.int (nI (crN (pC q.1) 60))), some (.int ((gSum (pH q.1)) + (pLoss q.1))), none] [.int (-1)]
            refine tt_seg hT (fun pc => Nat.beq pc 157 || Nat.beq pc 133) 80 (fun c hc hq => ?_)
            refine And.intro (fun (hb130 : 1 = 0) => ?_) (fun (hb130 : ¬ 1 = 0) => ?_)
            · exact absurd hb130 (by decide)
            · refine (show TT T (0, 0) q 133 [some (.ref 0), some (.int x), some (.int y), some (.int (nI h)), some (.int (nI m)), some (.int 1), some (.int 0), some (.int 0), some (.int (pMinutes q.1)), some (.int (nI (crN (pC q.1) 60))), some (.int ((gSum (pH q.1)) + (pLoss q.1))), some (.int (-1))] [] from ?_) c hc hq
              refine tt_seg hT (fun pc => Nat.beq pc 153 || Nat.beq pc 139) 80 (fun c hc hq => ?_)
              refine And.intro (fun (hb136 : ¬ (-1) = (-1)) => ?_) (fun (hb136 : (-1) = (-1)) => ?_)
              · exact absurd (by decide) hb136
              · refine (show TT T (0, 0) q 139 [some (.ref 0), some (.int x), some (.int y), some (.int (nI h)), some (.int (nI m)), some (.int 1), some (.int 0), some (.int 0), some (.int (pMinutes q.1)), some (.int (nI (crN (pC q.1) 60))), some (.int ((gSum (pH q.1)) + (pLoss q.1))), some (.int (-1))] [] from ?_) c hc hq
                refine tt_seg hT (fun pc => Nat.beq pc 141) 60 (fun c hc hq => ?_)
                refine (show TT T (0, 0) q 141 [some (.ref 0), some (.int x), some (.int y), some (.int (nI h)), some (.int (nI m)), some (.int 1), some (.int 0), some (.int 0), some (.int (pMinutes q.1)), some (.int (nI (crN (pC q.1) 60))), some (.int ((gSum (pH q.1)) + (pLoss q.1))), some (.int (-1))] [.int 3, .ref 0] from ?_) c hc hq
                refine tt_k1 (w := vCount) (r := (pMinutes q.1)) lq_count (vN3) hT rfl rfl rfl rfl rfl ?_
                show TT T (0, 0) q 144 [some (.ref 0), some (.int x), some (.int y), some (.int (nI h)), some (.int (nI m)), some (.int 1), some (.int 0), some (.int 0), some (.int (pMinutes q.1)), some (.int (nI (crN (pC q.1) 60))), some (.int ((gSum (pH q.1)) + (pLoss q.1))), some (.int (-1))] [.int (pMinutes q.1)]
                refine tt_seg hT (fun pc => Nat.beq pc 153 || Nat.beq pc 149) 80 (fun c hc hq => ?_)
                refine And.intro (fun (hb146 : ¬ (pMinutes q.1) = (pMinutes q.1)) => ?_) (fun (hb146 : (pMinutes q.1) = (pMinutes q.1)) => ?_)
                · exact absurd (rfl) hb146
                · refine (show TT T (0, 0) q 149 [some (.ref 0), some (.int x), some (.int y), some (.int (nI h)), some (.int (nI m)), some (.int 1), some (.int 0), some (.int 0), some (.int (pMinutes q.1)), some (.int (nI (crN (pC q.1) 60))), some (.int ((gSum (pH q.1)) + (pLoss q.1))), some (.int (-1))] [] from ?_) c hc hq
                  refine tt_seg hT (fun pc => Nat.beq pc 222) 60 (fun c hc hq => ?_)
                  refine (show TT T (0, 0) q 222 [some (.ref 0), some (.int x), some (.int y), some (.int (nI h)), some (.int (nI m)), some (.int 1), some (.int 0), some (.int 0), some (.int (pMinutes q.1)), some (.int (nI (crN (pC q.1) 60))), some (.int ((gSum (pH q.1)) + (pLoss q.1))), some (.int (-1))] [.int 1] from ?_) c hc hq
                  exact tt_ret hT rfl rfl (fun c hc hq => ⟨rfl, c, .int 1, rfl, hc, rfl, fun _ => rfl, by rw [hq]; exact ⟨rfl, by rw [show qOf (rX (xw c0)) = q from hq0]; exact step_same⟩⟩)
      · refine (show TT T (0, 0) q 42 [some (.ref 0), some (.int x), some (.int y), some (.int (nI h)), some (.int (nI m)), none, none, none, none, none, none, none] [] from ?_) c hc hq
        refine tt_seg hT (fun pc => Nat.beq pc 53 || Nat.beq pc 49) 80 (fun c hc hq => ?_)
        refine And.intro (fun (hb46 : ¬ (nI m) = 100) => ?_) (fun (hb46 : (nI m) = 100) => ?_)
        · refine (show TT T (0, 0) q 53 [some (.ref 0), some (.int x), some (.int y), some (.int (nI h)), some (.int (nI m)), none, none, none, none, none, none, none] [] from ?_) c hc hq
          have hg : 1 ≤ m ∧ m ≤ 99 := by have h5 : ¬ m = 0 := (fun e => hb39 (nI_e e)); have h6 : ¬ m = 100 := (fun e => hb46 (nI_e e)); omega
          obtain ⟨pa1, pa2, pa3, pa4, kk, pa5, pa6, pa7⟩ := pass_MI hb hM m (by omega)
          obtain ⟨pi0, pi3⟩ := pass_if (p := q.1) hg
          rw [pa6] at pi0
          refine tt_seg hT (fun pc => Nat.beq pc 65 || Nat.beq pc 61) 80 (fun c hc hq => ?_)
          refine And.intro (fun (hb58 : 0 = 0) => ?_) (fun (hb58 : ¬ 0 = 0) => ?_)
          · refine (show TT T (0, 0) q 65 [some (.ref 0), some (.int x), some (.int y), some (.int (nI h)), some (.int (nI m)), some (.int 0), none, none, none, none, none, none] [] from ?_) c hc hq
            refine tt_seg hT (fun pc => Nat.beq pc 69) 60 (fun c hc hq => ?_)
            refine (show TT T (0, 0) q 69 [some (.ref 0), some (.int x), some (.int y), some (.int (nI h)), some (.int (nI m)), some (.int 0), none, none, none, none, none, none] [.int 0, .int (nI m), .ref 0] from ?_) c hc hq
            refine tt_k2 (w := fun q x y => vIf q.1 x y) (r := (nI kk)) lq_if (pi0) hT rfl rfl rfl rfl rfl ?_
            show TT T (0, 0) q 72 [some (.ref 0), some (.int x), some (.int y), some (.int (nI h)), some (.int (nI m)), some (.int 0), none, none, none, none, none, none] [.int (nI kk)]
            refine tt_seg hT (fun pc => Nat.beq pc 83 || Nat.beq pc 79) 80 (fun c hc hq => ?_)
            refine And.intro (fun (hb76 : 0 = 0) => ?_) (fun (hb76 : ¬ 0 = 0) => ?_)
            · refine (show TT T (0, 0) q 83 [some (.ref 0), some (.int x), some (.int y), some (.int (nI h)), some (.int (nI m)), some (.int 0), some (.int (nI kk)), none, none, none, none, none] [] from ?_) c hc hq
              refine tt_seg hT (fun pc => Nat.beq pc 87) 60 (fun c hc hq => ?_)
              refine (show TT T (0, 0) q 87 [some (.ref 0), some (.int x), some (.int y), some (.int (nI h)), some (.int (nI m)), some (.int 0), some (.int (nI kk)), none, none, none, none, none] [.int 3, .int (nI m), .ref 0] from ?_) c hc hq
              refine tt_k2 (w := fun q x y => vIf q.1 x y) (r := (pLoss (pPass q.1 m).1)) lq_if (pi3) hT rfl rfl rfl rfl rfl ?_
              show TT T (0, 0) q 90 [some (.ref 0), some (.int x), some (.int y), some (.int (nI h)), some (.int (nI m)), some (.int 0), some (.int (nI kk)), none, none, none, none, none] [.int (pLoss (pPass q.1 m).1)]
              refine tt_seg hT (fun pc => Nat.beq pc 94) 60 (fun c hc hq => ?_)
              refine (show TT T (0, 0) q 94 [some (.ref 0), some (.int x), some (.int y), some (.int (nI h)), some (.int (nI m)), some (.int 0), some (.int (nI kk)), some (.int (pLoss (pPass q.1 m).1)), none, none, none, none] [.int 3, .ref 0] from ?_) c hc hq
              refine tt_k1 (w := vCount) (r := (pMinutes q.1)) lq_count (vN3) hT rfl rfl rfl rfl rfl ?_
              show TT T (0, 0) q 97 [some (.ref 0), some (.int x), some (.int y), some (.int (nI h)), some (.int (nI m)), some (.int 0), some (.int (nI kk)), some (.int (pLoss (pPass q.1 m).1)), none, none, none, none] [.int (pMinutes q.1)]
              refine tt_seg hT (fun pc => Nat.beq pc 102) 60 (fun c hc hq => ?_)
              refine (show TT T (0, 0) q 102 [some (.ref 0), some (.int x), some (.int y), some (.int (nI h)), some (.int (nI m)), some (.int 0), some (.int (nI kk)), some (.int (pLoss (pPass q.1 m).1)), some (.int (pMinutes q.1)), none, none, none] [.int 6, .ref 0] from ?_) c hc hq
              refine tt_k1 (w := vCount) (r := (nI (crN (pC q.1) 60))) lq_count (vN6) hT rfl rfl rfl rfl rfl ?_
              show TT T (0, 0) q 105 [some (.ref 0), some (.int x), some (.int y), some (.int (nI h)), some (.int (nI m)), some (.int 0), some (.int (nI kk)), some (.int (pLoss (pPass q.1 m).1)), some (.int (pMinutes q.1)), none, none, none] [.int (nI (crN (pC q.1) 60))]
              refine tt_seg hT (fun pc => Nat.beq pc 109) 60 (fun c hc hq => ?_)
              refine (show TT T (0, 0) q 109 [some (.ref 0), some (.int x), some (.int y), some (.int (nI h)), some (.int (nI m)), some (.int 0), some (.int (nI kk)), some (.int (pLoss (pPass q.1 m).1)), some (.int (pMinutes q.1)), some (.int (nI (crN (pC q.1) 60))), none, none] [.int 4, .ref 0] from ?_) c hc hq
              refine tt_k1 (w := vCount) (r := (gSum (pH q.1))) lq_count (vN4) hT rfl rfl rfl rfl rfl ?_
              show TT T (0, 0) q 112 [some (.ref 0), some (.int x), some (.int y), some (.int (nI h)), some (.int (nI m)), some (.int 0), some (.int (nI kk)), some (.int (pLoss (pPass q.1 m).1)), some (.int (pMinutes q.1)), some (.int (nI (crN (pC q.1) 60))), none, none] [.int (gSum (pH q.1))]
              refine tt_seg hT (fun pc => Nat.beq pc 114) 60 (fun c hc hq => ?_)
              refine (show TT T (0, 0) q 114 [some (.ref 0), some (.int x), some (.int y), some (.int (nI h)), some (.int (nI m)), some (.int 0), some (.int (nI kk)), some (.int (pLoss (pPass q.1 m).1)), some (.int (pMinutes q.1)), some (.int (nI (crN (pC q.1) 60))), none, none] [.int 5, .ref 0, .int (gSum (pH q.1))] from ?_) c hc hq
              refine tt_k1 (w := vCount) (r := (pLoss q.1)) lq_count (vN5) hT rfl rfl rfl rfl rfl ?_
              show TT T (0, 0) q 117 [some (.ref 0), some (.int x), some (.int y), some (.int (nI h)), some (.int (nI m)), some (.int 0), some (.int (nI kk)), some (.int (pLoss (pPass q.1 m).1)), some (.int (pMinutes q.1)), some (.int (nI (crN (pC q.1) 60))), none, none] [.int (pLoss q.1), .int (gSum (pH q.1))]
              refine tt_seg hT (fun pc => Nat.beq pc 123) 60 (fun c hc hq => ?_)
              refine (show TT T (0, 0) q 123 [some (.ref 0), some (.int x), some (.int y), some (.int (nI h)), some (.int (nI m)), some (.int 0), some (.int (nI kk)), some (.int (pLoss (pPass q.1 m).1)), some (.int (pMinutes q.1)), some (.int (nI (crN (pC q.1) 60))), some (.int ((gSum (pH q.1)) + (pLoss q.1))), none] [.int (nI m), .ref 0] from ?_) c hc hq
              refine tt_e1 (W := wPass) (q' := (qNow q (pPass q.1 m).1)) (r := (nI kk)) aq_pass (by rw [pass_w hg, pa6]) hT rfl rfl rfl rfl rfl ?_
              show TT T (0, 0) (qNow q (pPass q.1 m).1) 126 [some (.ref 0), some (.int x), some (.int y), some (.int (nI h)), some (.int (nI m)), some (.int 0), some (.int (nI kk)), some (.int (pLoss (pPass q.1 m).1)), some (.int (pMinutes q.1)), some (.int (nI (crN (pC q.1) 60))), some (.int ((gSum (pH q.1)) + (pLoss q.1))), none] [.int (nI kk)]
              refine tt_seg hT (fun pc => Nat.beq pc 157 || Nat.beq pc 133) 80 (fun c hc hq => ?_)
              refine And.intro (fun (hb130 : 0 = 0) => ?_) (fun (hb130 : ¬ 0 = 0) => ?_)
              · refine (show TT T (0, 0) (qNow q (pPass q.1 m).1) 157 [some (.ref 0), some (.int x), some (.int y), some (.int (nI h)), some (.int (nI m)), some (.int 0), some (.int (nI kk)), some (.int (pLoss (pPass q.1 m).1)), some (.int (pMinutes q.1)), some (.int (nI (crN (pC q.1) 60))), some (.int ((gSum (pH q.1)) + (pLoss q.1))), some (.int (nI kk))] [] from ?_) c hc hq
                refine tt_seg hT (fun pc => Nat.beq pc 221 || Nat.beq pc 164) 80 (fun c hc hq => ?_)
                refine And.intro (fun (hb161 : ¬ (nI kk) = (nI kk)) => ?_) (fun (hb161 : (nI kk) = (nI kk)) => ?_)
                · exact absurd (rfl) hb161
                · refine (show TT T (0, 0) (qNow q (pPass q.1 m).1) 164 [some (.ref 0), some (.int x), some (.int y), some (.int (nI h)), some (.int (nI m)), some (.int 0), some (.int (nI kk)), some (.int (pLoss (pPass q.1 m).1)), some (.int (pMinutes q.1)), some (.int (nI (crN (pC q.1) 60))), some (.int ((gSum (pH q.1)) + (pLoss q.1))), some (.int (nI kk))] [] from ?_) c hc hq
                  refine tt_seg hT (fun pc => Nat.beq pc 166) 60 (fun c hc hq => ?_)
                  refine (show TT T (0, 0) (qNow q (pPass q.1 m).1) 166 [some (.ref 0), some (.int x), some (.int y), some (.int (nI h)), some (.int (nI m)), some (.int 0), some (.int (nI kk)), some (.int (pLoss (pPass q.1 m).1)), some (.int (pMinutes q.1)), some (.int (nI (crN (pC q.1) 60))), some (.int ((gSum (pH q.1)) + (pLoss q.1))), some (.int (nI kk))] [.int 5, .ref 0] from ?_) c hc hq
                  refine tt_k1 (w := vCount) (r := (pLoss (pPass q.1 m).1)) lq_count (vN5) hT rfl rfl rfl rfl rfl ?_
                  show TT T (0, 0) (qNow q (pPass q.1 m).1) 169 [some (.ref 0), some (.int x), some (.int y), some (.int (nI h)), some (.int (nI m)), some (.int 0), some (.int (nI kk)), some (.int (pLoss (pPass q.1 m).1)), some (.int (pMinutes q.1)), some (.int (nI (crN (pC q.1) 60))), some (.int ((gSum (pH q.1)) + (pLoss q.1))), some (.int (nI kk))] [.int (pLoss (pPass q.1 m).1)]
                  refine tt_seg hT (fun pc => Nat.beq pc 221 || Nat.beq pc 174) 80 (fun c hc hq => ?_)
                  refine And.intro (fun (hb171 : ¬ (pLoss (pPass q.1 m).1) = (pLoss (pPass q.1 m).1)) => ?_) (fun (hb171 : (pLoss (pPass q.1 m).1) = (pLoss (pPass q.1 m).1)) => ?_)
                  · exact absurd (rfl) hb171
                  · refine (show TT T (0, 0) (qNow q (pPass q.1 m).1) 174 [some (.ref 0), some (.int x), some (.int y), some (.int (nI h)), some (.int (nI m)), some (.int 0), some (.int (nI kk)), some (.int (pLoss (pPass q.1 m).1)), some (.int (pMinutes q.1)), some (.int (nI (crN (pC q.1) 60))), some (.int ((gSum (pH q.1)) + (pLoss q.1))), some (.int (nI kk))] [] from ?_) c hc hq
                    refine tt_seg hT (fun pc => Nat.beq pc 176) 60 (fun c hc hq => ?_)
                    refine (show TT T (0, 0) (qNow q (pPass q.1 m).1) 176 [some (.ref 0), some (.int x), some (.int y), some (.int (nI h)), some (.int (nI m)), some (.int 0), some (.int (nI kk)), some (.int (pLoss (pPass q.1 m).1)), some (.int (pMinutes q.1)), some (.int (nI (crN (pC q.1) 60))), some (.int ((gSum (pH q.1)) + (pLoss q.1))), some (.int (nI kk))] [.int 3, .ref 0] from ?_) c hc hq
                    refine tt_k1 (w := vCount) (r := (pMinutes q.1 + nI m)) lq_count (vN3.trans pa2) hT rfl rfl rfl rfl rfl ?_
                    show TT T (0, 0) (qNow q (pPass q.1 m).1) 179 [some (.ref 0), some (.int x), some (.int y), some (.int (nI h)), some (.int (nI m)), some (.int 0), some (.int (nI kk)), some (.int (pLoss (pPass q.1 m).1)), some (.int (pMinutes q.1)), some (.int (nI (crN (pC q.1) 60))), some (.int ((gSum (pH q.1)) + (pLoss q.1))), some (.int (nI kk))] [.int (pMinutes q.1 + nI m)]
                    refine tt_seg hT (fun pc => Nat.beq pc 221 || Nat.beq pc 187) 80 (fun c hc hq => ?_)
                    refine And.intro (fun (hb184 : ¬ (pMinutes q.1 + nI m) = ((pMinutes q.1) + (nI m))) => ?_) (fun (hb184 : (pMinutes q.1 + nI m) = ((pMinutes q.1) + (nI m))) => ?_)
                    · exact absurd (rfl) hb184
                    · refine (show TT T (0, 0) (qNow q (pPass q.1 m).1) 187 [some (.ref 0), some (.int x), some (.int y), some (.int (nI h)), some (.int (nI m)), some (.int 0), some (.int (nI kk)), some (.int (pLoss (pPass q.1 m).1)), some (.int (pMinutes q.1)), some (.int (nI (crN (pC q.1) 60))), some (.int ((gSum (pH q.1)) + (pLoss q.1))), some (.int (nI kk))] [] from ?_) c hc hq
                      refine tt_seg hT (fun pc => Nat.beq pc 190) 60 (fun c hc hq => ?_)
                      refine (show TT T (0, 0) (qNow q (pPass q.1 m).1) 190 [some (.ref 0), some (.int x), some (.int y), some (.int (nI h)), some (.int (nI m)), some (.int 0), some (.int (nI kk)), some (.int (pLoss (pPass q.1 m).1)), some (.int (pMinutes q.1)), some (.int (nI (crN (pC q.1) 60))), some (.int ((gSum (pH q.1)) + (pLoss q.1))), some (.int (nI kk))] [.int 6, .ref 0] from ?_) c hc hq
                      refine tt_k1 (w := vCount) (r := (nI (crN (pC q.1) 60 + kk))) lq_count (pas_6 pa7) hT rfl rfl rfl rfl rfl ?_
                      show TT T (0, 0) (qNow q (pPass q.1 m).1) 193 [some (.ref 0), some (.int x), some (.int y), some (.int (nI h)), some (.int (nI m)), some (.int 0), some (.int (nI kk)), some (.int (pLoss (pPass q.1 m).1)), some (.int (pMinutes q.1)), some (.int (nI (crN (pC q.1) 60))), some (.int ((gSum (pH q.1)) + (pLoss q.1))), some (.int (nI kk))] [.int (nI (crN (pC q.1) 60 + kk))]
                      refine tt_seg hT (fun pc => Nat.beq pc 221 || Nat.beq pc 201) 80 (fun c hc hq => ?_)
                      refine And.intro (fun (hb198 : ¬ (nI (crN (pC q.1) 60 + kk)) = ((nI (crN (pC q.1) 60)) + (nI kk))) => ?_) (fun (hb198 : (nI (crN (pC q.1) 60 + kk)) = ((nI (crN (pC q.1) 60)) + (nI kk))) => ?_)
                      · exact absurd ((nI_add _ _).symm) hb198
                      · refine (show TT T (0, 0) (qNow q (pPass q.1 m).1) 201 [some (.ref 0), some (.int x), some (.int y), some (.int (nI h)), some (.int (nI m)), some (.int 0), some (.int (nI kk)), some (.int (pLoss (pPass q.1 m).1)), some (.int (pMinutes q.1)), some (.int (nI (crN (pC q.1) 60))), some (.int ((gSum (pH q.1)) + (pLoss q.1))), some (.int (nI kk))] [] from ?_) c hc hq
                        refine tt_seg hT (fun pc => Nat.beq pc 203) 60 (fun c hc hq => ?_)
                        refine (show TT T (0, 0) (qNow q (pPass q.1 m).1) 203 [some (.ref 0), some (.int x), some (.int y), some (.int (nI h)), some (.int (nI m)), some (.int 0), some (.int (nI kk)), some (.int (pLoss (pPass q.1 m).1)), some (.int (pMinutes q.1)), some (.int (nI (crN (pC q.1) 60))), some (.int ((gSum (pH q.1)) + (pLoss q.1))), some (.int (nI kk))] [.int 4, .ref 0] from ?_) c hc hq
                        refine tt_k1 (w := vCount) (r := (gSum (pH (pPass q.1 m).1))) lq_count (pas_4) hT rfl rfl rfl rfl rfl ?_
                        show TT T (0, 0) (qNow q (pPass q.1 m).1) 206 [some (.ref 0), some (.int x), some (.int y), some (.int (nI h)), some (.int (nI m)), some (.int 0), some (.int (nI kk)), some (.int (pLoss (pPass q.1 m).1)), some (.int (pMinutes q.1)), some (.int (nI (crN (pC q.1) 60))), some (.int ((gSum (pH q.1)) + (pLoss q.1))), some (.int (nI kk))] [.int (gSum (pH (pPass q.1 m).1))]
                        refine tt_seg hT (fun pc => Nat.beq pc 208) 60 (fun c hc hq => ?_)
                        refine (show TT T (0, 0) (qNow q (pPass q.1 m).1) 208 [some (.ref 0), some (.int x), some (.int y), some (.int (nI h)), some (.int (nI m)), some (.int 0), some (.int (nI kk)), some (.int (pLoss (pPass q.1 m).1)), some (.int (pMinutes q.1)), some (.int (nI (crN (pC q.1) 60))), some (.int ((gSum (pH q.1)) + (pLoss q.1))), some (.int (nI kk))] [.int 5, .ref 0, .int (gSum (pH (pPass q.1 m).1))] from ?_) c hc hq
                        refine tt_k1 (w := vCount) (r := (pLoss (pPass q.1 m).1)) lq_count (vN5) hT rfl rfl rfl rfl rfl ?_
                        show TT T (0, 0) (qNow q (pPass q.1 m).1) 211 [some (.ref 0), some (.int x), some (.int y), some (.int (nI h)), some (.int (nI m)), some (.int 0), some (.int (nI kk)), some (.int (pLoss (pPass q.1 m).1)), some (.int (pMinutes q.1)), some (.int (nI (crN (pC q.1) 60))), some (.int ((gSum (pH q.1)) + (pLoss q.1))), some (.int (nI kk))] [.int (pLoss (pPass q.1 m).1), .int (gSum (pH (pPass q.1 m).1))]
                        refine tt_seg hT (fun pc => Nat.beq pc 221 || Nat.beq pc 217) 80 (fun c hc hq => ?_)
                        refine And.intro (fun (hb214 : ¬ ((gSum (pH (pPass q.1 m).1)) + (pLoss (pPass q.1 m).1)) = ((gSum (pH q.1)) + (pLoss q.1))) => ?_) (fun (hb214 : ((gSum (pH (pPass q.1 m).1)) + (pLoss (pPass q.1 m).1)) = ((gSum (pH q.1)) + (pLoss q.1))) => ?_)
                        · exact absurd (pa4) hb214
                        · refine (show TT T (0, 0) (qNow q (pPass q.1 m).1) 217 [some (.ref 0), some (.int x), some (.int y), some (.int (nI h)), some (.int (nI m)), some (.int 0), some (.int (nI kk)), some (.int (pLoss (pPass q.1 m).1)), some (.int (pMinutes q.1)), some (.int (nI (crN (pC q.1) 60))), some (.int ((gSum (pH q.1)) + (pLoss q.1))), some (.int (nI kk))] [] from ?_) c hc hq
                          refine tt_seg hT (fun pc => Nat.beq pc 222) 60 (fun c hc hq => ?_)
                          refine (show TT T (0, 0) (qNow q (pPass q.1 m).1) 222 [some (.ref 0), some (.int x), some (.int y), some (.int (nI h)), some (.int (nI m)), some (.int 0), some (.int (nI kk)), some (.int (pLoss (pPass q.1 m).1)), some (.int (pMinutes q.1)), some (.int (nI (crN (pC q.1) 60))), some (.int ((gSum (pH q.1)) + (pLoss q.1))), some (.int (nI kk))] [.int 1] from ?_) c hc hq
                          exact tt_ret hT rfl rfl (fun c hc hq => ⟨rfl, c, .int 1, rfl, hc, rfl, fun _ => rfl, by rw [hq]; exact ⟨rfl, by rw [show qOf (rX (xw c0)) = q from hq0]; exact step_now (fun k hk h => PI_pass (by omega) h.1 (by omega))⟩⟩)
              · exact absurd (by decide) hb130
            · exact absurd (by decide) hb76
          · exact absurd (by decide) hb58
        · refine (show TT T (0, 0) q 49 [some (.ref 0), some (.int x), some (.int y), some (.int (nI h)), some (.int (nI m)), none, none, none, none, none, none, none] [] from ?_) c hc hq
          refine tt_seg hT (fun pc => Nat.beq pc 65 || Nat.beq pc 61) 80 (fun c hc hq => ?_)
          refine And.intro (fun (hb58 : 1 = 0) => ?_) (fun (hb58 : ¬ 1 = 0) => ?_)
          · exact absurd hb58 (by decide)
          · refine (show TT T (0, 0) q 61 [some (.ref 0), some (.int x), some (.int y), some (.int (nI h)), some (.int (nI m)), some (.int 1), none, none, none, none, none, none] [] from ?_) c hc hq
            refine tt_seg hT (fun pc => Nat.beq pc 83 || Nat.beq pc 79) 80 (fun c hc hq => ?_)
            refine And.intro (fun (hb76 : 1 = 0) => ?_) (fun (hb76 : ¬ 1 = 0) => ?_)
            · exact absurd hb76 (by decide)
            · refine (show TT T (0, 0) q 79 [some (.ref 0), some (.int x), some (.int y), some (.int (nI h)), some (.int (nI m)), some (.int 1), some (.int 0), none, none, none, none, none] [] from ?_) c hc hq
              refine tt_seg hT (fun pc => Nat.beq pc 94) 60 (fun c hc hq => ?_)
              refine (show TT T (0, 0) q 94 [some (.ref 0), some (.int x), some (.int y), some (.int (nI h)), some (.int (nI m)), some (.int 1), some (.int 0), some (.int 0), none, none, none, none] [.int 3, .ref 0] from ?_) c hc hq
              refine tt_k1 (w := vCount) (r := (pMinutes q.1)) lq_count (vN3) hT rfl rfl rfl rfl rfl ?_
              show TT T (0, 0) q 97 [some (.ref 0), some (.int x), some (.int y), some (.int (nI h)), some (.int (nI m)), some (.int 1), some (.int 0), some (.int 0), none, none, none, none] [.int (pMinutes q.1)]
              refine tt_seg hT (fun pc => Nat.beq pc 102) 60 (fun c hc hq => ?_)
              refine (show TT T (0, 0) q 102 [some (.ref 0), some (.int x), some (.int y), some (.int (nI h)), some (.int (nI m)), some (.int 1), some (.int 0), some (.int 0), some (.int (pMinutes q.1)), none, none, none] [.int 6, .ref 0] from ?_) c hc hq
              refine tt_k1 (w := vCount) (r := (nI (crN (pC q.1) 60))) lq_count (vN6) hT rfl rfl rfl rfl rfl ?_
              show TT T (0, 0) q 105 [some (.ref 0), some (.int x), some (.int y), some (.int (nI h)), some (.int (nI m)), some (.int 1), some (.int 0), some (.int 0), some (.int (pMinutes q.1)), none, none, none] [.int (nI (crN (pC q.1) 60))]
              refine tt_seg hT (fun pc => Nat.beq pc 109) 60 (fun c hc hq => ?_)
              refine (show TT T (0, 0) q 109 [some (.ref 0), some (.int x), some (.int y), some (.int (nI h)), some (.int (nI m)), some (.int 1), some (.int 0), some (.int 0), some (.int (pMinutes q.1)), some (.int (nI (crN (pC q.1) 60))), none, none] [.int 4, .ref 0] from ?_) c hc hq
              refine tt_k1 (w := vCount) (r := (gSum (pH q.1))) lq_count (vN4) hT rfl rfl rfl rfl rfl ?_
              show TT T (0, 0) q 112 [some (.ref 0), some (.int x), some (.int y), some (.int (nI h)), some (.int (nI m)), some (.int 1), some (.int 0), some (.int 0), some (.int (pMinutes q.1)), some (.int (nI (crN (pC q.1) 60))), none, none] [.int (gSum (pH q.1))]
              refine tt_seg hT (fun pc => Nat.beq pc 114) 60 (fun c hc hq => ?_)
              refine (show TT T (0, 0) q 114 [some (.ref 0), some (.int x), some (.int y), some (.int (nI h)), some (.int (nI m)), some (.int 1), some (.int 0), some (.int 0), some (.int (pMinutes q.1)), some (.int (nI (crN (pC q.1) 60))), none, none] [.int 5, .ref 0, .int (gSum (pH q.1))] from ?_) c hc hq
              refine tt_k1 (w := vCount) (r := (pLoss q.1)) lq_count (vN5) hT rfl rfl rfl rfl rfl ?_
              show TT T (0, 0) q 117 [some (.ref 0), some (.int x), some (.int y), some (.int (nI h)), some (.int (nI m)), some (.int 1), some (.int 0), some (.int 0), some (.int (pMinutes q.1)), some (.int (nI (crN (pC q.1) 60))), none, none] [.int (pLoss q.1), .int (gSum (pH q.1))]
              refine tt_seg hT (fun pc => Nat.beq pc 123) 60 (fun c hc hq => ?_)
              refine (show TT T (0, 0) q 123 [some (.ref 0), some (.int x), some (.int y), some (.int (nI h)), some (.int (nI m)), some (.int 1), some (.int 0), some (.int 0), some (.int (pMinutes q.1)), some (.int (nI (crN (pC q.1) 60))), some (.int ((gSum (pH q.1)) + (pLoss q.1))), none] [.int (nI m), .ref 0] from ?_) c hc hq
              refine tt_e1 (W := wPass) (q' := q) (r := (-1)) aq_pass (pass_no (by omega) (by first | (have h5 : m = 0 := nI_is (by omega) (by decide) hb39; omega) | (have h5 : m = 100 := nI_is (by omega) (by decide) hb46; omega))) hT rfl rfl rfl rfl rfl ?_
              show TT T (0, 0) q 126 [some (.ref 0), some (.int x), some (.int y), some (.int (nI h)), some (.int (nI m)), some (.int 1), some (.int 0), some (.int 0), some (.int (pMinutes q.1)), some (.int (nI (crN (pC q.1) 60))), some (.int ((gSum (pH q.1)) + (pLoss q.1))), none] [.int (-1)]
              refine tt_seg hT (fun pc => Nat.beq pc 157 || Nat.beq pc 133) 80 (fun c hc hq => ?_)
              refine And.intro (fun (hb130 : 1 = 0) => ?_) (fun (hb130 : ¬ 1 = 0) => ?_)
              · exact absurd hb130 (by decide)
              · refine (show TT T (0, 0) q 133 [some (.ref 0), some (.int x), some (.int y), some (.int (nI h)), some (.int (nI m)), some (.int 1), some (.int 0), some (.int 0), some (.int (pMinutes q.1)), some (.int (nI (crN (pC q.1) 60))), some (.int ((gSum (pH q.1)) + (pLoss q.1))), some (.int (-1))] [] from ?_) c hc hq
                refine tt_seg hT (fun pc => Nat.beq pc 153 || Nat.beq pc 139) 80 (fun c hc hq => ?_)
                refine And.intro (fun (hb136 : ¬ (-1) = (-1)) => ?_) (fun (hb136 : (-1) = (-1)) => ?_)
                · exact absurd (by decide) hb136
                · refine (show TT T (0, 0) q 139 [some (.ref 0), some (.int x), some (.int y), some (.int (nI h)), some (.int (nI m)), some (.int 1), some (.int 0), some (.int 0), some (.int (pMinutes q.1)), some (.int (nI (crN (pC q.1) 60))), some (.int ((gSum (pH q.1)) + (pLoss q.1))), some (.int (-1))] [] from ?_) c hc hq
                  refine tt_seg hT (fun pc => Nat.beq pc 141) 60 (fun c hc hq => ?_)
                  refine (show TT T (0, 0) q 141 [some (.ref 0), some (.int x), some (.int y), some (.int (nI h)), some (.int (nI m)), some (.int 1), some (.int 0), some (.int 0), some (.int (pMinutes q.1)), some (.int (nI (crN (pC q.1) 60))), some (.int ((gSum (pH q.1)) + (pLoss q.1))), some (.int (-1))] [.int 3, .ref 0] from ?_) c hc hq
                  refine tt_k1 (w := vCount) (r := (pMinutes q.1)) lq_count (vN3) hT rfl rfl rfl rfl rfl ?_
                  show TT T (0, 0) q 144 [some (.ref 0), some (.int x), some (.int y), some (.int (nI h)), some (.int (nI m)), some (.int 1), some (.int 0), some (.int 0), some (.int (pMinutes q.1)), some (.int (nI (crN (pC q.1) 60))), some (.int ((gSum (pH q.1)) + (pLoss q.1))), some (.int (-1))] [.int (pMinutes q.1)]
                  refine tt_seg hT (fun pc => Nat.beq pc 153 || Nat.beq pc 149) 80 (fun c hc hq => ?_)
                  refine And.intro (fun (hb146 : ¬ (pMinutes q.1) = (pMinutes q.1)) => ?_) (fun (hb146 : (pMinutes q.1) = (pMinutes q.1)) => ?_)
                  · exact absurd (rfl) hb146
                  · refine (show TT T (0, 0) q 149 [some (.ref 0), some (.int x), some (.int y), some (.int (nI h)), some (.int (nI m)), some (.int 1), some (.int 0), some (.int 0), some (.int (pMinutes q.1)), some (.int (nI (crN (pC q.1) 60))), some (.int ((gSum (pH q.1)) + (pLoss q.1))), some (.int (-1))] [] from ?_) c hc hq
                    refine tt_seg hT (fun pc => Nat.beq pc 222) 60 (fun c hc hq => ?_)
                    refine (show TT T (0, 0) q 222 [some (.ref 0), some (.int x), some (.int y), some (.int (nI h)), some (.int (nI m)), some (.int 1), some (.int 0), some (.int 0), some (.int (pMinutes q.1)), some (.int (nI (crN (pC q.1) 60))), some (.int ((gSum (pH q.1)) + (pLoss q.1))), some (.int (-1))] [.int 1] from ?_) c hc hq
                    exact tt_ret hT rfl rfl (fun c hc hq => ⟨rfl, c, .int 1, rfl, hc, rfl, fun _ => rfl, by rw [hq]; exact ⟨rfl, by rw [show qOf (rX (xw c0)) = q from hq0]; exact step_same⟩⟩)
    · refine (show TT T (0, 0) q 25 [some (.ref 0), some (.int x), some (.int y), some (.int (nI h)), none, none, none, none, none, none, none, none] [.int y] from ?_) c hc hq
      refine tt_seg hT (fun pc => Nat.beq pc 35) 60 (fun c hc hq => ?_)
      refine And.intro ⟨⟨rfl, rfl⟩, (show ¬ ((101 : Int32) = 0) by decide)⟩ ?_
      refine (show TT T (0, 0) q 35 [some (.ref 0), some (.int x), some (.int y), some (.int (nI h)), none, none, none, none, none, none, none, none] [.int (lowV y 101)] from ?_) c hc hq
      obtain ⟨m, hm, em⟩ : ∃ j : Nat, j < 101 ∧ lowV y 101 = nI j := low_n y 101 (by decide) (by decide)
      rw [em]
      refine tt_seg hT (fun pc => Nat.beq pc 49 || Nat.beq pc 42) 80 (fun c hc hq => ?_)
      refine And.intro (fun (hb39 : (nI m) = 0) => ?_) (fun (hb39 : ¬ (nI m) = 0) => ?_)
      · refine (show TT T (0, 0) q 49 [some (.ref 0), some (.int x), some (.int y), some (.int (nI h)), some (.int (nI m)), none, none, none, none, none, none, none] [] from ?_) c hc hq
        refine tt_seg hT (fun pc => Nat.beq pc 65 || Nat.beq pc 61) 80 (fun c hc hq => ?_)
        refine And.intro (fun (hb58 : 1 = 0) => ?_) (fun (hb58 : ¬ 1 = 0) => ?_)
        · exact absurd hb58 (by decide)
        · refine (show TT T (0, 0) q 61 [some (.ref 0), some (.int x), some (.int y), some (.int (nI h)), some (.int (nI m)), some (.int 1), none, none, none, none, none, none] [] from ?_) c hc hq
          refine tt_seg hT (fun pc => Nat.beq pc 83 || Nat.beq pc 79) 80 (fun c hc hq => ?_)
          refine And.intro (fun (hb76 : 1 = 0) => ?_) (fun (hb76 : ¬ 1 = 0) => ?_)
          · exact absurd hb76 (by decide)
          · refine (show TT T (0, 0) q 79 [some (.ref 0), some (.int x), some (.int y), some (.int (nI h)), some (.int (nI m)), some (.int 1), some (.int 0), none, none, none, none, none] [] from ?_) c hc hq
            refine tt_seg hT (fun pc => Nat.beq pc 94) 60 (fun c hc hq => ?_)
            refine (show TT T (0, 0) q 94 [some (.ref 0), some (.int x), some (.int y), some (.int (nI h)), some (.int (nI m)), some (.int 1), some (.int 0), some (.int 0), none, none, none, none] [.int 3, .ref 0] from ?_) c hc hq
            refine tt_k1 (w := vCount) (r := (pMinutes q.1)) lq_count (vN3) hT rfl rfl rfl rfl rfl ?_
            show TT T (0, 0) q 97 [some (.ref 0), some (.int x), some (.int y), some (.int (nI h)), some (.int (nI m)), some (.int 1), some (.int 0), some (.int 0), none, none, none, none] [.int (pMinutes q.1)]
            refine tt_seg hT (fun pc => Nat.beq pc 102) 60 (fun c hc hq => ?_)
            refine (show TT T (0, 0) q 102 [some (.ref 0), some (.int x), some (.int y), some (.int (nI h)), some (.int (nI m)), some (.int 1), some (.int 0), some (.int 0), some (.int (pMinutes q.1)), none, none, none] [.int 6, .ref 0] from ?_) c hc hq
            refine tt_k1 (w := vCount) (r := (nI (crN (pC q.1) 60))) lq_count (vN6) hT rfl rfl rfl rfl rfl ?_
            show TT T (0, 0) q 105 [some (.ref 0), some (.int x), some (.int y), some (.int (nI h)), some (.int (nI m)), some (.int 1), some (.int 0), some (.int 0), some (.int (pMinutes q.1)), none, none, none] [.int (nI (crN (pC q.1) 60))]
            refine tt_seg hT (fun pc => Nat.beq pc 109) 60 (fun c hc hq => ?_)
            refine (show TT T (0, 0) q 109 [some (.ref 0), some (.int x), some (.int y), some (.int (nI h)), some (.int (nI m)), some (.int 1), some (.int 0), some (.int 0), some (.int (pMinutes q.1)), some (.int (nI (crN (pC q.1) 60))), none, none] [.int 4, .ref 0] from ?_) c hc hq
            refine tt_k1 (w := vCount) (r := (gSum (pH q.1))) lq_count (vN4) hT rfl rfl rfl rfl rfl ?_
            show TT T (0, 0) q 112 [some (.ref 0), some (.int x), some (.int y), some (.int (nI h)), some (.int (nI m)), some (.int 1), some (.int 0), some (.int 0), some (.int (pMinutes q.1)), some (.int (nI (crN (pC q.1) 60))), none, none] [.int (gSum (pH q.1))]
            refine tt_seg hT (fun pc => Nat.beq pc 114) 60 (fun c hc hq => ?_)
            refine (show TT T (0, 0) q 114 [some (.ref 0), some (.int x), some (.int y), some (.int (nI h)), some (.int (nI m)), some (.int 1), some (.int 0), some (.int 0), some (.int (pMinutes q.1)), some (.int (nI (crN (pC q.1) 60))), none, none] [.int 5, .ref 0, .int (gSum (pH q.1))] from ?_) c hc hq
            refine tt_k1 (w := vCount) (r := (pLoss q.1)) lq_count (vN5) hT rfl rfl rfl rfl rfl ?_
            show TT T (0, 0) q 117 [some (.ref 0), some (.int x), some (.int y), some (.int (nI h)), some (.int (nI m)), some (.int 1), some (.int 0), some (.int 0), some (.int (pMinutes q.1)), some (.int (nI (crN (pC q.1) 60))), none, none] [.int (pLoss q.1), .int (gSum (pH q.1))]
            refine tt_seg hT (fun pc => Nat.beq pc 123) 60 (fun c hc hq => ?_)
            refine (show TT T (0, 0) q 123 [some (.ref 0), some (.int x), some (.int y), some (.int (nI h)), some (.int (nI m)), some (.int 1), some (.int 0), some (.int 0), some (.int (pMinutes q.1)), some (.int (nI (crN (pC q.1) 60))), some (.int ((gSum (pH q.1)) + (pLoss q.1))), none] [.int (nI m), .ref 0] from ?_) c hc hq
            refine tt_e1 (W := wPass) (q' := q) (r := (-1)) aq_pass (pass_no (by omega) (by first | (have h5 : m = 0 := nI_is (by omega) (by decide) hb39; omega) | (have h5 : m = 100 := nI_is (by omega) (by decide) hb46; omega))) hT rfl rfl rfl rfl rfl ?_
            show TT T (0, 0) q 126 [some (.ref 0), some (.int x), some (.int y), some (.int (nI h)), some (.int (nI m)), some (.int 1), some (.int 0), some (.int 0), some (.int (pMinutes q.1)), some (.int (nI (crN (pC q.1) 60))), some (.int ((gSum (pH q.1)) + (pLoss q.1))), none] [.int (-1)]
            refine tt_seg hT (fun pc => Nat.beq pc 157 || Nat.beq pc 133) 80 (fun c hc hq => ?_)
            refine And.intro (fun (hb130 : 1 = 0) => ?_) (fun (hb130 : ¬ 1 = 0) => ?_)
            · exact absurd hb130 (by decide)
            · refine (show TT T (0, 0) q 133 [some (.ref 0), some (.int x), some (.int y), some (.int (nI h)), some (.int (nI m)), some (.int 1), some (.int 0), some (.int 0), some (.int (pMinutes q.1)), some (.int (nI (crN (pC q.1) 60))), some (.int ((gSum (pH q.1)) + (pLoss q.1))), some (.int (-1))] [] from ?_) c hc hq
              refine tt_seg hT (fun pc => Nat.beq pc 153 || Nat.beq pc 139) 80 (fun c hc hq => ?_)
              refine And.intro (fun (hb136 : ¬ (-1) = (-1)) => ?_) (fun (hb136 : (-1) = (-1)) => ?_)
              · exact absurd (by decide) hb136
              · refine (show TT T (0, 0) q 139 [some (.ref 0), some (.int x), some (.int y), some (.int (nI h)), some (.int (nI m)), some (.int 1), some (.int 0), some (.int 0), some (.int (pMinutes q.1)), some (.int (nI (crN (pC q.1) 60))), some (.int ((gSum (pH q.1)) + (pLoss q.1))), some (.int (-1))] [] from ?_) c hc hq
                refine tt_seg hT (fun pc => Nat.beq pc 141) 60 (fun c hc hq => ?_)
                refine (show TT T (0, 0) q 141 [some (.ref 0), some (.int x), some (.int y), some (.int (nI h)), some (.int (nI m)), some (.int 1), some (.int 0), some (.int 0), some (.int (pMinutes q.1)), some (.int (nI (crN (pC q.1) 60))), some (.int ((gSum (pH q.1)) + (pLoss q.1))), some (.int (-1))] [.int 3, .ref 0] from ?_) c hc hq
                refine tt_k1 (w := vCount) (r := (pMinutes q.1)) lq_count (vN3) hT rfl rfl rfl rfl rfl ?_
                show TT T (0, 0) q 144 [some (.ref 0), some (.int x), some (.int y), some (.int (nI h)), some (.int (nI m)), some (.int 1), some (.int 0), some (.int 0), some (.int (pMinutes q.1)), some (.int (nI (crN (pC q.1) 60))), some (.int ((gSum (pH q.1)) + (pLoss q.1))), some (.int (-1))] [.int (pMinutes q.1)]
                refine tt_seg hT (fun pc => Nat.beq pc 153 || Nat.beq pc 149) 80 (fun c hc hq => ?_)
                refine And.intro (fun (hb146 : ¬ (pMinutes q.1) = (pMinutes q.1)) => ?_) (fun (hb146 : (pMinutes q.1) = (pMinutes q.1)) => ?_)
                · exact absurd (rfl) hb146
                · refine (show TT T (0, 0) q 149 [some (.ref 0), some (.int x), some (.int y), some (.int (nI h)), some (.int (nI m)), some (.int 1), some (.int 0), some (.int 0), some (.int (pMinutes q.1)), some (.int (nI (crN (pC q.1) 60))), some (.int ((gSum (pH q.1)) + (pLoss q.1))), some (.int (-1))] [] from ?_) c hc hq
                  refine tt_seg hT (fun pc => Nat.beq pc 222) 60 (fun c hc hq => ?_)
                  refine (show TT T (0, 0) q 222 [some (.ref 0), some (.int x), some (.int y), some (.int (nI h)), some (.int (nI m)), some (.int 1), some (.int 0), some (.int 0), some (.int (pMinutes q.1)), some (.int (nI (crN (pC q.1) 60))), some (.int ((gSum (pH q.1)) + (pLoss q.1))), some (.int (-1))] [.int 1] from ?_) c hc hq
                  exact tt_ret hT rfl rfl (fun c hc hq => ⟨rfl, c, .int 1, rfl, hc, rfl, fun _ => rfl, by rw [hq]; exact ⟨rfl, by rw [show qOf (rX (xw c0)) = q from hq0]; exact step_same⟩⟩)
      · refine (show TT T (0, 0) q 42 [some (.ref 0), some (.int x), some (.int y), some (.int (nI h)), some (.int (nI m)), none, none, none, none, none, none, none] [] from ?_) c hc hq
        refine tt_seg hT (fun pc => Nat.beq pc 53 || Nat.beq pc 49) 80 (fun c hc hq => ?_)
        refine And.intro (fun (hb46 : ¬ (nI m) = 100) => ?_) (fun (hb46 : (nI m) = 100) => ?_)
        · refine (show TT T (0, 0) q 53 [some (.ref 0), some (.int x), some (.int y), some (.int (nI h)), some (.int (nI m)), none, none, none, none, none, none, none] [] from ?_) c hc hq
          have hg : 1 ≤ m ∧ m ≤ 99 := by have h5 : ¬ m = 0 := (fun e => hb39 (nI_e e)); have h6 : ¬ m = 100 := (fun e => hb46 (nI_e e)); omega
          obtain ⟨pa1, pa2, pa3, pa4, kk, pa5, pa6, pa7⟩ := pass_MI hb hM m (by omega)
          obtain ⟨pi0, pi3⟩ := pass_if (p := q.1) hg
          rw [pa6] at pi0
          refine tt_seg hT (fun pc => Nat.beq pc 65 || Nat.beq pc 61) 80 (fun c hc hq => ?_)
          refine And.intro (fun (hb58 : 0 = 0) => ?_) (fun (hb58 : ¬ 0 = 0) => ?_)
          · refine (show TT T (0, 0) q 65 [some (.ref 0), some (.int x), some (.int y), some (.int (nI h)), some (.int (nI m)), some (.int 0), none, none, none, none, none, none] [] from ?_) c hc hq
            refine tt_seg hT (fun pc => Nat.beq pc 69) 60 (fun c hc hq => ?_)
            refine (show TT T (0, 0) q 69 [some (.ref 0), some (.int x), some (.int y), some (.int (nI h)), some (.int (nI m)), some (.int 0), none, none, none, none, none, none] [.int 0, .int (nI m), .ref 0] from ?_) c hc hq
            refine tt_k2 (w := fun q x y => vIf q.1 x y) (r := (nI kk)) lq_if (pi0) hT rfl rfl rfl rfl rfl ?_
            show TT T (0, 0) q 72 [some (.ref 0), some (.int x), some (.int y), some (.int (nI h)), some (.int (nI m)), some (.int 0), none, none, none, none, none, none] [.int (nI kk)]
            refine tt_seg hT (fun pc => Nat.beq pc 83 || Nat.beq pc 79) 80 (fun c hc hq => ?_)
            refine And.intro (fun (hb76 : 0 = 0) => ?_) (fun (hb76 : ¬ 0 = 0) => ?_)
            · refine (show TT T (0, 0) q 83 [some (.ref 0), some (.int x), some (.int y), some (.int (nI h)), some (.int (nI m)), some (.int 0), some (.int (nI kk)), none, none, none, none, none] [] from ?_) c hc hq
              refine tt_seg hT (fun pc => Nat.beq pc 87) 60 (fun c hc hq => ?_)
              refine (show TT T (0, 0) q 87 [some (.ref 0), some (.int x), some (.int y), some (.int (nI h)), some (.int (nI m)), some (.int 0), some (.int (nI kk)), none, none, none, none, none] [.int 3, .int (nI m), .ref 0] from ?_) c hc hq
              refine tt_k2 (w := fun q x y => vIf q.1 x y) (r := (pLoss (pPass q.1 m).1)) lq_if (pi3) hT rfl rfl rfl rfl rfl ?_
              show TT T (0, 0) q 90 [some (.ref 0), some (.int x), some (.int y), some (.int (nI h)), some (.int (nI m)), some (.int 0), some (.int (nI kk)), none, none, none, none, none] [.int (pLoss (pPass q.1 m).1)]
              refine tt_seg hT (fun pc => Nat.beq pc 94) 60 (fun c hc hq => ?_)
              refine (show TT T (0, 0) q 94 [some (.ref 0), some (.int x), some (.int y), some (.int (nI h)), some (.int (nI m)), some (.int 0), some (.int (nI kk)), some (.int (pLoss (pPass q.1 m).1)), none, none, none, none] [.int 3, .ref 0] from ?_) c hc hq
              refine tt_k1 (w := vCount) (r := (pMinutes q.1)) lq_count (vN3) hT rfl rfl rfl rfl rfl ?_
              show TT T (0, 0) q 97 [some (.ref 0), some (.int x), some (.int y), some (.int (nI h)), some (.int (nI m)), some (.int 0), some (.int (nI kk)), some (.int (pLoss (pPass q.1 m).1)), none, none, none, none] [.int (pMinutes q.1)]
              refine tt_seg hT (fun pc => Nat.beq pc 102) 60 (fun c hc hq => ?_)
              refine (show TT T (0, 0) q 102 [some (.ref 0), some (.int x), some (.int y), some (.int (nI h)), some (.int (nI m)), some (.int 0), some (.int (nI kk)), some (.int (pLoss (pPass q.1 m).1)), some (.int (pMinutes q.1)), none, none, none] [.int 6, .ref 0] from ?_) c hc hq
              refine tt_k1 (w := vCount) (r := (nI (crN (pC q.1) 60))) lq_count (vN6) hT rfl rfl rfl rfl rfl ?_
              show TT T (0, 0) q 105 [some (.ref 0), some (.int x), some (.int y), some (.int (nI h)), some (.int (nI m)), some (.int 0), some (.int (nI kk)), some (.int (pLoss (pPass q.1 m).1)), some (.int (pMinutes q.1)), none, none, none] [.int (nI (crN (pC q.1) 60))]
              refine tt_seg hT (fun pc => Nat.beq pc 109) 60 (fun c hc hq => ?_)
              refine (show TT T (0, 0) q 109 [some (.ref 0), some (.int x), some (.int y), some (.int (nI h)), some (.int (nI m)), some (.int 0), some (.int (nI kk)), some (.int (pLoss (pPass q.1 m).1)), some (.int (pMinutes q.1)), some (.int (nI (crN (pC q.1) 60))), none, none] [.int 4, .ref 0] from ?_) c hc hq
              refine tt_k1 (w := vCount) (r := (gSum (pH q.1))) lq_count (vN4) hT rfl rfl rfl rfl rfl ?_
              show TT T (0, 0) q 112 [some (.ref 0), some (.int x), some (.int y), some (.int (nI h)), some (.int (nI m)), some (.int 0), some (.int (nI kk)), some (.int (pLoss (pPass q.1 m).1)), some (.int (pMinutes q.1)), some (.int (nI (crN (pC q.1) 60))), none, none] [.int (gSum (pH q.1))]
              refine tt_seg hT (fun pc => Nat.beq pc 114) 60 (fun c hc hq => ?_)
              refine (show TT T (0, 0) q 114 [some (.ref 0), some (.int x), some (.int y), some (.int (nI h)), some (.int (nI m)), some (.int 0), some (.int (nI kk)), some (.int (pLoss (pPass q.1 m).1)), some (.int (pMinutes q.1)), some (.int (nI (crN (pC q.1) 60))), none, none] [.int 5, .ref 0, .int (gSum (pH q.1))] from ?_) c hc hq
              refine tt_k1 (w := vCount) (r := (pLoss q.1)) lq_count (vN5) hT rfl rfl rfl rfl rfl ?_
              show TT T (0, 0) q 117 [some (.ref 0), some (.int x), some (.int y), some (.int (nI h)), some (.int (nI m)), some (.int 0), some (.int (nI kk)), some (.int (pLoss (pPass q.1 m).1)), some (.int (pMinutes q.1)), some (.int (nI (crN (pC q.1) 60))), none, none] [.int (pLoss q.1), .int (gSum (pH q.1))]
              refine tt_seg hT (fun pc => Nat.beq pc 123) 60 (fun c hc hq => ?_)
              refine (show TT T (0, 0) q 123 [some (.ref 0), some (.int x), some (.int y), some (.int (nI h)), some (.int (nI m)), some (.int 0), some (.int (nI kk)), some (.int (pLoss (pPass q.1 m).1)), some (.int (pMinutes q.1)), some (.int (nI (crN (pC q.1) 60))), some (.int ((gSum (pH q.1)) + (pLoss q.1))), none] [.int (nI m), .ref 0] from ?_) c hc hq
              refine tt_e1 (W := wPass) (q' := (qNow q (pPass q.1 m).1)) (r := (nI kk)) aq_pass (by rw [pass_w hg, pa6]) hT rfl rfl rfl rfl rfl ?_
              show TT T (0, 0) (qNow q (pPass q.1 m).1) 126 [some (.ref 0), some (.int x), some (.int y), some (.int (nI h)), some (.int (nI m)), some (.int 0), some (.int (nI kk)), some (.int (pLoss (pPass q.1 m).1)), some (.int (pMinutes q.1)), some (.int (nI (crN (pC q.1) 60))), some (.int ((gSum (pH q.1)) + (pLoss q.1))), none] [.int (nI kk)]
              refine tt_seg hT (fun pc => Nat.beq pc 157 || Nat.beq pc 133) 80 (fun c hc hq => ?_)
              refine And.intro (fun (hb130 : 0 = 0) => ?_) (fun (hb130 : ¬ 0 = 0) => ?_)
              · refine (show TT T (0, 0) (qNow q (pPass q.1 m).1) 157 [some (.ref 0), some (.int x), some (.int y), some (.int (nI h)), some (.int (nI m)), some (.int 0), some (.int (nI kk)), some (.int (pLoss (pPass q.1 m).1)), some (.int (pMinutes q.1)), some (.int (nI (crN (pC q.1) 60))), some (.int ((gSum (pH q.1)) + (pLoss q.1))), some (.int (nI kk))] [] from ?_) c hc hq
                refine tt_seg hT (fun pc => Nat.beq pc 221 || Nat.beq pc 164) 80 (fun c hc hq => ?_)
                refine And.intro (fun (hb161 : ¬ (nI kk) = (nI kk)) => ?_) (fun (hb161 : (nI kk) = (nI kk)) => ?_)
                · exact absurd (rfl) hb161
                · refine (show TT T (0, 0) (qNow q (pPass q.1 m).1) 164 [some (.ref 0), some (.int x), some (.int y), some (.int (nI h)), some (.int (nI m)), some (.int 0), some (.int (nI kk)), some (.int (pLoss (pPass q.1 m).1)), some (.int (pMinutes q.1)), some (.int (nI (crN (pC q.1) 60))), some (.int ((gSum (pH q.1)) + (pLoss q.1))), some (.int (nI kk))] [] from ?_) c hc hq
                  refine tt_seg hT (fun pc => Nat.beq pc 166) 60 (fun c hc hq => ?_)
                  refine (show TT T (0, 0) (qNow q (pPass q.1 m).1) 166 [some (.ref 0), some (.int x), some (.int y), some (.int (nI h)), some (.int (nI m)), some (.int 0), some (.int (nI kk)), some (.int (pLoss (pPass q.1 m).1)), some (.int (pMinutes q.1)), some (.int (nI (crN (pC q.1) 60))), some (.int ((gSum (pH q.1)) + (pLoss q.1))), some (.int (nI kk))] [.int 5, .ref 0] from ?_) c hc hq
                  refine tt_k1 (w := vCount) (r := (pLoss (pPass q.1 m).1)) lq_count (vN5) hT rfl rfl rfl rfl rfl ?_
                  show TT T (0, 0) (qNow q (pPass q.1 m).1) 169 [some (.ref 0), some (.int x), some (.int y), some (.int (nI h)), some (.int (nI m)), some (.int 0), some (.int (nI kk)), some (.int (pLoss (pPass q.1 m).1)), some (.int (pMinutes q.1)), some (.int (nI (crN (pC q.1) 60))), some (.int ((gSum (pH q.1)) + (pLoss q.1))), some (.int (nI kk))] [.int (pLoss (pPass q.1 m).1)]
                  refine tt_seg hT (fun pc => Nat.beq pc 221 || Nat.beq pc 174) 80 (fun c hc hq => ?_)
                  refine And.intro (fun (hb171 : ¬ (pLoss (pPass q.1 m).1) = (pLoss (pPass q.1 m).1)) => ?_) (fun (hb171 : (pLoss (pPass q.1 m).1) = (pLoss (pPass q.1 m).1)) => ?_)
                  · exact absurd (rfl) hb171
                  · refine (show TT T (0, 0) (qNow q (pPass q.1 m).1) 174 [some (.ref 0), some (.int x), some (.int y), some (.int (nI h)), some (.int (nI m)), some (.int 0), some (.int (nI kk)), some (.int (pLoss (pPass q.1 m).1)), some (.int (pMinutes q.1)), some (.int (nI (crN (pC q.1) 60))), some (.int ((gSum (pH q.1)) + (pLoss q.1))), some (.int (nI kk))] [] from ?_) c hc hq
                    refine tt_seg hT (fun pc => Nat.beq pc 176) 60 (fun c hc hq => ?_)
                    refine (show TT T (0, 0) (qNow q (pPass q.1 m).1) 176 [some (.ref 0), some (.int x), some (.int y), some (.int (nI h)), some (.int (nI m)), some (.int 0), some (.int (nI kk)), some (.int (pLoss (pPass q.1 m).1)), some (.int (pMinutes q.1)), some (.int (nI (crN (pC q.1) 60))), some (.int ((gSum (pH q.1)) + (pLoss q.1))), some (.int (nI kk))] [.int 3, .ref 0] from ?_) c hc hq
                    refine tt_k1 (w := vCount) (r := (pMinutes q.1 + nI m)) lq_count (vN3.trans pa2) hT rfl rfl rfl rfl rfl ?_
                    show TT T (0, 0) (qNow q (pPass q.1 m).1) 179 [some (.ref 0), some (.int x), some (.int y), some (.int (nI h)), some (.int (nI m)), some (.int 0), some (.int (nI kk)), some (.int (pLoss (pPass q.1 m).1)), some (.int (pMinutes q.1)), some (.int (nI (crN (pC q.1) 60))), some (.int ((gSum (pH q.1)) + (pLoss q.1))), some (.int (nI kk))] [.int (pMinutes q.1 + nI m)]
                    refine tt_seg hT (fun pc => Nat.beq pc 221 || Nat.beq pc 187) 80 (fun c hc hq => ?_)
                    refine And.intro (fun (hb184 : ¬ (pMinutes q.1 + nI m) = ((pMinutes q.1) + (nI m))) => ?_) (fun (hb184 : (pMinutes q.1 + nI m) = ((pMinutes q.1) + (nI m))) => ?_)
                    · exact absurd (rfl) hb184
                    · refine (show TT T (0, 0) (qNow q (pPass q.1 m).1) 187 [some (.ref 0), some (.int x), some (.int y), some (.int (nI h)), some (.int (nI m)), some (.int 0), some (.int (nI kk)), some (.int (pLoss (pPass q.1 m).1)), some (.int (pMinutes q.1)), some (.int (nI (crN (pC q.1) 60))), some (.int ((gSum (pH q.1)) + (pLoss q.1))), some (.int (nI kk))] [] from ?_) c hc hq
                      refine tt_seg hT (fun pc => Nat.beq pc 190) 60 (fun c hc hq => ?_)
                      refine (show TT T (0, 0) (qNow q (pPass q.1 m).1) 190 [some (.ref 0), some (.int x), some (.int y), some (.int (nI h)), some (.int (nI m)), some (.int 0), some (.int (nI kk)), some (.int (pLoss (pPass q.1 m).1)), some (.int (pMinutes q.1)), some (.int (nI (crN (pC q.1) 60))), some (.int ((gSum (pH q.1)) + (pLoss q.1))), some (.int (nI kk))] [.int 6, .ref 0] from ?_) c hc hq
                      refine tt_k1 (w := vCount) (r := (nI (crN (pC q.1) 60 + kk))) lq_count (pas_6 pa7) hT rfl rfl rfl rfl rfl ?_
                      show TT T (0, 0) (qNow q (pPass q.1 m).1) 193 [some (.ref 0), some (.int x), some (.int y), some (.int (nI h)), some (.int (nI m)), some (.int 0), some (.int (nI kk)), some (.int (pLoss (pPass q.1 m).1)), some (.int (pMinutes q.1)), some (.int (nI (crN (pC q.1) 60))), some (.int ((gSum (pH q.1)) + (pLoss q.1))), some (.int (nI kk))] [.int (nI (crN (pC q.1) 60 + kk))]
                      refine tt_seg hT (fun pc => Nat.beq pc 221 || Nat.beq pc 201) 80 (fun c hc hq => ?_)
                      refine And.intro (fun (hb198 : ¬ (nI (crN (pC q.1) 60 + kk)) = ((nI (crN (pC q.1) 60)) + (nI kk))) => ?_) (fun (hb198 : (nI (crN (pC q.1) 60 + kk)) = ((nI (crN (pC q.1) 60)) + (nI kk))) => ?_)
                      · exact absurd ((nI_add _ _).symm) hb198
                      · refine (show TT T (0, 0) (qNow q (pPass q.1 m).1) 201 [some (.ref 0), some (.int x), some (.int y), some (.int (nI h)), some (.int (nI m)), some (.int 0), some (.int (nI kk)), some (.int (pLoss (pPass q.1 m).1)), some (.int (pMinutes q.1)), some (.int (nI (crN (pC q.1) 60))), some (.int ((gSum (pH q.1)) + (pLoss q.1))), some (.int (nI kk))] [] from ?_) c hc hq
                        refine tt_seg hT (fun pc => Nat.beq pc 203) 60 (fun c hc hq => ?_)
                        refine (show TT T (0, 0) (qNow q (pPass q.1 m).1) 203 [some (.ref 0), some (.int x), some (.int y), some (.int (nI h)), some (.int (nI m)), some (.int 0), some (.int (nI kk)), some (.int (pLoss (pPass q.1 m).1)), some (.int (pMinutes q.1)), some (.int (nI (crN (pC q.1) 60))), some (.int ((gSum (pH q.1)) + (pLoss q.1))), some (.int (nI kk))] [.int 4, .ref 0] from ?_) c hc hq
                        refine tt_k1 (w := vCount) (r := (gSum (pH (pPass q.1 m).1))) lq_count (pas_4) hT rfl rfl rfl rfl rfl ?_
                        show TT T (0, 0) (qNow q (pPass q.1 m).1) 206 [some (.ref 0), some (.int x), some (.int y), some (.int (nI h)), some (.int (nI m)), some (.int 0), some (.int (nI kk)), some (.int (pLoss (pPass q.1 m).1)), some (.int (pMinutes q.1)), some (.int (nI (crN (pC q.1) 60))), some (.int ((gSum (pH q.1)) + (pLoss q.1))), some (.int (nI kk))] [.int (gSum (pH (pPass q.1 m).1))]
                        refine tt_seg hT (fun pc => Nat.beq pc 208) 60 (fun c hc hq => ?_)
                        refine (show TT T (0, 0) (qNow q (pPass q.1 m).1) 208 [some (.ref 0), some (.int x), some (.int y), some (.int (nI h)), some (.int (nI m)), some (.int 0), some (.int (nI kk)), some (.int (pLoss (pPass q.1 m).1)), some (.int (pMinutes q.1)), some (.int (nI (crN (pC q.1) 60))), some (.int ((gSum (pH q.1)) + (pLoss q.1))), some (.int (nI kk))] [.int 5, .ref 0, .int (gSum (pH (pPass q.1 m).1))] from ?_) c hc hq
                        refine tt_k1 (w := vCount) (r := (pLoss (pPass q.1 m).1)) lq_count (vN5) hT rfl rfl rfl rfl rfl ?_
                        show TT T (0, 0) (qNow q (pPass q.1 m).1) 211 [some (.ref 0), some (.int x), some (.int y), some (.int (nI h)), some (.int (nI m)), some (.int 0), some (.int (nI kk)), some (.int (pLoss (pPass q.1 m).1)), some (.int (pMinutes q.1)), some (.int (nI (crN (pC q.1) 60))), some (.int ((gSum (pH q.1)) + (pLoss q.1))), some (.int (nI kk))] [.int (pLoss (pPass q.1 m).1), .int (gSum (pH (pPass q.1 m).1))]
                        refine tt_seg hT (fun pc => Nat.beq pc 221 || Nat.beq pc 217) 80 (fun c hc hq => ?_)
                        refine And.intro (fun (hb214 : ¬ ((gSum (pH (pPass q.1 m).1)) + (pLoss (pPass q.1 m).1)) = ((gSum (pH q.1)) + (pLoss q.1))) => ?_) (fun (hb214 : ((gSum (pH (pPass q.1 m).1)) + (pLoss (pPass q.1 m).1)) = ((gSum (pH q.1)) + (pLoss q.1))) => ?_)
                        · exact absurd (pa4) hb214
                        · refine (show TT T (0, 0) (qNow q (pPass q.1 m).1) 217 [some (.ref 0), some (.int x), some (.int y), some (.int (nI h)), some (.int (nI m)), some (.int 0), some (.int (nI kk)), some (.int (pLoss (pPass q.1 m).1)), some (.int (pMinutes q.1)), some (.int (nI (crN (pC q.1) 60))), some (.int ((gSum (pH q.1)) + (pLoss q.1))), some (.int (nI kk))] [] from ?_) c hc hq
                          refine tt_seg hT (fun pc => Nat.beq pc 222) 60 (fun c hc hq => ?_)
                          refine (show TT T (0, 0) (qNow q (pPass q.1 m).1) 222 [some (.ref 0), some (.int x), some (.int y), some (.int (nI h)), some (.int (nI m)), some (.int 0), some (.int (nI kk)), some (.int (pLoss (pPass q.1 m).1)), some (.int (pMinutes q.1)), some (.int (nI (crN (pC q.1) 60))), some (.int ((gSum (pH q.1)) + (pLoss q.1))), some (.int (nI kk))] [.int 1] from ?_) c hc hq
                          exact tt_ret hT rfl rfl (fun c hc hq => ⟨rfl, c, .int 1, rfl, hc, rfl, fun _ => rfl, by rw [hq]; exact ⟨rfl, by rw [show qOf (rX (xw c0)) = q from hq0]; exact step_now (fun k hk h => PI_pass (by omega) h.1 (by omega))⟩⟩)
              · exact absurd (by decide) hb130
            · exact absurd (by decide) hb76
          · exact absurd (by decide) hb58
        · refine (show TT T (0, 0) q 49 [some (.ref 0), some (.int x), some (.int y), some (.int (nI h)), some (.int (nI m)), none, none, none, none, none, none, none] [] from ?_) c hc hq
          refine tt_seg hT (fun pc => Nat.beq pc 65 || Nat.beq pc 61) 80 (fun c hc hq => ?_)
          refine And.intro (fun (hb58 : 1 = 0) => ?_) (fun (hb58 : ¬ 1 = 0) => ?_)
          · exact absurd hb58 (by decide)
          · refine (show TT T (0, 0) q 61 [some (.ref 0), some (.int x), some (.int y), some (.int (nI h)), some (.int (nI m)), some (.int 1), none, none, none, none, none, none] [] from ?_) c hc hq
            refine tt_seg hT (fun pc => Nat.beq pc 83 || Nat.beq pc 79) 80 (fun c hc hq => ?_)
            refine And.intro (fun (hb76 : 1 = 0) => ?_) (fun (hb76 : ¬ 1 = 0) => ?_)
            · exact absurd hb76 (by decide)
            · refine (show TT T (0, 0) q 79 [some (.ref 0), some (.int x), some (.int y), some (.int (nI h)), some (.int (nI m)), some (.int 1), some (.int 0), none, none, none, none, none] [] from ?_) c hc hq
              refine tt_seg hT (fun pc => Nat.beq pc 94) 60 (fun c hc hq => ?_)
              refine (show TT T (0, 0) q 94 [some (.ref 0), some (.int x), some (.int y), some (.int (nI h)), some (.int (nI m)), some (.int 1), some (.int 0), some (.int 0), none, none, none, none] [.int 3, .ref 0] from ?_) c hc hq
              refine tt_k1 (w := vCount) (r := (pMinutes q.1)) lq_count (vN3) hT rfl rfl rfl rfl rfl ?_
              show TT T (0, 0) q 97 [some (.ref 0), some (.int x), some (.int y), some (.int (nI h)), some (.int (nI m)), some (.int 1), some (.int 0), some (.int 0), none, none, none, none] [.int (pMinutes q.1)]
              refine tt_seg hT (fun pc => Nat.beq pc 102) 60 (fun c hc hq => ?_)
              refine (show TT T (0, 0) q 102 [some (.ref 0), some (.int x), some (.int y), some (.int (nI h)), some (.int (nI m)), some (.int 1), some (.int 0), some (.int 0), some (.int (pMinutes q.1)), none, none, none] [.int 6, .ref 0] from ?_) c hc hq
              refine tt_k1 (w := vCount) (r := (nI (crN (pC q.1) 60))) lq_count (vN6) hT rfl rfl rfl rfl rfl ?_
              show TT T (0, 0) q 105 [some (.ref 0), some (.int x), some (.int y), some (.int (nI h)), some (.int (nI m)), some (.int 1), some (.int 0), some (.int 0), some (.int (pMinutes q.1)), none, none, none] [.int (nI (crN (pC q.1) 60))]
              refine tt_seg hT (fun pc => Nat.beq pc 109) 60 (fun c hc hq => ?_)
              refine (show TT T (0, 0) q 109 [some (.ref 0), some (.int x), some (.int y), some (.int (nI h)), some (.int (nI m)), some (.int 1), some (.int 0), some (.int 0), some (.int (pMinutes q.1)), some (.int (nI (crN (pC q.1) 60))), none, none] [.int 4, .ref 0] from ?_) c hc hq
              refine tt_k1 (w := vCount) (r := (gSum (pH q.1))) lq_count (vN4) hT rfl rfl rfl rfl rfl ?_
              show TT T (0, 0) q 112 [some (.ref 0), some (.int x), some (.int y), some (.int (nI h)), some (.int (nI m)), some (.int 1), some (.int 0), some (.int 0), some (.int (pMinutes q.1)), some (.int (nI (crN (pC q.1) 60))), none, none] [.int (gSum (pH q.1))]
              refine tt_seg hT (fun pc => Nat.beq pc 114) 60 (fun c hc hq => ?_)
              refine (show TT T (0, 0) q 114 [some (.ref 0), some (.int x), some (.int y), some (.int (nI h)), some (.int (nI m)), some (.int 1), some (.int 0), some (.int 0), some (.int (pMinutes q.1)), some (.int (nI (crN (pC q.1) 60))), none, none] [.int 5, .ref 0, .int (gSum (pH q.1))] from ?_) c hc hq
              refine tt_k1 (w := vCount) (r := (pLoss q.1)) lq_count (vN5) hT rfl rfl rfl rfl rfl ?_
              show TT T (0, 0) q 117 [some (.ref 0), some (.int x), some (.int y), some (.int (nI h)), some (.int (nI m)), some (.int 1), some (.int 0), some (.int 0), some (.int (pMinutes q.1)), some (.int (nI (crN (pC q.1) 60))), none, none] [.int (pLoss q.1), .int (gSum (pH q.1))]
              refine tt_seg hT (fun pc => Nat.beq pc 123) 60 (fun c hc hq => ?_)
              refine (show TT T (0, 0) q 123 [some (.ref 0), some (.int x), some (.int y), some (.int (nI h)), some (.int (nI m)), some (.int 1), some (.int 0), some (.int 0), some (.int (pMinutes q.1)), some (.int (nI (crN (pC q.1) 60))), some (.int ((gSum (pH q.1)) + (pLoss q.1))), none] [.int (nI m), .ref 0] from ?_) c hc hq
              refine tt_e1 (W := wPass) (q' := q) (r := (-1)) aq_pass (pass_no (by omega) (by first | (have h5 : m = 0 := nI_is (by omega) (by decide) hb39; omega) | (have h5 : m = 100 := nI_is (by omega) (by decide) hb46; omega))) hT rfl rfl rfl rfl rfl ?_
              show TT T (0, 0) q 126 [some (.ref 0), some (.int x), some (.int y), some (.int (nI h)), some (.int (nI m)), some (.int 1), some (.int 0), some (.int 0), some (.int (pMinutes q.1)), some (.int (nI (crN (pC q.1) 60))), some (.int ((gSum (pH q.1)) + (pLoss q.1))), none] [.int (-1)]
              refine tt_seg hT (fun pc => Nat.beq pc 157 || Nat.beq pc 133) 80 (fun c hc hq => ?_)
              refine And.intro (fun (hb130 : 1 = 0) => ?_) (fun (hb130 : ¬ 1 = 0) => ?_)
              · exact absurd hb130 (by decide)
              · refine (show TT T (0, 0) q 133 [some (.ref 0), some (.int x), some (.int y), some (.int (nI h)), some (.int (nI m)), some (.int 1), some (.int 0), some (.int 0), some (.int (pMinutes q.1)), some (.int (nI (crN (pC q.1) 60))), some (.int ((gSum (pH q.1)) + (pLoss q.1))), some (.int (-1))] [] from ?_) c hc hq
                refine tt_seg hT (fun pc => Nat.beq pc 153 || Nat.beq pc 139) 80 (fun c hc hq => ?_)
                refine And.intro (fun (hb136 : ¬ (-1) = (-1)) => ?_) (fun (hb136 : (-1) = (-1)) => ?_)
                · exact absurd (by decide) hb136
                · refine (show TT T (0, 0) q 139 [some (.ref 0), some (.int x), some (.int y), some (.int (nI h)), some (.int (nI m)), some (.int 1), some (.int 0), some (.int 0), some (.int (pMinutes q.1)), some (.int (nI (crN (pC q.1) 60))), some (.int ((gSum (pH q.1)) + (pLoss q.1))), some (.int (-1))] [] from ?_) c hc hq
                  refine tt_seg hT (fun pc => Nat.beq pc 141) 60 (fun c hc hq => ?_)
                  refine (show TT T (0, 0) q 141 [some (.ref 0), some (.int x), some (.int y), some (.int (nI h)), some (.int (nI m)), some (.int 1), some (.int 0), some (.int 0), some (.int (pMinutes q.1)), some (.int (nI (crN (pC q.1) 60))), some (.int ((gSum (pH q.1)) + (pLoss q.1))), some (.int (-1))] [.int 3, .ref 0] from ?_) c hc hq
                  refine tt_k1 (w := vCount) (r := (pMinutes q.1)) lq_count (vN3) hT rfl rfl rfl rfl rfl ?_
                  show TT T (0, 0) q 144 [some (.ref 0), some (.int x), some (.int y), some (.int (nI h)), some (.int (nI m)), some (.int 1), some (.int 0), some (.int 0), some (.int (pMinutes q.1)), some (.int (nI (crN (pC q.1) 60))), some (.int ((gSum (pH q.1)) + (pLoss q.1))), some (.int (-1))] [.int (pMinutes q.1)]
                  refine tt_seg hT (fun pc => Nat.beq pc 153 || Nat.beq pc 149) 80 (fun c hc hq => ?_)
                  refine And.intro (fun (hb146 : ¬ (pMinutes q.1) = (pMinutes q.1)) => ?_) (fun (hb146 : (pMinutes q.1) = (pMinutes q.1)) => ?_)
                  · exact absurd (rfl) hb146
                  · refine (show TT T (0, 0) q 149 [some (.ref 0), some (.int x), some (.int y), some (.int (nI h)), some (.int (nI m)), some (.int 1), some (.int 0), some (.int 0), some (.int (pMinutes q.1)), some (.int (nI (crN (pC q.1) 60))), some (.int ((gSum (pH q.1)) + (pLoss q.1))), some (.int (-1))] [] from ?_) c hc hq
                    refine tt_seg hT (fun pc => Nat.beq pc 222) 60 (fun c hc hq => ?_)
                    refine (show TT T (0, 0) q 222 [some (.ref 0), some (.int x), some (.int y), some (.int (nI h)), some (.int (nI m)), some (.int 1), some (.int 0), some (.int 0), some (.int (pMinutes q.1)), some (.int (nI (crN (pC q.1) 60))), some (.int ((gSum (pH q.1)) + (pLoss q.1))), some (.int (-1))] [.int 1] from ?_) c hc hq
                    exact tt_ret hT rfl rfl (fun c hc hq => ⟨rfl, c, .int 1, rfl, hc, rfl, fun _ => rfl, by rw [hq]; exact ⟨rfl, by rw [show qOf (rX (xw c0)) = q from hq0]; exact step_same⟩⟩)
set_option maxRecDepth 10000 in
theorem ct_L_acts (l : Launch) : mjCTr l yL_acts cL_acts 12 (some .boolean) rm_L_acts R_L_acts :=
  mjCTr_of (own := RL) (G := G_L_acts) (plainFor_of_name pn_L) rfl ok_L_acts (fun meth hm => ⟨fun pc row h => (I_L_acts_ok pc row h).1, (fun _ _ _ _ h => by cases h), List.forall_mem_cons.mpr ⟨⟨yL_low, cL_low, 2, (some .int), rm_L_low, ct_L_low l, ⟨rfl, rfl⟩, ⟨by decide, by decide⟩, by decide, nk_L_low, ln_L_39, st_L_low⟩, List.forall_mem_cons.mpr ⟨⟨yX6_ifPassed, cX6_ifPassed, 3, (some .int), rm_X6_ifPassed, ct_X6_ifPassed l, ⟨rfl, rfl⟩, ⟨by decide, by decide⟩, by decide, by decide, nk_X6_ifPassed, ln_L_42, im_X6_ifPassed, se_X6_ifPassed, rfl⟩, List.forall_mem_cons.mpr ⟨⟨yX6_count, cX6_count, 2, (some .int), rm_X6_count, ct_X6_count l, ⟨rfl, rfl⟩, ⟨by decide, by decide⟩, by decide, by decide, nk_X6_count, ln_L_13, im_X6_count, se_X6_count, rfl⟩, List.forall_mem_cons.mpr ⟨⟨yX6_pass, cX6_pass, 2, (some .int), rm_X6_pass, ct_X6_pass l, ⟨rfl, rfl⟩, ⟨by decide, by decide⟩, by decide, by decide, nk_X6_pass, ln_L_81, im_X6_pass, se_X6_pass, rfl⟩, List.forall_mem_cons.mpr ⟨⟨yX6_aim, cX6_aim, 4, (some .int), rm_X6_aim, ct_X6_aim l, ⟨rfl, rfl⟩, ⟨by decide, by decide⟩, by decide, by decide, nk_X6_aim, ln_L_84, im_X6_aim, se_X6_aim, rfl⟩, List.forall_mem_cons.mpr ⟨⟨yX6_cell, cX6_cell, 3, (some .int), rm_X6_cell, ct_X6_cell l, ⟨rfl, rfl⟩, ⟨by decide, by decide⟩, by decide, by decide, nk_X6_cell, ln_L_19, im_X6_cell, se_X6_cell, rfl⟩, List.forall_mem_cons.mpr ⟨⟨yX6_heat, cX6_heat, 3, (some .int), rm_X6_heat, ct_X6_heat l, ⟨rfl, rfl⟩, ⟨by decide, by decide⟩, by decide, by decide, nk_X6_heat, ln_L_91, im_X6_heat, se_X6_heat, rfl⟩, List.forall_mem_cons.mpr ⟨⟨yX6_set, cX6_set, 4, (some .int), rm_X6_set, ct_X6_set l, ⟨rfl, rfl⟩, ⟨by decide, by decide⟩, by decide, by decide, nk_X6_set, ln_L_94, im_X6_set, se_X6_set, rfl⟩, List.forall_mem_cons.mpr ⟨⟨yX6_begin, cX6_begin, 2, (some .int), rm_X6_begin, ct_X6_begin l, ⟨rfl, rfl⟩, ⟨by decide, by decide⟩, by decide, by decide, nk_X6_begin, ln_L_100, im_X6_begin, se_X6_begin, rfl⟩, List.forall_mem_cons.mpr ⟨⟨yX6_pieces, cX6_pieces, 2, (some .int), rm_X6_pieces, ct_X6_pieces l, ⟨rfl, rfl⟩, ⟨by decide, by decide⟩, by decide, by decide, nk_X6_pieces, ln_L_36, im_X6_pieces, se_X6_pieces, rfl⟩, fun _ h => absurd h List.not_mem_nil⟩⟩⟩⟩⟩⟩⟩⟩⟩⟩, (fun _ _ _ h => by cases h), (mjcons_ok CN_L_ok), ⟨Nat.zero_le _, Nat.zero_le _⟩, (fun h => by cases h), (fun h => absurd h (by decide)), List.forall_mem_cons.mpr ⟨⟨yL_joints, cL_joints, 10, (some .boolean), rm_L_joints, ct_L_joints l, ⟨rfl, rfl⟩, ⟨by decide, by decide⟩, by decide, nk_L_joints, ln_L_87, st_L_joints⟩, List.forall_mem_cons.mpr ⟨⟨yL_runs, cL_runs, 14, (some .boolean), rm_L_runs, ct_L_runs l, ⟨rfl, rfl⟩, ⟨by decide, by decide⟩, by decide, nk_L_runs, ln_L_97, st_L_runs⟩, fun _ h => absurd h List.not_mem_nil⟩⟩⟩) rfl rfl rfl (fun pc row h => (I_L_acts_ok pc row h).2)
