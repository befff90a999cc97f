/-! the law: joints -/
def actP (q : QSt) : Prop := ∃ k : Nat, k ≤ 99 ∧ QI k q
def joiP (q : QSt) (x _ : Int32) : Prop := actP q ∧ (x = 0 ∨ x = 1)
def joiQ (q : QSt) (_ _ : Int32) (q' : QSt) (w : Value) : Prop := w = .int 1 ∧ stepQ q q'
noncomputable def R_L_joints : mjSr := lr2 joiP joiQ
theorem scr_bad {q : QSt} {j t : Int32} (h : gIsJoint j = 0 ∨ ¬ gOut t 1 500 = 0) : wScratch q j t = (q, -1) := by
  unfold wScratch
  by_cases h0 : gIsJoint j = 0
  · rw [if_pos h0]
  · rw [if_neg h0, if_neg (h.resolve_left h0)]
theorem scr_crk {q : QSt} {j : Nat} {t : Int32} (hj : j < 60) (ht : gOut t 1 500 = 0) (hc : ¬ pC q.1 j = 0) : wScratch q (nI j) t = (q, -2) := by
  unfold wScratch
  rw [if_neg (isJ_n hj), if_pos ht, if_pos ((gWh_0 hj).mpr hc)]
theorem scr_ok {q : QSt} {j : Nat} {t : Int32} (hj : j < 60) (ht : gOut t 1 500 = 0) (hc : pC q.1 j = 0) : wScratch q (nI j) t = (qNow q (pScr q.1 (nI j) t), pS q.1 j) := by
  unfold wScratch
  rw [if_neg (isJ_n hj), if_pos ht, if_neg (fun e => (gWh_0 hj).mp e hc), gJt_n hj]
theorem men_bad {q : QSt} {j : Int32} (h : gIsJoint j = 0) : wMend q j = (q, -1) := if_pos h
theorem men_who {q : QSt} {j : Nat} (hj : j < 60) (hc : pC q.1 j = 0) : wMend q (nI j) = (q, -2) := by
  unfold wMend
  rw [if_neg (isJ_n hj), if_neg (fun e => (gWh_0 hj).mp e hc)]
theorem scr_C (p : PSt) (j t : Int32) : pC (pScr p j t) = pC p := rfl
theorem scr_S {p : PSt} {j : Nat} {t : Int32} (hj : j < 60) : pS (pScr p (nI j) t) j = t := by
  obtain ⟨hh, g, s, c, r⟩ := p
  show gPut s (nI j) t j = t
  rw [gPut_n hj]
  exact if_pos rfl
theorem who_C {p : PSt} {j : Nat} (hj : j < 60) : pC (pWho p (nI j)) = upd (pC p) j 0 := by
  obtain ⟨hh, g, s, c, r⟩ := p
  show gPut c (nI j) 0 = _
  rw [gPut_n hj]
  rfl
theorem men_ok {q : QSt} {j : Nat} (hj : j < 60) (hc : ¬ pC q.1 j = 0) : wMend q (nI j) = (qNow q (pScr (pWho q.1 (nI j)) (nI j) 50), nI (crN (pC q.1) 60) - 1) := by
  unfold wMend
  rw [if_neg (isJ_n hj), if_pos ((gWh_0 hj).mpr hc), scr_C, who_C hj, gCracked_n]
  have := crN_un hc 60
  rw [if_pos hj] at this
  rw [← this, nI_pred1]
theorem isJ_60 : gIsJoint (nI 60) = 0 := by decide
theorem nI_is {a b : Nat} (ha : a < 1000) (hb : b < 1000) (h : nI a = nI b) : a = b := (nI_eq (by omega) (by omega)).mp h
def rm_L_joints : Room := { frames := 6, cells := 0, slots := 0, locals := 133 }
noncomputable def G_L_joints : mjG := (I_L_joints, (fun _ => none), [(39, 1, 0, 2, 0, 0, S_L_low), (23, 0, 5, 3, 0, 0, S_X6_joint), (13, 0, 5, 2, 0, 0, S_X6_count), (75, 0, 5, 3, 0, 0, S_X6_scratch), (78, 0, 5, 2, 0, 0, S_X6_mend)], (fun pc => bif Nat.beq pc 94 then [] else bif Nat.beq pc 80 then [] else bif Nat.beq pc 3 then [] else [0, 1, 2, 3, 4, 5, 6, 7, 8, 9, 10, 11, 12, 13, 14, 15, 16, 17, 18, 19, 20, 21, 22, 23, 24, 25, 26, 27, 28, 29, 30, 31, 32, 33, 34, 35, 36, 37, 38, 39, 40, 41, 42, 43, 44, 45, 46]), Y0, (fun _ => none), (mjcons CN_L), (some .boolean), 0, 0, false, [])
set_option maxHeartbeats 20000000 in
set_option maxRecDepth 100000 in
theorem ok_L_joints : mjOKr G_L_joints 10 R_L_joints := by
  intro M as hP T hT
  obtain ⟨c0, x, y, rfl, rfl, hc0, ⟨⟨k, hk, hI⟩, hx⟩⟩ : ∃ c x y, M = xw c ∧ as = [.ref 0, .int x, .int y] ∧ cOk c ∧ joiP (qOf c) x y := ⟨_, _, _, hP.1.1, hP.1.2, hP.2.1, hP.2.2⟩
  refine (?_ : TT T (0, 0) (qOf c0) 0 [some (.ref 0), some (.int x), some (.int y), none, none, none, none, none, none, none] []) c0 hc0 rfl
  generalize hq0 : qOf c0 = q at hI ⊢
  obtain ⟨j, hj, ej⟩ : ∃ j : Nat, j < 61 ∧ lowV y 61 = nI j := low_n y 61 (by decide) (by decide)
  have t1 : (1 : Int32).toInt = 1 := rfl
  have t500 : (500 : Int32).toInt = 500 := rfl
  rcases hx with hx | hx <;> by_cases hjn : j = 60
  · refine tt_seg hT (fun pc => Nat.beq pc 6) 60 (fun c hc hq => ?_)
    refine And.intro ⟨⟨rfl, rfl⟩, (show ¬ ((61 : Int32) = 0) by decide)⟩ ?_
    refine (show TT T (0, 0) q 6 [some (.ref 0), some (.int x), some (.int y), none, none, none, none, none, none, none] [.int (lowV y 61)] from ?_) c hc hq
    rw [ej]
    refine tt_seg hT (fun pc => Nat.beq pc 17 || Nat.beq pc 13) 80 (fun c hc hq => ?_)
    refine And.intro (fun (hb10 : ¬ (nI j) = 60) => ?_) (fun (hb10 : (nI j) = 60) => ?_)
    · exact absurd (by rw [hjn]; rfl) hb10
    · refine (show TT T (0, 0) q 13 [some (.ref 0), some (.int x), some (.int y), some (.int (nI j)), none, none, none, none, none, none] [] from ?_) c hc hq
      refine tt_seg hT (fun pc => Nat.beq pc 39 || Nat.beq pc 25) 80 (fun c hc hq => ?_)
      refine And.intro (fun (hb22 : ¬ 1 = 0) => ?_) (fun (hb22 : 1 = 0) => ?_)
      · refine (show TT T (0, 0) q 39 [some (.ref 0), some (.int x), some (.int y), some (.int (nI j)), some (.int 1), none, none, none, none, none] [] from ?_) c hc hq
        refine tt_seg hT (fun pc => Nat.beq pc 51 || Nat.beq pc 47) 80 (fun c hc hq => ?_)
        refine And.intro (fun (hb44 : 1 = 0) => ?_) (fun (hb44 : ¬ 1 = 0) => ?_)
        · exact absurd hb44 (by decide)
        · refine (show TT T (0, 0) q 47 [some (.ref 0), some (.int x), some (.int y), some (.int (nI j)), some (.int 1), some (.int 0), none, none, none, none] [] from ?_) c hc hq
          refine tt_seg hT (fun pc => Nat.beq pc 62) 60 (fun c hc hq => ?_)
          refine (show TT T (0, 0) q 62 [some (.ref 0), some (.int x), some (.int y), some (.int (nI j)), some (.int 1), some (.int 0), some (.int 0), none, none, none] [.int 6, .ref 0] from ?_) c hc hq
          refine tt_v1 (W := fun q x => (q, vCount q x)) lq_count hT rfl rfl rfl rfl rfl ?_
          show TT T (0, 0) q 65 [some (.ref 0), some (.int x), some (.int y), some (.int (nI j)), some (.int 1), some (.int 0), some (.int 0), none, none, none] [.int (vCount q 6)]
          rw [show (vCount q 6) = (nI (crN (pC q.1) 60)) from vN6]
          refine tt_seg hT (fun pc => Nat.beq pc 187 || Nat.beq pc 71) 80 (fun c hc hq => ?_)
          refine And.intro (fun (hb68 : ¬ x = 0) => ?_) (fun (hb68 : x = 0) => ?_)
          · exact absurd (hx) hb68
          · refine (show TT T (0, 0) q 71 [some (.ref 0), some (.int x), some (.int y), some (.int (nI j)), some (.int 1), some (.int 0), some (.int 0), some (.int (nI (crN (pC q.1) 60))), none, none] [] from ?_) c hc hq
            refine tt_seg hT (fun pc => Nat.beq pc 83) 60 (fun c hc hq => ?_)
            refine And.intro ⟨⟨rfl, rfl⟩, (show ¬ ((2 : Int32) = 0) by decide)⟩ ?_
            refine (show TT T (0, 0) q 83 [some (.ref 0), some (.int x), some (.int y), some (.int (nI j)), some (.int 1), some (.int 0), some (.int 0), some (.int (nI (crN (pC q.1) 60))), none, none] [.int (lowV (y >>> (17 &&& 31)) 2), .int (y >>> (6 &&& 31))] from ?_) c hc hq
            obtain ⟨j83, hj83, ej83⟩ : ∃ j : Nat, j < 2 ∧ lowV (y >>> (17 &&& 31)) 2 = nI j := low_n (y >>> (17 &&& 31)) 2 (by decide) (by decide)
            rw [ej83]
            refine tt_seg hT (fun pc => Nat.beq pc 92 || Nat.beq pc 86) 80 (fun c hc hq => ?_)
            refine And.intro (fun (hb83 : ¬ (nI j83) = 0) => ?_) (fun (hb83 : (nI j83) = 0) => ?_)
            · refine (show TT T (0, 0) q 92 [some (.ref 0), some (.int x), some (.int y), some (.int (nI j)), some (.int 1), some (.int 0), some (.int 0), some (.int (nI (crN (pC q.1) 60))), none, none] [.int (y >>> (6 &&& 31))] from ?_) c hc hq
              refine tt_seg hT (fun pc => Nat.beq pc 97) 60 (fun c hc hq => ?_)
              refine And.intro ⟨⟨rfl, rfl⟩, (show ¬ ((60 : Int32) = 0) by decide)⟩ ?_
              refine (show TT T (0, 0) q 97 [some (.ref 0), some (.int x), some (.int y), some (.int (nI j)), some (.int 1), some (.int 0), some (.int 0), some (.int (nI (crN (pC q.1) 60))), none, none] [.int (lowV (y >>> (6 &&& 31)) 60)] from ?_) c hc hq
              obtain ⟨j97, hj97, ej97⟩ : ∃ j : Nat, j < 60 ∧ lowV (y >>> (6 &&& 31)) 60 = nI j := low_n (y >>> (6 &&& 31)) 60 (by decide) (by decide)
              rw [ej97]
              refine tt_seg hT (fun pc => Nat.beq pc 117 || Nat.beq pc 104) 80 (fun c hc hq => ?_)
              refine And.intro (fun (hb101 : ¬ 1 = 0) => ?_) (fun (hb101 : 1 = 0) => ?_)
              · refine (show TT T (0, 0) q 117 [some (.ref 0), some (.int x), some (.int y), some (.int (nI j)), some (.int 1), some (.int 0), some (.int 0), some (.int (nI (crN (pC q.1) 60))), some (.int (nI j97)), none] [] from ?_) c hc hq
                refine tt_seg hT (fun pc => Nat.beq pc 128) 60 (fun c hc hq => ?_)
                refine (show TT T (0, 0) q 128 [some (.ref 0), some (.int x), some (.int y), some (.int (nI j)), some (.int 1), some (.int 0), some (.int 0), some (.int (nI (crN (pC q.1) 60))), some (.int (nI j97)), some (.int 1)] [.int (nI j97), .int (nI j), .ref 0] from ?_) c hc hq
                refine tt_v2 (W := wScratch) aq_scratch hT rfl rfl rfl rfl rfl ?_
                rw [show wScratch q (nI j) (nI j97) = (q, (-1)) from scr_bad (Or.inl (by rw [hjn]; exact isJ_60))]
                show TT T (0, 0) q 131 [some (.ref 0), some (.int x), some (.int y), some (.int (nI j)), some (.int 1), some (.int 0), some (.int 0), some (.int (nI (crN (pC q.1) 60))), some (.int (nI j97)), some (.int 1)] [.int (-1)]
                refine tt_seg hT (fun pc => Nat.beq pc 140 || Nat.beq pc 136) 80 (fun c hc hq => ?_)
                refine And.intro (fun (hb133 : 1 = 0) => ?_) (fun (hb133 : ¬ 1 = 0) => ?_)
                · exact absurd hb133 (by decide)
                · refine (show TT T (0, 0) q 136 [some (.ref 0), some (.int x), some (.int y), some (.int (nI j)), some (.int 1), some (.int 0), some (.int 0), some (.int (nI (crN (pC q.1) 60))), some (.int (nI j97)), some (.int 1)] [.int (-1)] from ?_) c hc hq
                  refine tt_seg hT (fun pc => Nat.beq pc 185 || Nat.beq pc 155) 80 (fun c hc hq => ?_)
                  refine And.intro (fun (hb152 : ¬ (-1) = (-1)) => ?_) (fun (hb152 : (-1) = (-1)) => ?_)
                  · exact absurd (rfl) hb152
                  · refine (show TT T (0, 0) q 155 [some (.ref 0), some (.int x), some (.int y), some (.int (nI j)), some (.int 1), some (.int 0), some (.int 0), some (.int (nI (crN (pC q.1) 60))), some (.int (nI j97)), some (.int 1)] [] from ?_) c hc hq
                    refine tt_seg hT (fun pc => Nat.beq pc 181 || Nat.beq pc 160) 80 (fun c hc hq => ?_)
                    refine And.intro (fun (hb157 : ¬ 1 = 0) => ?_) (fun (hb157 : 1 = 0) => ?_)
                    · refine (show TT T (0, 0) q 181 [some (.ref 0), some (.int x), some (.int y), some (.int (nI j)), some (.int 1), some (.int 0), some (.int 0), some (.int (nI (crN (pC q.1) 60))), some (.int (nI j97)), some (.int 1)] [] from ?_) c hc hq
                      refine tt_seg hT (fun pc => Nat.beq pc 186) 60 (fun c hc hq => ?_)
                      refine (show TT T (0, 0) q 186 [some (.ref 0), some (.int x), some (.int y), some (.int (nI j)), some (.int 1), some (.int 0), some (.int 0), some (.int (nI (crN (pC q.1) 60))), some (.int (nI j97)), some (.int 1)] [.int 1] from ?_) c hc hq
                      exact tt_ret hT rfl rfl (fun c hc hq => ⟨rfl, c, .int 1, rfl, hc, rfl, fun _ => rfl, by rw [hq]; exact ⟨rfl, by rw [show qOf (rX (xw c0)) = q from hq0]; exact step_same⟩⟩)
                    · exact absurd hb157 (by decide)
              · exact absurd hb101 (by decide)
            · refine (show TT T (0, 0) q 86 [some (.ref 0), some (.int x), some (.int y), some (.int (nI j)), some (.int 1), some (.int 0), some (.int 0), some (.int (nI (crN (pC q.1) 60))), none, none] [.int (y >>> (6 &&& 31))] from ?_) c hc hq
              refine tt_seg hT (fun pc => Nat.beq pc 97) 60 (fun c hc hq => ?_)
              refine And.intro ⟨⟨rfl, rfl⟩, (show ¬ ((502 : Int32) = 0) by decide)⟩ ?_
              refine (show TT T (0, 0) q 97 [some (.ref 0), some (.int x), some (.int y), some (.int (nI j)), some (.int 1), some (.int 0), some (.int 0), some (.int (nI (crN (pC q.1) 60))), none, none] [.int (lowV (y >>> (6 &&& 31)) 502)] from ?_) c hc hq
              obtain ⟨j97, hj97, ej97⟩ : ∃ j : Nat, j < 502 ∧ lowV (y >>> (6 &&& 31)) 502 = nI j := low_n (y >>> (6 &&& 31)) 502 (by decide) (by decide)
              rw [ej97]
              refine tt_seg hT (fun pc => Nat.beq pc 117 || Nat.beq pc 104) 80 (fun c hc hq => ?_)
              refine And.intro (fun (hb101 : ¬ 1 = 0) => ?_) (fun (hb101 : 1 = 0) => ?_)
              · refine (show TT T (0, 0) q 117 [some (.ref 0), some (.int x), some (.int y), some (.int (nI j)), some (.int 1), some (.int 0), some (.int 0), some (.int (nI (crN (pC q.1) 60))), some (.int (nI j97)), none] [] from ?_) c hc hq
                refine tt_seg hT (fun pc => Nat.beq pc 128) 60 (fun c hc hq => ?_)
                refine (show TT T (0, 0) q 128 [some (.ref 0), some (.int x), some (.int y), some (.int (nI j)), some (.int 1), some (.int 0), some (.int 0), some (.int (nI (crN (pC q.1) 60))), some (.int (nI j97)), some (.int 1)] [.int (nI j97), .int (nI j), .ref 0] from ?_) c hc hq
                refine tt_v2 (W := wScratch) aq_scratch hT rfl rfl rfl rfl rfl ?_
                rw [show wScratch q (nI j) (nI j97) = (q, (-1)) from scr_bad (Or.inl (by rw [hjn]; exact isJ_60))]
                show TT T (0, 0) q 131 [some (.ref 0), some (.int x), some (.int y), some (.int (nI j)), some (.int 1), some (.int 0), some (.int 0), some (.int (nI (crN (pC q.1) 60))), some (.int (nI j97)), some (.int 1)] [.int (-1)]
                refine tt_seg hT (fun pc => Nat.beq pc 140 || Nat.beq pc 136) 80 (fun c hc hq => ?_)
                refine And.intro (fun (hb133 : 1 = 0) => ?_) (fun (hb133 : ¬ 1 = 0) => ?_)
                · exact absurd hb133 (by decide)
                · refine (show TT T (0, 0) q 136 [some (.ref 0), some (.int x), some (.int y), some (.int (nI j)), some (.int 1), some (.int 0), some (.int 0), some (.int (nI (crN (pC q.1) 60))), some (.int (nI j97)), some (.int 1)] [.int (-1)] from ?_) c hc hq
                  refine tt_seg hT (fun pc => Nat.beq pc 185 || Nat.beq pc 155) 80 (fun c hc hq => ?_)
                  refine And.intro (fun (hb152 : ¬ (-1) = (-1)) => ?_) (fun (hb152 : (-1) = (-1)) => ?_)
                  · exact absurd (rfl) hb152
                  · refine (show TT T (0, 0) q 155 [some (.ref 0), some (.int x), some (.int y), some (.int (nI j)), some (.int 1), some (.int 0), some (.int 0), some (.int (nI (crN (pC q.1) 60))), some (.int (nI j97)), some (.int 1)] [] from ?_) c hc hq
                    refine tt_seg hT (fun pc => Nat.beq pc 181 || Nat.beq pc 160) 80 (fun c hc hq => ?_)
                    refine And.intro (fun (hb157 : ¬ 1 = 0) => ?_) (fun (hb157 : 1 = 0) => ?_)
                    · refine (show TT T (0, 0) q 181 [some (.ref 0), some (.int x), some (.int y), some (.int (nI j)), some (.int 1), some (.int 0), some (.int 0), some (.int (nI (crN (pC q.1) 60))), some (.int (nI j97)), some (.int 1)] [] from ?_) c hc hq
                      refine tt_seg hT (fun pc => Nat.beq pc 186) 60 (fun c hc hq => ?_)
                      refine (show TT T (0, 0) q 186 [some (.ref 0), some (.int x), some (.int y), some (.int (nI j)), some (.int 1), some (.int 0), some (.int 0), some (.int (nI (crN (pC q.1) 60))), some (.int (nI j97)), some (.int 1)] [.int 1] from ?_) c hc hq
                      exact tt_ret hT rfl rfl (fun c hc hq => ⟨rfl, c, .int 1, rfl, hc, rfl, fun _ => rfl, by rw [hq]; exact ⟨rfl, by rw [show qOf (rX (xw c0)) = q from hq0]; exact step_same⟩⟩)
                    · exact absurd hb157 (by decide)
              · exact absurd hb101 (by decide)
      · exact absurd hb22 (by decide)
  · have hj6 : j < 60 := by omega
    by_cases hw : pC q.1 j = 0
    · refine tt_seg hT (fun pc => Nat.beq pc 6) 60 (fun c hc hq => ?_)
      refine And.intro ⟨⟨rfl, rfl⟩, (show ¬ ((61 : Int32) = 0) by decide)⟩ ?_
      refine (show TT T (0, 0) q 6 [some (.ref 0), some (.int x), some (.int y), none, none, none, none, none, none, none] [.int (lowV y 61)] from ?_) c hc hq
      rw [ej]
      refine tt_seg hT (fun pc => Nat.beq pc 17 || Nat.beq pc 13) 80 (fun c hc hq => ?_)
      refine And.intro (fun (hb10 : ¬ (nI j) = 60) => ?_) (fun (hb10 : (nI j) = 60) => ?_)
      · refine (show TT T (0, 0) q 17 [some (.ref 0), some (.int x), some (.int y), some (.int (nI j)), none, none, none, none, none, none] [] from ?_) c hc hq
        refine tt_seg hT (fun pc => Nat.beq pc 39 || Nat.beq pc 25) 80 (fun c hc hq => ?_)
        refine And.intro (fun (hb22 : ¬ 0 = 0) => ?_) (fun (hb22 : 0 = 0) => ?_)
        · exact absurd (by decide) hb22
        · refine (show TT T (0, 0) q 25 [some (.ref 0), some (.int x), some (.int y), some (.int (nI j)), some (.int 0), none, none, none, none, none] [] from ?_) c hc hq
          refine tt_seg hT (fun pc => Nat.beq pc 28) 60 (fun c hc hq => ?_)
          refine (show TT T (0, 0) q 28 [some (.ref 0), some (.int x), some (.int y), some (.int (nI j)), some (.int 0), none, none, none, none, none] [.int 2, .int (nI j), .ref 0] from ?_) c hc hq
          refine tt_v2 (W := fun q x y => (q, vJoint q.1 x y)) lq_joint hT rfl rfl rfl rfl rfl ?_
          show TT T (0, 0) q 31 [some (.ref 0), some (.int x), some (.int y), some (.int (nI j)), some (.int 0), none, none, none, none, none] [.int (vJoint q.1 (nI j) 2)]
          rw [show (vJoint q.1 (nI j) 2) = 1 from vJ2w hj6 hw]
          refine tt_seg hT (fun pc => Nat.beq pc 39 || Nat.beq pc 35) 80 (fun c hc hq => ?_)
          refine And.intro (fun (hb32 : ¬ 1 = 1) => ?_) (fun (hb32 : 1 = 1) => ?_)
          · exact absurd (rfl) hb32
          · refine (show TT T (0, 0) q 35 [some (.ref 0), some (.int x), some (.int y), some (.int (nI j)), some (.int 0), none, none, none, none, none] [] from ?_) c hc hq
            refine tt_seg hT (fun pc => Nat.beq pc 51 || Nat.beq pc 47) 80 (fun c hc hq => ?_)
            refine And.intro (fun (hb44 : 0 = 0) => ?_) (fun (hb44 : ¬ 0 = 0) => ?_)
            · refine (show TT T (0, 0) q 51 [some (.ref 0), some (.int x), some (.int y), some (.int (nI j)), some (.int 0), some (.int 1), none, none, none, none] [] from ?_) c hc hq
              refine tt_seg hT (fun pc => Nat.beq pc 54) 60 (fun c hc hq => ?_)
              refine (show TT T (0, 0) q 54 [some (.ref 0), some (.int x), some (.int y), some (.int (nI j)), some (.int 0), some (.int 1), none, none, none, none] [.int 3, .int (nI j), .ref 0] from ?_) c hc hq
              refine tt_v2 (W := fun q x y => (q, vJoint q.1 x y)) lq_joint hT rfl rfl rfl rfl rfl ?_
              show TT T (0, 0) q 57 [some (.ref 0), some (.int x), some (.int y), some (.int (nI j)), some (.int 0), some (.int 1), none, none, none, none] [.int (vJoint q.1 (nI j) 3)]
              rw [show (vJoint q.1 (nI j) 3) = (pS q.1 j) from vJ3 hj6]
              refine tt_seg hT (fun pc => Nat.beq pc 62) 60 (fun c hc hq => ?_)
              refine (show TT T (0, 0) q 62 [some (.ref 0), some (.int x), some (.int y), some (.int (nI j)), some (.int 0), some (.int 1), some (.int (pS q.1 j)), none, none, none] [.int 6, .ref 0] from ?_) c hc hq
              refine tt_v1 (W := fun q x => (q, vCount q x)) lq_count hT rfl rfl rfl rfl rfl ?_
              show TT T (0, 0) q 65 [some (.ref 0), some (.int x), some (.int y), some (.int (nI j)), some (.int 0), some (.int 1), some (.int (pS q.1 j)), none, none, none] [.int (vCount q 6)]
              rw [show (vCount q 6) = (nI (crN (pC q.1) 60)) from vN6]
              refine tt_seg hT (fun pc => Nat.beq pc 187 || Nat.beq pc 71) 80 (fun c hc hq => ?_)
              refine And.intro (fun (hb68 : ¬ x = 0) => ?_) (fun (hb68 : x = 0) => ?_)
              · exact absurd (hx) hb68
              · refine (show TT T (0, 0) q 71 [some (.ref 0), some (.int x), some (.int y), some (.int (nI j)), some (.int 0), some (.int 1), some (.int (pS q.1 j)), some (.int (nI (crN (pC q.1) 60))), none, none] [] from ?_) c hc hq
                refine tt_seg hT (fun pc => Nat.beq pc 83) 60 (fun c hc hq => ?_)
                refine And.intro ⟨⟨rfl, rfl⟩, (show ¬ ((2 : Int32) = 0) by decide)⟩ ?_
                refine (show TT T (0, 0) q 83 [some (.ref 0), some (.int x), some (.int y), some (.int (nI j)), some (.int 0), some (.int 1), some (.int (pS q.1 j)), some (.int (nI (crN (pC q.1) 60))), none, none] [.int (lowV (y >>> (17 &&& 31)) 2), .int (y >>> (6 &&& 31))] from ?_) c hc hq
                obtain ⟨j83, hj83, ej83⟩ : ∃ j : Nat, j < 2 ∧ lowV (y >>> (17 &&& 31)) 2 = nI j := low_n (y >>> (17 &&& 31)) 2 (by decide) (by decide)
                rw [ej83]
                refine tt_seg hT (fun pc => Nat.beq pc 92 || Nat.beq pc 86) 80 (fun c hc hq => ?_)
                refine And.intro (fun (hb83 : ¬ (nI j83) = 0) => ?_) (fun (hb83 : (nI j83) = 0) => ?_)
                · refine (show TT T (0, 0) q 92 [some (.ref 0), some (.int x), some (.int y), some (.int (nI j)), some (.int 0), some (.int 1), some (.int (pS q.1 j)), some (.int (nI (crN (pC q.1) 60))), none, none] [.int (y >>> (6 &&& 31))] from ?_) c hc hq
                  refine tt_seg hT (fun pc => Nat.beq pc 97) 60 (fun c hc hq => ?_)
                  refine And.intro ⟨⟨rfl, rfl⟩, (show ¬ ((60 : Int32) = 0) by decide)⟩ ?_
                  refine (show TT T (0, 0) q 97 [some (.ref 0), some (.int x), some (.int y), some (.int (nI j)), some (.int 0), some (.int 1), some (.int (pS q.1 j)), some (.int (nI (crN (pC q.1) 60))), none, none] [.int (lowV (y >>> (6 &&& 31)) 60)] from ?_) c hc hq
                  obtain ⟨j97, hj97, ej97⟩ : ∃ j : Nat, j < 60 ∧ lowV (y >>> (6 &&& 31)) 60 = nI j := low_n (y >>> (6 &&& 31)) 60 (by decide) (by decide)
                  rw [ej97]
                  refine tt_seg hT (fun pc => Nat.beq pc 117 || Nat.beq pc 104) 80 (fun c hc hq => ?_)
                  refine And.intro (fun (hb101 : ¬ 0 = 0) => ?_) (fun (hb101 : 0 = 0) => ?_)
                  · exact absurd (by decide) hb101
                  · refine (show TT T (0, 0) q 104 [some (.ref 0), some (.int x), some (.int y), some (.int (nI j)), some (.int 0), some (.int 1), some (.int (pS q.1 j)), some (.int (nI (crN (pC q.1) 60))), some (.int (nI j97)), none] [] from ?_) c hc hq
                    refine tt_seg hT (fun pc => Nat.beq pc 117 || Nat.beq pc 109) 80 (fun c hc hq => ?_)
                    refine And.intro (fun (hb106 : (nI j97) = 0) => ?_) (fun (hb106 : ¬ (nI j97) = 0) => ?_)
                    · refine (show TT T (0, 0) q 117 [some (.ref 0), some (.int x), some (.int y), some (.int (nI j)), some (.int 0), some (.int 1), some (.int (pS q.1 j)), some (.int (nI (crN (pC q.1) 60))), some (.int (nI j97)), none] [] from ?_) c hc hq
                      refine tt_seg hT (fun pc => Nat.beq pc 128) 60 (fun c hc hq => ?_)
                      refine (show TT T (0, 0) q 128 [some (.ref 0), some (.int x), some (.int y), some (.int (nI j)), some (.int 0), some (.int 1), some (.int (pS q.1 j)), some (.int (nI (crN (pC q.1) 60))), some (.int (nI j97)), some (.int 1)] [.int (nI j97), .int (nI j), .ref 0] from ?_) c hc hq
                      refine tt_v2 (W := wScratch) aq_scratch hT rfl rfl rfl rfl rfl ?_
                      rw [show wScratch q (nI j) (nI j97) = (q, (-1)) from scr_bad (Or.inr (gOut_no (by rw [nI_toInt (by omega), t1, t500]; first | (have h5 : j97 = 0 := nI_is (by omega) (by decide) hb106; omega) | (have h5 : j97 = 501 := nI_is (by omega) (by decide) hb114; omega))))]
                      show TT T (0, 0) q 131 [some (.ref 0), some (.int x), some (.int y), some (.int (nI j)), some (.int 0), some (.int 1), some (.int (pS q.1 j)), some (.int (nI (crN (pC q.1) 60))), some (.int (nI j97)), some (.int 1)] [.int (-1)]
                      refine tt_seg hT (fun pc => Nat.beq pc 140 || Nat.beq pc 136) 80 (fun c hc hq => ?_)
                      refine And.intro (fun (hb133 : 1 = 0) => ?_) (fun (hb133 : ¬ 1 = 0) => ?_)
                      · exact absurd hb133 (by decide)
                      · refine (show TT T (0, 0) q 136 [some (.ref 0), some (.int x), some (.int y), some (.int (nI j)), some (.int 0), some (.int 1), some (.int (pS q.1 j)), some (.int (nI (crN (pC q.1) 60))), some (.int (nI j97)), some (.int 1)] [.int (-1)] from ?_) c hc hq
                        refine tt_seg hT (fun pc => Nat.beq pc 185 || Nat.beq pc 155) 80 (fun c hc hq => ?_)
                        refine And.intro (fun (hb152 : ¬ (-1) = (-1)) => ?_) (fun (hb152 : (-1) = (-1)) => ?_)
                        · exact absurd (rfl) hb152
                        · refine (show TT T (0, 0) q 155 [some (.ref 0), some (.int x), some (.int y), some (.int (nI j)), some (.int 0), some (.int 1), some (.int (pS q.1 j)), some (.int (nI (crN (pC q.1) 60))), some (.int (nI j97)), some (.int 1)] [] from ?_) c hc hq
                          refine tt_seg hT (fun pc => Nat.beq pc 181 || Nat.beq pc 160) 80 (fun c hc hq => ?_)
                          refine And.intro (fun (hb157 : ¬ 1 = 0) => ?_) (fun (hb157 : 1 = 0) => ?_)
                          · refine (show TT T (0, 0) q 181 [some (.ref 0), some (.int x), some (.int y), some (.int (nI j)), some (.int 0), some (.int 1), some (.int (pS q.1 j)), some (.int (nI (crN (pC q.1) 60))), some (.int (nI j97)), some (.int 1)] [] from ?_) c hc hq
                            refine tt_seg hT (fun pc => Nat.beq pc 186) 60 (fun c hc hq => ?_)
                            refine (show TT T (0, 0) q 186 [some (.ref 0), some (.int x), some (.int y), some (.int (nI j)), some (.int 0), some (.int 1), some (.int (pS q.1 j)), some (.int (nI (crN (pC q.1) 60))), some (.int (nI j97)), some (.int 1)] [.int 1] from ?_) c hc hq
                            exact tt_ret hT rfl rfl (fun c hc hq => ⟨rfl, c, .int 1, rfl, hc, rfl, fun _ => rfl, by rw [hq]; exact ⟨rfl, by rw [show qOf (rX (xw c0)) = q from hq0]; exact step_same⟩⟩)
                          · exact absurd hb157 (by decide)
                    · refine (show TT T (0, 0) q 109 [some (.ref 0), some (.int x), some (.int y), some (.int (nI j)), some (.int 0), some (.int 1), some (.int (pS q.1 j)), some (.int (nI (crN (pC q.1) 60))), some (.int (nI j97)), none] [] from ?_) c hc hq
                      refine tt_seg hT (fun pc => Nat.beq pc 121 || Nat.beq pc 117) 80 (fun c hc hq => ?_)
                      refine And.intro (fun (hb114 : ¬ (nI j97) = 501) => ?_) (fun (hb114 : (nI j97) = 501) => ?_)
                      · refine (show TT T (0, 0) q 121 [some (.ref 0), some (.int x), some (.int y), some (.int (nI j)), some (.int 0), some (.int 1), some (.int (pS q.1 j)), some (.int (nI (crN (pC q.1) 60))), some (.int (nI j97)), none] [] from ?_) c hc hq
                        refine tt_seg hT (fun pc => Nat.beq pc 128) 60 (fun c hc hq => ?_)
                        refine (show TT T (0, 0) q 128 [some (.ref 0), some (.int x), some (.int y), some (.int (nI j)), some (.int 0), some (.int 1), some (.int (pS q.1 j)), some (.int (nI (crN (pC q.1) 60))), some (.int (nI j97)), some (.int 0)] [.int (nI j97), .int (nI j), .ref 0] from ?_) c hc hq
                        refine tt_v2 (W := wScratch) aq_scratch hT rfl rfl rfl rfl rfl ?_
                        rw [show wScratch q (nI j) (nI j97) = ((qNow q (pScr q.1 (nI j) (nI j97))), (pS q.1 j)) from scr_ok hj6 (gOut_of (by have h5 : ¬ j97 = 0 := (fun e => hb106 (by rw [e]; rfl)); have h6 : ¬ j97 = 501 := (fun e => hb114 (by rw [e]; rfl)); rw [nI_toInt (by omega), t1, t500]; omega)) hw]
                        show TT T (0, 0) (qNow q (pScr q.1 (nI j) (nI j97))) 131 [some (.ref 0), some (.int x), some (.int y), some (.int (nI j)), some (.int 0), some (.int 1), some (.int (pS q.1 j)), some (.int (nI (crN (pC q.1) 60))), some (.int (nI j97)), some (.int 0)] [.int (pS q.1 j)]
                        refine tt_seg hT (fun pc => Nat.beq pc 140 || Nat.beq pc 136) 80 (fun c hc hq => ?_)
                        refine And.intro (fun (hb133 : 0 = 0) => ?_) (fun (hb133 : ¬ 0 = 0) => ?_)
                        · refine (show TT T (0, 0) (qNow q (pScr q.1 (nI j) (nI j97))) 140 [some (.ref 0), some (.int x), some (.int y), some (.int (nI j)), some (.int 0), some (.int 1), some (.int (pS q.1 j)), some (.int (nI (crN (pC q.1) 60))), some (.int (nI j97)), some (.int 0)] [.int (pS q.1 j)] from ?_) c hc hq
                          refine tt_seg hT (fun pc => Nat.beq pc 150 || Nat.beq pc 145) 80 (fun c hc hq => ?_)
                          refine And.intro (fun (hb142 : 1 = 0) => ?_) (fun (hb142 : ¬ 1 = 0) => ?_)
                          · exact absurd hb142 (by decide)
                          · refine (show TT T (0, 0) (qNow q (pScr q.1 (nI j) (nI j97))) 145 [some (.ref 0), some (.int x), some (.int y), some (.int (nI j)), some (.int 0), some (.int 1), some (.int (pS q.1 j)), some (.int (nI (crN (pC q.1) 60))), some (.int (nI j97)), some (.int 0)] [.int (pS q.1 j)] from ?_) c hc hq
                            refine tt_seg hT (fun pc => Nat.beq pc 185 || Nat.beq pc 155) 80 (fun c hc hq => ?_)
                            refine And.intro (fun (hb152 : ¬ (pS q.1 j) = (pS q.1 j)) => ?_) (fun (hb152 : (pS q.1 j) = (pS q.1 j)) => ?_)
                            · exact absurd (rfl) hb152
                            · refine (show TT T (0, 0) (qNow q (pScr q.1 (nI j) (nI j97))) 155 [some (.ref 0), some (.int x), some (.int y), some (.int (nI j)), some (.int 0), some (.int 1), some (.int (pS q.1 j)), some (.int (nI (crN (pC q.1) 60))), some (.int (nI j97)), some (.int 0)] [] from ?_) c hc hq
                              refine tt_seg hT (fun pc => Nat.beq pc 181 || Nat.beq pc 160) 80 (fun c hc hq => ?_)
                              refine And.intro (fun (hb157 : ¬ 0 = 0) => ?_) (fun (hb157 : 0 = 0) => ?_)
                              · exact absurd (by decide) hb157
                              · refine (show TT T (0, 0) (qNow q (pScr q.1 (nI j) (nI j97))) 160 [some (.ref 0), some (.int x), some (.int y), some (.int (nI j)), some (.int 0), some (.int 1), some (.int (pS q.1 j)), some (.int (nI (crN (pC q.1) 60))), some (.int (nI j97)), some (.int 0)] [] from ?_) c hc hq
                                refine tt_seg hT (fun pc => Nat.beq pc 163) 60 (fun c hc hq => ?_)
                                refine (show TT T (0, 0) (qNow q (pScr q.1 (nI j) (nI j97))) 163 [some (.ref 0), some (.int x), some (.int y), some (.int (nI j)), some (.int 0), some (.int 1), some (.int (pS q.1 j)), some (.int (nI (crN (pC q.1) 60))), some (.int (nI j97)), some (.int 0)] [.int 3, .int (nI j), .ref 0] from ?_) c hc hq
                                refine tt_v2 (W := fun q x y => (q, vJoint q.1 x y)) lq_joint hT rfl rfl rfl rfl rfl ?_
                                show TT T (0, 0) (qNow q (pScr q.1 (nI j) (nI j97))) 166 [some (.ref 0), some (.int x), some (.int y), some (.int (nI j)), some (.int 0), some (.int 1), some (.int (pS q.1 j)), some (.int (nI (crN (pC q.1) 60))), some (.int (nI j97)), some (.int 0)] [.int (vJoint (qNow q (pScr q.1 (nI j) (nI j97))).1 (nI j) 3)]
                                rw [show (vJoint (qNow q (pScr q.1 (nI j) (nI j97))).1 (nI j) 3) = (nI j97) from (vJ3 hj6).trans (scr_S hj6)]
                                refine tt_seg hT (fun pc => Nat.beq pc 176 || Nat.beq pc 171) 80 (fun c hc hq => ?_)
                                refine And.intro (fun (hb168 : 1 = 0) => ?_) (fun (hb168 : ¬ 1 = 0) => ?_)
                                · exact absurd hb168 (by decide)
                                · refine (show TT T (0, 0) (qNow q (pScr q.1 (nI j) (nI j97))) 171 [some (.ref 0), some (.int x), some (.int y), some (.int (nI j)), some (.int 0), some (.int 1), some (.int (pS q.1 j)), some (.int (nI (crN (pC q.1) 60))), some (.int (nI j97)), some (.int 0)] [.int (nI j97)] from ?_) c hc hq
                                  refine tt_seg hT (fun pc => Nat.beq pc 185 || Nat.beq pc 181) 80 (fun c hc hq => ?_)
                                  refine And.intro (fun (hb178 : ¬ (nI j97) = (nI j97)) => ?_) (fun (hb178 : (nI j97) = (nI j97)) => ?_)
                                  · exact absurd (rfl) hb178
                                  · refine (show TT T (0, 0) (qNow q (pScr q.1 (nI j) (nI j97))) 181 [some (.ref 0), some (.int x), some (.int y), some (.int (nI j)), some (.int 0), some (.int 1), some (.int (pS q.1 j)), some (.int (nI (crN (pC q.1) 60))), some (.int (nI j97)), some (.int 0)] [] from ?_) c hc hq
                                    refine tt_seg hT (fun pc => Nat.beq pc 186) 60 (fun c hc hq => ?_)
                                    refine (show TT T (0, 0) (qNow q (pScr q.1 (nI j) (nI j97))) 186 [some (.ref 0), some (.int x), some (.int y), some (.int (nI j)), some (.int 0), some (.int 1), some (.int (pS q.1 j)), some (.int (nI (crN (pC q.1) 60))), some (.int (nI j97)), some (.int 0)] [.int 1] from ?_) c hc hq
                                    exact tt_ret hT rfl rfl (fun c hc hq => ⟨rfl, c, .int 1, rfl, hc, rfl, fun _ => rfl, by rw [hq]; exact ⟨rfl, by rw [show qOf (rX (xw c0)) = q from hq0]; exact step_now (fun k hk h => PI_mono (PI_scr h.1 hj6 (by have := out_bd (gOut_of (x := (nI j97)) (a := 1) (b := 500) (by have h5 : ¬ j97 = 0 := (fun e => hb106 (by rw [e]; rfl)); have h6 : ¬ j97 = 501 := (fun e => hb114 (by rw [e]; rfl)); rw [nI_toInt (by omega), t1, t500]; omega)); rw [t1, t500] at this; exact this)))⟩⟩)
                        · exact absurd (by decide) hb133
                      · refine (show TT T (0, 0) q 117 [some (.ref 0), some (.int x), some (.int y), some (.int (nI j)), some (.int 0), some (.int 1), some (.int (pS q.1 j)), some (.int (nI (crN (pC q.1) 60))), some (.int (nI j97)), none] [] from ?_) c hc hq
                        refine tt_seg hT (fun pc => Nat.beq pc 128) 60 (fun c hc hq => ?_)
                        refine (show TT T (0, 0) q 128 [some (.ref 0), some (.int x), some (.int y), some (.int (nI j)), some (.int 0), some (.int 1), some (.int (pS q.1 j)), some (.int (nI (crN (pC q.1) 60))), some (.int (nI j97)), some (.int 1)] [.int (nI j97), .int (nI j), .ref 0] from ?_) c hc hq
                        refine tt_v2 (W := wScratch) aq_scratch hT rfl rfl rfl rfl rfl ?_
                        rw [show wScratch q (nI j) (nI j97) = (q, (-1)) from scr_bad (Or.inr (gOut_no (by rw [nI_toInt (by omega), t1, t500]; first | (have h5 : j97 = 0 := nI_is (by omega) (by decide) hb106; omega) | (have h5 : j97 = 501 := nI_is (by omega) (by decide) hb114; omega))))]
                        show TT T (0, 0) q 131 [some (.ref 0), some (.int x), some (.int y), some (.int (nI j)), some (.int 0), some (.int 1), some (.int (pS q.1 j)), some (.int (nI (crN (pC q.1) 60))), some (.int (nI j97)), some (.int 1)] [.int (-1)]
                        refine tt_seg hT (fun pc => Nat.beq pc 140 || Nat.beq pc 136) 80 (fun c hc hq => ?_)
                        refine And.intro (fun (hb133 : 1 = 0) => ?_) (fun (hb133 : ¬ 1 = 0) => ?_)
                        · exact absurd hb133 (by decide)
                        · refine (show TT T (0, 0) q 136 [some (.ref 0), some (.int x), some (.int y), some (.int (nI j)), some (.int 0), some (.int 1), some (.int (pS q.1 j)), some (.int (nI (crN (pC q.1) 60))), some (.int (nI j97)), some (.int 1)] [.int (-1)] from ?_) c hc hq
                          refine tt_seg hT (fun pc => Nat.beq pc 185 || Nat.beq pc 155) 80 (fun c hc hq => ?_)
                          refine And.intro (fun (hb152 : ¬ (-1) = (-1)) => ?_) (fun (hb152 : (-1) = (-1)) => ?_)
                          · exact absurd (rfl) hb152
                          · refine (show TT T (0, 0) q 155 [some (.ref 0), some (.int x), some (.int y), some (.int (nI j)), some (.int 0), some (.int 1), some (.int (pS q.1 j)), some (.int (nI (crN (pC q.1) 60))), some (.int (nI j97)), some (.int 1)] [] from ?_) c hc hq
                            refine tt_seg hT (fun pc => Nat.beq pc 181 || Nat.beq pc 160) 80 (fun c hc hq => ?_)
                            refine And.intro (fun (hb157 : ¬ 1 = 0) => ?_) (fun (hb157 : 1 = 0) => ?_)
                            · refine (show TT T (0, 0) q 181 [some (.ref 0), some (.int x), some (.int y), some (.int (nI j)), some (.int 0), some (.int 1), some (.int (pS q.1 j)), some (.int (nI (crN (pC q.1) 60))), some (.int (nI j97)), some (.int 1)] [] from ?_) c hc hq
                              refine tt_seg hT (fun pc => Nat.beq pc 186) 60 (fun c hc hq => ?_)
                              refine (show TT T (0, 0) q 186 [some (.ref 0), some (.int x), some (.int y), some (.int (nI j)), some (.int 0), some (.int 1), some (.int (pS q.1 j)), some (.int (nI (crN (pC q.1) 60))), some (.int (nI j97)), some (.int 1)] [.int 1] from ?_) c hc hq
                              exact tt_ret hT rfl rfl (fun c hc hq => ⟨rfl, c, .int 1, rfl, hc, rfl, fun _ => rfl, by rw [hq]; exact ⟨rfl, by rw [show qOf (rX (xw c0)) = q from hq0]; exact step_same⟩⟩)
                            · exact absurd hb157 (by decide)
                · refine (show TT T (0, 0) q 86 [some (.ref 0), some (.int x), some (.int y), some (.int (nI j)), some (.int 0), some (.int 1), some (.int (pS q.1 j)), some (.int (nI (crN (pC q.1) 60))), none, none] [.int (y >>> (6 &&& 31))] from ?_) c hc hq
                  refine tt_seg hT (fun pc => Nat.beq pc 97) 60 (fun c hc hq => ?_)
                  refine And.intro ⟨⟨rfl, rfl⟩, (show ¬ ((502 : Int32) = 0) by decide)⟩ ?_
                  refine (show TT T (0, 0) q 97 [some (.ref 0), some (.int x), some (.int y), some (.int (nI j)), some (.int 0), some (.int 1), some (.int (pS q.1 j)), some (.int (nI (crN (pC q.1) 60))), none, none] [.int (lowV (y >>> (6 &&& 31)) 502)] from ?_) c hc hq
                  obtain ⟨j97, hj97, ej97⟩ : ∃ j : Nat, j < 502 ∧ lowV (y >>> (6 &&& 31)) 502 = nI j := low_n (y >>> (6 &&& 31)) 502 (by decide) (by decide)
                  rw [ej97]
                  refine tt_seg hT (fun pc => Nat.beq pc 117 || Nat.beq pc 104) 80 (fun c hc hq => ?_)
                  refine And.intro (fun (hb101 : ¬ 0 = 0) => ?_) (fun (hb101 : 0 = 0) => ?_)
                  · exact absurd (by decide) hb101
                  · refine (show TT T (0, 0) q 104 [some (.ref 0), some (.int x), some (.int y), some (.int (nI j)), some (.int 0), some (.int 1), some (.int (pS q.1 j)), some (.int (nI (crN (pC q.1) 60))), some (.int (nI j97)), none] [] from ?_) c hc hq
                    refine tt_seg hT (fun pc => Nat.beq pc 117 || Nat.beq pc 109) 80 (fun c hc hq => ?_)
                    refine And.intro (fun (hb106 : (nI j97) = 0) => ?_) (fun (hb106 : ¬ (nI j97) = 0) => ?_)
                    · refine (show TT T (0, 0) q 117 [some (.ref 0), some (.int x), some (.int y), some (.int (nI j)), some (.int 0), some (.int 1), some (.int (pS q.1 j)), some (.int (nI (crN (pC q.1) 60))), some (.int (nI j97)), none] [] from ?_) c hc hq
                      refine tt_seg hT (fun pc => Nat.beq pc 128) 60 (fun c hc hq => ?_)
                      refine (show TT T (0, 0) q 128 [some (.ref 0), some (.int x), some (.int y), some (.int (nI j)), some (.int 0), some (.int 1), some (.int (pS q.1 j)), some (.int (nI (crN (pC q.1) 60))), some (.int (nI j97)), some (.int 1)] [.int (nI j97), .int (nI j), .ref 0] from ?_) c hc hq
                      refine tt_v2 (W := wScratch) aq_scratch hT rfl rfl rfl rfl rfl ?_
                      rw [show wScratch q (nI j) (nI j97) = (q, (-1)) from scr_bad (Or.inr (gOut_no (by rw [nI_toInt (by omega), t1, t500]; first | (have h5 : j97 = 0 := nI_is (by omega) (by decide) hb106; omega) | (have h5 : j97 = 501 := nI_is (by omega) (by decide) hb114; omega))))]
                      show TT T (0, 0) q 131 [some (.ref 0), some (.int x), some (.int y), some (.int (nI j)), some (.int 0), some (.int 1), some (.int (pS q.1 j)), some (.int (nI (crN (pC q.1) 60))), some (.int (nI j97)), some (.int 1)] [.int (-1)]
                      refine tt_seg hT (fun pc => Nat.beq pc 140 || Nat.beq pc 136) 80 (fun c hc hq => ?_)
                      refine And.intro (fun (hb133 : 1 = 0) => ?_) (fun (hb133 : ¬ 1 = 0) => ?_)
                      · exact absurd hb133 (by decide)
                      · refine (show TT T (0, 0) q 136 [some (.ref 0), some (.int x), some (.int y), some (.int (nI j)), some (.int 0), some (.int 1), some (.int (pS q.1 j)), some (.int (nI (crN (pC q.1) 60))), some (.int (nI j97)), some (.int 1)] [.int (-1)] from ?_) c hc hq
                        refine tt_seg hT (fun pc => Nat.beq pc 185 || Nat.beq pc 155) 80 (fun c hc hq => ?_)
                        refine And.intro (fun (hb152 : ¬ (-1) = (-1)) => ?_) (fun (hb152 : (-1) = (-1)) => ?_)
                        · exact absurd (rfl) hb152
                        · refine (show TT T (0, 0) q 155 [some (.ref 0), some (.int x), some (.int y), some (.int (nI j)), some (.int 0), some (.int 1), some (.int (pS q.1 j)), some (.int (nI (crN (pC q.1) 60))), some (.int (nI j97)), some (.int 1)] [] from ?_) c hc hq
                          refine tt_seg hT (fun pc => Nat.beq pc 181 || Nat.beq pc 160) 80 (fun c hc hq => ?_)
                          refine And.intro (fun (hb157 : ¬ 1 = 0) => ?_) (fun (hb157 : 1 = 0) => ?_)
                          · refine (show TT T (0, 0) q 181 [some (.ref 0), some (.int x), some (.int y), some (.int (nI j)), some (.int 0), some (.int 1), some (.int (pS q.1 j)), some (.int (nI (crN (pC q.1) 60))), some (.int (nI j97)), some (.int 1)] [] from ?_) c hc hq
                            refine tt_seg hT (fun pc => Nat.beq pc 186) 60 (fun c hc hq => ?_)
                            refine (show TT T (0, 0) q 186 [some (.ref 0), some (.int x), some (.int y), some (.int (nI j)), some (.int 0), some (.int 1), some (.int (pS q.1 j)), some (.int (nI (crN (pC q.1) 60))), some (.int (nI j97)), some (.int 1)] [.int 1] from ?_) c hc hq
                            exact tt_ret hT rfl rfl (fun c hc hq => ⟨rfl, c, .int 1, rfl, hc, rfl, fun _ => rfl, by rw [hq]; exact ⟨rfl, by rw [show qOf (rX (xw c0)) = q from hq0]; exact step_same⟩⟩)
                          · exact absurd hb157 (by decide)
                    · refine (show TT T (0, 0) q 109 [some (.ref 0), some (.int x), some (.int y), some (.int (nI j)), some (.int 0), some (.int 1), some (.int (pS q.1 j)), some (.int (nI (crN (pC q.1) 60))), some (.int (nI j97)), none] [] from ?_) c hc hq
                      refine tt_seg hT (fun pc => Nat.beq pc 121 || Nat.beq pc 117) 80 (fun c hc hq => ?_)
                      refine And.intro (fun (hb114 : ¬ (nI j97) = 501) => ?_) (fun (hb114 : (nI j97) = 501) => ?_)
                      · refine (show TT T (0, 0) q 121 [some (.ref 0), some (.int x), some (.int y), some (.int (nI j)), some (.int 0), some (.int 1), some (.int (pS q.1 j)), some (.int (nI (crN (pC q.1) 60))), some (.int (nI j97)), none] [] from ?_) c hc hq
                        refine tt_seg hT (fun pc => Nat.beq pc 128) 60 (fun c hc hq => ?_)
                        refine (show TT T (0, 0) q 128 [some (.ref 0), some (.int x), some (.int y), some (.int (nI j)), some (.int 0), some (.int 1), some (.int (pS q.1 j)), some (.int (nI (crN (pC q.1) 60))), some (.int (nI j97)), some (.int 0)] [.int (nI j97), .int (nI j), .ref 0] from ?_) c hc hq
                        refine tt_v2 (W := wScratch) aq_scratch hT rfl rfl rfl rfl rfl ?_
                        rw [show wScratch q (nI j) (nI j97) = ((qNow q (pScr q.1 (nI j) (nI j97))), (pS q.1 j)) from scr_ok hj6 (gOut_of (by have h5 : ¬ j97 = 0 := (fun e => hb106 (by rw [e]; rfl)); have h6 : ¬ j97 = 501 := (fun e => hb114 (by rw [e]; rfl)); rw [nI_toInt (by omega), t1, t500]; omega)) hw]
                        show TT T (0, 0) (qNow q (pScr q.1 (nI j) (nI j97))) 131 [some (.ref 0), some (.int x), some (.int y), some (.int (nI j)), some (.int 0), some (.int 1), some (.int (pS q.1 j)), some (.int (nI (crN (pC q.1) 60))), some (.int (nI j97)), some (.int 0)] [.int (pS q.1 j)]
                        refine tt_seg hT (fun pc => Nat.beq pc 140 || Nat.beq pc 136) 80 (fun c hc hq => ?_)
                        refine And.intro (fun (hb133 : 0 = 0) => ?_) (fun (hb133 : ¬ 0 = 0) => ?_)
                        · refine (show TT T (0, 0) (qNow q (pScr q.1 (nI j) (nI j97))) 140 [some (.ref 0), some (.int x), some (.int y), some (.int (nI j)), some (.int 0), some (.int 1), some (.int (pS q.1 j)), some (.int (nI (crN (pC q.1) 60))), some (.int (nI j97)), some (.int 0)] [.int (pS q.1 j)] from ?_) c hc hq
                          refine tt_seg hT (fun pc => Nat.beq pc 150 || Nat.beq pc 145) 80 (fun c hc hq => ?_)
                          refine And.intro (fun (hb142 : 1 = 0) => ?_) (fun (hb142 : ¬ 1 = 0) => ?_)
                          · exact absurd hb142 (by decide)
                          · refine (show TT T (0, 0) (qNow q (pScr q.1 (nI j) (nI j97))) 145 [some (.ref 0), some (.int x), some (.int y), some (.int (nI j)), some (.int 0), some (.int 1), some (.int (pS q.1 j)), some (.int (nI (crN (pC q.1) 60))), some (.int (nI j97)), some (.int 0)] [.int (pS q.1 j)] from ?_) c hc hq
                            refine tt_seg hT (fun pc => Nat.beq pc 185 || Nat.beq pc 155) 80 (fun c hc hq => ?_)
                            refine And.intro (fun (hb152 : ¬ (pS q.1 j) = (pS q.1 j)) => ?_) (fun (hb152 : (pS q.1 j) = (pS q.1 j)) => ?_)
                            · exact absurd (rfl) hb152
                            · refine (show TT T (0, 0) (qNow q (pScr q.1 (nI j) (nI j97))) 155 [some (.ref 0), some (.int x), some (.int y), some (.int (nI j)), some (.int 0), some (.int 1), some (.int (pS q.1 j)), some (.int (nI (crN (pC q.1) 60))), some (.int (nI j97)), some (.int 0)] [] from ?_) c hc hq
                              refine tt_seg hT (fun pc => Nat.beq pc 181 || Nat.beq pc 160) 80 (fun c hc hq => ?_)
                              refine And.intro (fun (hb157 : ¬ 0 = 0) => ?_) (fun (hb157 : 0 = 0) => ?_)
                              · exact absurd (by decide) hb157
                              · refine (show TT T (0, 0) (qNow q (pScr q.1 (nI j) (nI j97))) 160 [some (.ref 0), some (.int x), some (.int y), some (.int (nI j)), some (.int 0), some (.int 1), some (.int (pS q.1 j)), some (.int (nI (crN (pC q.1) 60))), some (.int (nI j97)), some (.int 0)] [] from ?_) c hc hq
                                refine tt_seg hT (fun pc => Nat.beq pc 163) 60 (fun c hc hq => ?_)
                                refine (show TT T (0, 0) (qNow q (pScr q.1 (nI j) (nI j97))) 163 [some (.ref 0), some (.int x), some (.int y), some (.int (nI j)), some (.int 0), some (.int 1), some (.int (pS q.1 j)), some (.int (nI (crN (pC q.1) 60))), some (.int (nI j97)), some (.int 0)] [.int 3, .int (nI j), .ref 0] from ?_) c hc hq
                                refine tt_v2 (W := fun q x y => (q, vJoint q.1 x y)) lq_joint hT rfl rfl rfl rfl rfl ?_
                                show TT T (0, 0) (qNow q (pScr q.1 (nI j) (nI j97))) 166 [some (.ref 0), some (.int x), some (.int y), some (.int (nI j)), some (.int 0), some (.int 1), some (.int (pS q.1 j)), some (.int (nI (crN (pC q.1) 60))), some (.int (nI j97)), some (.int 0)] [.int (vJoint (qNow q (pScr q.1 (nI j) (nI j97))).1 (nI j) 3)]
                                rw [show (vJoint (qNow q (pScr q.1 (nI j) (nI j97))).1 (nI j) 3) = (nI j97) from (vJ3 hj6).trans (scr_S hj6)]
                                refine tt_seg hT (fun pc => Nat.beq pc 176 || Nat.beq pc 171) 80 (fun c hc hq => ?_)
                                refine And.intro (fun (hb168 : 1 = 0) => ?_) (fun (hb168 : ¬ 1 = 0) => ?_)
                                · exact absurd hb168 (by decide)
                                · refine (show TT T (0, 0) (qNow q (pScr q.1 (nI j) (nI j97))) 171 [some (.ref 0), some (.int x), some (.int y), some (.int (nI j)), some (.int 0), some (.int 1), some (.int (pS q.1 j)), some (.int (nI (crN (pC q.1) 60))), some (.int (nI j97)), some (.int 0)] [.int (nI j97)] from ?_) c hc hq
                                  refine tt_seg hT (fun pc => Nat.beq pc 185 || Nat.beq pc 181) 80 (fun c hc hq => ?_)
                                  refine And.intro (fun (hb178 : ¬ (nI j97) = (nI j97)) => ?_) (fun (hb178 : (nI j97) = (nI j97)) => ?_)
                                  · exact absurd (rfl) hb178
                                  · refine (show TT T (0, 0) (qNow q (pScr q.1 (nI j) (nI j97))) 181 [some (.ref 0), some (.int x), some (.int y), some (.int (nI j)), some (.int 0), some (.int 1), some (.int (pS q.1 j)), some (.int (nI (crN (pC q.1) 60))), some (.int (nI j97)), some (.int 0)] [] from ?_) c hc hq
                                    refine tt_seg hT (fun pc => Nat.beq pc 186) 60 (fun c hc hq => ?_)
                                    refine (show TT T (0, 0) (qNow q (pScr q.1 (nI j) (nI j97))) 186 [some (.ref 0), some (.int x), some (.int y), some (.int (nI j)), some (.int 0), some (.int 1), some (.int (pS q.1 j)), some (.int (nI (crN (pC q.1) 60))), some (.int (nI j97)), some (.int 0)] [.int 1] from ?_) c hc hq
                                    exact tt_ret hT rfl rfl (fun c hc hq => ⟨rfl, c, .int 1, rfl, hc, rfl, fun _ => rfl, by rw [hq]; exact ⟨rfl, by rw [show qOf (rX (xw c0)) = q from hq0]; exact step_now (fun k hk h => PI_mono (PI_scr h.1 hj6 (by have := out_bd (gOut_of (x := (nI j97)) (a := 1) (b := 500) (by have h5 : ¬ j97 = 0 := (fun e => hb106 (by rw [e]; rfl)); have h6 : ¬ j97 = 501 := (fun e => hb114 (by rw [e]; rfl)); rw [nI_toInt (by omega), t1, t500]; omega)); rw [t1, t500] at this; exact this)))⟩⟩)
                        · exact absurd (by decide) hb133
                      · refine (show TT T (0, 0) q 117 [some (.ref 0), some (.int x), some (.int y), some (.int (nI j)), some (.int 0), some (.int 1), some (.int (pS q.1 j)), some (.int (nI (crN (pC q.1) 60))), some (.int (nI j97)), none] [] from ?_) c hc hq
                        refine tt_seg hT (fun pc => Nat.beq pc 128) 60 (fun c hc hq => ?_)
                        refine (show TT T (0, 0) q 128 [some (.ref 0), some (.int x), some (.int y), some (.int (nI j)), some (.int 0), some (.int 1), some (.int (pS q.1 j)), some (.int (nI (crN (pC q.1) 60))), some (.int (nI j97)), some (.int 1)] [.int (nI j97), .int (nI j), .ref 0] from ?_) c hc hq
                        refine tt_v2 (W := wScratch) aq_scratch hT rfl rfl rfl rfl rfl ?_
                        rw [show wScratch q (nI j) (nI j97) = (q, (-1)) from scr_bad (Or.inr (gOut_no (by rw [nI_toInt (by omega), t1, t500]; first | (have h5 : j97 = 0 := nI_is (by omega) (by decide) hb106; omega) | (have h5 : j97 = 501 := nI_is (by omega) (by decide) hb114; omega))))]
                        show TT T (0, 0) q 131 [some (.ref 0), some (.int x), some (.int y), some (.int (nI j)), some (.int 0), some (.int 1), some (.int (pS q.1 j)), some (.int (nI (crN (pC q.1) 60))), some (.int (nI j97)), some (.int 1)] [.int (-1)]
                        refine tt_seg hT (fun pc => Nat.beq pc 140 || Nat.beq pc 136) 80 (fun c hc hq => ?_)
                        refine And.intro (fun (hb133 : 1 = 0) => ?_) (fun (hb133 : ¬ 1 = 0) => ?_)
                        · exact absurd hb133 (by decide)
                        · refine (show TT T (0, 0) q 136 [some (.ref 0), some (.int x), some (.int y), some (.int (nI j)), some (.int 0), some (.int 1), some (.int (pS q.1 j)), some (.int (nI (crN (pC q.1) 60))), some (.int (nI j97)), some (.int 1)] [.int (-1)] from ?_) c hc hq
                          refine tt_seg hT (fun pc => Nat.beq pc 185 || Nat.beq pc 155) 80 (fun c hc hq => ?_)
                          refine And.intro (fun (hb152 : ¬ (-1) = (-1)) => ?_) (fun (hb152 : (-1) = (-1)) => ?_)
                          · exact absurd (rfl) hb152
                          · refine (show TT T (0, 0) q 155 [some (.ref 0), some (.int x), some (.int y), some (.int (nI j)), some (.int 0), some (.int 1), some (.int (pS q.1 j)), some (.int (nI (crN (pC q.1) 60))), some (.int (nI j97)), some (.int 1)] [] from ?_) c hc hq
                            refine tt_seg hT (fun pc => Nat.beq pc 181 || Nat.beq pc 160) 80 (fun c hc hq => ?_)
                            refine And.intro (fun (hb157 : ¬ 1 = 0) => ?_) (fun (hb157 : 1 = 0) => ?_)
                            · refine (show TT T (0, 0) q 181 [some (.ref 0), some (.int x), some (.int y), some (.int (nI j)), some (.int 0), some (.int 1), some (.int (pS q.1 j)), some (.int (nI (crN (pC q.1) 60))), some (.int (nI j97)), some (.int 1)] [] from ?_) c hc hq
                              refine tt_seg hT (fun pc => Nat.beq pc 186) 60 (fun c hc hq => ?_)
                              refine (show TT T (0, 0) q 186 [some (.ref 0), some (.int x), some (.int y), some (.int (nI j)), some (.int 0), some (.int 1), some (.int (pS q.1 j)), some (.int (nI (crN (pC q.1) 60))), some (.int (nI j97)), some (.int 1)] [.int 1] from ?_) c hc hq
                              exact tt_ret hT rfl rfl (fun c hc hq => ⟨rfl, c, .int 1, rfl, hc, rfl, fun _ => rfl, by rw [hq]; exact ⟨rfl, by rw [show qOf (rX (xw c0)) = q from hq0]; exact step_same⟩⟩)
                            · exact absurd hb157 (by decide)
            · exact absurd (by decide) hb44
      · exact absurd hb10 (fun e => hjn (nI_is (by omega) (by decide) e))
    · refine tt_seg hT (fun pc => Nat.beq pc 6) 60 (fun c hc hq => ?_)
      refine And.intro ⟨⟨rfl, rfl⟩, (show ¬ ((61 : Int32) = 0) by decide)⟩ ?_
      refine (show TT T (0, 0) q 6 [some (.ref 0), some (.int x), some (.int y), none, none, none, none, none, none, none] [.int (lowV y 61)] from ?_) c hc hq
      rw [ej]
      refine tt_seg hT (fun pc => Nat.beq pc 17 || Nat.beq pc 13) 80 (fun c hc hq => ?_)
      refine And.intro (fun (hb10 : ¬ (nI j) = 60) => ?_) (fun (hb10 : (nI j) = 60) => ?_)
      · refine (show TT T (0, 0) q 17 [some (.ref 0), some (.int x), some (.int y), some (.int (nI j)), none, none, none, none, none, none] [] from ?_) c hc hq
        refine tt_seg hT (fun pc => Nat.beq pc 39 || Nat.beq pc 25) 80 (fun c hc hq => ?_)
        refine And.intro (fun (hb22 : ¬ 0 = 0) => ?_) (fun (hb22 : 0 = 0) => ?_)
        · exact absurd (by decide) hb22
        · refine (show TT T (0, 0) q 25 [some (.ref 0), some (.int x), some (.int y), some (.int (nI j)), some (.int 0), none, none, none, none, none] [] from ?_) c hc hq
          refine tt_seg hT (fun pc => Nat.beq pc 28) 60 (fun c hc hq => ?_)
          refine (show TT T (0, 0) q 28 [some (.ref 0), some (.int x), some (.int y), some (.int (nI j)), some (.int 0), none, none, none, none, none] [.int 2, .int (nI j), .ref 0] from ?_) c hc hq
          refine tt_v2 (W := fun q x y => (q, vJoint q.1 x y)) lq_joint hT rfl rfl rfl rfl rfl ?_
          show TT T (0, 0) q 31 [some (.ref 0), some (.int x), some (.int y), some (.int (nI j)), some (.int 0), none, none, none, none, none] [.int (vJoint q.1 (nI j) 2)]
          rw [show (vJoint q.1 (nI j) 2) = 0 from vJ2c hj6 hw]
          refine tt_seg hT (fun pc => Nat.beq pc 39 || Nat.beq pc 35) 80 (fun c hc hq => ?_)
          refine And.intro (fun (hb32 : ¬ 0 = 1) => ?_) (fun (hb32 : 0 = 1) => ?_)
          · refine (show TT T (0, 0) q 39 [some (.ref 0), some (.int x), some (.int y), some (.int (nI j)), some (.int 0), none, none, none, none, none] [] from ?_) c hc hq
            refine tt_seg hT (fun pc => Nat.beq pc 51 || Nat.beq pc 47) 80 (fun c hc hq => ?_)
            refine And.intro (fun (hb44 : 0 = 0) => ?_) (fun (hb44 : ¬ 0 = 0) => ?_)
            · refine (show TT T (0, 0) q 51 [some (.ref 0), some (.int x), some (.int y), some (.int (nI j)), some (.int 0), some (.int 0), none, none, none, none] [] from ?_) c hc hq
              refine tt_seg hT (fun pc => Nat.beq pc 54) 60 (fun c hc hq => ?_)
              refine (show TT T (0, 0) q 54 [some (.ref 0), some (.int x), some (.int y), some (.int (nI j)), some (.int 0), some (.int 0), none, none, none, none] [.int 3, .int (nI j), .ref 0] from ?_) c hc hq
              refine tt_v2 (W := fun q x y => (q, vJoint q.1 x y)) lq_joint hT rfl rfl rfl rfl rfl ?_
              show TT T (0, 0) q 57 [some (.ref 0), some (.int x), some (.int y), some (.int (nI j)), some (.int 0), some (.int 0), none, none, none, none] [.int (vJoint q.1 (nI j) 3)]
              rw [show (vJoint q.1 (nI j) 3) = (pS q.1 j) from vJ3 hj6]
              refine tt_seg hT (fun pc => Nat.beq pc 62) 60 (fun c hc hq => ?_)
              refine (show TT T (0, 0) q 62 [some (.ref 0), some (.int x), some (.int y), some (.int (nI j)), some (.int 0), some (.int 0), some (.int (pS q.1 j)), none, none, none] [.int 6, .ref 0] from ?_) c hc hq
              refine tt_v1 (W := fun q x => (q, vCount q x)) lq_count hT rfl rfl rfl rfl rfl ?_
              show TT T (0, 0) q 65 [some (.ref 0), some (.int x), some (.int y), some (.int (nI j)), some (.int 0), some (.int 0), some (.int (pS q.1 j)), none, none, none] [.int (vCount q 6)]
              rw [show (vCount q 6) = (nI (crN (pC q.1) 60)) from vN6]
              refine tt_seg hT (fun pc => Nat.beq pc 187 || Nat.beq pc 71) 80 (fun c hc hq => ?_)
              refine And.intro (fun (hb68 : ¬ x = 0) => ?_) (fun (hb68 : x = 0) => ?_)
              · exact absurd (hx) hb68
              · refine (show TT T (0, 0) q 71 [some (.ref 0), some (.int x), some (.int y), some (.int (nI j)), some (.int 0), some (.int 0), some (.int (pS q.1 j)), some (.int (nI (crN (pC q.1) 60))), none, none] [] from ?_) c hc hq
                refine tt_seg hT (fun pc => Nat.beq pc 83) 60 (fun c hc hq => ?_)
                refine And.intro ⟨⟨rfl, rfl⟩, (show ¬ ((2 : Int32) = 0) by decide)⟩ ?_
                refine (show TT T (0, 0) q 83 [some (.ref 0), some (.int x), some (.int y), some (.int (nI j)), some (.int 0), some (.int 0), some (.int (pS q.1 j)), some (.int (nI (crN (pC q.1) 60))), none, none] [.int (lowV (y >>> (17 &&& 31)) 2), .int (y >>> (6 &&& 31))] from ?_) c hc hq
                obtain ⟨j83, hj83, ej83⟩ : ∃ j : Nat, j < 2 ∧ lowV (y >>> (17 &&& 31)) 2 = nI j := low_n (y >>> (17 &&& 31)) 2 (by decide) (by decide)
                rw [ej83]
                refine tt_seg hT (fun pc => Nat.beq pc 92 || Nat.beq pc 86) 80 (fun c hc hq => ?_)
                refine And.intro (fun (hb83 : ¬ (nI j83) = 0) => ?_) (fun (hb83 : (nI j83) = 0) => ?_)
                · refine (show TT T (0, 0) q 92 [some (.ref 0), some (.int x), some (.int y), some (.int (nI j)), some (.int 0), some (.int 0), some (.int (pS q.1 j)), some (.int (nI (crN (pC q.1) 60))), none, none] [.int (y >>> (6 &&& 31))] from ?_) c hc hq
                  refine tt_seg hT (fun pc => Nat.beq pc 97) 60 (fun c hc hq => ?_)
                  refine And.intro ⟨⟨rfl, rfl⟩, (show ¬ ((60 : Int32) = 0) by decide)⟩ ?_
                  refine (show TT T (0, 0) q 97 [some (.ref 0), some (.int x), some (.int y), some (.int (nI j)), some (.int 0), some (.int 0), some (.int (pS q.1 j)), some (.int (nI (crN (pC q.1) 60))), none, none] [.int (lowV (y >>> (6 &&& 31)) 60)] from ?_) c hc hq
                  obtain ⟨j97, hj97, ej97⟩ : ∃ j : Nat, j < 60 ∧ lowV (y >>> (6 &&& 31)) 60 = nI j := low_n (y >>> (6 &&& 31)) 60 (by decide) (by decide)
                  rw [ej97]
                  refine tt_seg hT (fun pc => Nat.beq pc 117 || Nat.beq pc 104) 80 (fun c hc hq => ?_)
                  refine And.intro (fun (hb101 : ¬ 0 = 0) => ?_) (fun (hb101 : 0 = 0) => ?_)
                  · exact absurd (by decide) hb101
                  · refine (show TT T (0, 0) q 104 [some (.ref 0), some (.int x), some (.int y), some (.int (nI j)), some (.int 0), some (.int 0), some (.int (pS q.1 j)), some (.int (nI (crN (pC q.1) 60))), some (.int (nI j97)), none] [] from ?_) c hc hq
                    refine tt_seg hT (fun pc => Nat.beq pc 117 || Nat.beq pc 109) 80 (fun c hc hq => ?_)
                    refine And.intro (fun (hb106 : (nI j97) = 0) => ?_) (fun (hb106 : ¬ (nI j97) = 0) => ?_)
                    · refine (show TT T (0, 0) q 117 [some (.ref 0), some (.int x), some (.int y), some (.int (nI j)), some (.int 0), some (.int 0), some (.int (pS q.1 j)), some (.int (nI (crN (pC q.1) 60))), some (.int (nI j97)), none] [] from ?_) c hc hq
                      refine tt_seg hT (fun pc => Nat.beq pc 128) 60 (fun c hc hq => ?_)
                      refine (show TT T (0, 0) q 128 [some (.ref 0), some (.int x), some (.int y), some (.int (nI j)), some (.int 0), some (.int 0), some (.int (pS q.1 j)), some (.int (nI (crN (pC q.1) 60))), some (.int (nI j97)), some (.int 1)] [.int (nI j97), .int (nI j), .ref 0] from ?_) c hc hq
                      refine tt_v2 (W := wScratch) aq_scratch hT rfl rfl rfl rfl rfl ?_
                      rw [show wScratch q (nI j) (nI j97) = (q, (-1)) from scr_bad (Or.inr (gOut_no (by rw [nI_toInt (by omega), t1, t500]; first | (have h5 : j97 = 0 := nI_is (by omega) (by decide) hb106; omega) | (have h5 : j97 = 501 := nI_is (by omega) (by decide) hb114; omega))))]
                      show TT T (0, 0) q 131 [some (.ref 0), some (.int x), some (.int y), some (.int (nI j)), some (.int 0), some (.int 0), some (.int (pS q.1 j)), some (.int (nI (crN (pC q.1) 60))), some (.int (nI j97)), some (.int 1)] [.int (-1)]
                      refine tt_seg hT (fun pc => Nat.beq pc 140 || Nat.beq pc 136) 80 (fun c hc hq => ?_)
                      refine And.intro (fun (hb133 : 1 = 0) => ?_) (fun (hb133 : ¬ 1 = 0) => ?_)
                      · exact absurd hb133 (by decide)
                      · refine (show TT T (0, 0) q 136 [some (.ref 0), some (.int x), some (.int y), some (.int (nI j)), some (.int 0), some (.int 0), some (.int (pS q.1 j)), some (.int (nI (crN (pC q.1) 60))), some (.int (nI j97)), some (.int 1)] [.int (-1)] from ?_) c hc hq
                        refine tt_seg hT (fun pc => Nat.beq pc 185 || Nat.beq pc 155) 80 (fun c hc hq => ?_)
                        refine And.intro (fun (hb152 : ¬ (-1) = (-1)) => ?_) (fun (hb152 : (-1) = (-1)) => ?_)
                        · exact absurd (rfl) hb152
                        · refine (show TT T (0, 0) q 155 [some (.ref 0), some (.int x), some (.int y), some (.int (nI j)), some (.int 0), some (.int 0), some (.int (pS q.1 j)), some (.int (nI (crN (pC q.1) 60))), some (.int (nI j97)), some (.int 1)] [] from ?_) c hc hq
                          refine tt_seg hT (fun pc => Nat.beq pc 181 || Nat.beq pc 160) 80 (fun c hc hq => ?_)
                          refine And.intro (fun (hb157 : ¬ 1 = 0) => ?_) (fun (hb157 : 1 = 0) => ?_)
                          · refine (show TT T (0, 0) q 181 [some (.ref 0), some (.int x), some (.int y), some (.int (nI j)), some (.int 0), some (.int 0), some (.int (pS q.1 j)), some (.int (nI (crN (pC q.1) 60))), some (.int (nI j97)), some (.int 1)] [] from ?_) c hc hq
                            refine tt_seg hT (fun pc => Nat.beq pc 186) 60 (fun c hc hq => ?_)
                            refine (show TT T (0, 0) q 186 [some (.ref 0), some (.int x), some (.int y), some (.int (nI j)), some (.int 0), some (.int 0), some (.int (pS q.1 j)), some (.int (nI (crN (pC q.1) 60))), some (.int (nI j97)), some (.int 1)] [.int 1] from ?_) c hc hq
                            exact tt_ret hT rfl rfl (fun c hc hq => ⟨rfl, c, .int 1, rfl, hc, rfl, fun _ => rfl, by rw [hq]; exact ⟨rfl, by rw [show qOf (rX (xw c0)) = q from hq0]; exact step_same⟩⟩)
                          · exact absurd hb157 (by decide)
                    · refine (show TT T (0, 0) q 109 [some (.ref 0), some (.int x), some (.int y), some (.int (nI j)), some (.int 0), some (.int 0), some (.int (pS q.1 j)), some (.int (nI (crN (pC q.1) 60))), some (.int (nI j97)), none] [] from ?_) c hc hq
                      refine tt_seg hT (fun pc => Nat.beq pc 121 || Nat.beq pc 117) 80 (fun c hc hq => ?_)
                      refine And.intro (fun (hb114 : ¬ (nI j97) = 501) => ?_) (fun (hb114 : (nI j97) = 501) => ?_)
                      · refine (show TT T (0, 0) q 121 [some (.ref 0), some (.int x), some (.int y), some (.int (nI j)), some (.int 0), some (.int 0), some (.int (pS q.1 j)), some (.int (nI (crN (pC q.1) 60))), some (.int (nI j97)), none] [] from ?_) c hc hq
                        refine tt_seg hT (fun pc => Nat.beq pc 128) 60 (fun c hc hq => ?_)
                        refine (show TT T (0, 0) q 128 [some (.ref 0), some (.int x), some (.int y), some (.int (nI j)), some (.int 0), some (.int 0), some (.int (pS q.1 j)), some (.int (nI (crN (pC q.1) 60))), some (.int (nI j97)), some (.int 0)] [.int (nI j97), .int (nI j), .ref 0] from ?_) c hc hq
                        refine tt_v2 (W := wScratch) aq_scratch hT rfl rfl rfl rfl rfl ?_
                        rw [show wScratch q (nI j) (nI j97) = (q, (-2)) from scr_crk hj6 (gOut_of (by have h5 : ¬ j97 = 0 := (fun e => hb106 (by rw [e]; rfl)); have h6 : ¬ j97 = 501 := (fun e => hb114 (by rw [e]; rfl)); rw [nI_toInt (by omega), t1, t500]; omega)) hw]
                        show TT T (0, 0) q 131 [some (.ref 0), some (.int x), some (.int y), some (.int (nI j)), some (.int 0), some (.int 0), some (.int (pS q.1 j)), some (.int (nI (crN (pC q.1) 60))), some (.int (nI j97)), some (.int 0)] [.int (-2)]
                        refine tt_seg hT (fun pc => Nat.beq pc 140 || Nat.beq pc 136) 80 (fun c hc hq => ?_)
                        refine And.intro (fun (hb133 : 0 = 0) => ?_) (fun (hb133 : ¬ 0 = 0) => ?_)
                        · refine (show TT T (0, 0) q 140 [some (.ref 0), some (.int x), some (.int y), some (.int (nI j)), some (.int 0), some (.int 0), some (.int (pS q.1 j)), some (.int (nI (crN (pC q.1) 60))), some (.int (nI j97)), some (.int 0)] [.int (-2)] from ?_) c hc hq
                          refine tt_seg hT (fun pc => Nat.beq pc 150 || Nat.beq pc 145) 80 (fun c hc hq => ?_)
                          refine And.intro (fun (hb142 : 0 = 0) => ?_) (fun (hb142 : ¬ 0 = 0) => ?_)
                          · refine (show TT T (0, 0) q 150 [some (.ref 0), some (.int x), some (.int y), some (.int (nI j)), some (.int 0), some (.int 0), some (.int (pS q.1 j)), some (.int (nI (crN (pC q.1) 60))), some (.int (nI j97)), some (.int 0)] [.int (-2)] from ?_) c hc hq
                            refine tt_seg hT (fun pc => Nat.beq pc 185 || Nat.beq pc 155) 80 (fun c hc hq => ?_)
                            refine And.intro (fun (hb152 : ¬ (-2) = (-2)) => ?_) (fun (hb152 : (-2) = (-2)) => ?_)
                            · exact absurd (rfl) hb152
                            · refine (show TT T (0, 0) q 155 [some (.ref 0), some (.int x), some (.int y), some (.int (nI j)), some (.int 0), some (.int 0), some (.int (pS q.1 j)), some (.int (nI (crN (pC q.1) 60))), some (.int (nI j97)), some (.int 0)] [] from ?_) c hc hq
                              refine tt_seg hT (fun pc => Nat.beq pc 181 || Nat.beq pc 160) 80 (fun c hc hq => ?_)
                              refine And.intro (fun (hb157 : ¬ 0 = 0) => ?_) (fun (hb157 : 0 = 0) => ?_)
                              · exact absurd (by decide) hb157
                              · refine (show TT T (0, 0) q 160 [some (.ref 0), some (.int x), some (.int y), some (.int (nI j)), some (.int 0), some (.int 0), some (.int (pS q.1 j)), some (.int (nI (crN (pC q.1) 60))), some (.int (nI j97)), some (.int 0)] [] from ?_) c hc hq
                                refine tt_seg hT (fun pc => Nat.beq pc 163) 60 (fun c hc hq => ?_)
                                refine (show TT T (0, 0) q 163 [some (.ref 0), some (.int x), some (.int y), some (.int (nI j)), some (.int 0), some (.int 0), some (.int (pS q.1 j)), some (.int (nI (crN (pC q.1) 60))), some (.int (nI j97)), some (.int 0)] [.int 3, .int (nI j), .ref 0] from ?_) c hc hq
                                refine tt_v2 (W := fun q x y => (q, vJoint q.1 x y)) lq_joint hT rfl rfl rfl rfl rfl ?_
                                show TT T (0, 0) q 166 [some (.ref 0), some (.int x), some (.int y), some (.int (nI j)), some (.int 0), some (.int 0), some (.int (pS q.1 j)), some (.int (nI (crN (pC q.1) 60))), some (.int (nI j97)), some (.int 0)] [.int (vJoint q.1 (nI j) 3)]
                                rw [show (vJoint q.1 (nI j) 3) = (pS q.1 j) from vJ3 hj6]
                                refine tt_seg hT (fun pc => Nat.beq pc 176 || Nat.beq pc 171) 80 (fun c hc hq => ?_)
                                refine And.intro (fun (hb168 : 0 = 0) => ?_) (fun (hb168 : ¬ 0 = 0) => ?_)
                                · refine (show TT T (0, 0) q 176 [some (.ref 0), some (.int x), some (.int y), some (.int (nI j)), some (.int 0), some (.int 0), some (.int (pS q.1 j)), some (.int (nI (crN (pC q.1) 60))), some (.int (nI j97)), some (.int 0)] [.int (pS q.1 j)] from ?_) c hc hq
                                  refine tt_seg hT (fun pc => Nat.beq pc 185 || Nat.beq pc 181) 80 (fun c hc hq => ?_)
                                  refine And.intro (fun (hb178 : ¬ (pS q.1 j) = (pS q.1 j)) => ?_) (fun (hb178 : (pS q.1 j) = (pS q.1 j)) => ?_)
                                  · exact absurd (rfl) hb178
                                  · refine (show TT T (0, 0) q 181 [some (.ref 0), some (.int x), some (.int y), some (.int (nI j)), some (.int 0), some (.int 0), some (.int (pS q.1 j)), some (.int (nI (crN (pC q.1) 60))), some (.int (nI j97)), some (.int 0)] [] from ?_) c hc hq
                                    refine tt_seg hT (fun pc => Nat.beq pc 186) 60 (fun c hc hq => ?_)
                                    refine (show TT T (0, 0) q 186 [some (.ref 0), some (.int x), some (.int y), some (.int (nI j)), some (.int 0), some (.int 0), some (.int (pS q.1 j)), some (.int (nI (crN (pC q.1) 60))), some (.int (nI j97)), some (.int 0)] [.int 1] from ?_) c hc hq
                                    exact tt_ret hT rfl rfl (fun c hc hq => ⟨rfl, c, .int 1, rfl, hc, rfl, fun _ => rfl, by rw [hq]; exact ⟨rfl, by rw [show qOf (rX (xw c0)) = q from hq0]; exact step_same⟩⟩)
                                · exact absurd (by decide) hb168
                          · exact absurd (by decide) hb142
                        · exact absurd (by decide) hb133
                      · refine (show TT T (0, 0) q 117 [some (.ref 0), some (.int x), some (.int y), some (.int (nI j)), some (.int 0), some (.int 0), some (.int (pS q.1 j)), some (.int (nI (crN (pC q.1) 60))), some (.int (nI j97)), none] [] from ?_) c hc hq
                        refine tt_seg hT (fun pc => Nat.beq pc 128) 60 (fun c hc hq => ?_)
                        refine (show TT T (0, 0) q 128 [some (.ref 0), some (.int x), some (.int y), some (.int (nI j)), some (.int 0), some (.int 0), some (.int (pS q.1 j)), some (.int (nI (crN (pC q.1) 60))), some (.int (nI j97)), some (.int 1)] [.int (nI j97), .int (nI j), .ref 0] from ?_) c hc hq
                        refine tt_v2 (W := wScratch) aq_scratch hT rfl rfl rfl rfl rfl ?_
                        rw [show wScratch q (nI j) (nI j97) = (q, (-1)) from scr_bad (Or.inr (gOut_no (by rw [nI_toInt (by omega), t1, t500]; first | (have h5 : j97 = 0 := nI_is (by omega) (by decide) hb106; omega) | (have h5 : j97 = 501 := nI_is (by omega) (by decide) hb114; omega))))]
                        show TT T (0, 0) q 131 [some (.ref 0), some (.int x), some (.int y), some (.int (nI j)), some (.int 0), some (.int 0), some (.int (pS q.1 j)), some (.int (nI (crN (pC q.1) 60))), some (.int (nI j97)), some (.int 1)] [.int (-1)]
                        refine tt_seg hT (fun pc => Nat.beq pc 140 || Nat.beq pc 136) 80 (fun c hc hq => ?_)
                        refine And.intro (fun (hb133 : 1 = 0) => ?_) (fun (hb133 : ¬ 1 = 0) => ?_)
                        · exact absurd hb133 (by decide)
                        · refine (show TT T (0, 0) q 136 [some (.ref 0), some (.int x), some (.int y), some (.int (nI j)), some (.int 0), some (.int 0), some (.int (pS q.1 j)), some (.int (nI (crN (pC q.1) 60))), some (.int (nI j97)), some (.int 1)] [.int (-1)] from ?_) c hc hq
                          refine tt_seg hT (fun pc => Nat.beq pc 185 || Nat.beq pc 155) 80 (fun c hc hq => ?_)
                          refine And.intro (fun (hb152 : ¬ (-1) = (-1)) => ?_) (fun (hb152 : (-1) = (-1)) => ?_)
                          · exact absurd (rfl) hb152
                          · refine (show TT T (0, 0) q 155 [some (.ref 0), some (.int x), some (.int y), some (.int (nI j)), some (.int 0), some (.int 0), some (.int (pS q.1 j)), some (.int (nI (crN (pC q.1) 60))), some (.int (nI j97)), some (.int 1)] [] from ?_) c hc hq
                            refine tt_seg hT (fun pc => Nat.beq pc 181 || Nat.beq pc 160) 80 (fun c hc hq => ?_)
                            refine And.intro (fun (hb157 : ¬ 1 = 0) => ?_) (fun (hb157 : 1 = 0) => ?_)
                            · refine (show TT T (0, 0) q 181 [some (.ref 0), some (.int x), some (.int y), some (.int (nI j)), some (.int 0), some (.int 0), some (.int (pS q.1 j)), some (.int (nI (crN (pC q.1) 60))), some (.int (nI j97)), some (.int 1)] [] from ?_) c hc hq
                              refine tt_seg hT (fun pc => Nat.beq pc 186) 60 (fun c hc hq => ?_)
                              refine (show TT T (0, 0) q 186 [some (.ref 0), some (.int x), some (.int y), some (.int (nI j)), some (.int 0), some (.int 0), some (.int (pS q.1 j)), some (.int (nI (crN (pC q.1) 60))), some (.int (nI j97)), some (.int 1)] [.int 1] from ?_) c hc hq
                              exact tt_ret hT rfl rfl (fun c hc hq => ⟨rfl, c, .int 1, rfl, hc, rfl, fun _ => rfl, by rw [hq]; exact ⟨rfl, by rw [show qOf (rX (xw c0)) = q from hq0]; exact step_same⟩⟩)
                            · exact absurd hb157 (by decide)
                · refine (show TT T (0, 0) q 86 [some (.ref 0), some (.int x), some (.int y), some (.int (nI j)), some (.int 0), some (.int 0), some (.int (pS q.1 j)), some (.int (nI (crN (pC q.1) 60))), none, none] [.int (y >>> (6 &&& 31))] from ?_) c hc hq
                  refine tt_seg hT (fun pc => Nat.beq pc 97) 60 (fun c hc hq => ?_)
                  refine And.intro ⟨⟨rfl, rfl⟩, (show ¬ ((502 : Int32) = 0) by decide)⟩ ?_
                  refine (show TT T (0, 0) q 97 [some (.ref 0), some (.int x), some (.int y), some (.int (nI j)), some (.int 0), some (.int 0), some (.int (pS q.1 j)), some (.int (nI (crN (pC q.1) 60))), none, none] [.int (lowV (y >>> (6 &&& 31)) 502)] from ?_) c hc hq
                  obtain ⟨j97, hj97, ej97⟩ : ∃ j : Nat, j < 502 ∧ lowV (y >>> (6 &&& 31)) 502 = nI j := low_n (y >>> (6 &&& 31)) 502 (by decide) (by decide)
                  rw [ej97]
                  refine tt_seg hT (fun pc => Nat.beq pc 117 || Nat.beq pc 104) 80 (fun c hc hq => ?_)
                  refine And.intro (fun (hb101 : ¬ 0 = 0) => ?_) (fun (hb101 : 0 = 0) => ?_)
                  · exact absurd (by decide) hb101
                  · refine (show TT T (0, 0) q 104 [some (.ref 0), some (.int x), some (.int y), some (.int (nI j)), some (.int 0), some (.int 0), some (.int (pS q.1 j)), some (.int (nI (crN (pC q.1) 60))), some (.int (nI j97)), none] [] from ?_) c hc hq
                    refine tt_seg hT (fun pc => Nat.beq pc 117 || Nat.beq pc 109) 80 (fun c hc hq => ?_)
                    refine And.intro (fun (hb106 : (nI j97) = 0) => ?_) (fun (hb106 : ¬ (nI j97) = 0) => ?_)
                    · refine (show TT T (0, 0) q 117 [some (.ref 0), some (.int x), some (.int y), some (.int (nI j)), some (.int 0), some (.int 0), some (.int (pS q.1 j)), some (.int (nI (crN (pC q.1) 60))), some (.int (nI j97)), none] [] from ?_) c hc hq
                      refine tt_seg hT (fun pc => Nat.beq pc 128) 60 (fun c hc hq => ?_)
                      refine (show TT T (0, 0) q 128 [some (.ref 0), some (.int x), some (.int y), some (.int (nI j)), some (.int 0), some (.int 0), some (.int (pS q.1 j)), some (.int (nI (crN (pC q.1) 60))), some (.int (nI j97)), some (.int 1)] [.int (nI j97), .int (nI j), .ref 0] from ?_) c hc hq
                      refine tt_v2 (W := wScratch) aq_scratch hT rfl rfl rfl rfl rfl ?_
                      rw [show wScratch q (nI j) (nI j97) = (q, (-1)) from scr_bad (Or.inr (gOut_no (by rw [nI_toInt (by omega), t1, t500]; first | (have h5 : j97 = 0 := nI_is (by omega) (by decide) hb106; omega) | (have h5 : j97 = 501 := nI_is (by omega) (by decide) hb114; omega))))]
                      show TT T (0, 0) q 131 [some (.ref 0), some (.int x), some (.int y), some (.int (nI j)), some (.int 0), some (.int 0), some (.int (pS q.1 j)), some (.int (nI (crN (pC q.1) 60))), some (.int (nI j97)), some (.int 1)] [.int (-1)]
                      refine tt_seg hT (fun pc => Nat.beq pc 140 || Nat.beq pc 136) 80 (fun c hc hq => ?_)
                      refine And.intro (fun (hb133 : 1 = 0) => ?_) (fun (hb133 : ¬ 1 = 0) => ?_)
                      · exact absurd hb133 (by decide)
                      · refine (show TT T (0, 0) q 136 [some (.ref 0), some (.int x), some (.int y), some (.int (nI j)), some (.int 0), some (.int 0), some (.int (pS q.1 j)), some (.int (nI (crN (pC q.1) 60))), some (.int (nI j97)), some (.int 1)] [.int (-1)] from ?_) c hc hq
                        refine tt_seg hT (fun pc => Nat.beq pc 185 || Nat.beq pc 155) 80 (fun c hc hq => ?_)
                        refine And.intro (fun (hb152 : ¬ (-1) = (-1)) => ?_) (fun (hb152 : (-1) = (-1)) => ?_)
                        · exact absurd (rfl) hb152
                        · refine (show TT T (0, 0) q 155 [some (.ref 0), some (.int x), some (.int y), some (.int (nI j)), some (.int 0), some (.int 0), some (.int (pS q.1 j)), some (.int (nI (crN (pC q.1) 60))), some (.int (nI j97)), some (.int 1)] [] from ?_) c hc hq
                          refine tt_seg hT (fun pc => Nat.beq pc 181 || Nat.beq pc 160) 80 (fun c hc hq => ?_)
                          refine And.intro (fun (hb157 : ¬ 1 = 0) => ?_) (fun (hb157 : 1 = 0) => ?_)
                          · refine (show TT T (0, 0) q 181 [some (.ref 0), some (.int x), some (.int y), some (.int (nI j)), some (.int 0), some (.int 0), some (.int (pS q.1 j)), some (.int (nI (crN (pC q.1) 60))), some (.int (nI j97)), some (.int 1)] [] from ?_) c hc hq
                            refine tt_seg hT (fun pc => Nat.beq pc 186) 60 (fun c hc hq => ?_)
                            refine (show TT T (0, 0) q 186 [some (.ref 0), some (.int x), some (.int y), some (.int (nI j)), some (.int 0), some (.int 0), some (.int (pS q.1 j)), some (.int (nI (crN (pC q.1) 60))), some (.int (nI j97)), some (.int 1)] [.int 1] from ?_) c hc hq
                            exact tt_ret hT rfl rfl (fun c hc hq => ⟨rfl, c, .int 1, rfl, hc, rfl, fun _ => rfl, by rw [hq]; exact ⟨rfl, by rw [show qOf (rX (xw c0)) = q from hq0]; exact step_same⟩⟩)
                          · exact absurd hb157 (by decide)
                    · refine (show TT T (0, 0) q 109 [some (.ref 0), some (.int x), some (.int y), some (.int (nI j)), some (.int 0), some (.int 0), some (.int (pS q.1 j)), some (.int (nI (crN (pC q.1) 60))), some (.int (nI j97)), none] [] from ?_) c hc hq
                      refine tt_seg hT (fun pc => Nat.beq pc 121 || Nat.beq pc 117) 80 (fun c hc hq => ?_)
                      refine And.intro (fun (hb114 : ¬ (nI j97) = 501) => ?_) (fun (hb114 : (nI j97) = 501) => ?_)
                      · refine (show TT T (0, 0) q 121 [some (.ref 0), some (.int x), some (.int y), some (.int (nI j)), some (.int 0), some (.int 0), some (.int (pS q.1 j)), some (.int (nI (crN (pC q.1) 60))), some (.int (nI j97)), none] [] from ?_) c hc hq
                        refine tt_seg hT (fun pc => Nat.beq pc 128) 60 (fun c hc hq => ?_)
                        refine (show TT T (0, 0) q 128 [some (.ref 0), some (.int x), some (.int y), some (.int (nI j)), some (.int 0), some (.int 0), some (.int (pS q.1 j)), some (.int (nI (crN (pC q.1) 60))), some (.int (nI j97)), some (.int 0)] [.int (nI j97), .int (nI j), .ref 0] from ?_) c hc hq
                        refine tt_v2 (W := wScratch) aq_scratch hT rfl rfl rfl rfl rfl ?_
                        rw [show wScratch q (nI j) (nI j97) = (q, (-2)) from scr_crk hj6 (gOut_of (by have h5 : ¬ j97 = 0 := (fun e => hb106 (by rw [e]; rfl)); have h6 : ¬ j97 = 501 := (fun e => hb114 (by rw [e]; rfl)); rw [nI_toInt (by omega), t1, t500]; omega)) hw]
                        show TT T (0, 0) q 131 [some (.ref 0), some (.int x), some (.int y), some (.int (nI j)), some (.int 0), some (.int 0), some (.int (pS q.1 j)), some (.int (nI (crN (pC q.1) 60))), some (.int (nI j97)), some (.int 0)] [.int (-2)]
                        refine tt_seg hT (fun pc => Nat.beq pc 140 || Nat.beq pc 136) 80 (fun c hc hq => ?_)
                        refine And.intro (fun (hb133 : 0 = 0) => ?_) (fun (hb133 : ¬ 0 = 0) => ?_)
                        · refine (show TT T (0, 0) q 140 [some (.ref 0), some (.int x), some (.int y), some (.int (nI j)), some (.int 0), some (.int 0), some (.int (pS q.1 j)), some (.int (nI (crN (pC q.1) 60))), some (.int (nI j97)), some (.int 0)] [.int (-2)] from ?_) c hc hq
                          refine tt_seg hT (fun pc => Nat.beq pc 150 || Nat.beq pc 145) 80 (fun c hc hq => ?_)
                          refine And.intro (fun (hb142 : 0 = 0) => ?_) (fun (hb142 : ¬ 0 = 0) => ?_)
                          · refine (show TT T (0, 0) q 150 [some (.ref 0), some (.int x), some (.int y), some (.int (nI j)), some (.int 0), some (.int 0), some (.int (pS q.1 j)), some (.int (nI (crN (pC q.1) 60))), some (.int (nI j97)), some (.int 0)] [.int (-2)] from ?_) c hc hq
                            refine tt_seg hT (fun pc => Nat.beq pc 185 || Nat.beq pc 155) 80 (fun c hc hq => ?_)
                            refine And.intro (fun (hb152 : ¬ (-2) = (-2)) => ?_) (fun (hb152 : (-2) = (-2)) => ?_)
                            · exact absurd (rfl) hb152
                            · refine (show TT T (0, 0) q 155 [some (.ref 0), some (.int x), some (.int y), some (.int (nI j)), some (.int 0), some (.int 0), some (.int (pS q.1 j)), some (.int (nI (crN (pC q.1) 60))), some (.int (nI j97)), some (.int 0)] [] from ?_) c hc hq
                              refine tt_seg hT (fun pc => Nat.beq pc 181 || Nat.beq pc 160) 80 (fun c hc hq => ?_)
                              refine And.intro (fun (hb157 : ¬ 0 = 0) => ?_) (fun (hb157 : 0 = 0) => ?_)
                              · exact absurd (by decide) hb157
                              · refine (show TT T (0, 0) q 160 [some (.ref 0), some (.int x), some (.int y), some (.int (nI j)), some (.int 0), some (.int 0), some (.int (pS q.1 j)), some (.int (nI (crN (pC q.1) 60))), some (.int (nI j97)), some (.int 0)] [] from ?_) c hc hq
                                refine tt_seg hT (fun pc => Nat.beq pc 163) 60 (fun c hc hq => ?_)
                                refine (show TT T (0, 0) q 163 [some (.ref 0), some (.int x), some (.int y), some (.int (nI j)), some (.int 0), some (.int 0), some (.int (pS q.1 j)), some (.int (nI (crN (pC q.1) 60))), some (.int (nI j97)), some (.int 0)] [.int 3, .int (nI j), .ref 0] from ?_) c hc hq
                                refine tt_v2 (W := fun q x y => (q, vJoint q.1 x y)) lq_joint hT rfl rfl rfl rfl rfl ?_
                                show TT T (0, 0) q 166 [some (.ref 0), some (.int x), some (.int y), some (.int (nI j)), some (.int 0), some (.int 0), some (.int (pS q.1 j)), some (.int (nI (crN (pC q.1) 60))), some (.int (nI j97)), some (.int 0)] [.int (vJoint q.1 (nI j) 3)]
                                rw [show (vJoint q.1 (nI j) 3) = (pS q.1 j) from vJ3 hj6]
                                refine tt_seg hT (fun pc => Nat.beq pc 176 || Nat.beq pc 171) 80 (fun c hc hq => ?_)
                                refine And.intro (fun (hb168 : 0 = 0) => ?_) (fun (hb168 : ¬ 0 = 0) => ?_)
                                · refine (show TT T (0, 0) q 176 [some (.ref 0), some (.int x), some (.int y), some (.int (nI j)), some (.int 0), some (.int 0), some (.int (pS q.1 j)), some (.int (nI (crN (pC q.1) 60))), some (.int (nI j97)), some (.int 0)] [.int (pS q.1 j)] from ?_) c hc hq
                                  refine tt_seg hT (fun pc => Nat.beq pc 185 || Nat.beq pc 181) 80 (fun c hc hq => ?_)
                                  refine And.intro (fun (hb178 : ¬ (pS q.1 j) = (pS q.1 j)) => ?_) (fun (hb178 : (pS q.1 j) = (pS q.1 j)) => ?_)
                                  · exact absurd (rfl) hb178
                                  · refine (show TT T (0, 0) q 181 [some (.ref 0), some (.int x), some (.int y), some (.int (nI j)), some (.int 0), some (.int 0), some (.int (pS q.1 j)), some (.int (nI (crN (pC q.1) 60))), some (.int (nI j97)), some (.int 0)] [] from ?_) c hc hq
                                    refine tt_seg hT (fun pc => Nat.beq pc 186) 60 (fun c hc hq => ?_)
                                    refine (show TT T (0, 0) q 186 [some (.ref 0), some (.int x), some (.int y), some (.int (nI j)), some (.int 0), some (.int 0), some (.int (pS q.1 j)), some (.int (nI (crN (pC q.1) 60))), some (.int (nI j97)), some (.int 0)] [.int 1] from ?_) c hc hq
                                    exact tt_ret hT rfl rfl (fun c hc hq => ⟨rfl, c, .int 1, rfl, hc, rfl, fun _ => rfl, by rw [hq]; exact ⟨rfl, by rw [show qOf (rX (xw c0)) = q from hq0]; exact step_same⟩⟩)
                                · exact absurd (by decide) hb168
                          · exact absurd (by decide) hb142
                        · exact absurd (by decide) hb133
                      · refine (show TT T (0, 0) q 117 [some (.ref 0), some (.int x), some (.int y), some (.int (nI j)), some (.int 0), some (.int 0), some (.int (pS q.1 j)), some (.int (nI (crN (pC q.1) 60))), some (.int (nI j97)), none] [] from ?_) c hc hq
                        refine tt_seg hT (fun pc => Nat.beq pc 128) 60 (fun c hc hq => ?_)
                        refine (show TT T (0, 0) q 128 [some (.ref 0), some (.int x), some (.int y), some (.int (nI j)), some (.int 0), some (.int 0), some (.int (pS q.1 j)), some (.int (nI (crN (pC q.1) 60))), some (.int (nI j97)), some (.int 1)] [.int (nI j97), .int (nI j), .ref 0] from ?_) c hc hq
                        refine tt_v2 (W := wScratch) aq_scratch hT rfl rfl rfl rfl rfl ?_
                        rw [show wScratch q (nI j) (nI j97) = (q, (-1)) from scr_bad (Or.inr (gOut_no (by rw [nI_toInt (by omega), t1, t500]; first | (have h5 : j97 = 0 := nI_is (by omega) (by decide) hb106; omega) | (have h5 : j97 = 501 := nI_is (by omega) (by decide) hb114; omega))))]
                        show TT T (0, 0) q 131 [some (.ref 0), some (.int x), some (.int y), some (.int (nI j)), some (.int 0), some (.int 0), some (.int (pS q.1 j)), some (.int (nI (crN (pC q.1) 60))), some (.int (nI j97)), some (.int 1)] [.int (-1)]
                        refine tt_seg hT (fun pc => Nat.beq pc 140 || Nat.beq pc 136) 80 (fun c hc hq => ?_)
                        refine And.intro (fun (hb133 : 1 = 0) => ?_) (fun (hb133 : ¬ 1 = 0) => ?_)
                        · exact absurd hb133 (by decide)
                        · refine (show TT T (0, 0) q 136 [some (.ref 0), some (.int x), some (.int y), some (.int (nI j)), some (.int 0), some (.int 0), some (.int (pS q.1 j)), some (.int (nI (crN (pC q.1) 60))), some (.int (nI j97)), some (.int 1)] [.int (-1)] from ?_) c hc hq
                          refine tt_seg hT (fun pc => Nat.beq pc 185 || Nat.beq pc 155) 80 (fun c hc hq => ?_)
                          refine And.intro (fun (hb152 : ¬ (-1) = (-1)) => ?_) (fun (hb152 : (-1) = (-1)) => ?_)
                          · exact absurd (rfl) hb152
                          · refine (show TT T (0, 0) q 155 [some (.ref 0), some (.int x), some (.int y), some (.int (nI j)), some (.int 0), some (.int 0), some (.int (pS q.1 j)), some (.int (nI (crN (pC q.1) 60))), some (.int (nI j97)), some (.int 1)] [] from ?_) c hc hq
                            refine tt_seg hT (fun pc => Nat.beq pc 181 || Nat.beq pc 160) 80 (fun c hc hq => ?_)
                            refine And.intro (fun (hb157 : ¬ 1 = 0) => ?_) (fun (hb157 : 1 = 0) => ?_)
                            · refine (show TT T (0, 0) q 181 [some (.ref 0), some (.int x), some (.int y), some (.int (nI j)), some (.int 0), some (.int 0), some (.int (pS q.1 j)), some (.int (nI (crN (pC q.1) 60))), some (.int (nI j97)), some (.int 1)] [] from ?_) c hc hq
                              refine tt_seg hT (fun pc => Nat.beq pc 186) 60 (fun c hc hq => ?_)
                              refine (show TT T (0, 0) q 186 [some (.ref 0), some (.int x), some (.int y), some (.int (nI j)), some (.int 0), some (.int 0), some (.int (pS q.1 j)), some (.int (nI (crN (pC q.1) 60))), some (.int (nI j97)), some (.int 1)] [.int 1] from ?_) c hc hq
                              exact tt_ret hT rfl rfl (fun c hc hq => ⟨rfl, c, .int 1, rfl, hc, rfl, fun _ => rfl, by rw [hq]; exact ⟨rfl, by rw [show qOf (rX (xw c0)) = q from hq0]; exact step_same⟩⟩)
                            · exact absurd hb157 (by decide)
            · exact absurd (by decide) hb44
          · exact absurd hb32 (by decide)
      · exact absurd hb10 (fun e => hjn (nI_is (by omega) (by decide) e))
  · refine tt_seg hT (fun pc => Nat.beq pc 6) 60 (fun c hc hq => ?_)
    refine And.intro ⟨⟨rfl, rfl⟩, (show ¬ ((61 : Int32) = 0) by decide)⟩ ?_
    refine (show TT T (0, 0) q 6 [some (.ref 0), some (.int x), some (.int y), none, none, none, none, none, none, none] [.int (lowV y 61)] from ?_) c hc hq
    rw [ej]
    refine tt_seg hT (fun pc => Nat.beq pc 17 || Nat.beq pc 13) 80 (fun c hc hq => ?_)
    refine And.intro (fun (hb10 : ¬ (nI j) = 60) => ?_) (fun (hb10 : (nI j) = 60) => ?_)
    · exact absurd (by rw [hjn]; rfl) hb10
    · refine (show TT T (0, 0) q 13 [some (.ref 0), some (.int x), some (.int y), some (.int (nI j)), none, none, none, none, none, none] [] from ?_) c hc hq
      refine tt_seg hT (fun pc => Nat.beq pc 39 || Nat.beq pc 25) 80 (fun c hc hq => ?_)
      refine And.intro (fun (hb22 : ¬ 1 = 0) => ?_) (fun (hb22 : 1 = 0) => ?_)
      · refine (show TT T (0, 0) q 39 [some (.ref 0), some (.int x), some (.int y), some (.int (nI j)), some (.int 1), none, none, none, none, none] [] from ?_) c hc hq
        refine tt_seg hT (fun pc => Nat.beq pc 51 || Nat.beq pc 47) 80 (fun c hc hq => ?_)
        refine And.intro (fun (hb44 : 1 = 0) => ?_) (fun (hb44 : ¬ 1 = 0) => ?_)
        · exact absurd hb44 (by decide)
        · refine (show TT T (0, 0) q 47 [some (.ref 0), some (.int x), some (.int y), some (.int (nI j)), some (.int 1), some (.int 0), none, none, none, none] [] from ?_) c hc hq
          refine tt_seg hT (fun pc => Nat.beq pc 62) 60 (fun c hc hq => ?_)
          refine (show TT T (0, 0) q 62 [some (.ref 0), some (.int x), some (.int y), some (.int (nI j)), some (.int 1), some (.int 0), some (.int 0), none, none, none] [.int 6, .ref 0] from ?_) c hc hq
          refine tt_v1 (W := fun q x => (q, vCount q x)) lq_count hT rfl rfl rfl rfl rfl ?_
          show TT T (0, 0) q 65 [some (.ref 0), some (.int x), some (.int y), some (.int (nI j)), some (.int 1), some (.int 0), some (.int 0), none, none, none] [.int (vCount q 6)]
          rw [show (vCount q 6) = (nI (crN (pC q.1) 60)) from vN6]
          refine tt_seg hT (fun pc => Nat.beq pc 187 || Nat.beq pc 71) 80 (fun c hc hq => ?_)
          refine And.intro (fun (hb68 : ¬ x = 0) => ?_) (fun (hb68 : x = 0) => ?_)
          · refine (show TT T (0, 0) q 187 [some (.ref 0), some (.int x), some (.int y), some (.int (nI j)), some (.int 1), some (.int 0), some (.int 0), some (.int (nI (crN (pC q.1) 60))), none, none] [] from ?_) c hc hq
            refine tt_seg hT (fun pc => Nat.beq pc 189) 60 (fun c hc hq => ?_)
            refine (show TT T (0, 0) q 189 [some (.ref 0), some (.int x), some (.int y), some (.int (nI j)), some (.int 1), some (.int 0), some (.int 0), some (.int (nI (crN (pC q.1) 60))), none, none] [.int (nI j), .ref 0] from ?_) c hc hq
            refine tt_v1 (W := wMend) aq_mend hT rfl rfl rfl rfl rfl ?_
            rw [show wMend q (nI j) = (q, (-1)) from men_bad (by rw [hjn]; exact isJ_60)]
            show TT T (0, 0) q 192 [some (.ref 0), some (.int x), some (.int y), some (.int (nI j)), some (.int 1), some (.int 0), some (.int 0), some (.int (nI (crN (pC q.1) 60))), none, none] [.int (-1)]
            refine tt_seg hT (fun pc => Nat.beq pc 201 || Nat.beq pc 197) 80 (fun c hc hq => ?_)
            refine And.intro (fun (hb194 : 1 = 0) => ?_) (fun (hb194 : ¬ 1 = 0) => ?_)
            · exact absurd hb194 (by decide)
            · refine (show TT T (0, 0) q 197 [some (.ref 0), some (.int x), some (.int y), some (.int (nI j)), some (.int 1), some (.int 0), some (.int 0), some (.int (nI (crN (pC q.1) 60))), none, none] [.int (-1)] from ?_) c hc hq
              refine tt_seg hT (fun pc => Nat.beq pc 258 || Nat.beq pc 218) 80 (fun c hc hq => ?_)
              refine And.intro (fun (hb215 : ¬ (-1) = (-1)) => ?_) (fun (hb215 : (-1) = (-1)) => ?_)
              · exact absurd (rfl) hb215
              · refine (show TT T (0, 0) q 218 [some (.ref 0), some (.int x), some (.int y), some (.int (nI j)), some (.int 1), some (.int 0), some (.int 0), some (.int (nI (crN (pC q.1) 60))), none, none] [] from ?_) c hc hq
                refine tt_seg hT (fun pc => Nat.beq pc 254 || Nat.beq pc 223) 80 (fun c hc hq => ?_)
                refine And.intro (fun (hb220 : ¬ 1 = 0) => ?_) (fun (hb220 : 1 = 0) => ?_)
                · refine (show TT T (0, 0) q 254 [some (.ref 0), some (.int x), some (.int y), some (.int (nI j)), some (.int 1), some (.int 0), some (.int 0), some (.int (nI (crN (pC q.1) 60))), none, none] [] from ?_) c hc hq
                  refine tt_seg hT (fun pc => Nat.beq pc 259) 60 (fun c hc hq => ?_)
                  refine (show TT T (0, 0) q 259 [some (.ref 0), some (.int x), some (.int y), some (.int (nI j)), some (.int 1), some (.int 0), some (.int 0), some (.int (nI (crN (pC q.1) 60))), none, none] [.int 1] from ?_) c hc hq
                  exact tt_ret hT rfl rfl (fun c hc hq => ⟨rfl, c, .int 1, rfl, hc, rfl, fun _ => rfl, by rw [hq]; exact ⟨rfl, by rw [show qOf (rX (xw c0)) = q from hq0]; exact step_same⟩⟩)
                · exact absurd hb220 (by decide)
          · exact absurd hb68 (by rw [hx]; decide)
      · exact absurd hb22 (by decide)
  · have hj6 : j < 60 := by omega
    by_cases hw : pC q.1 j = 0
    · refine tt_seg hT (fun pc => Nat.beq pc 6) 60 (fun c hc hq => ?_)
      refine And.intro ⟨⟨rfl, rfl⟩, (show ¬ ((61 : Int32) = 0) by decide)⟩ ?_
      refine (show TT T (0, 0) q 6 [some (.ref 0), some (.int x), some (.int y), none, none, none, none, none, none, none] [.int (lowV y 61)] from ?_) c hc hq
      rw [ej]
      refine tt_seg hT (fun pc => Nat.beq pc 17 || Nat.beq pc 13) 80 (fun c hc hq => ?_)
      refine And.intro (fun (hb10 : ¬ (nI j) = 60) => ?_) (fun (hb10 : (nI j) = 60) => ?_)
      · refine (show TT T (0, 0) q 17 [some (.ref 0), some (.int x), some (.int y), some (.int (nI j)), none, none, none, none, none, none] [] from ?_) c hc hq
        refine tt_seg hT (fun pc => Nat.beq pc 39 || Nat.beq pc 25) 80 (fun c hc hq => ?_)
        refine And.intro (fun (hb22 : ¬ 0 = 0) => ?_) (fun (hb22 : 0 = 0) => ?_)
        · exact absurd (by decide) hb22
        · refine (show TT T (0, 0) q 25 [some (.ref 0), some (.int x), some (.int y), some (.int (nI j)), some (.int 0), none, none, none, none, none] [] from ?_) c hc hq
          refine tt_seg hT (fun pc => Nat.beq pc 28) 60 (fun c hc hq => ?_)
          refine (show TT T (0, 0) q 28 [some (.ref 0), some (.int x), some (.int y), some (.int (nI j)), some (.int 0), none, none, none, none, none] [.int 2, .int (nI j), .ref 0] from ?_) c hc hq
          refine tt_v2 (W := fun q x y => (q, vJoint q.1 x y)) lq_joint hT rfl rfl rfl rfl rfl ?_
          show TT T (0, 0) q 31 [some (.ref 0), some (.int x), some (.int y), some (.int (nI j)), some (.int 0), none, none, none, none, none] [.int (vJoint q.1 (nI j) 2)]
          rw [show (vJoint q.1 (nI j) 2) = 1 from vJ2w hj6 hw]
          refine tt_seg hT (fun pc => Nat.beq pc 39 || Nat.beq pc 35) 80 (fun c hc hq => ?_)
          refine And.intro (fun (hb32 : ¬ 1 = 1) => ?_) (fun (hb32 : 1 = 1) => ?_)
          · exact absurd (rfl) hb32
          · refine (show TT T (0, 0) q 35 [some (.ref 0), some (.int x), some (.int y), some (.int (nI j)), some (.int 0), none, none, none, none, none] [] from ?_) c hc hq
            refine tt_seg hT (fun pc => Nat.beq pc 51 || Nat.beq pc 47) 80 (fun c hc hq => ?_)
            refine And.intro (fun (hb44 : 0 = 0) => ?_) (fun (hb44 : ¬ 0 = 0) => ?_)
            · refine (show TT T (0, 0) q 51 [some (.ref 0), some (.int x), some (.int y), some (.int (nI j)), some (.int 0), some (.int 1), none, none, none, none] [] from ?_) c hc hq
              refine tt_seg hT (fun pc => Nat.beq pc 54) 60 (fun c hc hq => ?_)
              refine (show TT T (0, 0) q 54 [some (.ref 0), some (.int x), some (.int y), some (.int (nI j)), some (.int 0), some (.int 1), none, none, none, none] [.int 3, .int (nI j), .ref 0] from ?_) c hc hq
              refine tt_v2 (W := fun q x y => (q, vJoint q.1 x y)) lq_joint hT rfl rfl rfl rfl rfl ?_
              show TT T (0, 0) q 57 [some (.ref 0), some (.int x), some (.int y), some (.int (nI j)), some (.int 0), some (.int 1), none, none, none, none] [.int (vJoint q.1 (nI j) 3)]
              rw [show (vJoint q.1 (nI j) 3) = (pS q.1 j) from vJ3 hj6]
              refine tt_seg hT (fun pc => Nat.beq pc 62) 60 (fun c hc hq => ?_)
              refine (show TT T (0, 0) q 62 [some (.ref 0), some (.int x), some (.int y), some (.int (nI j)), some (.int 0), some (.int 1), some (.int (pS q.1 j)), none, none, none] [.int 6, .ref 0] from ?_) c hc hq
              refine tt_v1 (W := fun q x => (q, vCount q x)) lq_count hT rfl rfl rfl rfl rfl ?_
              show TT T (0, 0) q 65 [some (.ref 0), some (.int x), some (.int y), some (.int (nI j)), some (.int 0), some (.int 1), some (.int (pS q.1 j)), none, none, none] [.int (vCount q 6)]
              rw [show (vCount q 6) = (nI (crN (pC q.1) 60)) from vN6]
              refine tt_seg hT (fun pc => Nat.beq pc 187 || Nat.beq pc 71) 80 (fun c hc hq => ?_)
              refine And.intro (fun (hb68 : ¬ x = 0) => ?_) (fun (hb68 : x = 0) => ?_)
              · refine (show TT T (0, 0) q 187 [some (.ref 0), some (.int x), some (.int y), some (.int (nI j)), some (.int 0), some (.int 1), some (.int (pS q.1 j)), some (.int (nI (crN (pC q.1) 60))), none, none] [] from ?_) c hc hq
                refine tt_seg hT (fun pc => Nat.beq pc 189) 60 (fun c hc hq => ?_)
                refine (show TT T (0, 0) q 189 [some (.ref 0), some (.int x), some (.int y), some (.int (nI j)), some (.int 0), some (.int 1), some (.int (pS q.1 j)), some (.int (nI (crN (pC q.1) 60))), none, none] [.int (nI j), .ref 0] from ?_) c hc hq
                refine tt_v1 (W := wMend) aq_mend hT rfl rfl rfl rfl rfl ?_
                rw [show wMend q (nI j) = (q, (-2)) from men_who hj6 hw]
                show TT T (0, 0) q 192 [some (.ref 0), some (.int x), some (.int y), some (.int (nI j)), some (.int 0), some (.int 1), some (.int (pS q.1 j)), some (.int (nI (crN (pC q.1) 60))), none, none] [.int (-2)]
                refine tt_seg hT (fun pc => Nat.beq pc 201 || Nat.beq pc 197) 80 (fun c hc hq => ?_)
                refine And.intro (fun (hb194 : 0 = 0) => ?_) (fun (hb194 : ¬ 0 = 0) => ?_)
                · refine (show TT T (0, 0) q 201 [some (.ref 0), some (.int x), some (.int y), some (.int (nI j)), some (.int 0), some (.int 1), some (.int (pS q.1 j)), some (.int (nI (crN (pC q.1) 60))), none, none] [.int (-2)] from ?_) c hc hq
                  refine tt_seg hT (fun pc => Nat.beq pc 211 || Nat.beq pc 206) 80 (fun c hc hq => ?_)
                  refine And.intro (fun (hb203 : 1 = 0) => ?_) (fun (hb203 : ¬ 1 = 0) => ?_)
                  · exact absurd hb203 (by decide)
                  · refine (show TT T (0, 0) q 206 [some (.ref 0), some (.int x), some (.int y), some (.int (nI j)), some (.int 0), some (.int 1), some (.int (pS q.1 j)), some (.int (nI (crN (pC q.1) 60))), none, none] [.int (-2)] from ?_) c hc hq
                    refine tt_seg hT (fun pc => Nat.beq pc 258 || Nat.beq pc 218) 80 (fun c hc hq => ?_)
                    refine And.intro (fun (hb215 : ¬ (-2) = (-2)) => ?_) (fun (hb215 : (-2) = (-2)) => ?_)
                    · exact absurd (rfl) hb215
                    · refine (show TT T (0, 0) q 218 [some (.ref 0), some (.int x), some (.int y), some (.int (nI j)), some (.int 0), some (.int 1), some (.int (pS q.1 j)), some (.int (nI (crN (pC q.1) 60))), none, none] [] from ?_) c hc hq
                      refine tt_seg hT (fun pc => Nat.beq pc 254 || Nat.beq pc 223) 80 (fun c hc hq => ?_)
                      refine And.intro (fun (hb220 : ¬ 0 = 0) => ?_) (fun (hb220 : 0 = 0) => ?_)
                      · exact absurd (by decide) hb220
                      · refine (show TT T (0, 0) q 223 [some (.ref 0), some (.int x), some (.int y), some (.int (nI j)), some (.int 0), some (.int 1), some (.int (pS q.1 j)), some (.int (nI (crN (pC q.1) 60))), none, none] [] from ?_) c hc hq
                        refine tt_seg hT (fun pc => Nat.beq pc 226) 60 (fun c hc hq => ?_)
                        refine (show TT T (0, 0) q 226 [some (.ref 0), some (.int x), some (.int y), some (.int (nI j)), some (.int 0), some (.int 1), some (.int (pS q.1 j)), some (.int (nI (crN (pC q.1) 60))), none, none] [.int 2, .int (nI j), .ref 0] from ?_) c hc hq
                        refine tt_v2 (W := fun q x y => (q, vJoint q.1 x y)) lq_joint hT rfl rfl rfl rfl rfl ?_
                        show TT T (0, 0) q 229 [some (.ref 0), some (.int x), some (.int y), some (.int (nI j)), some (.int 0), some (.int 1), some (.int (pS q.1 j)), some (.int (nI (crN (pC q.1) 60))), none, none] [.int (vJoint q.1 (nI j) 2)]
                        rw [show (vJoint q.1 (nI j) 2) = 1 from vJ2w hj6 hw]
                        refine tt_seg hT (fun pc => Nat.beq pc 258 || Nat.beq pc 233) 80 (fun c hc hq => ?_)
                        refine And.intro (fun (hb230 : ¬ 1 = 1) => ?_) (fun (hb230 : 1 = 1) => ?_)
                        · exact absurd (rfl) hb230
                        · refine (show TT T (0, 0) q 233 [some (.ref 0), some (.int x), some (.int y), some (.int (nI j)), some (.int 0), some (.int 1), some (.int (pS q.1 j)), some (.int (nI (crN (pC q.1) 60))), none, none] [] from ?_) c hc hq
                          refine tt_seg hT (fun pc => Nat.beq pc 236) 60 (fun c hc hq => ?_)
                          refine (show TT T (0, 0) q 236 [some (.ref 0), some (.int x), some (.int y), some (.int (nI j)), some (.int 0), some (.int 1), some (.int (pS q.1 j)), some (.int (nI (crN (pC q.1) 60))), none, none] [.int 3, .int (nI j), .ref 0] from ?_) c hc hq
                          refine tt_v2 (W := fun q x y => (q, vJoint q.1 x y)) lq_joint hT rfl rfl rfl rfl rfl ?_
                          show TT T (0, 0) q 239 [some (.ref 0), some (.int x), some (.int y), some (.int (nI j)), some (.int 0), some (.int 1), some (.int (pS q.1 j)), some (.int (nI (crN (pC q.1) 60))), none, none] [.int (vJoint q.1 (nI j) 3)]
                          rw [show (vJoint q.1 (nI j) 3) = (pS q.1 j) from vJ3 hj6]
                          refine tt_seg hT (fun pc => Nat.beq pc 249 || Nat.beq pc 244) 80 (fun c hc hq => ?_)
                          refine And.intro (fun (hb241 : 1 = 0) => ?_) (fun (hb241 : ¬ 1 = 0) => ?_)
                          · exact absurd hb241 (by decide)
                          · refine (show TT T (0, 0) q 244 [some (.ref 0), some (.int x), some (.int y), some (.int (nI j)), some (.int 0), some (.int 1), some (.int (pS q.1 j)), some (.int (nI (crN (pC q.1) 60))), none, none] [.int (pS q.1 j)] from ?_) c hc hq
                            refine tt_seg hT (fun pc => Nat.beq pc 258 || Nat.beq pc 254) 80 (fun c hc hq => ?_)
                            refine And.intro (fun (hb251 : ¬ (pS q.1 j) = (pS q.1 j)) => ?_) (fun (hb251 : (pS q.1 j) = (pS q.1 j)) => ?_)
                            · exact absurd (rfl) hb251
                            · refine (show TT T (0, 0) q 254 [some (.ref 0), some (.int x), some (.int y), some (.int (nI j)), some (.int 0), some (.int 1), some (.int (pS q.1 j)), some (.int (nI (crN (pC q.1) 60))), none, none] [] from ?_) c hc hq
                              refine tt_seg hT (fun pc => Nat.beq pc 259) 60 (fun c hc hq => ?_)
                              refine (show TT T (0, 0) q 259 [some (.ref 0), some (.int x), some (.int y), some (.int (nI j)), some (.int 0), some (.int 1), some (.int (pS q.1 j)), some (.int (nI (crN (pC q.1) 60))), none, none] [.int 1] from ?_) c hc hq
                              exact tt_ret hT rfl rfl (fun c hc hq => ⟨rfl, c, .int 1, rfl, hc, rfl, fun _ => rfl, by rw [hq]; exact ⟨rfl, by rw [show qOf (rX (xw c0)) = q from hq0]; exact step_same⟩⟩)
                · exact absurd (by decide) hb194
              · exact absurd hb68 (by rw [hx]; decide)
            · exact absurd (by decide) hb44
      · exact absurd hb10 (fun e => hjn (nI_is (by omega) (by decide) e))
    · refine tt_seg hT (fun pc => Nat.beq pc 6) 60 (fun c hc hq => ?_)
      refine And.intro ⟨⟨rfl, rfl⟩, (show ¬ ((61 : Int32) = 0) by decide)⟩ ?_
      refine (show TT T (0, 0) q 6 [some (.ref 0), some (.int x), some (.int y), none, none, none, none, none, none, none] [.int (lowV y 61)] from ?_) c hc hq
      rw [ej]
      refine tt_seg hT (fun pc => Nat.beq pc 17 || Nat.beq pc 13) 80 (fun c hc hq => ?_)
      refine And.intro (fun (hb10 : ¬ (nI j) = 60) => ?_) (fun (hb10 : (nI j) = 60) => ?_)
      · refine (show TT T (0, 0) q 17 [some (.ref 0), some (.int x), some (.int y), some (.int (nI j)), none, none, none, none, none, none] [] from ?_) c hc hq
        refine tt_seg hT (fun pc => Nat.beq pc 39 || Nat.beq pc 25) 80 (fun c hc hq => ?_)
        refine And.intro (fun (hb22 : ¬ 0 = 0) => ?_) (fun (hb22 : 0 = 0) => ?_)
        · exact absurd (by decide) hb22
        · refine (show TT T (0, 0) q 25 [some (.ref 0), some (.int x), some (.int y), some (.int (nI j)), some (.int 0), none, none, none, none, none] [] from ?_) c hc hq
          refine tt_seg hT (fun pc => Nat.beq pc 28) 60 (fun c hc hq => ?_)
          refine (show TT T (0, 0) q 28 [some (.ref 0), some (.int x), some (.int y), some (.int (nI j)), some (.int 0), none, none, none, none, none] [.int 2, .int (nI j), .ref 0] from ?_) c hc hq
          refine tt_v2 (W := fun q x y => (q, vJoint q.1 x y)) lq_joint hT rfl rfl rfl rfl rfl ?_
          show TT T (0, 0) q 31 [some (.ref 0), some (.int x), some (.int y), some (.int (nI j)), some (.int 0), none, none, none, none, none] [.int (vJoint q.1 (nI j) 2)]
          rw [show (vJoint q.1 (nI j) 2) = 0 from vJ2c hj6 hw]
          refine tt_seg hT (fun pc => Nat.beq pc 39 || Nat.beq pc 35) 80 (fun c hc hq => ?_)
          refine And.intro (fun (hb32 : ¬ 0 = 1) => ?_) (fun (hb32 : 0 = 1) => ?_)
          · refine (show TT T (0, 0) q 39 [some (.ref 0), some (.int x), some (.int y), some (.int (nI j)), some (.int 0), none, none, none, none, none] [] from ?_) c hc hq
            refine tt_seg hT (fun pc => Nat.beq pc 51 || Nat.beq pc 47) 80 (fun c hc hq => ?_)
            refine And.intro (fun (hb44 : 0 = 0) => ?_) (fun (hb44 : ¬ 0 = 0) => ?_)
            · refine (show TT T (0, 0) q 51 [some (.ref 0), some (.int x), some (.int y), some (.int (nI j)), some (.int 0), some (.int 0), none, none, none, none] [] from ?_) c hc hq
              refine tt_seg hT (fun pc => Nat.beq pc 54) 60 (fun c hc hq => ?_)
              refine (show TT T (0, 0) q 54 [some (.ref 0), some (.int x), some (.int y), some (.int (nI j)), some (.int 0), some (.int 0), none, none, none, none] [.int 3, .int (nI j), .ref 0] from ?_) c hc hq
              refine tt_v2 (W := fun q x y => (q, vJoint q.1 x y)) lq_joint hT rfl rfl rfl rfl rfl ?_
              show TT T (0, 0) q 57 [some (.ref 0), some (.int x), some (.int y), some (.int (nI j)), some (.int 0), some (.int 0), none, none, none, none] [.int (vJoint q.1 (nI j) 3)]
              rw [show (vJoint q.1 (nI j) 3) = (pS q.1 j) from vJ3 hj6]
              refine tt_seg hT (fun pc => Nat.beq pc 62) 60 (fun c hc hq => ?_)
              refine (show TT T (0, 0) q 62 [some (.ref 0), some (.int x), some (.int y), some (.int (nI j)), some (.int 0), some (.int 0), some (.int (pS q.1 j)), none, none, none] [.int 6, .ref 0] from ?_) c hc hq
              refine tt_v1 (W := fun q x => (q, vCount q x)) lq_count hT rfl rfl rfl rfl rfl ?_
              show TT T (0, 0) q 65 [some (.ref 0), some (.int x), some (.int y), some (.int (nI j)), some (.int 0), some (.int 0), some (.int (pS q.1 j)), none, none, none] [.int (vCount q 6)]
              rw [show (vCount q 6) = (nI (crN (pC q.1) 60)) from vN6]
              refine tt_seg hT (fun pc => Nat.beq pc 187 || Nat.beq pc 71) 80 (fun c hc hq => ?_)
              refine And.intro (fun (hb68 : ¬ x = 0) => ?_) (fun (hb68 : x = 0) => ?_)
              · refine (show TT T (0, 0) q 187 [some (.ref 0), some (.int x), some (.int y), some (.int (nI j)), some (.int 0), some (.int 0), some (.int (pS q.1 j)), some (.int (nI (crN (pC q.1) 60))), none, none] [] from ?_) c hc hq
                refine tt_seg hT (fun pc => Nat.beq pc 189) 60 (fun c hc hq => ?_)
                refine (show TT T (0, 0) q 189 [some (.ref 0), some (.int x), some (.int y), some (.int (nI j)), some (.int 0), some (.int 0), some (.int (pS q.1 j)), some (.int (nI (crN (pC q.1) 60))), none, none] [.int (nI j), .ref 0] from ?_) c hc hq
                refine tt_v1 (W := wMend) aq_mend hT rfl rfl rfl rfl rfl ?_
                rw [show wMend q (nI j) = ((qNow q (pScr (pWho q.1 (nI j)) (nI j) 50)), (nI (crN (pC q.1) 60) - 1)) from men_ok hj6 hw]
                show TT T (0, 0) (qNow q (pScr (pWho q.1 (nI j)) (nI j) 50)) 192 [some (.ref 0), some (.int x), some (.int y), some (.int (nI j)), some (.int 0), some (.int 0), some (.int (pS q.1 j)), some (.int (nI (crN (pC q.1) 60))), none, none] [.int (nI (crN (pC q.1) 60) - 1)]
                refine tt_seg hT (fun pc => Nat.beq pc 201 || Nat.beq pc 197) 80 (fun c hc hq => ?_)
                refine And.intro (fun (hb194 : 0 = 0) => ?_) (fun (hb194 : ¬ 0 = 0) => ?_)
                · refine (show TT T (0, 0) (qNow q (pScr (pWho q.1 (nI j)) (nI j) 50)) 201 [some (.ref 0), some (.int x), some (.int y), some (.int (nI j)), some (.int 0), some (.int 0), some (.int (pS q.1 j)), some (.int (nI (crN (pC q.1) 60))), none, none] [.int (nI (crN (pC q.1) 60) - 1)] from ?_) c hc hq
                  refine tt_seg hT (fun pc => Nat.beq pc 211 || Nat.beq pc 206) 80 (fun c hc hq => ?_)
                  refine And.intro (fun (hb203 : 0 = 0) => ?_) (fun (hb203 : ¬ 0 = 0) => ?_)
                  · refine (show TT T (0, 0) (qNow q (pScr (pWho q.1 (nI j)) (nI j) 50)) 211 [some (.ref 0), some (.int x), some (.int y), some (.int (nI j)), some (.int 0), some (.int 0), some (.int (pS q.1 j)), some (.int (nI (crN (pC q.1) 60))), none, none] [.int (nI (crN (pC q.1) 60) - 1)] from ?_) c hc hq
                    refine tt_seg hT (fun pc => Nat.beq pc 258 || Nat.beq pc 218) 80 (fun c hc hq => ?_)
                    refine And.intro (fun (hb215 : ¬ (nI (crN (pC q.1) 60) - 1) = ((nI (crN (pC q.1) 60)) - 1)) => ?_) (fun (hb215 : (nI (crN (pC q.1) 60) - 1) = ((nI (crN (pC q.1) 60)) - 1)) => ?_)
                    · exact absurd (rfl) hb215
                    · refine (show TT T (0, 0) (qNow q (pScr (pWho q.1 (nI j)) (nI j) 50)) 218 [some (.ref 0), some (.int x), some (.int y), some (.int (nI j)), some (.int 0), some (.int 0), some (.int (pS q.1 j)), some (.int (nI (crN (pC q.1) 60))), none, none] [] from ?_) c hc hq
                      refine tt_seg hT (fun pc => Nat.beq pc 254 || Nat.beq pc 223) 80 (fun c hc hq => ?_)
                      refine And.intro (fun (hb220 : ¬ 0 = 0) => ?_) (fun (hb220 : 0 = 0) => ?_)
                      · exact absurd (by decide) hb220
                      · refine (show TT T (0, 0) (qNow q (pScr (pWho q.1 (nI j)) (nI j) 50)) 223 [some (.ref 0), some (.int x), some (.int y), some (.int (nI j)), some (.int 0), some (.int 0), some (.int (pS q.1 j)), some (.int (nI (crN (pC q.1) 60))), none, none] [] from ?_) c hc hq
                        refine tt_seg hT (fun pc => Nat.beq pc 226) 60 (fun c hc hq => ?_)
                        refine (show TT T (0, 0) (qNow q (pScr (pWho q.1 (nI j)) (nI j) 50)) 226 [some (.ref 0), some (.int x), some (.int y), some (.int (nI j)), some (.int 0), some (.int 0), some (.int (pS q.1 j)), some (.int (nI (crN (pC q.1) 60))), none, none] [.int 2, .int (nI j), .ref 0] from ?_) c hc hq
                        refine tt_v2 (W := fun q x y => (q, vJoint q.1 x y)) lq_joint hT rfl rfl rfl rfl rfl ?_
                        show TT T (0, 0) (qNow q (pScr (pWho q.1 (nI j)) (nI j) 50)) 229 [some (.ref 0), some (.int x), some (.int y), some (.int (nI j)), some (.int 0), some (.int 0), some (.int (pS q.1 j)), some (.int (nI (crN (pC q.1) 60))), none, none] [.int (vJoint (qNow q (pScr (pWho q.1 (nI j)) (nI j) 50)).1 (nI j) 2)]
                        rw [show (vJoint (qNow q (pScr (pWho q.1 (nI j)) (nI j) 50)).1 (nI j) 2) = 1 from vJ2w hj6 (by show pC (pScr (pWho q.1 (nI j)) (nI j) 50) j = 0; rw [scr_C, who_C hj6]; exact if_pos rfl)]
                        refine tt_seg hT (fun pc => Nat.beq pc 258 || Nat.beq pc 233) 80 (fun c hc hq => ?_)
                        refine And.intro (fun (hb230 : ¬ 1 = 1) => ?_) (fun (hb230 : 1 = 1) => ?_)
                        · exact absurd (rfl) hb230
                        · refine (show TT T (0, 0) (qNow q (pScr (pWho q.1 (nI j)) (nI j) 50)) 233 [some (.ref 0), some (.int x), some (.int y), some (.int (nI j)), some (.int 0), some (.int 0), some (.int (pS q.1 j)), some (.int (nI (crN (pC q.1) 60))), none, none] [] from ?_) c hc hq
                          refine tt_seg hT (fun pc => Nat.beq pc 236) 60 (fun c hc hq => ?_)
                          refine (show TT T (0, 0) (qNow q (pScr (pWho q.1 (nI j)) (nI j) 50)) 236 [some (.ref 0), some (.int x), some (.int y), some (.int (nI j)), some (.int 0), some (.int 0), some (.int (pS q.1 j)), some (.int (nI (crN (pC q.1) 60))), none, none] [.int 3, .int (nI j), .ref 0] from ?_) c hc hq
                          refine tt_v2 (W := fun q x y => (q, vJoint q.1 x y)) lq_joint hT rfl rfl rfl rfl rfl ?_
                          show TT T (0, 0) (qNow q (pScr (pWho q.1 (nI j)) (nI j) 50)) 239 [some (.ref 0), some (.int x), some (.int y), some (.int (nI j)), some (.int 0), some (.int 0), some (.int (pS q.1 j)), some (.int (nI (crN (pC q.1) 60))), none, none] [.int (vJoint (qNow q (pScr (pWho q.1 (nI j)) (nI j) 50)).1 (nI j) 3)]
                          rw [show (vJoint (qNow q (pScr (pWho q.1 (nI j)) (nI j) 50)).1 (nI j) 3) = 50 from (vJ3 hj6).trans (scr_S hj6)]
                          refine tt_seg hT (fun pc => Nat.beq pc 249 || Nat.beq pc 244) 80 (fun c hc hq => ?_)
                          refine And.intro (fun (hb241 : 0 = 0) => ?_) (fun (hb241 : ¬ 0 = 0) => ?_)
                          · refine (show TT T (0, 0) (qNow q (pScr (pWho q.1 (nI j)) (nI j) 50)) 249 [some (.ref 0), some (.int x), some (.int y), some (.int (nI j)), some (.int 0), some (.int 0), some (.int (pS q.1 j)), some (.int (nI (crN (pC q.1) 60))), none, none] [.int 50] from ?_) c hc hq
                            refine tt_seg hT (fun pc => Nat.beq pc 258 || Nat.beq pc 254) 80 (fun c hc hq => ?_)
                            refine And.intro (fun (hb251 : ¬ 50 = 50) => ?_) (fun (hb251 : 50 = 50) => ?_)
                            · exact absurd (rfl) hb251
                            · refine (show TT T (0, 0) (qNow q (pScr (pWho q.1 (nI j)) (nI j) 50)) 254 [some (.ref 0), some (.int x), some (.int y), some (.int (nI j)), some (.int 0), some (.int 0), some (.int (pS q.1 j)), some (.int (nI (crN (pC q.1) 60))), none, none] [] from ?_) c hc hq
                              refine tt_seg hT (fun pc => Nat.beq pc 259) 60 (fun c hc hq => ?_)
                              refine (show TT T (0, 0) (qNow q (pScr (pWho q.1 (nI j)) (nI j) 50)) 259 [some (.ref 0), some (.int x), some (.int y), some (.int (nI j)), some (.int 0), some (.int 0), some (.int (pS q.1 j)), some (.int (nI (crN (pC q.1) 60))), none, none] [.int 1] from ?_) c hc hq
                              exact tt_ret hT rfl rfl (fun c hc hq => ⟨rfl, c, .int 1, rfl, hc, rfl, fun _ => rfl, by rw [hq]; exact ⟨rfl, by rw [show qOf (rX (xw c0)) = q from hq0]; exact step_now (fun k hk h => PI_mono (PI_scr (PI_who h.1 hj6) hj6 (by decide)))⟩⟩)
                          · exact absurd (by decide) hb241
                  · exact absurd (by decide) hb203
                · exact absurd (by decide) hb194
              · exact absurd hb68 (by rw [hx]; decide)
            · exact absurd (by decide) hb44
          · exact absurd hb32 (by decide)
      · exact absurd hb10 (fun e => hjn (nI_is (by omega) (by decide) e))
set_option maxRecDepth 10000 in
theorem ct_L_joints (l : Launch) : mjCTr l yL_joints cL_joints 10 (some .boolean) rm_L_joints R_L_joints :=
  mjCTr_of (own := RL) (G := G_L_joints) (plainFor_of_name pn_L) rfl ok_L_joints (fun meth hm => ⟨fun pc row h => (I_L_joints_ok pc row h).1, (fun _ _ _ _ h => by cases h), List.forall_mem_cons.mpr ⟨⟨yL_low, cL_low, 2, (some .int), rm_L_low, ct_L_low l, ⟨rfl, rfl⟩, ⟨by decide, by decide⟩, by decide, nk_L_low, ln_L_39, st_L_low⟩, List.forall_mem_cons.mpr ⟨⟨yX6_joint, cX6_joint, 4, (some .int), rm_X6_joint, ct_X6_joint l, ⟨rfl, rfl⟩, ⟨by decide, by decide⟩, by decide, by decide, nk_X6_joint, ln_L_23, im_X6_joint, se_X6_joint, rfl⟩, List.forall_mem_cons.mpr ⟨⟨yX6_count, cX6_count, 2, (some .int), rm_X6_count, ct_X6_count l, ⟨rfl, rfl⟩, ⟨by decide, by decide⟩, by decide, by decide, nk_X6_count, ln_L_13, im_X6_count, se_X6_count, rfl⟩, List.forall_mem_cons.mpr ⟨⟨yX6_scratch, cX6_scratch, 4, (some .int), rm_X6_scratch, ct_X6_scratch l, ⟨rfl, rfl⟩, ⟨by decide, by decide⟩, by decide, by decide, nk_X6_scratch, ln_L_75, im_X6_scratch, se_X6_scratch, rfl⟩, List.forall_mem_cons.mpr ⟨⟨yX6_mend, cX6_mend, 2, (some .int), rm_X6_mend, ct_X6_mend l, ⟨rfl, rfl⟩, ⟨by decide, by decide⟩, by decide, by decide, nk_X6_mend, ln_L_78, im_X6_mend, se_X6_mend, rfl⟩, fun _ h => absurd h List.not_mem_nil⟩⟩⟩⟩⟩, (fun _ _ _ h => by cases h), (mjcons_ok CN_L_ok), ⟨Nat.zero_le _, Nat.zero_le _⟩, (fun h => by cases h), (fun h => absurd h (by decide)), fun _ h => absurd h List.not_mem_nil⟩) rfl rfl rfl (fun pc row h => (I_L_joints_ok pc row h).2)
