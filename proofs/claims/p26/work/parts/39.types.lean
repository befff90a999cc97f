/-! the law: types -/
/-- k segments are typed -/
def TX (k : Nat) (tx : List Int32) : Prop := tx.length ≤ 13 * k ∧ (k = 0 → tx = []) ∧ (1 ≤ k → tx.count 59 + 1 = k ∧ ∃ (l : List Int32) (y : Int32), tx = l ++ [y] ∧ ¬ y = 59)
theorem c47 : ([47] : List Int32).count 59 = 0 := by decide
theorem c104 : ([104] : List Int32).count 59 = 0 := by decide
theorem c120 : ([120] : List Int32).count 59 = 0 := by decide
theorem c59 : ([59] : List Int32).count 59 = 1 := by decide
def typP (q : QSt) (_ : Int32) : Prop := q.2.2.2.length ≤ 60
def typQ (q : QSt) (x : Int32) (q' : QSt) (w : Value) : Prop := w = .int 1 ∧ ∃ (n : Nat) (tx : List Int32), n < 5 ∧ lowV x 5 = nI n ∧ (TX n tx ∨ ∃ l : List Int32, l.length ≤ 52 ∧ tx = l ++ [59]) ∧ q' = (q.1, q.2.1, q.2.2.1, tx)
def R_L_types : mjSr := lr1 typP typQ
theorem dg_59 {y : Int32} (h : dgC y) : ¬ y = 59 := by
  intro e
  rw [e] at h
  have := h.2
  rw [show (59 : Int32).toInt = 59 from rfl] at this
  omega
theorem cnt_dg {l : List Int32} (h : ∀ z ∈ l, dgC z) : l.count 59 = 0 := List.count_eq_zero.mpr (fun hm => dg_59 (h _ hm) rfl)
theorem cnt_1 {y : Int32} (h : ¬ y = 59) : [y].count 59 = 0 := List.count_eq_zero.mpr (fun hm => h (List.mem_singleton.mp hm).symm)
theorem cnt_num {l : List Int32} {y : Int32} (h : ∀ z ∈ l, dgC z) (hy : dgC y) : (l ++ [y]).count 59 = 0 := by
  rw [List.count_append, cnt_dg h, cnt_1 (dg_59 hy)]
theorem low_to {j : Nat} {a : Int32} (h : j < 2000) (ha : a = 0 ∨ a = 1) : (nI j + a).toInt = (j : Int) + a.toInt ∧ 0 ≤ a.toInt ∧ a.toInt ≤ 1 := by
  have h1 : 0 ≤ a.toInt ∧ a.toInt ≤ 1 := by rcases ha with rfl | rfl <;> decide
  refine ⟨?_, h1⟩
  rw [ti_add] <;> rw [nI_toInt (by omega)] <;> omega
theorem numE_0 {v : Int32} (h : v.toInt < 1000) : numE v = 0 := if_pos (by rw [Int32.lt_iff_toInt_lt]; exact h)
theorem numE_1 (v : Int32) : numE v ≤ 1 := by
  unfold numE
  split <;> omega
def rm_L_types : Room := { frames := 3, cells := 0, slots := 0, locals := 64 }
noncomputable def G_L_types : mjG := (I_L_types, (fun _ => none), [(39, 1, 0, 2, 0, 0, S_L_low), (54, 0, 5, 1, 0, 0, S_X6_clear), (51, 0, 5, 2, 0, 0, S_X6_append)], (fun pc => bif Nat.beq pc 273 then [0, 1, 2, 3, 4, 5, 6, 7, 8, 9, 10, 11, 12, 13, 14, 15, 16, 17, 18, 19, 20, 21, 22, 23, 24, 25, 26, 27, 28, 29, 30, 31, 32, 33, 34, 35, 36, 37, 38, 39, 40, 41, 42, 43, 44, 45, 46] else bif Nat.beq pc 236 then [0, 1, 2, 3, 4, 5, 6, 7, 8, 9, 10, 11, 12, 13, 14, 15, 16, 17, 18, 19, 20, 21, 22, 23, 24, 25, 26, 27, 28, 29, 30, 31, 32, 33, 34, 35, 36, 37, 38, 39, 40, 41, 42, 43, 44, 45, 46] else bif Nat.beq pc 185 then [0, 1, 2, 3, 4, 5, 6, 7, 8, 9, 10, 11, 12, 13, 14, 15, 16, 17, 18, 19, 20, 21, 22, 23, 24, 25, 26, 27, 28, 29, 30, 31, 32, 33, 34, 35, 36, 37, 38, 39, 40, 41, 42, 43, 44, 45, 46] else bif Nat.beq pc 176 then [0, 1, 2, 3, 4, 5, 6, 7, 8, 9, 10, 11, 12, 13, 14, 15, 16, 17, 18, 19, 20, 21, 22, 23, 24, 25, 26, 27, 28, 29, 30, 31, 32, 33, 34, 35, 36, 37, 38, 39, 40, 41, 42, 43, 44, 45, 46] else bif Nat.beq pc 125 then [0, 1, 2, 3, 4, 5, 6, 7, 8, 9, 10, 11, 12, 13, 14, 15, 16, 17, 18, 19, 20, 21, 22, 23, 24, 25, 26, 27, 28, 29, 30, 31, 32, 33, 34, 35, 36, 37, 38, 39, 40, 41, 42, 43, 44, 45, 46] else bif Nat.beq pc 116 then [0, 1, 2, 3, 4, 5, 6, 7, 8, 9, 10, 11, 12, 13, 14, 15, 16, 17, 18, 19, 20, 21, 22, 23, 24, 25, 26, 27, 28, 29, 30, 31, 32, 33, 34, 35, 36, 37, 38, 39, 40, 41, 42, 43, 44, 45, 46] else bif Nat.beq pc 78 then [0, 1, 2, 3, 4, 5, 6, 7, 8, 9, 10, 11, 12, 13, 14, 15, 16, 17, 18, 19, 20, 21, 22, 23, 24, 25, 26, 27, 28, 29, 30, 31, 32, 33, 34, 35, 36, 37, 38, 39, 40, 41, 42, 43, 44, 45, 46] else bif Nat.beq pc 50 then [0, 1, 2, 3, 4, 5, 6, 7, 8, 9, 10, 11, 12, 13, 14, 15, 16, 17, 18, 19, 20, 21, 22, 23, 24, 25, 26, 27, 28, 29, 30, 31, 32, 33, 34, 35, 36, 37, 38, 39, 40, 41, 42, 43, 44, 45, 46] else bif Nat.beq pc 7 then [0, 1, 2, 3, 4, 5, 6, 7, 8, 9, 10, 11, 12, 13, 14, 15, 16, 17, 18, 19, 20, 21, 22, 23, 24, 25, 26, 27, 28, 29, 30, 31, 32, 33, 34, 35, 36, 37, 38, 39, 40, 41, 42, 43, 44, 45, 46] else []), Y0, (fun _ => none), (mjcons CN_L), (some .boolean), 0, 0, false, [(58, 2, R_L_number)])
set_option maxHeartbeats 20000000 in
set_option maxRecDepth 100000 in
theorem ok_L_types : mjOKr G_L_types 6 R_L_types := by
  intro M as hP T hT
  obtain ⟨c0, x, rfl, rfl, hc0, ht0⟩ : ∃ c x, M = xw c ∧ as = [.ref 0, .int x] ∧ cOk c ∧ typP (qOf c) x := ⟨_, _, hP.1.1, hP.1.2, hP.2.1, hP.2.2⟩
  refine (?_ : TT T (0, 0) (qOf c0) 0 [some (.ref 0), some (.int x), none, none, none, none] []) c0 hc0 rfl
  generalize hq0 : qOf c0 = q at ht0 ⊢
  obtain ⟨p, sn, hi, tx0⟩ := q
  have ht0 : tx0.length ≤ 60 := ht0
  obtain ⟨n, hn, en⟩ : ∃ n : Nat, n < 5 ∧ lowV x 5 = nI n := low_n x 5 (by decide) (by decide)
  have e254 : ∀ tx : List Int32, TX n tx → ∀ y, TT T (0, 0) (p, sn, hi, tx) 254 [some (.ref 0), some (.int x), some (.int (nI n)), some (.int 1), some (.int (nI n)), y] [] := by
    intro tx htx y
    have hlen : tx.length ≤ 52 := by have := htx.1; omega
    refine tt_mask hT [true, true, true, true, true, false] ?_
    show TT T (0, 0) (p, sn, hi, tx) 254 [some (.ref 0), some (.int x), some (.int (nI n)), some (.int 1), some (.int (nI n)), none] []
    refine tt_seg hT (fun pc => Nat.beq pc 283 || Nat.beq pc 258) 80 (fun c hc hq => ?_)
    refine And.intro (fun (hb255 : 1 = 0) => ?_) (fun (hb255 : ¬ 1 = 0) => ?_)
    · exact absurd hb255 (show ¬ (1 : Int32) = 0 by decide)
    · refine (show TT T (0, 0) (p, sn, hi, tx) 258 [some (.ref 0), some (.int x), some (.int (nI n)), some (.int 1), some (.int (nI n)), none] [] from ?_) c hc hq
      refine tt_seg hT (fun pc => Nat.beq pc 267) 60 (fun c hc hq => ?_)
      refine And.intro ⟨⟨rfl, rfl⟩, (show ¬ ((6 : Int32) = 0) by decide)⟩ ?_
      refine (show TT T (0, 0) (p, sn, hi, tx) 267 [some (.ref 0), some (.int x), some (.int (nI n)), some (.int 1), some (.int (nI n)), none] [.int (lowV (x >>> (26 &&& 31)) 6)] from ?_) c hc hq
      obtain ⟨j267, hj267, ej267⟩ : ∃ j : Nat, j < 6 ∧ lowV (x >>> (26 &&& 31)) 6 = nI j := low_n (x >>> (26 &&& 31)) 6 (by decide) (by decide)
      rw [ej267]
      refine tt_seg hT (fun pc => Nat.beq pc 279 || Nat.beq pc 270) 80 (fun c hc hq => ?_)
      refine And.intro (fun (hb267 : 0 < (nI j267)) => ?_) (fun (hb267 : ¬ 0 < (nI j267)) => ?_)
      · refine (show TT T (0, 0) (p, sn, hi, tx) 279 [some (.ref 0), some (.int x), some (.int (nI n)), some (.int 1), some (.int (nI n)), none] [] from ?_) c hc hq
        refine tt_seg hT (fun pc => Nat.beq pc 284) 60 (fun c hc hq => ?_)
        refine (show TT T (0, 0) (p, sn, hi, tx) 284 [some (.ref 0), some (.int x), some (.int (nI n)), some (.int 1), some (.int (nI n)), none] [.int 1] from ?_) c hc hq
        exact tt_ret hT rfl rfl (fun c hc hq => ⟨rfl, c, .int 1, rfl, hc, rfl, fun _ => rfl, by rw [hq]; exact ⟨rfl, n, tx, hn, en, Or.inl htx, by rw [show qOf (rX (xw c0)) = (p, sn, hi, tx0) from hq0]⟩⟩)
      · refine (show TT T (0, 0) (p, sn, hi, tx) 270 [some (.ref 0), some (.int x), some (.int (nI n)), some (.int 1), some (.int (nI n)), none] [] from ?_) c hc hq
        refine tt_seg hT (fun pc => Nat.beq pc 273) 60 (fun c hc hq => ?_)
        refine (show TT T (0, 0) (p, sn, hi, tx) 273 [some (.ref 0), some (.int x), some (.int (nI n)), some (.int 1), some (.int (nI n)), none] [.int 59, .ref 0] from ?_) c hc hq
        refine tt_v1 (W := wAppend) aq_append hT rfl rfl rfl rfl rfl ?_
        rw [show wAppend (p, sn, hi, tx) 59 = ((p, sn, hi, tx ++ [59]), (nI ((tx).length + 1))) from app_ok (q := (p, sn, hi, tx)) (by first | omega | (simp only [List.length_append, List.length_cons, List.length_nil]; omega)) (by decide)]
        show TT T (0, 0) (p, sn, hi, tx ++ [59]) 276 [some (.ref 0), some (.int x), some (.int (nI n)), some (.int 1), some (.int (nI n)), none] [.int (nI ((tx).length + 1))]
        refine tt_seg hT (fun pc => Nat.beq pc 283 || Nat.beq pc 279) 80 (fun c hc hq => ?_)
        refine And.intro (fun (hb276 : (nI ((tx).length + 1)) ≤ 0) => ?_) (fun (hb276 : ¬ (nI ((tx).length + 1)) ≤ 0) => ?_)
        · exact absurd hb276 (nI_le0 (by first | omega | (simp only [List.length_append, List.length_cons, List.length_nil]; omega)))
        · refine (show TT T (0, 0) (p, sn, hi, tx ++ [59]) 279 [some (.ref 0), some (.int x), some (.int (nI n)), some (.int 1), some (.int (nI n)), none] [] from ?_) c hc hq
          refine tt_seg hT (fun pc => Nat.beq pc 284) 60 (fun c hc hq => ?_)
          refine (show TT T (0, 0) (p, sn, hi, tx ++ [59]) 284 [some (.ref 0), some (.int x), some (.int (nI n)), some (.int 1), some (.int (nI n)), none] [.int 1] from ?_) c hc hq
          exact tt_ret hT rfl rfl (fun c hc hq => ⟨rfl, c, .int 1, rfl, hc, rfl, fun _ => rfl, by rw [hq]; exact ⟨rfl, n, tx ++ [59], hn, en, Or.inr ⟨tx, hlen, rfl⟩, by rw [show qOf (rX (xw c0)) = (p, sn, hi, tx0) from hq0]⟩⟩)
  have loop : ∀ k, k ≤ n → ∀ tx : List Int32, TX k tx → TT T (0, 0) (p, sn, hi, tx) 22 [some (.ref 0), some (.int x), some (.int (nI n)), some (.int 1), some (.int (nI k)), none] [] := by
    refine mjloop n (fun k => ∀ tx : List Int32, TX k tx → TT T (0, 0) (p, sn, hi, tx) 22 [some (.ref 0), some (.int x), some (.int (nI n)), some (.int 1), some (.int (nI k)), none] []) (fun k hk ih tx htx => ?_) (fun tx htx => ?_)
    · rw [nI_succ] at ih
      have hlen : tx.length ≤ 39 := by have := htx.1; omega
      have s191 : ∀ tz : List Int32, tz.length ≤ 13 * k + 10 → tz.count 59 = k → TT T (0, 0) (p, sn, hi, tz) 191 [some (.ref 0), some (.int x), some (.int (nI n)), some (.int 1), some (.int (nI k)), some (.int (x >>> ((2 + 4 * nI k) &&& 31)))] [] := by
        intro tz hz1 hz2
        refine tt_seg hT (fun pc => Nat.beq pc 205) 60 (fun c hc hq => ?_)
        refine And.intro ⟨⟨rfl, rfl⟩, (show ¬ ((7 : Int32) = 0) by decide)⟩ ?_
        refine (show TT T (0, 0) (p, sn, hi, tz) 205 [some (.ref 0), some (.int x), some (.int (nI n)), some (.int 1), some (.int (nI k)), some (.int (x >>> ((2 + 4 * nI k) &&& 31)))] [.int (lowV (x >>> (24 &&& 31)) 7), .int ((x >>> ((2 + 4 * nI k) &&& 31)) >>> (5 &&& 31)), .ref 0] from ?_) c hc hq
        obtain ⟨j205, hj205, ej205⟩ : ∃ j : Nat, j < 7 ∧ lowV (x >>> (24 &&& 31)) 7 = nI j := low_n (x >>> (24 &&& 31)) 7 (by decide) (by decide)
        rw [ej205]
        refine tt_seg hT (fun pc => Nat.beq pc 213 || Nat.beq pc 208) 80 (fun c hc hq => ?_)
        refine And.intro (fun (hb205 : ¬ (nI j205) = 0) => ?_) (fun (hb205 : (nI j205) = 0) => ?_)
        · refine (show TT T (0, 0) (p, sn, hi, tz) 213 [some (.ref 0), some (.int x), some (.int (nI n)), some (.int 1), some (.int (nI k)), some (.int (x >>> ((2 + 4 * nI k) &&& 31)))] [.int ((x >>> ((2 + 4 * nI k) &&& 31)) >>> (5 &&& 31)), .ref 0] from ?_) c hc hq
          refine tt_seg hT (fun pc => Nat.beq pc 218) 60 (fun c hc hq => ?_)
          refine And.intro ⟨⟨rfl, rfl⟩, (show ¬ ((15 : Int32) = 0) by decide)⟩ ?_
          refine (show TT T (0, 0) (p, sn, hi, tz) 218 [some (.ref 0), some (.int x), some (.int (nI n)), some (.int 1), some (.int (nI k)), some (.int (x >>> ((2 + 4 * nI k) &&& 31)))] [.int (lowV ((x >>> ((2 + 4 * nI k) &&& 31)) >>> (5 &&& 31)) 15), .ref 0] from ?_) c hc hq
          obtain ⟨j218, hj218, ej218⟩ : ∃ j : Nat, j < 15 ∧ lowV ((x >>> ((2 + 4 * nI k) &&& 31)) >>> (5 &&& 31)) 15 = nI j := low_n ((x >>> ((2 + 4 * nI k) &&& 31)) >>> (5 &&& 31)) 15 (by decide) (by decide)
          rw [ej218]
          refine tt_seg hT (fun pc => Nat.beq pc 227) 60 (fun c hc hq => ?_)
          refine And.intro ⟨⟨rfl, rfl⟩, (show ¬ ((7 : Int32) = 0) by decide)⟩ ?_
          refine (show TT T (0, 0) (p, sn, hi, tz) 227 [some (.ref 0), some (.int x), some (.int (nI n)), some (.int 1), some (.int (nI k)), some (.int (x >>> ((2 + 4 * nI k) &&& 31)))] [.int (lowV (x >>> (24 &&& 31)) 7), .int (nI j218), .ref 0] from ?_) c hc hq
          obtain ⟨j227, hj227, ej227⟩ : ∃ j : Nat, j < 7 ∧ lowV (x >>> (24 &&& 31)) 7 = nI j := low_n (x >>> (24 &&& 31)) 7 (by decide) (by decide)
          rw [ej227]
          refine tt_seg hT (fun pc => Nat.beq pc 234 || Nat.beq pc 230) 80 (fun c hc hq => ?_)
          refine And.intro (fun (hb227 : ¬ (nI j227) = 0) => ?_) (fun (hb227 : (nI j227) = 0) => ?_)
          · refine (show TT T (0, 0) (p, sn, hi, tz) 234 [some (.ref 0), some (.int x), some (.int (nI n)), some (.int 1), some (.int (nI k)), some (.int (x >>> ((2 + 4 * nI k) &&& 31)))] [.int (nI j218), .ref 0] from ?_) c hc hq
            refine tt_seg hT (fun pc => Nat.beq pc 236) 60 (fun c hc hq => ?_)
            refine (show TT T (0, 0) (p, sn, hi, tz) 236 [some (.ref 0), some (.int x), some (.int (nI n)), some (.int 1), some (.int (nI k)), some (.int (x >>> ((2 + 4 * nI k) &&& 31)))] [.int ((nI j218) + 1), .ref 0] from ?_) c hc hq
            have hv1 : 0 ≤ (((nI j218) + 1)).toInt ∧ (((nI j218) + 1)).toInt < 1000 := by
              have hl := low_to (j := j218) (a := 1) (by omega) (by decide)
              omega
            refine tt_r1 (P := numP) (Q := numQ) hT rfl rfl rfl rfl rfl ⟨⟨hv1.1, by omega⟩, ?_⟩ ?_
            · rw [numE_0 hv1.2]
              show (_ : List Int32).length + _ ≤ 60; first | omega | (simp only [List.length_append, List.length_cons, List.length_nil]; omega)
            rintro q' w' ⟨rfl, l1, y1, ha1, hb1, hc1, rfl⟩
            rw [numE_0 hv1.2] at ha1
            show TT T (0, 0) (p, sn, hi, tz ++ (l1 ++ [y1])) 239 [some (.ref 0), some (.int x), some (.int (nI n)), some (.int 1), some (.int (nI k)), some (.int (x >>> ((2 + 4 * nI k) &&& 31)))] [.int 1]
            refine tt_seg hT (fun pc => Nat.beq pc 246 || Nat.beq pc 242) 80 (fun c hc hq => ?_)
            refine And.intro (fun (hb239 : 1 = 0) => ?_) (fun (hb239 : ¬ 1 = 0) => ?_)
            · exact absurd hb239 (show ¬ (1 : Int32) = 0 by decide)
            · refine (show TT T (0, 0) (p, sn, hi, tz ++ (l1 ++ [y1])) 242 [some (.ref 0), some (.int x), some (.int (nI n)), some (.int 1), some (.int (nI k)), some (.int (x >>> ((2 + 4 * nI k) &&& 31)))] [] from ?_) c hc hq
              refine tt_seg hT (fun pc => Nat.beq pc 22) 60 (fun c hc hq => ?_)
              refine (show TT T (0, 0) (p, sn, hi, tz ++ (l1 ++ [y1])) 22 [some (.ref 0), some (.int x), some (.int (nI n)), some (.int 1), some (.int ((nI k) + 1)), some (.int (x >>> ((2 + 4 * nI k) &&& 31)))] [] from ?_) c hc hq
              exact tt_mask hT [true, true, true, true, true, false] (ih _ ⟨by first | omega | (simp only [List.length_append, List.length_cons, List.length_nil]; omega), fun h => absurd h (by omega), fun _ => ⟨by rw [List.count_append, cnt_num hb1 hc1, hz2], tz ++ l1, y1, (List.append_assoc _ _ _).symm, dg_59 hc1⟩⟩)
          · refine (show TT T (0, 0) (p, sn, hi, tz) 230 [some (.ref 0), some (.int x), some (.int (nI n)), some (.int 1), some (.int (nI k)), some (.int (x >>> ((2 + 4 * nI k) &&& 31)))] [.int (nI j218), .ref 0] from ?_) c hc hq
            refine tt_seg hT (fun pc => Nat.beq pc 236) 60 (fun c hc hq => ?_)
            refine (show TT T (0, 0) (p, sn, hi, tz) 236 [some (.ref 0), some (.int x), some (.int (nI n)), some (.int 1), some (.int (nI k)), some (.int (x >>> ((2 + 4 * nI k) &&& 31)))] [.int ((nI j218) + 0), .ref 0] from ?_) c hc hq
            have hv2 : 0 ≤ (((nI j218) + 0)).toInt ∧ (((nI j218) + 0)).toInt < 1000 := by
              have hl := low_to (j := j218) (a := 0) (by omega) (by decide)
              omega
            refine tt_r1 (P := numP) (Q := numQ) hT rfl rfl rfl rfl rfl ⟨⟨hv2.1, by omega⟩, ?_⟩ ?_
            · rw [numE_0 hv2.2]
              show (_ : List Int32).length + _ ≤ 60; first | omega | (simp only [List.length_append, List.length_cons, List.length_nil]; omega)
            rintro q' w' ⟨rfl, l2, y2, ha2, hb2, hc2, rfl⟩
            rw [numE_0 hv2.2] at ha2
            show TT T (0, 0) (p, sn, hi, tz ++ (l2 ++ [y2])) 239 [some (.ref 0), some (.int x), some (.int (nI n)), some (.int 1), some (.int (nI k)), some (.int (x >>> ((2 + 4 * nI k) &&& 31)))] [.int 1]
            refine tt_seg hT (fun pc => Nat.beq pc 246 || Nat.beq pc 242) 80 (fun c hc hq => ?_)
            refine And.intro (fun (hb239 : 1 = 0) => ?_) (fun (hb239 : ¬ 1 = 0) => ?_)
            · exact absurd hb239 (show ¬ (1 : Int32) = 0 by decide)
            · refine (show TT T (0, 0) (p, sn, hi, tz ++ (l2 ++ [y2])) 242 [some (.ref 0), some (.int x), some (.int (nI n)), some (.int 1), some (.int (nI k)), some (.int (x >>> ((2 + 4 * nI k) &&& 31)))] [] from ?_) c hc hq
              refine tt_seg hT (fun pc => Nat.beq pc 22) 60 (fun c hc hq => ?_)
              refine (show TT T (0, 0) (p, sn, hi, tz ++ (l2 ++ [y2])) 22 [some (.ref 0), some (.int x), some (.int (nI n)), some (.int 1), some (.int ((nI k) + 1)), some (.int (x >>> ((2 + 4 * nI k) &&& 31)))] [] from ?_) c hc hq
              exact tt_mask hT [true, true, true, true, true, false] (ih _ ⟨by first | omega | (simp only [List.length_append, List.length_cons, List.length_nil]; omega), fun h => absurd h (by omega), fun _ => ⟨by rw [List.count_append, cnt_num hb2 hc2, hz2], tz ++ l2, y2, (List.append_assoc _ _ _).symm, dg_59 hc2⟩⟩)
        · refine (show TT T (0, 0) (p, sn, hi, tz) 208 [some (.ref 0), some (.int x), some (.int (nI n)), some (.int 1), some (.int (nI k)), some (.int (x >>> ((2 + 4 * nI k) &&& 31)))] [.int ((x >>> ((2 + 4 * nI k) &&& 31)) >>> (5 &&& 31)), .ref 0] from ?_) c hc hq
          refine tt_seg hT (fun pc => Nat.beq pc 218) 60 (fun c hc hq => ?_)
          refine And.intro ⟨⟨rfl, rfl⟩, (show ¬ ((104 : Int32) = 0) by decide)⟩ ?_
          refine (show TT T (0, 0) (p, sn, hi, tz) 218 [some (.ref 0), some (.int x), some (.int (nI n)), some (.int 1), some (.int (nI k)), some (.int (x >>> ((2 + 4 * nI k) &&& 31)))] [.int (lowV ((x >>> ((2 + 4 * nI k) &&& 31)) >>> (5 &&& 31)) 104), .ref 0] from ?_) c hc hq
          obtain ⟨j218, hj218, ej218⟩ : ∃ j : Nat, j < 104 ∧ lowV ((x >>> ((2 + 4 * nI k) &&& 31)) >>> (5 &&& 31)) 104 = nI j := low_n ((x >>> ((2 + 4 * nI k) &&& 31)) >>> (5 &&& 31)) 104 (by decide) (by decide)
          rw [ej218]
          refine tt_seg hT (fun pc => Nat.beq pc 227) 60 (fun c hc hq => ?_)
          refine And.intro ⟨⟨rfl, rfl⟩, (show ¬ ((7 : Int32) = 0) by decide)⟩ ?_
          refine (show TT T (0, 0) (p, sn, hi, tz) 227 [some (.ref 0), some (.int x), some (.int (nI n)), some (.int 1), some (.int (nI k)), some (.int (x >>> ((2 + 4 * nI k) &&& 31)))] [.int (lowV (x >>> (24 &&& 31)) 7), .int (nI j218), .ref 0] from ?_) c hc hq
          obtain ⟨j227, hj227, ej227⟩ : ∃ j : Nat, j < 7 ∧ lowV (x >>> (24 &&& 31)) 7 = nI j := low_n (x >>> (24 &&& 31)) 7 (by decide) (by decide)
          rw [ej227]
          refine tt_seg hT (fun pc => Nat.beq pc 234 || Nat.beq pc 230) 80 (fun c hc hq => ?_)
          refine And.intro (fun (hb227 : ¬ (nI j227) = 0) => ?_) (fun (hb227 : (nI j227) = 0) => ?_)
          · refine (show TT T (0, 0) (p, sn, hi, tz) 234 [some (.ref 0), some (.int x), some (.int (nI n)), some (.int 1), some (.int (nI k)), some (.int (x >>> ((2 + 4 * nI k) &&& 31)))] [.int (nI j218), .ref 0] from ?_) c hc hq
            refine tt_seg hT (fun pc => Nat.beq pc 236) 60 (fun c hc hq => ?_)
            refine (show TT T (0, 0) (p, sn, hi, tz) 236 [some (.ref 0), some (.int x), some (.int (nI n)), some (.int 1), some (.int (nI k)), some (.int (x >>> ((2 + 4 * nI k) &&& 31)))] [.int ((nI j218) + 1), .ref 0] from ?_) c hc hq
            have hv3 : 0 ≤ (((nI j218) + 1)).toInt ∧ (((nI j218) + 1)).toInt < 1000 := by
              have hl := low_to (j := j218) (a := 1) (by omega) (by decide)
              omega
            refine tt_r1 (P := numP) (Q := numQ) hT rfl rfl rfl rfl rfl ⟨⟨hv3.1, by omega⟩, ?_⟩ ?_
            · rw [numE_0 hv3.2]
              show (_ : List Int32).length + _ ≤ 60; first | omega | (simp only [List.length_append, List.length_cons, List.length_nil]; omega)
            rintro q' w' ⟨rfl, l3, y3, ha3, hb3, hc3, rfl⟩
            rw [numE_0 hv3.2] at ha3
            show TT T (0, 0) (p, sn, hi, tz ++ (l3 ++ [y3])) 239 [some (.ref 0), some (.int x), some (.int (nI n)), some (.int 1), some (.int (nI k)), some (.int (x >>> ((2 + 4 * nI k) &&& 31)))] [.int 1]
            refine tt_seg hT (fun pc => Nat.beq pc 246 || Nat.beq pc 242) 80 (fun c hc hq => ?_)
            refine And.intro (fun (hb239 : 1 = 0) => ?_) (fun (hb239 : ¬ 1 = 0) => ?_)
            · exact absurd hb239 (show ¬ (1 : Int32) = 0 by decide)
            · refine (show TT T (0, 0) (p, sn, hi, tz ++ (l3 ++ [y3])) 242 [some (.ref 0), some (.int x), some (.int (nI n)), some (.int 1), some (.int (nI k)), some (.int (x >>> ((2 + 4 * nI k) &&& 31)))] [] from ?_) c hc hq
              refine tt_seg hT (fun pc => Nat.beq pc 22) 60 (fun c hc hq => ?_)
              refine (show TT T (0, 0) (p, sn, hi, tz ++ (l3 ++ [y3])) 22 [some (.ref 0), some (.int x), some (.int (nI n)), some (.int 1), some (.int ((nI k) + 1)), some (.int (x >>> ((2 + 4 * nI k) &&& 31)))] [] from ?_) c hc hq
              exact tt_mask hT [true, true, true, true, true, false] (ih _ ⟨by first | omega | (simp only [List.length_append, List.length_cons, List.length_nil]; omega), fun h => absurd h (by omega), fun _ => ⟨by rw [List.count_append, cnt_num hb3 hc3, hz2], tz ++ l3, y3, (List.append_assoc _ _ _).symm, dg_59 hc3⟩⟩)
          · refine (show TT T (0, 0) (p, sn, hi, tz) 230 [some (.ref 0), some (.int x), some (.int (nI n)), some (.int 1), some (.int (nI k)), some (.int (x >>> ((2 + 4 * nI k) &&& 31)))] [.int (nI j218), .ref 0] from ?_) c hc hq
            refine tt_seg hT (fun pc => Nat.beq pc 236) 60 (fun c hc hq => ?_)
            refine (show TT T (0, 0) (p, sn, hi, tz) 236 [some (.ref 0), some (.int x), some (.int (nI n)), some (.int 1), some (.int (nI k)), some (.int (x >>> ((2 + 4 * nI k) &&& 31)))] [.int ((nI j218) + 0), .ref 0] from ?_) c hc hq
            have hv4 : 0 ≤ (((nI j218) + 0)).toInt ∧ (((nI j218) + 0)).toInt < 1000 := by
              have hl := low_to (j := j218) (a := 0) (by omega) (by decide)
              omega
            refine tt_r1 (P := numP) (Q := numQ) hT rfl rfl rfl rfl rfl ⟨⟨hv4.1, by omega⟩, ?_⟩ ?_
            · rw [numE_0 hv4.2]
              show (_ : List Int32).length + _ ≤ 60; first | omega | (simp only [List.length_append, List.length_cons, List.length_nil]; omega)
            rintro q' w' ⟨rfl, l4, y4, ha4, hb4, hc4, rfl⟩
            rw [numE_0 hv4.2] at ha4
            show TT T (0, 0) (p, sn, hi, tz ++ (l4 ++ [y4])) 239 [some (.ref 0), some (.int x), some (.int (nI n)), some (.int 1), some (.int (nI k)), some (.int (x >>> ((2 + 4 * nI k) &&& 31)))] [.int 1]
            refine tt_seg hT (fun pc => Nat.beq pc 246 || Nat.beq pc 242) 80 (fun c hc hq => ?_)
            refine And.intro (fun (hb239 : 1 = 0) => ?_) (fun (hb239 : ¬ 1 = 0) => ?_)
            · exact absurd hb239 (show ¬ (1 : Int32) = 0 by decide)
            · refine (show TT T (0, 0) (p, sn, hi, tz ++ (l4 ++ [y4])) 242 [some (.ref 0), some (.int x), some (.int (nI n)), some (.int 1), some (.int (nI k)), some (.int (x >>> ((2 + 4 * nI k) &&& 31)))] [] from ?_) c hc hq
              refine tt_seg hT (fun pc => Nat.beq pc 22) 60 (fun c hc hq => ?_)
              refine (show TT T (0, 0) (p, sn, hi, tz ++ (l4 ++ [y4])) 22 [some (.ref 0), some (.int x), some (.int (nI n)), some (.int 1), some (.int ((nI k) + 1)), some (.int (x >>> ((2 + 4 * nI k) &&& 31)))] [] from ?_) c hc hq
              exact tt_mask hT [true, true, true, true, true, false] (ih _ ⟨by first | omega | (simp only [List.length_append, List.length_cons, List.length_nil]; omega), fun h => absurd h (by omega), fun _ => ⟨by rw [List.count_append, cnt_num hb4 hc4, hz2], tz ++ l4, y4, (List.append_assoc _ _ _).symm, dg_59 hc4⟩⟩)
      have s182 : ∀ tv : List Int32, tv.length ≤ 13 * k + 9 → tv.count 59 = k → TT T (0, 0) (p, sn, hi, tv) 182 [some (.ref 0), some (.int x), some (.int (nI n)), some (.int 1), some (.int (nI k)), some (.int (x >>> ((2 + 4 * nI k) &&& 31)))] [] := by
        intro tv hv1 hv2
        refine tt_seg hT (fun pc => Nat.beq pc 185) 60 (fun c hc hq => ?_)
        refine (show TT T (0, 0) (p, sn, hi, tv) 185 [some (.ref 0), some (.int x), some (.int (nI n)), some (.int 1), some (.int (nI k)), some (.int (x >>> ((2 + 4 * nI k) &&& 31)))] [.int 120, .ref 0] from ?_) c hc hq
        refine tt_v1 (W := wAppend) aq_append hT rfl rfl rfl rfl rfl ?_
        rw [show wAppend (p, sn, hi, tv) 120 = ((p, sn, hi, tv ++ [120]), (nI ((tv).length + 1))) from app_ok (q := (p, sn, hi, tx)) (by first | omega | (simp only [List.length_append, List.length_cons, List.length_nil]; omega)) (by decide)]
        show TT T (0, 0) (p, sn, hi, tv ++ [120]) 188 [some (.ref 0), some (.int x), some (.int (nI n)), some (.int 1), some (.int (nI k)), some (.int (x >>> ((2 + 4 * nI k) &&& 31)))] [.int (nI ((tv).length + 1))]
        refine tt_seg hT (fun pc => Nat.beq pc 246 || Nat.beq pc 191) 80 (fun c hc hq => ?_)
        refine And.intro (fun (hb188 : (nI ((tv).length + 1)) ≤ 0) => ?_) (fun (hb188 : ¬ (nI ((tv).length + 1)) ≤ 0) => ?_)
        · exact absurd hb188 (nI_le0 (by first | omega | (simp only [List.length_append, List.length_cons, List.length_nil]; omega)))
        · refine (show TT T (0, 0) (p, sn, hi, tv ++ [120]) 191 [some (.ref 0), some (.int x), some (.int (nI n)), some (.int 1), some (.int (nI k)), some (.int (x >>> ((2 + 4 * nI k) &&& 31)))] [] from ?_) c hc hq
          exact s191 _ (by first | omega | (simp only [List.length_append, List.length_cons, List.length_nil]; omega)) (by rw [List.count_append, c120, hv2, Nat.add_zero])
      have s122 : ∀ tu : List Int32, tu.length ≤ 13 * k + 5 → tu.count 59 = k → TT T (0, 0) (p, sn, hi, tu) 122 [some (.ref 0), some (.int x), some (.int (nI n)), some (.int 1), some (.int (nI k)), some (.int (x >>> ((2 + 4 * nI k) &&& 31)))] [] := by
        intro tu hu1 hu2
        refine tt_seg hT (fun pc => Nat.beq pc 125) 60 (fun c hc hq => ?_)
        refine (show TT T (0, 0) (p, sn, hi, tu) 125 [some (.ref 0), some (.int x), some (.int (nI n)), some (.int 1), some (.int (nI k)), some (.int (x >>> ((2 + 4 * nI k) &&& 31)))] [.int 47, .ref 0] from ?_) c hc hq
        refine tt_v1 (W := wAppend) aq_append hT rfl rfl rfl rfl rfl ?_
        rw [show wAppend (p, sn, hi, tu) 47 = ((p, sn, hi, tu ++ [47]), (nI ((tu).length + 1))) from app_ok (q := (p, sn, hi, tx)) (by first | omega | (simp only [List.length_append, List.length_cons, List.length_nil]; omega)) (by decide)]
        show TT T (0, 0) (p, sn, hi, tu ++ [47]) 128 [some (.ref 0), some (.int x), some (.int (nI n)), some (.int 1), some (.int (nI k)), some (.int (x >>> ((2 + 4 * nI k) &&& 31)))] [.int (nI ((tu).length + 1))]
        refine tt_seg hT (fun pc => Nat.beq pc 246 || Nat.beq pc 131) 80 (fun c hc hq => ?_)
        refine And.intro (fun (hb128 : (nI ((tu).length + 1)) ≤ 0) => ?_) (fun (hb128 : ¬ (nI ((tu).length + 1)) ≤ 0) => ?_)
        · exact absurd hb128 (nI_le0 (by first | omega | (simp only [List.length_append, List.length_cons, List.length_nil]; omega)))
        · refine (show TT T (0, 0) (p, sn, hi, tu ++ [47]) 131 [some (.ref 0), some (.int x), some (.int (nI n)), some (.int 1), some (.int (nI k)), some (.int (x >>> ((2 + 4 * nI k) &&& 31)))] [] from ?_) c hc hq
          refine tt_seg hT (fun pc => Nat.beq pc 145) 60 (fun c hc hq => ?_)
          refine And.intro ⟨⟨rfl, rfl⟩, (show ¬ ((7 : Int32) = 0) by decide)⟩ ?_
          refine (show TT T (0, 0) (p, sn, hi, tu ++ [47]) 145 [some (.ref 0), some (.int x), some (.int (nI n)), some (.int 1), some (.int (nI k)), some (.int (x >>> ((2 + 4 * nI k) &&& 31)))] [.int (lowV (x >>> (23 &&& 31)) 7), .int ((x >>> ((2 + 4 * nI k) &&& 31)) >>> (3 &&& 31)), .ref 0] from ?_) c hc hq
          obtain ⟨j145, hj145, ej145⟩ : ∃ j : Nat, j < 7 ∧ lowV (x >>> (23 &&& 31)) 7 = nI j := low_n (x >>> (23 &&& 31)) 7 (by decide) (by decide)
          rw [ej145]
          refine tt_seg hT (fun pc => Nat.beq pc 153 || Nat.beq pc 148) 80 (fun c hc hq => ?_)
          refine And.intro (fun (hb145 : ¬ (nI j145) = 0) => ?_) (fun (hb145 : (nI j145) = 0) => ?_)
          · refine (show TT T (0, 0) (p, sn, hi, tu ++ [47]) 153 [some (.ref 0), some (.int x), some (.int (nI n)), some (.int 1), some (.int (nI k)), some (.int (x >>> ((2 + 4 * nI k) &&& 31)))] [.int ((x >>> ((2 + 4 * nI k) &&& 31)) >>> (3 &&& 31)), .ref 0] from ?_) c hc hq
            refine tt_seg hT (fun pc => Nat.beq pc 158) 60 (fun c hc hq => ?_)
            refine And.intro ⟨⟨rfl, rfl⟩, (show ¬ ((60 : Int32) = 0) by decide)⟩ ?_
            refine (show TT T (0, 0) (p, sn, hi, tu ++ [47]) 158 [some (.ref 0), some (.int x), some (.int (nI n)), some (.int 1), some (.int (nI k)), some (.int (x >>> ((2 + 4 * nI k) &&& 31)))] [.int (lowV ((x >>> ((2 + 4 * nI k) &&& 31)) >>> (3 &&& 31)) 60), .ref 0] from ?_) c hc hq
            obtain ⟨j158, hj158, ej158⟩ : ∃ j : Nat, j < 60 ∧ lowV ((x >>> ((2 + 4 * nI k) &&& 31)) >>> (3 &&& 31)) 60 = nI j := low_n ((x >>> ((2 + 4 * nI k) &&& 31)) >>> (3 &&& 31)) 60 (by decide) (by decide)
            rw [ej158]
            refine tt_seg hT (fun pc => Nat.beq pc 167) 60 (fun c hc hq => ?_)
            refine And.intro ⟨⟨rfl, rfl⟩, (show ¬ ((7 : Int32) = 0) by decide)⟩ ?_
            refine (show TT T (0, 0) (p, sn, hi, tu ++ [47]) 167 [some (.ref 0), some (.int x), some (.int (nI n)), some (.int 1), some (.int (nI k)), some (.int (x >>> ((2 + 4 * nI k) &&& 31)))] [.int (lowV (x >>> (23 &&& 31)) 7), .int (nI j158), .ref 0] from ?_) c hc hq
            obtain ⟨j167, hj167, ej167⟩ : ∃ j : Nat, j < 7 ∧ lowV (x >>> (23 &&& 31)) 7 = nI j := low_n (x >>> (23 &&& 31)) 7 (by decide) (by decide)
            rw [ej167]
            refine tt_seg hT (fun pc => Nat.beq pc 174 || Nat.beq pc 170) 80 (fun c hc hq => ?_)
            refine And.intro (fun (hb167 : ¬ (nI j167) = 0) => ?_) (fun (hb167 : (nI j167) = 0) => ?_)
            · refine (show TT T (0, 0) (p, sn, hi, tu ++ [47]) 174 [some (.ref 0), some (.int x), some (.int (nI n)), some (.int 1), some (.int (nI k)), some (.int (x >>> ((2 + 4 * nI k) &&& 31)))] [.int (nI j158), .ref 0] from ?_) c hc hq
              refine tt_seg hT (fun pc => Nat.beq pc 176) 60 (fun c hc hq => ?_)
              refine (show TT T (0, 0) (p, sn, hi, tu ++ [47]) 176 [some (.ref 0), some (.int x), some (.int (nI n)), some (.int 1), some (.int (nI k)), some (.int (x >>> ((2 + 4 * nI k) &&& 31)))] [.int ((nI j158) + 1), .ref 0] from ?_) c hc hq
              have hv5 : 0 ≤ (((nI j158) + 1)).toInt ∧ (((nI j158) + 1)).toInt < 1000 := by
                have hl := low_to (j := j158) (a := 1) (by omega) (by decide)
                omega
              refine tt_r1 (P := numP) (Q := numQ) hT rfl rfl rfl rfl rfl ⟨⟨hv5.1, by omega⟩, ?_⟩ ?_
              · rw [numE_0 hv5.2]
                show (_ : List Int32).length + _ ≤ 60; first | omega | (simp only [List.length_append, List.length_cons, List.length_nil]; omega)
              rintro q' w' ⟨rfl, l5, y5, ha5, hb5, hc5, rfl⟩
              rw [numE_0 hv5.2] at ha5
              show TT T (0, 0) (p, sn, hi, tu ++ [47] ++ (l5 ++ [y5])) 179 [some (.ref 0), some (.int x), some (.int (nI n)), some (.int 1), some (.int (nI k)), some (.int (x >>> ((2 + 4 * nI k) &&& 31)))] [.int 1]
              refine tt_seg hT (fun pc => Nat.beq pc 246 || Nat.beq pc 182) 80 (fun c hc hq => ?_)
              refine And.intro (fun (hb179 : 1 = 0) => ?_) (fun (hb179 : ¬ 1 = 0) => ?_)
              · exact absurd hb179 (show ¬ (1 : Int32) = 0 by decide)
              · refine (show TT T (0, 0) (p, sn, hi, tu ++ [47] ++ (l5 ++ [y5])) 182 [some (.ref 0), some (.int x), some (.int (nI n)), some (.int 1), some (.int (nI k)), some (.int (x >>> ((2 + 4 * nI k) &&& 31)))] [] from ?_) c hc hq
                exact s182 _ (by first | omega | (simp only [List.length_append, List.length_cons, List.length_nil]; omega)) (by rw [List.count_append, List.count_append, cnt_num hb5 hc5, c47, hu2, Nat.add_zero])
            · refine (show TT T (0, 0) (p, sn, hi, tu ++ [47]) 170 [some (.ref 0), some (.int x), some (.int (nI n)), some (.int 1), some (.int (nI k)), some (.int (x >>> ((2 + 4 * nI k) &&& 31)))] [.int (nI j158), .ref 0] from ?_) c hc hq
              refine tt_seg hT (fun pc => Nat.beq pc 176) 60 (fun c hc hq => ?_)
              refine (show TT T (0, 0) (p, sn, hi, tu ++ [47]) 176 [some (.ref 0), some (.int x), some (.int (nI n)), some (.int 1), some (.int (nI k)), some (.int (x >>> ((2 + 4 * nI k) &&& 31)))] [.int ((nI j158) + 0), .ref 0] from ?_) c hc hq
              have hv6 : 0 ≤ (((nI j158) + 0)).toInt ∧ (((nI j158) + 0)).toInt < 1000 := by
                have hl := low_to (j := j158) (a := 0) (by omega) (by decide)
                omega
              refine tt_r1 (P := numP) (Q := numQ) hT rfl rfl rfl rfl rfl ⟨⟨hv6.1, by omega⟩, ?_⟩ ?_
              · rw [numE_0 hv6.2]
                show (_ : List Int32).length + _ ≤ 60; first | omega | (simp only [List.length_append, List.length_cons, List.length_nil]; omega)
              rintro q' w' ⟨rfl, l6, y6, ha6, hb6, hc6, rfl⟩
              rw [numE_0 hv6.2] at ha6
              show TT T (0, 0) (p, sn, hi, tu ++ [47] ++ (l6 ++ [y6])) 179 [some (.ref 0), some (.int x), some (.int (nI n)), some (.int 1), some (.int (nI k)), some (.int (x >>> ((2 + 4 * nI k) &&& 31)))] [.int 1]
              refine tt_seg hT (fun pc => Nat.beq pc 246 || Nat.beq pc 182) 80 (fun c hc hq => ?_)
              refine And.intro (fun (hb179 : 1 = 0) => ?_) (fun (hb179 : ¬ 1 = 0) => ?_)
              · exact absurd hb179 (show ¬ (1 : Int32) = 0 by decide)
              · refine (show TT T (0, 0) (p, sn, hi, tu ++ [47] ++ (l6 ++ [y6])) 182 [some (.ref 0), some (.int x), some (.int (nI n)), some (.int 1), some (.int (nI k)), some (.int (x >>> ((2 + 4 * nI k) &&& 31)))] [] from ?_) c hc hq
                exact s182 _ (by first | omega | (simp only [List.length_append, List.length_cons, List.length_nil]; omega)) (by rw [List.count_append, List.count_append, cnt_num hb6 hc6, c47, hu2, Nat.add_zero])
          · refine (show TT T (0, 0) (p, sn, hi, tu ++ [47]) 148 [some (.ref 0), some (.int x), some (.int (nI n)), some (.int 1), some (.int (nI k)), some (.int (x >>> ((2 + 4 * nI k) &&& 31)))] [.int ((x >>> ((2 + 4 * nI k) &&& 31)) >>> (3 &&& 31)), .ref 0] from ?_) c hc hq
            refine tt_seg hT (fun pc => Nat.beq pc 158) 60 (fun c hc hq => ?_)
            refine And.intro ⟨⟨rfl, rfl⟩, (show ¬ ((104 : Int32) = 0) by decide)⟩ ?_
            refine (show TT T (0, 0) (p, sn, hi, tu ++ [47]) 158 [some (.ref 0), some (.int x), some (.int (nI n)), some (.int 1), some (.int (nI k)), some (.int (x >>> ((2 + 4 * nI k) &&& 31)))] [.int (lowV ((x >>> ((2 + 4 * nI k) &&& 31)) >>> (3 &&& 31)) 104), .ref 0] from ?_) c hc hq
            obtain ⟨j158, hj158, ej158⟩ : ∃ j : Nat, j < 104 ∧ lowV ((x >>> ((2 + 4 * nI k) &&& 31)) >>> (3 &&& 31)) 104 = nI j := low_n ((x >>> ((2 + 4 * nI k) &&& 31)) >>> (3 &&& 31)) 104 (by decide) (by decide)
            rw [ej158]
            refine tt_seg hT (fun pc => Nat.beq pc 167) 60 (fun c hc hq => ?_)
            refine And.intro ⟨⟨rfl, rfl⟩, (show ¬ ((7 : Int32) = 0) by decide)⟩ ?_
            refine (show TT T (0, 0) (p, sn, hi, tu ++ [47]) 167 [some (.ref 0), some (.int x), some (.int (nI n)), some (.int 1), some (.int (nI k)), some (.int (x >>> ((2 + 4 * nI k) &&& 31)))] [.int (lowV (x >>> (23 &&& 31)) 7), .int (nI j158), .ref 0] from ?_) c hc hq
            obtain ⟨j167, hj167, ej167⟩ : ∃ j : Nat, j < 7 ∧ lowV (x >>> (23 &&& 31)) 7 = nI j := low_n (x >>> (23 &&& 31)) 7 (by decide) (by decide)
            rw [ej167]
            refine tt_seg hT (fun pc => Nat.beq pc 174 || Nat.beq pc 170) 80 (fun c hc hq => ?_)
            refine And.intro (fun (hb167 : ¬ (nI j167) = 0) => ?_) (fun (hb167 : (nI j167) = 0) => ?_)
            · refine (show TT T (0, 0) (p, sn, hi, tu ++ [47]) 174 [some (.ref 0), some (.int x), some (.int (nI n)), some (.int 1), some (.int (nI k)), some (.int (x >>> ((2 + 4 * nI k) &&& 31)))] [.int (nI j158), .ref 0] from ?_) c hc hq
              refine tt_seg hT (fun pc => Nat.beq pc 176) 60 (fun c hc hq => ?_)
              refine (show TT T (0, 0) (p, sn, hi, tu ++ [47]) 176 [some (.ref 0), some (.int x), some (.int (nI n)), some (.int 1), some (.int (nI k)), some (.int (x >>> ((2 + 4 * nI k) &&& 31)))] [.int ((nI j158) + 1), .ref 0] from ?_) c hc hq
              have hv7 : 0 ≤ (((nI j158) + 1)).toInt ∧ (((nI j158) + 1)).toInt < 1000 := by
                have hl := low_to (j := j158) (a := 1) (by omega) (by decide)
                omega
              refine tt_r1 (P := numP) (Q := numQ) hT rfl rfl rfl rfl rfl ⟨⟨hv7.1, by omega⟩, ?_⟩ ?_
              · rw [numE_0 hv7.2]
                show (_ : List Int32).length + _ ≤ 60; first | omega | (simp only [List.length_append, List.length_cons, List.length_nil]; omega)
              rintro q' w' ⟨rfl, l7, y7, ha7, hb7, hc7, rfl⟩
              rw [numE_0 hv7.2] at ha7
              show TT T (0, 0) (p, sn, hi, tu ++ [47] ++ (l7 ++ [y7])) 179 [some (.ref 0), some (.int x), some (.int (nI n)), some (.int 1), some (.int (nI k)), some (.int (x >>> ((2 + 4 * nI k) &&& 31)))] [.int 1]
              refine tt_seg hT (fun pc => Nat.beq pc 246 || Nat.beq pc 182) 80 (fun c hc hq => ?_)
              refine And.intro (fun (hb179 : 1 = 0) => ?_) (fun (hb179 : ¬ 1 = 0) => ?_)
              · exact absurd hb179 (show ¬ (1 : Int32) = 0 by decide)
              · refine (show TT T (0, 0) (p, sn, hi, tu ++ [47] ++ (l7 ++ [y7])) 182 [some (.ref 0), some (.int x), some (.int (nI n)), some (.int 1), some (.int (nI k)), some (.int (x >>> ((2 + 4 * nI k) &&& 31)))] [] from ?_) c hc hq
                exact s182 _ (by first | omega | (simp only [List.length_append, List.length_cons, List.length_nil]; omega)) (by rw [List.count_append, List.count_append, cnt_num hb7 hc7, c47, hu2, Nat.add_zero])
            · refine (show TT T (0, 0) (p, sn, hi, tu ++ [47]) 170 [some (.ref 0), some (.int x), some (.int (nI n)), some (.int 1), some (.int (nI k)), some (.int (x >>> ((2 + 4 * nI k) &&& 31)))] [.int (nI j158), .ref 0] from ?_) c hc hq
              refine tt_seg hT (fun pc => Nat.beq pc 176) 60 (fun c hc hq => ?_)
              refine (show TT T (0, 0) (p, sn, hi, tu ++ [47]) 176 [some (.ref 0), some (.int x), some (.int (nI n)), some (.int 1), some (.int (nI k)), some (.int (x >>> ((2 + 4 * nI k) &&& 31)))] [.int ((nI j158) + 0), .ref 0] from ?_) c hc hq
              have hv8 : 0 ≤ (((nI j158) + 0)).toInt ∧ (((nI j158) + 0)).toInt < 1000 := by
                have hl := low_to (j := j158) (a := 0) (by omega) (by decide)
                omega
              refine tt_r1 (P := numP) (Q := numQ) hT rfl rfl rfl rfl rfl ⟨⟨hv8.1, by omega⟩, ?_⟩ ?_
              · rw [numE_0 hv8.2]
                show (_ : List Int32).length + _ ≤ 60; first | omega | (simp only [List.length_append, List.length_cons, List.length_nil]; omega)
              rintro q' w' ⟨rfl, l8, y8, ha8, hb8, hc8, rfl⟩
              rw [numE_0 hv8.2] at ha8
              show TT T (0, 0) (p, sn, hi, tu ++ [47] ++ (l8 ++ [y8])) 179 [some (.ref 0), some (.int x), some (.int (nI n)), some (.int 1), some (.int (nI k)), some (.int (x >>> ((2 + 4 * nI k) &&& 31)))] [.int 1]
              refine tt_seg hT (fun pc => Nat.beq pc 246 || Nat.beq pc 182) 80 (fun c hc hq => ?_)
              refine And.intro (fun (hb179 : 1 = 0) => ?_) (fun (hb179 : ¬ 1 = 0) => ?_)
              · exact absurd hb179 (show ¬ (1 : Int32) = 0 by decide)
              · refine (show TT T (0, 0) (p, sn, hi, tu ++ [47] ++ (l8 ++ [y8])) 182 [some (.ref 0), some (.int x), some (.int (nI n)), some (.int 1), some (.int (nI k)), some (.int (x >>> ((2 + 4 * nI k) &&& 31)))] [] from ?_) c hc hq
                exact s182 _ (by first | omega | (simp only [List.length_append, List.length_cons, List.length_nil]; omega)) (by rw [List.count_append, List.count_append, cnt_num hb8 hc8, c47, hu2, Nat.add_zero])
      have s56 : ∀ ty : List Int32, ty.length ≤ 13 * k + 1 → ty.count 59 = k → TT T (0, 0) (p, sn, hi, ty) 56 [some (.ref 0), some (.int x), some (.int (nI n)), some (.int 1), some (.int (nI k)), some (.int (x >>> ((2 + 4 * nI k) &&& 31)))] [] := by
        intro ty hy1 hy2
        refine tt_seg hT (fun pc => Nat.beq pc 246 || Nat.beq pc 66) 80 (fun c hc hq => ?_)
        refine And.intro (fun (hb63 : 1 = 0) => ?_) (fun (hb63 : ¬ 1 = 0) => ?_)
        · exact absurd hb63 (show ¬ (1 : Int32) = 0 by decide)
        · refine (show TT T (0, 0) (p, sn, hi, ty) 66 [some (.ref 0), some (.int x), some (.int (nI n)), some (.int 1), some (.int (nI k)), some (.int (x >>> ((2 + 4 * nI k) &&& 31)))] [] from ?_) c hc hq
          refine tt_seg hT (fun pc => Nat.beq pc 72) 60 (fun c hc hq => ?_)
          refine And.intro ⟨⟨rfl, rfl⟩, (show ¬ ((3 : Int32) = 0) by decide)⟩ ?_
          refine (show TT T (0, 0) (p, sn, hi, ty) 72 [some (.ref 0), some (.int x), some (.int (nI n)), some (.int 1), some (.int (nI k)), some (.int (x >>> ((2 + 4 * nI k) &&& 31)))] [.int (lowV (x >>> ((2 + 4 * nI k) &&& 31)) 3)] from ?_) c hc hq
          obtain ⟨j72, hj72, ej72⟩ : ∃ j : Nat, j < 3 ∧ lowV (x >>> ((2 + 4 * nI k) &&& 31)) 3 = nI j := low_n (x >>> ((2 + 4 * nI k) &&& 31)) 3 (by decide) (by decide)
          rw [ej72]
          refine tt_seg hT (fun pc => Nat.beq pc 87 || Nat.beq pc 75) 80 (fun c hc hq => ?_)
          refine And.intro (fun (hb72 : ¬ (nI j72) = 0) => ?_) (fun (hb72 : (nI j72) = 0) => ?_)
          · refine (show TT T (0, 0) (p, sn, hi, ty) 87 [some (.ref 0), some (.int x), some (.int (nI n)), some (.int 1), some (.int (nI k)), some (.int (x >>> ((2 + 4 * nI k) &&& 31)))] [] from ?_) c hc hq
            refine tt_seg hT (fun pc => Nat.beq pc 101) 60 (fun c hc hq => ?_)
            refine And.intro ⟨⟨rfl, rfl⟩, (show ¬ ((7 : Int32) = 0) by decide)⟩ ?_
            refine (show TT T (0, 0) (p, sn, hi, ty) 101 [some (.ref 0), some (.int x), some (.int (nI n)), some (.int 1), some (.int (nI k)), some (.int (x >>> ((2 + 4 * nI k) &&& 31)))] [.int (lowV (x >>> (22 &&& 31)) 7), .int ((x >>> ((2 + 4 * nI k) &&& 31)) >>> (1 &&& 31)), .ref 0] from ?_) c hc hq
            obtain ⟨j101, hj101, ej101⟩ : ∃ j : Nat, j < 7 ∧ lowV (x >>> (22 &&& 31)) 7 = nI j := low_n (x >>> (22 &&& 31)) 7 (by decide) (by decide)
            rw [ej101]
            refine tt_seg hT (fun pc => Nat.beq pc 110 || Nat.beq pc 104) 80 (fun c hc hq => ?_)
            refine And.intro (fun (hb101 : ¬ (nI j101) = 0) => ?_) (fun (hb101 : (nI j101) = 0) => ?_)
            · refine (show TT T (0, 0) (p, sn, hi, ty) 110 [some (.ref 0), some (.int x), some (.int (nI n)), some (.int 1), some (.int (nI k)), some (.int (x >>> ((2 + 4 * nI k) &&& 31)))] [.int ((x >>> ((2 + 4 * nI k) &&& 31)) >>> (1 &&& 31)), .ref 0] from ?_) c hc hq
              refine tt_seg hT (fun pc => Nat.beq pc 116) 60 (fun c hc hq => ?_)
              refine And.intro ⟨⟨rfl, rfl⟩, (show ¬ ((900 : Int32) = 0) by decide)⟩ ?_
              refine (show TT T (0, 0) (p, sn, hi, ty) 116 [some (.ref 0), some (.int x), some (.int (nI n)), some (.int 1), some (.int (nI k)), some (.int (x >>> ((2 + 4 * nI k) &&& 31)))] [.int (lowV ((x >>> ((2 + 4 * nI k) &&& 31)) >>> (1 &&& 31)) 900), .ref 0] from ?_) c hc hq
              obtain ⟨j116, hj116, ej116⟩ : ∃ j : Nat, j < 900 ∧ lowV ((x >>> ((2 + 4 * nI k) &&& 31)) >>> (1 &&& 31)) 900 = nI j := low_n ((x >>> ((2 + 4 * nI k) &&& 31)) >>> (1 &&& 31)) 900 (by decide) (by decide)
              rw [ej116]
              have hv9 : 0 ≤ ((nI j116)).toInt ∧ ((nI j116)).toInt < 1040 := by
                rw [nI_toInt (by omega)]
                omega
              refine tt_r1 (P := numP) (Q := numQ) hT rfl rfl rfl rfl rfl ⟨⟨hv9.1, by omega⟩, ?_⟩ ?_
              · have := numE_1 (nI j116)
                show (_ : List Int32).length + _ ≤ 60; first | omega | (simp only [List.length_append, List.length_cons, List.length_nil]; omega)
              rintro q' w' ⟨rfl, l9, y9, ha9, hb9, hc9, rfl⟩
              have hE9 := numE_1 (nI j116)
              show TT T (0, 0) (p, sn, hi, ty ++ (l9 ++ [y9])) 119 [some (.ref 0), some (.int x), some (.int (nI n)), some (.int 1), some (.int (nI k)), some (.int (x >>> ((2 + 4 * nI k) &&& 31)))] [.int 1]
              refine tt_seg hT (fun pc => Nat.beq pc 246 || Nat.beq pc 122) 80 (fun c hc hq => ?_)
              refine And.intro (fun (hb119 : 1 = 0) => ?_) (fun (hb119 : ¬ 1 = 0) => ?_)
              · exact absurd hb119 (show ¬ (1 : Int32) = 0 by decide)
              · refine (show TT T (0, 0) (p, sn, hi, ty ++ (l9 ++ [y9])) 122 [some (.ref 0), some (.int x), some (.int (nI n)), some (.int 1), some (.int (nI k)), some (.int (x >>> ((2 + 4 * nI k) &&& 31)))] [] from ?_) c hc hq
                exact s122 _ (by first | omega | (simp only [List.length_append, List.length_cons, List.length_nil]; omega)) (by rw [List.count_append, cnt_num hb9 hc9, hy2, Nat.add_zero])
            · refine (show TT T (0, 0) (p, sn, hi, ty) 104 [some (.ref 0), some (.int x), some (.int (nI n)), some (.int 1), some (.int (nI k)), some (.int (x >>> ((2 + 4 * nI k) &&& 31)))] [.int ((x >>> ((2 + 4 * nI k) &&& 31)) >>> (1 &&& 31)), .ref 0] from ?_) c hc hq
              refine tt_seg hT (fun pc => Nat.beq pc 116) 60 (fun c hc hq => ?_)
              refine And.intro ⟨⟨rfl, rfl⟩, (show ¬ ((1040 : Int32) = 0) by decide)⟩ ?_
              refine (show TT T (0, 0) (p, sn, hi, ty) 116 [some (.ref 0), some (.int x), some (.int (nI n)), some (.int 1), some (.int (nI k)), some (.int (x >>> ((2 + 4 * nI k) &&& 31)))] [.int (lowV ((x >>> ((2 + 4 * nI k) &&& 31)) >>> (1 &&& 31)) 1040), .ref 0] from ?_) c hc hq
              obtain ⟨j116, hj116, ej116⟩ : ∃ j : Nat, j < 1040 ∧ lowV ((x >>> ((2 + 4 * nI k) &&& 31)) >>> (1 &&& 31)) 1040 = nI j := low_n ((x >>> ((2 + 4 * nI k) &&& 31)) >>> (1 &&& 31)) 1040 (by decide) (by decide)
              rw [ej116]
              have hv10 : 0 ≤ ((nI j116)).toInt ∧ ((nI j116)).toInt < 1040 := by
                rw [nI_toInt (by omega)]
                omega
              refine tt_r1 (P := numP) (Q := numQ) hT rfl rfl rfl rfl rfl ⟨⟨hv10.1, by omega⟩, ?_⟩ ?_
              · have := numE_1 (nI j116)
                show (_ : List Int32).length + _ ≤ 60; first | omega | (simp only [List.length_append, List.length_cons, List.length_nil]; omega)
              rintro q' w' ⟨rfl, l10, y10, ha10, hb10, hc10, rfl⟩
              have hE10 := numE_1 (nI j116)
              show TT T (0, 0) (p, sn, hi, ty ++ (l10 ++ [y10])) 119 [some (.ref 0), some (.int x), some (.int (nI n)), some (.int 1), some (.int (nI k)), some (.int (x >>> ((2 + 4 * nI k) &&& 31)))] [.int 1]
              refine tt_seg hT (fun pc => Nat.beq pc 246 || Nat.beq pc 122) 80 (fun c hc hq => ?_)
              refine And.intro (fun (hb119 : 1 = 0) => ?_) (fun (hb119 : ¬ 1 = 0) => ?_)
              · exact absurd hb119 (show ¬ (1 : Int32) = 0 by decide)
              · refine (show TT T (0, 0) (p, sn, hi, ty ++ (l10 ++ [y10])) 122 [some (.ref 0), some (.int x), some (.int (nI n)), some (.int 1), some (.int (nI k)), some (.int (x >>> ((2 + 4 * nI k) &&& 31)))] [] from ?_) c hc hq
                exact s122 _ (by first | omega | (simp only [List.length_append, List.length_cons, List.length_nil]; omega)) (by rw [List.count_append, cnt_num hb10 hc10, hy2, Nat.add_zero])
          · refine (show TT T (0, 0) (p, sn, hi, ty) 75 [some (.ref 0), some (.int x), some (.int (nI n)), some (.int 1), some (.int (nI k)), some (.int (x >>> ((2 + 4 * nI k) &&& 31)))] [] from ?_) c hc hq
            refine tt_seg hT (fun pc => Nat.beq pc 78) 60 (fun c hc hq => ?_)
            refine (show TT T (0, 0) (p, sn, hi, ty) 78 [some (.ref 0), some (.int x), some (.int (nI n)), some (.int 1), some (.int (nI k)), some (.int (x >>> ((2 + 4 * nI k) &&& 31)))] [.int 104, .ref 0] from ?_) c hc hq
            refine tt_v1 (W := wAppend) aq_append hT rfl rfl rfl rfl rfl ?_
            rw [show wAppend (p, sn, hi, ty) 104 = ((p, sn, hi, ty ++ [104]), (nI ((ty).length + 1))) from app_ok (q := (p, sn, hi, tx)) (by first | omega | (simp only [List.length_append, List.length_cons, List.length_nil]; omega)) (by decide)]
            show TT T (0, 0) (p, sn, hi, ty ++ [104]) 81 [some (.ref 0), some (.int x), some (.int (nI n)), some (.int 1), some (.int (nI k)), some (.int (x >>> ((2 + 4 * nI k) &&& 31)))] [.int (nI ((ty).length + 1))]
            refine tt_seg hT (fun pc => Nat.beq pc 246 || Nat.beq pc 84) 80 (fun c hc hq => ?_)
            refine And.intro (fun (hb81 : (nI ((ty).length + 1)) ≤ 0) => ?_) (fun (hb81 : ¬ (nI ((ty).length + 1)) ≤ 0) => ?_)
            · exact absurd hb81 (nI_le0 (by first | omega | (simp only [List.length_append, List.length_cons, List.length_nil]; omega)))
            · refine (show TT T (0, 0) (p, sn, hi, ty ++ [104]) 84 [some (.ref 0), some (.int x), some (.int (nI n)), some (.int 1), some (.int (nI k)), some (.int (x >>> ((2 + 4 * nI k) &&& 31)))] [] from ?_) c hc hq
              refine tt_seg hT (fun pc => Nat.beq pc 191) 60 (fun c hc hq => ?_)
              refine (show TT T (0, 0) (p, sn, hi, ty ++ [104]) 191 [some (.ref 0), some (.int x), some (.int (nI n)), some (.int 1), some (.int (nI k)), some (.int (x >>> ((2 + 4 * nI k) &&& 31)))] [] from ?_) c hc hq
              exact s191 _ (by first | omega | (simp only [List.length_append, List.length_cons, List.length_nil]; omega)) (by rw [List.count_append, c104, hy2, Nat.add_zero])
      show TT T (0, 0) (p, sn, hi, tx) 22 [some (.ref 0), some (.int x), some (.int (nI n)), some (.int 1), some (.int (nI k)), none] []
      refine tt_seg hT (fun pc => Nat.beq pc 254 || Nat.beq pc 28) 80 (fun c hc hq => ?_)
      refine And.intro (fun (hb25 : (nI n) ≤ (nI k)) => ?_) (fun (hb25 : ¬ (nI n) ≤ (nI k)) => ?_)
      · exact absurd hb25 (nI_ge hk (by omega))
      · refine (show TT T (0, 0) (p, sn, hi, tx) 28 [some (.ref 0), some (.int x), some (.int (nI n)), some (.int 1), some (.int (nI k)), none] [] from ?_) c hc hq
        refine tt_seg hT (fun pc => Nat.beq pc 60 || Nat.beq pc 42) 80 (fun c hc hq => ?_)
        refine And.intro (fun (hb39 : 1 = 0) => ?_) (fun (hb39 : ¬ 1 = 0) => ?_)
        · exact absurd hb39 (show ¬ (1 : Int32) = 0 by decide)
        · refine (show TT T (0, 0) (p, sn, hi, tx) 42 [some (.ref 0), some (.int x), some (.int (nI n)), some (.int 1), some (.int (nI k)), some (.int (x >>> ((2 + (4 * (nI k))) &&& 31)))] [] from ?_) c hc hq
          refine tt_seg hT (fun pc => Nat.beq pc 56 || Nat.beq pc 47) 80 (fun c hc hq => ?_)
          refine And.intro (fun (hb44 : (nI k) = 0) => ?_) (fun (hb44 : ¬ (nI k) = 0) => ?_)
          · refine (show TT T (0, 0) (p, sn, hi, tx) 56 [some (.ref 0), some (.int x), some (.int (nI n)), some (.int 1), some (.int (nI k)), some (.int (x >>> ((2 + (4 * (nI k))) &&& 31)))] [] from ?_) c hc hq
            exact s56 tx (by have := htx.1; omega) (by have hk0 : k = 0 := (nI_eq (a := k) (b := 0) (by omega) (by decide)).mp hb44; rw [htx.2.1 hk0, hk0, List.count_nil])
          · refine (show TT T (0, 0) (p, sn, hi, tx) 47 [some (.ref 0), some (.int x), some (.int (nI n)), some (.int 1), some (.int (nI k)), some (.int (x >>> ((2 + (4 * (nI k))) &&& 31)))] [] from ?_) c hc hq
            refine tt_seg hT (fun pc => Nat.beq pc 50) 60 (fun c hc hq => ?_)
            refine (show TT T (0, 0) (p, sn, hi, tx) 50 [some (.ref 0), some (.int x), some (.int (nI n)), some (.int 1), some (.int (nI k)), some (.int (x >>> ((2 + (4 * (nI k))) &&& 31)))] [.int 59, .ref 0] from ?_) c hc hq
            refine tt_v1 (W := wAppend) aq_append hT rfl rfl rfl rfl rfl ?_
            rw [show wAppend (p, sn, hi, tx) 59 = ((p, sn, hi, tx ++ [59]), (nI ((tx).length + 1))) from app_ok (q := (p, sn, hi, tx)) (by first | omega | (simp only [List.length_append, List.length_cons, List.length_nil]; omega)) (by decide)]
            show TT T (0, 0) (p, sn, hi, tx ++ [59]) 53 [some (.ref 0), some (.int x), some (.int (nI n)), some (.int 1), some (.int (nI k)), some (.int (x >>> ((2 + (4 * (nI k))) &&& 31)))] [.int (nI ((tx).length + 1))]
            refine tt_seg hT (fun pc => Nat.beq pc 60 || Nat.beq pc 56) 80 (fun c hc hq => ?_)
            refine And.intro (fun (hb53 : (nI ((tx).length + 1)) ≤ 0) => ?_) (fun (hb53 : ¬ (nI ((tx).length + 1)) ≤ 0) => ?_)
            · exact absurd hb53 (nI_le0 (by first | omega | (simp only [List.length_append, List.length_cons, List.length_nil]; omega)))
            · refine (show TT T (0, 0) (p, sn, hi, tx ++ [59]) 56 [some (.ref 0), some (.int x), some (.int (nI n)), some (.int 1), some (.int (nI k)), some (.int (x >>> ((2 + (4 * (nI k))) &&& 31)))] [] from ?_) c hc hq
              exact s56 _ (by have := htx.1; simp only [List.length_append, List.length_cons, List.length_nil]; omega) (by have hk0 : ¬ k = 0 := (fun e => hb44 (by rw [e]; rfl)); have := (htx.2.2 (by omega)).1; rw [List.count_append, c59]; exact this)
    · show TT T (0, 0) (p, sn, hi, tx) 22 [some (.ref 0), some (.int x), some (.int (nI n)), some (.int 1), some (.int (nI n)), none] []
      refine tt_seg hT (fun pc => Nat.beq pc 254 || Nat.beq pc 28) 80 (fun c hc hq => ?_)
      refine And.intro (fun (hb25 : (nI n) ≤ (nI n)) => ?_) (fun (hb25 : ¬ (nI n) ≤ (nI n)) => ?_)
      · refine (show TT T (0, 0) (p, sn, hi, tx) 254 [some (.ref 0), some (.int x), some (.int (nI n)), some (.int 1), some (.int (nI n)), none] [] from ?_) c hc hq
        exact e254 tx htx none
      · exact absurd (nI_le (Nat.le_refl n) (by omega)) hb25
  refine tt_seg hT (fun pc => Nat.beq pc 5) 60 (fun c hc hq => ?_)
  refine And.intro ⟨⟨rfl, rfl⟩, (show ¬ ((5 : Int32) = 0) by decide)⟩ ?_
  refine (show TT T (0, 0) (p, sn, hi, tx0) 5 [some (.ref 0), some (.int x), none, none, none, none] [.int (lowV x 5)] from ?_) c hc hq
  rw [en]
  refine tt_seg hT (fun pc => Nat.beq pc 7) 60 (fun c hc hq => ?_)
  refine (show TT T (0, 0) (p, sn, hi, tx0) 7 [some (.ref 0), some (.int x), some (.int (nI n)), none, none, none] [.ref 0] from ?_) c hc hq
  refine tt_v0 (W := wClear) aq_clear hT rfl rfl rfl rfl rfl ?_
  rw [show wClear (p, sn, hi, tx0) = ((p, sn, hi, []), (nI tx0.length)) from rfl]
  show TT T (0, 0) (p, sn, hi, []) 10 [some (.ref 0), some (.int x), some (.int (nI n)), none, none, none] [.int (nI tx0.length)]
  refine tt_seg hT (fun pc => Nat.beq pc 17 || Nat.beq pc 13) 80 (fun c hc hq => ?_)
  refine And.intro (fun (hb10 : (nI tx0.length) < 0) => ?_) (fun (hb10 : ¬ (nI tx0.length) < 0) => ?_)
  · exact absurd hb10 (nI_pos (by omega))
  · refine (show TT T (0, 0) (p, sn, hi, []) 13 [some (.ref 0), some (.int x), some (.int (nI n)), none, none, none] [] from ?_) c hc hq
    refine tt_seg hT (fun pc => Nat.beq pc 22) 60 (fun c hc hq => ?_)
    refine (show TT T (0, 0) (p, sn, hi, []) 22 [some (.ref 0), some (.int x), some (.int (nI n)), some (.int 1), some (.int 0), none] [] from ?_) c hc hq
    exact loop 0 (Nat.zero_le n) [] ⟨Nat.zero_le _, fun _ => rfl, fun h => absurd h (by decide)⟩
set_option maxRecDepth 10000 in
theorem ct_L_types (l : Launch) : mjCTr l yL_types cL_types 6 (some .boolean) rm_L_types R_L_types :=
  mjCTr_of (own := RL) (G := G_L_types) (plainFor_of_name pn_L) rfl ok_L_types (fun meth hm => ⟨fun pc row h => (I_L_types_ok pc row h).1, (fun _ _ _ _ h => by cases h), List.forall_mem_cons.mpr ⟨⟨yL_low, cL_low, 2, (some .int), rm_L_low, ct_L_low l, ⟨rfl, rfl⟩, ⟨by decide, by decide⟩, by decide, nk_L_low, ln_L_39, st_L_low⟩, List.forall_mem_cons.mpr ⟨⟨yX6_clear, cX6_clear, 2, (some .int), rm_X6_clear, ct_X6_clear l, ⟨rfl, rfl⟩, ⟨by decide, by decide⟩, by decide, by decide, nk_X6_clear, ln_L_54, im_X6_clear, se_X6_clear, rfl⟩, List.forall_mem_cons.mpr ⟨⟨yX6_append, cX6_append, 2, (some .int), rm_X6_append, ct_X6_append l, ⟨rfl, rfl⟩, ⟨by decide, by decide⟩, by decide, by decide, nk_X6_append, ln_L_51, im_X6_append, se_X6_append, rfl⟩, fun _ h => absurd h List.not_mem_nil⟩⟩⟩, (fun _ _ _ h => by cases h), (mjcons_ok CN_L_ok), ⟨Nat.zero_le _, Nat.zero_le _⟩, (fun h => by cases h), (fun h => absurd h (by decide)), List.forall_mem_cons.mpr ⟨⟨yL_number, cL_number, 2, (some .boolean), rm_L_number, ct_L_number l, ⟨rfl, rfl⟩, ⟨by decide, by decide⟩, by decide, nk_L_number, ln_L_58, st_L_number⟩, fun _ h => absurd h List.not_mem_nil⟩⟩) rfl rfl rfl (fun pc row h => (I_L_types_ok pc row h).2)
