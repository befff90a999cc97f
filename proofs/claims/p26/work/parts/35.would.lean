/-! the law: would -/
/-- the object is in its bounds -/
def PI (k : Nat) (p : PSt) : Prop := MI (bK k) (2000 * (k : Int)) p
def QI (k : Nat) (q : QSt) : Prop := PI k q.1 ∧ (∀ p, q.2.1 = some p → PI k p) ∧ (∀ p ∈ q.2.2.1, PI k p) ∧ q.2.2.1.length ≤ 4
theorem PI_mono {k : Nat} {p : PSt} (h : PI k p) : PI (k + 1) p := MI_mono (by omega) (MI_B (bK_le k) h)
theorem QI_mono {k : Nat} {q : QSt} (h : QI k q) : QI (k + 1) q := ⟨PI_mono h.1, fun p hp => PI_mono (h.2.1 p hp), fun p hp => PI_mono (h.2.2.1 p hp), h.2.2.2⟩
def wouldP (q : QSt) (_ : Int32) : Prop := ∃ k : Nat, k ≤ 100 ∧ QI k q
def sameQ (q : QSt) (_ : Int32) (q' : QSt) (w : Value) : Prop := w = .int 1 ∧ q' = q
noncomputable def R_L_would : mjSr := lr1 wouldP sameQ
theorem nI_lt0 {n : Nat} (h : n < 2147483648) : ¬ nI n < 0 := nI_pos h
theorem pred_n {n : Nat} (h : n < 2147483647) : (nI n - 1).toInt = (n : Int) - 1 := by
  rw [ti_sub] <;> rw [nI_toInt (by omega), show (1 : Int32).toInt = 1 from rfl] <;> omega
def rm_L_would : Room := { frames := 7, cells := 0, slots := 0, locals := 153 }
noncomputable def G_L_would : mjG := (I_L_would, (fun _ => none), [(39, 1, 0, 2, 0, 0, S_L_low), (42, 0, 5, 3, 0, 0, S_X6_ifPassed), (45, 0, 5, 3, 0, 0, S_X6_fastest), (48, 0, 5, 2, 0, 0, S_X6_evenIn), (13, 0, 5, 2, 0, 0, S_X6_count)], (fun pc => bif Nat.beq pc 297 then [0, 1, 2, 3, 4, 5, 6, 7, 8, 9, 10, 11, 12, 13, 14, 15, 16, 17, 18, 19, 20, 21, 22, 23, 24, 25, 26, 27, 28, 29, 30, 31, 32, 33, 34, 35, 36, 37, 38, 39, 40, 41, 42, 43, 44, 45, 46] else bif Nat.beq pc 128 then [0, 1, 2, 3, 4, 5, 6, 7, 8, 9, 10, 11, 12, 13, 14, 15, 16, 17, 18, 19, 20, 21, 22, 23, 24, 25, 26, 27, 28, 29, 30, 31, 32, 33, 34, 35, 36, 37, 38, 39, 40, 41, 42, 43, 44, 45, 46] else bif Nat.beq pc 82 then [0, 1, 2, 3, 4, 5, 6, 7, 8, 9, 10, 11, 12, 13, 14, 15, 16, 17, 18, 19, 20, 21, 22, 23, 24, 25, 26, 27, 28, 29, 30, 31, 32, 33, 34, 35, 36, 37, 38, 39, 40, 41, 42, 43, 44, 45, 46] else bif Nat.beq pc 22 then [0, 1, 2, 3, 4, 5, 6, 7, 8, 9, 10, 11, 12, 13, 14, 15, 16, 17, 18, 19, 20, 21, 22, 23, 24, 25, 26, 27, 28, 29, 30, 31, 32, 33, 34, 35, 36, 37, 38, 39, 40, 41, 42, 43, 44, 45, 46] else []), Y0, (fun _ => none), (mjcons CN_L), (some .boolean), 0, 0, false, [])
set_option maxHeartbeats 20000000 in
set_option maxRecDepth 100000 in
theorem ok_L_would : mjOKr G_L_would 12 R_L_would := by
  intro M as hP T hT
  obtain ⟨c0, x, rfl, rfl, hc0, k, hk, hI⟩ : ∃ c x, M = xw c ∧ as = [.ref 0, .int x] ∧ cOk c ∧ wouldP (qOf c) x := ⟨_, _, hP.1.1, hP.1.2, hP.2.1, hP.2.2⟩
  refine (?_ : TT T (0, 0) (qOf c0) 0 [some (.ref 0), some (.int x), none, none, none, none, none, none, none, none, none, none] []) c0 hc0 rfl
  generalize hq0 : qOf c0 = q at hI ⊢
  have hb : bOk (bK k) := bK_ok (by omega)
  have hM : MI (bK k) (2000 * (k : Int)) q.1 := hI.1
  obtain ⟨m, hm, em⟩ : ∃ m : Nat, m < 101 ∧ lowV x 101 = nI m := low_n x 101 (by decide) (by decide)
  obtain ⟨w, hw, ew⟩ : ∃ w : Nat, w < 6 ∧ lowV (x >>> (7 &&& 31)) 6 = nI w := low_n _ 6 (by decide) (by decide)
  obtain ⟨he, hhe, ehe⟩ : ∃ w : Nat, w < 1003 ∧ lowV (x >>> (10 &&& 31)) 1003 = nI w := low_n _ 1003 (by decide) (by decide)
  obtain ⟨sp, hsp, esp⟩ : ∃ w : Nat, w < 14 ∧ lowV (x >>> (3 &&& 31)) 14 = nI w := low_n _ 14 (by decide) (by decide)
  obtain ⟨li, hli, eli⟩ : ∃ w : Nat, w < 503 ∧ lowV (x >>> (5 &&& 31)) 503 = nI w := low_n _ 503 (by decide) (by decide)
  have pw := pred_n (n := w) (by omega)
  have ph := pred_n (n := he) (by omega)
  have pl := pred_n (n := li) (by omega)
  have t0 : (0 : Int32).toInt = 0 := rfl
  have t1 : (1 : Int32).toInt = 1 := rfl
  have t3 : (3 : Int32).toInt = 3 := rfl
  have t4 : (-4 : Int32).toInt = -4 := rfl
  have t60 : (60 : Int32).toInt = 60 := rfl
  have t99 : (99 : Int32).toInt = 99 := rfl
  have t100 : (100 : Int32).toInt = 100 := rfl
  have t500 : (500 : Int32).toInt = 500 := rfl
  have t1000 : (1000 : Int32).toInt = 1000 := rfl
  have tm := nI_toInt (n := m) (by omega)
  have tsp := nI_toInt (n := sp) (by omega)
  have ew1 : 1 ≤ w → nI w - 1 = nI (w - 1) := by
    intro h
    obtain ⟨v, rfl⟩ : ∃ v, w = v + 1 := ⟨w - 1, by omega⟩
    exact nI_pred1 v
  have F1 : ∀ told, told = vIf q.1 (nI m) (nI w - 1) → ((m = 0 ∨ m = 100 ∨ w = 0 ∨ 5 ≤ w) → told = -1) ∧ (¬ (m = 0 ∨ m = 100 ∨ w = 0 ∨ 5 ≤ w) → (w = 1 → ∃ k : Nat, k ≤ m ∧ k ≤ 60 ∧ told = nI k) ∧ (w = 2 → told = -4 ∨ ∃ i : Nat, 1 ≤ i ∧ i ≤ m ∧ told = nI i) ∧ (w = 3 → 0 ≤ told.toInt)) := by
    intro told e
    refine ⟨fun h => ?_, fun h => ?_⟩
    · rw [e]
      refine if_bad (fun h2 => ?_)
      have a := out_bd h2.1
      have b := out_bd h2.2
      rw [tm] at a
      rw [pw] at b
      omega
    · rw [ew1 (by omega)] at e
      have := if_ok hb hM (by omega) (n := m) (w := w - 1) (by omega) (by omega) (by omega)
      rw [← e] at this
      exact ⟨fun h => this.1 (by omega), fun h => this.2.1 (by omega), fun h => this.2.2 (by omega)⟩
  have F2 : ∀ rt, rt = vFast q.1 (nI he - 1) (nI sp) → ((he = 0 ∨ 1002 ≤ he ∨ sp = 0) → rt = -1) ∧ (¬ (he = 0 ∨ 1002 ≤ he ∨ sp = 0) → rt = -4 ∨ ∃ i : Nat, 1 ≤ i ∧ i ≤ 100 ∧ rt = nI i) := by
    intro rt e
    unfold vFast at e
    refine ⟨fun h => ?_, fun h => ?_⟩
    · by_cases g1 : gOut (nI he - 1) 0 1000 = 0
      · rw [if_pos g1, if_neg (gOut_no (by rw [tsp]; have := out_bd g1; rw [ph] at this; omega))] at e
        exact e
      · rw [if_neg g1] at e
        exact e
    · rw [if_pos (gOut_of (by rw [ph]; omega)), if_pos (gOut_of (by rw [tsp]; omega))] at e
      rw [e]
      exact fast_bd _ _ _ _
  have F3 : ∀ ev, ev = vEven q.1 (nI li - 1) → ((li = 0 ∨ 502 ≤ li) → ev = -1) ∧ (¬ (li = 0 ∨ 502 ≤ li) → (ev = -4 ∨ ∃ j : Nat, j ≤ 99 ∧ ev = nI j) ∧ (ev = 0 ↔ vCount q 9 ≤ nI li - 1)) := by
    intro ev e
    unfold vEven at e
    refine ⟨fun h => ?_, fun h => ?_⟩
    · rw [if_neg (gOut_no (by rw [pl]; omega))] at e
      exact e
    · rw [if_pos (gOut_of (by rw [pl]; omega))] at e
      rw [e]
      refine ⟨?_, even_0 _ _⟩
      rcases even_bd (nI li - 1) 100 0 q.1 with h2 | ⟨j, a, b, c⟩
      · exact Or.inl h2
      · exact Or.inr ⟨j, by omega, c⟩

  have body : ∀ told, told = vIf q.1 (nI m) ((nI w) - 1) → ∀ rt, rt = vFast q.1 ((nI he) - 1) (nI sp) → ∀ ev, ev = vEven q.1 ((nI li) - 1) → ∀ b no, (b = 1 ∧ (m = 0 ∨ m = 100 ∨ w = 0 ∨ 5 ≤ w)) ∨ (b = 0 ∧ ¬ (m = 0 ∨ m = 100 ∨ w = 0 ∨ 5 ≤ w)) → (no = 1 ∧ (he = 0 ∨ 1002 ≤ he ∨ sp = 0)) ∨ (no = 0 ∧ ¬ (he = 0 ∨ 1002 ≤ he ∨ sp = 0)) → TT T (0, 0) q 133 [some (.ref 0), some (.int x), some (.int (nI m)), some (.int ((nI w) - 1)), some (.int told), some (.int b), some (.int ((nI he) - 1)), some (.int (nI sp)), some (.int rt), some (.int no), some (.int ((nI li) - 1)), some (.int ev)] [] := by
    intro told e1 rt e2 ev e3 b no hbb hno
    have f1 := F1 told e1
    have f2 := F2 rt e2
    have f3 := F3 ev e3
    have s313 : TT T (0, 0) q 313 [some (.ref 0), some (.int x), some (.int (nI m)), some (.int ((nI w) - 1)), some (.int told), some (.int b), some (.int ((nI he) - 1)), some (.int (nI sp)), some (.int rt), some (.int no), some (.int ((nI li) - 1)), some (.int ev)] [] := by
      refine tt_seg hT (fun pc => Nat.beq pc 318) 60 (fun c hc hq => ?_)
      refine (show TT T (0, 0) q 318 [some (.ref 0), some (.int x), some (.int (nI m)), some (.int ((nI w) - 1)), some (.int told), some (.int b), some (.int ((nI he) - 1)), some (.int (nI sp)), some (.int rt), some (.int no), some (.int ((nI li) - 1)), some (.int ev)] [.int 1] from ?_) c hc hq
      exact tt_ret hT rfl rfl (fun c hc hq => ⟨rfl, c, .int 1, rfl, hc, rfl, fun _ => rfl, by rw [hq]; exact ⟨rfl, by rw [show qOf (rX (xw c0)) = q from hq0]⟩⟩)
    have s256 : (li = 0 ∨ 502 ≤ li) → TT T (0, 0) q 256 [some (.ref 0), some (.int x), some (.int (nI m)), some (.int ((nI w) - 1)), some (.int told), some (.int b), some (.int ((nI he) - 1)), some (.int (nI sp)), some (.int rt), some (.int no), some (.int ((nI li) - 1)), some (.int ev)] [] := by
      intro hl
      refine tt_seg hT (fun pc => Nat.beq pc 317 || Nat.beq pc 262) 80 (fun c hc hq => ?_)
      refine And.intro (fun (hb259 : ¬ ev = (-1)) => ?_) (fun (hb259 : ev = (-1)) => ?_)
      · exact absurd (f3.1 hl) hb259
      · refine (show TT T (0, 0) q 262 [some (.ref 0), some (.int x), some (.int (nI m)), some (.int ((nI w) - 1)), some (.int told), some (.int b), some (.int ((nI he) - 1)), some (.int (nI sp)), some (.int rt), some (.int no), some (.int ((nI li) - 1)), some (.int ev)] [] from ?_) c hc hq
        refine tt_seg hT (fun pc => Nat.beq pc 313) 60 (fun c hc hq => ?_)
        refine (show TT T (0, 0) q 313 [some (.ref 0), some (.int x), some (.int (nI m)), some (.int ((nI w) - 1)), some (.int told), some (.int b), some (.int ((nI he) - 1)), some (.int (nI sp)), some (.int rt), some (.int no), some (.int ((nI li) - 1)), some (.int ev)] [] from ?_) c hc hq
        exact s313
    have s265 : ¬ (li = 0 ∨ 502 ≤ li) → TT T (0, 0) q 265 [some (.ref 0), some (.int x), some (.int (nI m)), some (.int ((nI w) - 1)), some (.int told), some (.int b), some (.int ((nI he) - 1)), some (.int (nI sp)), some (.int rt), some (.int no), some (.int ((nI li) - 1)), some (.int ev)] [] := by
      intro hl
      refine tt_seg hT (fun pc => Nat.beq pc 313 || Nat.beq pc 272) 80 (fun c hc hq => ?_)
      refine And.intro (fun (hb269 : ev = (-4)) => ?_) (fun (hb269 : ¬ ev = (-4)) => ?_)
      · refine (show TT T (0, 0) q 313 [some (.ref 0), some (.int x), some (.int (nI m)), some (.int ((nI w) - 1)), some (.int told), some (.int b), some (.int ((nI he) - 1)), some (.int (nI sp)), some (.int rt), some (.int no), some (.int ((nI li) - 1)), some (.int ev)] [] from ?_) c hc hq
        exact s313
      · refine (show TT T (0, 0) q 272 [some (.ref 0), some (.int x), some (.int (nI m)), some (.int ((nI w) - 1)), some (.int told), some (.int b), some (.int ((nI he) - 1)), some (.int (nI sp)), some (.int rt), some (.int no), some (.int ((nI li) - 1)), some (.int ev)] [] from ?_) c hc hq
        have hj : ∃ j : Nat, j ≤ 99 ∧ ev = nI j := (f3.2 hl).1.resolve_left hb269
        refine tt_seg hT (fun pc => Nat.beq pc 317 || Nat.beq pc 277) 80 (fun c hc hq => ?_)
        refine And.intro (fun (hb274 : ev < 0) => ?_) (fun (hb274 : ¬ ev < 0) => ?_)
        · exact absurd hb274 (by obtain ⟨j, j1, rfl⟩ := hj; exact nI_pos (by omega))
        · refine (show TT T (0, 0) q 277 [some (.ref 0), some (.int x), some (.int (nI m)), some (.int ((nI w) - 1)), some (.int told), some (.int b), some (.int ((nI he) - 1)), some (.int (nI sp)), some (.int rt), some (.int no), some (.int ((nI li) - 1)), some (.int ev)] [] from ?_) c hc hq
          refine tt_seg hT (fun pc => Nat.beq pc 317 || Nat.beq pc 284) 80 (fun c hc hq => ?_)
          refine And.intro (fun (hb281 : 99 < ev) => ?_) (fun (hb281 : ¬ 99 < ev) => ?_)
          · exact absurd hb281 (by obtain ⟨j, j1, rfl⟩ := hj; exact Int32.not_lt.mpr (show nI j ≤ nI 99 from nI_le j1 (by decide)))
          · refine (show TT T (0, 0) q 284 [some (.ref 0), some (.int x), some (.int (nI m)), some (.int ((nI w) - 1)), some (.int told), some (.int b), some (.int ((nI he) - 1)), some (.int (nI sp)), some (.int rt), some (.int no), some (.int ((nI li) - 1)), some (.int ev)] [] from ?_) c hc hq
            refine tt_seg hT (fun pc => Nat.beq pc 293 || Nat.beq pc 289) 80 (fun c hc hq => ?_)
            refine And.intro (fun (hb286 : ¬ ev = 0) => ?_) (fun (hb286 : ev = 0) => ?_)
            · refine (show TT T (0, 0) q 293 [some (.ref 0), some (.int x), some (.int (nI m)), some (.int ((nI w) - 1)), some (.int told), some (.int b), some (.int ((nI he) - 1)), some (.int (nI sp)), some (.int rt), some (.int no), some (.int ((nI li) - 1)), some (.int ev)] [] from ?_) c hc hq
              refine tt_seg hT (fun pc => Nat.beq pc 297) 60 (fun c hc hq => ?_)
              refine (show TT T (0, 0) q 297 [some (.ref 0), some (.int x), some (.int (nI m)), some (.int ((nI w) - 1)), some (.int told), some (.int b), some (.int ((nI he) - 1)), some (.int (nI sp)), some (.int rt), some (.int no), some (.int ((nI li) - 1)), some (.int ev)] [.int 9, .ref 0, .int 0] from ?_) c hc hq
              refine tt_v1 (W := fun q x => (q, vCount q x)) lq_count hT rfl rfl rfl rfl rfl ?_
              show TT T (0, 0) q 300 [some (.ref 0), some (.int x), some (.int (nI m)), some (.int ((nI w) - 1)), some (.int told), some (.int b), some (.int ((nI he) - 1)), some (.int (nI sp)), some (.int rt), some (.int no), some (.int ((nI li) - 1)), some (.int ev)] [.int (vCount q 9), .int 0]
              refine tt_seg hT (fun pc => Nat.beq pc 309 || Nat.beq pc 305) 80 (fun c hc hq => ?_)
              refine And.intro (fun (hb302 : ((nI li) - 1) < (vCount q 9)) => ?_) (fun (hb302 : ¬ ((nI li) - 1) < (vCount q 9)) => ?_)
              · refine (show TT T (0, 0) q 309 [some (.ref 0), some (.int x), some (.int (nI m)), some (.int ((nI w) - 1)), some (.int told), some (.int b), some (.int ((nI he) - 1)), some (.int (nI sp)), some (.int rt), some (.int no), some (.int ((nI li) - 1)), some (.int ev)] [.int 0] from ?_) c hc hq
                refine tt_seg hT (fun pc => Nat.beq pc 317 || Nat.beq pc 313) 80 (fun c hc hq => ?_)
                refine And.intro (fun (hb310 : ¬ 0 = 0) => ?_) (fun (hb310 : 0 = 0) => ?_)
                · exact absurd (rfl) hb310
                · refine (show TT T (0, 0) q 313 [some (.ref 0), some (.int x), some (.int (nI m)), some (.int ((nI w) - 1)), some (.int told), some (.int b), some (.int ((nI he) - 1)), some (.int (nI sp)), some (.int rt), some (.int no), some (.int ((nI li) - 1)), some (.int ev)] [] from ?_) c hc hq
                  exact s313
              · refine (show TT T (0, 0) q 305 [some (.ref 0), some (.int x), some (.int (nI m)), some (.int ((nI w) - 1)), some (.int told), some (.int b), some (.int ((nI he) - 1)), some (.int (nI sp)), some (.int rt), some (.int no), some (.int ((nI li) - 1)), some (.int ev)] [.int 0] from ?_) c hc hq
                exact absurd ((f3.2 hl).2.mpr (Int32.not_lt.mp hb302)) hb286
            · refine (show TT T (0, 0) q 289 [some (.ref 0), some (.int x), some (.int (nI m)), some (.int ((nI w) - 1)), some (.int told), some (.int b), some (.int ((nI he) - 1)), some (.int (nI sp)), some (.int rt), some (.int no), some (.int ((nI li) - 1)), some (.int ev)] [] from ?_) c hc hq
              refine tt_seg hT (fun pc => Nat.beq pc 297) 60 (fun c hc hq => ?_)
              refine (show TT T (0, 0) q 297 [some (.ref 0), some (.int x), some (.int (nI m)), some (.int ((nI w) - 1)), some (.int told), some (.int b), some (.int ((nI he) - 1)), some (.int (nI sp)), some (.int rt), some (.int no), some (.int ((nI li) - 1)), some (.int ev)] [.int 9, .ref 0, .int 1] from ?_) c hc hq
              refine tt_v1 (W := fun q x => (q, vCount q x)) lq_count hT rfl rfl rfl rfl rfl ?_
              show TT T (0, 0) q 300 [some (.ref 0), some (.int x), some (.int (nI m)), some (.int ((nI w) - 1)), some (.int told), some (.int b), some (.int ((nI he) - 1)), some (.int (nI sp)), some (.int rt), some (.int no), some (.int ((nI li) - 1)), some (.int ev)] [.int (vCount q 9), .int 1]
              refine tt_seg hT (fun pc => Nat.beq pc 309 || Nat.beq pc 305) 80 (fun c hc hq => ?_)
              refine And.intro (fun (hb302 : ((nI li) - 1) < (vCount q 9)) => ?_) (fun (hb302 : ¬ ((nI li) - 1) < (vCount q 9)) => ?_)
              · refine (show TT T (0, 0) q 309 [some (.ref 0), some (.int x), some (.int (nI m)), some (.int ((nI w) - 1)), some (.int told), some (.int b), some (.int ((nI he) - 1)), some (.int (nI sp)), some (.int rt), some (.int no), some (.int ((nI li) - 1)), some (.int ev)] [.int 1] from ?_) c hc hq
                exact absurd ((f3.2 hl).2.mp hb286) (Int32.not_le.mpr hb302)
              · refine (show TT T (0, 0) q 305 [some (.ref 0), some (.int x), some (.int (nI m)), some (.int ((nI w) - 1)), some (.int told), some (.int b), some (.int ((nI he) - 1)), some (.int (nI sp)), some (.int rt), some (.int no), some (.int ((nI li) - 1)), some (.int ev)] [.int 1] from ?_) c hc hq
                refine tt_seg hT (fun pc => Nat.beq pc 317 || Nat.beq pc 313) 80 (fun c hc hq => ?_)
                refine And.intro (fun (hb310 : ¬ 1 = 1) => ?_) (fun (hb310 : 1 = 1) => ?_)
                · exact absurd (rfl) hb310
                · refine (show TT T (0, 0) q 313 [some (.ref 0), some (.int x), some (.int (nI m)), some (.int ((nI w) - 1)), some (.int told), some (.int b), some (.int ((nI he) - 1)), some (.int (nI sp)), some (.int rt), some (.int no), some (.int ((nI li) - 1)), some (.int ev)] [] from ?_) c hc hq
                  exact s313
    have s243 : TT T (0, 0) q 243 [some (.ref 0), some (.int x), some (.int (nI m)), some (.int ((nI w) - 1)), some (.int told), some (.int b), some (.int ((nI he) - 1)), some (.int (nI sp)), some (.int rt), some (.int no), some (.int ((nI li) - 1)), some (.int ev)] [] := by
      refine tt_seg hT (fun pc => Nat.beq pc 256 || Nat.beq pc 248) 80 (fun c hc hq => ?_)
      refine And.intro (fun (hb245 : ((nI li) - 1) < 0) => ?_) (fun (hb245 : ¬ ((nI li) - 1) < 0) => ?_)
      · refine (show TT T (0, 0) q 256 [some (.ref 0), some (.int x), some (.int (nI m)), some (.int ((nI w) - 1)), some (.int told), some (.int b), some (.int ((nI he) - 1)), some (.int (nI sp)), some (.int rt), some (.int no), some (.int ((nI li) - 1)), some (.int ev)] [] from ?_) c hc hq
        exact s256 (by first | (rw [Int32.lt_iff_toInt_lt] at hb245; omega) | (rw [Int32.lt_iff_toInt_lt] at hb245; rw [Int32.le_iff_toInt_le] at hb253; omega))
      · refine (show TT T (0, 0) q 248 [some (.ref 0), some (.int x), some (.int (nI m)), some (.int ((nI w) - 1)), some (.int told), some (.int b), some (.int ((nI he) - 1)), some (.int (nI sp)), some (.int rt), some (.int no), some (.int ((nI li) - 1)), some (.int ev)] [] from ?_) c hc hq
        refine tt_seg hT (fun pc => Nat.beq pc 265 || Nat.beq pc 256) 80 (fun c hc hq => ?_)
        refine And.intro (fun (hb253 : ((nI li) - 1) ≤ 500) => ?_) (fun (hb253 : ¬ ((nI li) - 1) ≤ 500) => ?_)
        · refine (show TT T (0, 0) q 265 [some (.ref 0), some (.int x), some (.int (nI m)), some (.int ((nI w) - 1)), some (.int told), some (.int b), some (.int ((nI he) - 1)), some (.int (nI sp)), some (.int rt), some (.int no), some (.int ((nI li) - 1)), some (.int ev)] [] from ?_) c hc hq
          exact s265 (by first | (rw [Int32.lt_iff_toInt_lt] at hb245; omega) | (rw [Int32.lt_iff_toInt_lt] at hb245; rw [Int32.le_iff_toInt_le] at hb253; omega))
        · refine (show TT T (0, 0) q 256 [some (.ref 0), some (.int x), some (.int (nI m)), some (.int ((nI w) - 1)), some (.int told), some (.int b), some (.int ((nI he) - 1)), some (.int (nI sp)), some (.int rt), some (.int no), some (.int ((nI li) - 1)), some (.int ev)] [] from ?_) c hc hq
          exact s256 (by first | (rw [Int32.lt_iff_toInt_lt] at hb245; omega) | (rw [Int32.lt_iff_toInt_lt] at hb245; rw [Int32.le_iff_toInt_le] at hb253; omega))
    have s209 : TT T (0, 0) q 209 [some (.ref 0), some (.int x), some (.int (nI m)), some (.int ((nI w) - 1)), some (.int told), some (.int b), some (.int ((nI he) - 1)), some (.int (nI sp)), some (.int rt), some (.int no), some (.int ((nI li) - 1)), some (.int ev)] [] := by
      refine tt_seg hT (fun pc => Nat.beq pc 223 || Nat.beq pc 214) 80 (fun c hc hq => ?_)
      refine And.intro (fun (hb211 : no = 0) => ?_) (fun (hb211 : ¬ no = 0) => ?_)
      · refine (show TT T (0, 0) q 223 [some (.ref 0), some (.int x), some (.int (nI m)), some (.int ((nI w) - 1)), some (.int told), some (.int b), some (.int ((nI he) - 1)), some (.int (nI sp)), some (.int rt), some (.int no), some (.int ((nI li) - 1)), some (.int ev)] [] from ?_) c hc hq
        refine tt_seg hT (fun pc => Nat.beq pc 243 || Nat.beq pc 230) 80 (fun c hc hq => ?_)
        refine And.intro (fun (hb227 : rt = (-4)) => ?_) (fun (hb227 : ¬ rt = (-4)) => ?_)
        · refine (show TT T (0, 0) q 243 [some (.ref 0), some (.int x), some (.int (nI m)), some (.int ((nI w) - 1)), some (.int told), some (.int b), some (.int ((nI he) - 1)), some (.int (nI sp)), some (.int rt), some (.int no), some (.int ((nI li) - 1)), some (.int ev)] [] from ?_) c hc hq
          exact s243
        · refine (show TT T (0, 0) q 230 [some (.ref 0), some (.int x), some (.int (nI m)), some (.int ((nI w) - 1)), some (.int told), some (.int b), some (.int ((nI he) - 1)), some (.int (nI sp)), some (.int rt), some (.int no), some (.int ((nI li) - 1)), some (.int ev)] [] from ?_) c hc hq
          have hj : ∃ i : Nat, 1 ≤ i ∧ i ≤ 100 ∧ rt = nI i := (f2.2 (by rcases hno with h | h; exact absurd (hb211.symm.trans h.1) (by decide); exact h.2)).resolve_left hb227
          refine tt_seg hT (fun pc => Nat.beq pc 317 || Nat.beq pc 236) 80 (fun c hc hq => ?_)
          refine And.intro (fun (hb233 : rt < 1) => ?_) (fun (hb233 : ¬ rt < 1) => ?_)
          · exact absurd hb233 (by obtain ⟨j, j1, j2, rfl⟩ := hj; exact show ¬ nI j < nI 1 from nI_nlt j1 (by omega))
          · refine (show TT T (0, 0) q 236 [some (.ref 0), some (.int x), some (.int (nI m)), some (.int ((nI w) - 1)), some (.int told), some (.int b), some (.int ((nI he) - 1)), some (.int (nI sp)), some (.int rt), some (.int no), some (.int ((nI li) - 1)), some (.int ev)] [] from ?_) c hc hq
            refine tt_seg hT (fun pc => Nat.beq pc 317 || Nat.beq pc 243) 80 (fun c hc hq => ?_)
            refine And.intro (fun (hb240 : 100 < rt) => ?_) (fun (hb240 : ¬ 100 < rt) => ?_)
            · exact absurd hb240 (by obtain ⟨j, j1, j2, rfl⟩ := hj; exact Int32.not_lt.mpr (show nI j ≤ nI 100 from nI_le j2 (by decide)))
            · refine (show TT T (0, 0) q 243 [some (.ref 0), some (.int x), some (.int (nI m)), some (.int ((nI w) - 1)), some (.int told), some (.int b), some (.int ((nI he) - 1)), some (.int (nI sp)), some (.int rt), some (.int no), some (.int ((nI li) - 1)), some (.int ev)] [] from ?_) c hc hq
              exact s243
      · refine (show TT T (0, 0) q 214 [some (.ref 0), some (.int x), some (.int (nI m)), some (.int ((nI w) - 1)), some (.int told), some (.int b), some (.int ((nI he) - 1)), some (.int (nI sp)), some (.int rt), some (.int no), some (.int ((nI li) - 1)), some (.int ev)] [] from ?_) c hc hq
        refine tt_seg hT (fun pc => Nat.beq pc 317 || Nat.beq pc 220) 80 (fun c hc hq => ?_)
        refine And.intro (fun (hb217 : ¬ rt = (-1)) => ?_) (fun (hb217 : rt = (-1)) => ?_)
        · exact absurd (by rcases hno with h | h; exact f2.1 h.2; exact absurd h.1 hb211) hb217
        · refine (show TT T (0, 0) q 220 [some (.ref 0), some (.int x), some (.int (nI m)), some (.int ((nI w) - 1)), some (.int told), some (.int b), some (.int ((nI he) - 1)), some (.int (nI sp)), some (.int rt), some (.int no), some (.int ((nI li) - 1)), some (.int ev)] [] from ?_) c hc hq
          refine tt_seg hT (fun pc => Nat.beq pc 243) 60 (fun c hc hq => ?_)
          refine (show TT T (0, 0) q 243 [some (.ref 0), some (.int x), some (.int (nI m)), some (.int ((nI w) - 1)), some (.int told), some (.int b), some (.int ((nI he) - 1)), some (.int (nI sp)), some (.int rt), some (.int no), some (.int ((nI li) - 1)), some (.int ev)] [] from ?_) c hc hq
          exact s243
    refine tt_seg hT (fun pc => Nat.beq pc 147 || Nat.beq pc 138) 80 (fun c hc hq => ?_)
    refine And.intro (fun (hb135 : b = 0) => ?_) (fun (hb135 : ¬ b = 0) => ?_)
    · refine (show TT T (0, 0) q 147 [some (.ref 0), some (.int x), some (.int (nI m)), some (.int ((nI w) - 1)), some (.int told), some (.int b), some (.int ((nI he) - 1)), some (.int (nI sp)), some (.int rt), some (.int no), some (.int ((nI li) - 1)), some (.int ev)] [] from ?_) c hc hq
      refine tt_seg hT (fun pc => Nat.beq pc 172 || Nat.beq pc 151) 80 (fun c hc hq => ?_)
      refine And.intro (fun (hb148 : ¬ ((nI w) - 1) = 0) => ?_) (fun (hb148 : ((nI w) - 1) = 0) => ?_)
      · refine (show TT T (0, 0) q 172 [some (.ref 0), some (.int x), some (.int (nI m)), some (.int ((nI w) - 1)), some (.int told), some (.int b), some (.int ((nI he) - 1)), some (.int (nI sp)), some (.int rt), some (.int no), some (.int ((nI li) - 1)), some (.int ev)] [] from ?_) c hc hq
        refine tt_seg hT (fun pc => Nat.beq pc 199 || Nat.beq pc 177) 80 (fun c hc hq => ?_)
        refine And.intro (fun (hb174 : ¬ ((nI w) - 1) = 1) => ?_) (fun (hb174 : ((nI w) - 1) = 1) => ?_)
        · refine (show TT T (0, 0) q 199 [some (.ref 0), some (.int x), some (.int (nI m)), some (.int ((nI w) - 1)), some (.int told), some (.int b), some (.int ((nI he) - 1)), some (.int (nI sp)), some (.int rt), some (.int no), some (.int ((nI li) - 1)), some (.int ev)] [] from ?_) c hc hq
          refine tt_seg hT (fun pc => Nat.beq pc 209 || Nat.beq pc 204) 80 (fun c hc hq => ?_)
          refine And.intro (fun (hb201 : ((nI w) - 1) = 3) => ?_) (fun (hb201 : ¬ ((nI w) - 1) = 3) => ?_)
          · refine (show TT T (0, 0) q 209 [some (.ref 0), some (.int x), some (.int (nI m)), some (.int ((nI w) - 1)), some (.int told), some (.int b), some (.int ((nI he) - 1)), some (.int (nI sp)), some (.int rt), some (.int no), some (.int ((nI li) - 1)), some (.int ev)] [] from ?_) c hc hq
            exact s209
          · refine (show TT T (0, 0) q 204 [some (.ref 0), some (.int x), some (.int (nI m)), some (.int ((nI w) - 1)), some (.int told), some (.int b), some (.int ((nI he) - 1)), some (.int (nI sp)), some (.int rt), some (.int no), some (.int ((nI li) - 1)), some (.int ev)] [] from ?_) c hc hq
            refine tt_seg hT (fun pc => Nat.beq pc 317 || Nat.beq pc 209) 80 (fun c hc hq => ?_)
            refine And.intro (fun (hb206 : told < 0) => ?_) (fun (hb206 : ¬ told < 0) => ?_)
            · exact absurd hb206 (by have hz : 0 ≤ told.toInt := (f1.2 (by rcases hbb with h | h; exact absurd (hb135.symm.trans h.1) (by decide); exact h.2)).2.2 (by have h5 : ((nI w) - 1).toInt ≠ 0 := (fun e => hb148 (Int32.toInt_inj.mp (e.trans t0.symm))); have h6 : ((nI w) - 1).toInt ≠ 1 := (fun e => hb174 (Int32.toInt_inj.mp (e.trans t1.symm))); have h7 : ((nI w) - 1).toInt ≠ 3 := (fun e => hb201 (Int32.toInt_inj.mp (e.trans t3.symm))); have h8 : ¬ (m = 0 ∨ m = 100 ∨ w = 0 ∨ 5 ≤ w) := (by rcases hbb with h | h; exact absurd (hb135.symm.trans h.1) (by decide); exact h.2); omega); rw [Int32.lt_iff_toInt_lt, t0]; omega)
            · refine (show TT T (0, 0) q 209 [some (.ref 0), some (.int x), some (.int (nI m)), some (.int ((nI w) - 1)), some (.int told), some (.int b), some (.int ((nI he) - 1)), some (.int (nI sp)), some (.int rt), some (.int no), some (.int ((nI li) - 1)), some (.int ev)] [] from ?_) c hc hq
              exact s209
        · refine (show TT T (0, 0) q 177 [some (.ref 0), some (.int x), some (.int (nI m)), some (.int ((nI w) - 1)), some (.int told), some (.int b), some (.int ((nI he) - 1)), some (.int (nI sp)), some (.int rt), some (.int no), some (.int ((nI li) - 1)), some (.int ev)] [] from ?_) c hc hq
          refine tt_seg hT (fun pc => Nat.beq pc 209 || Nat.beq pc 184) 80 (fun c hc hq => ?_)
          refine And.intro (fun (hb181 : told = (-4)) => ?_) (fun (hb181 : ¬ told = (-4)) => ?_)
          · refine (show TT T (0, 0) q 209 [some (.ref 0), some (.int x), some (.int (nI m)), some (.int ((nI w) - 1)), some (.int told), some (.int b), some (.int ((nI he) - 1)), some (.int (nI sp)), some (.int rt), some (.int no), some (.int ((nI li) - 1)), some (.int ev)] [] from ?_) c hc hq
            exact s209
          · refine (show TT T (0, 0) q 184 [some (.ref 0), some (.int x), some (.int (nI m)), some (.int ((nI w) - 1)), some (.int told), some (.int b), some (.int ((nI he) - 1)), some (.int (nI sp)), some (.int rt), some (.int no), some (.int ((nI li) - 1)), some (.int ev)] [] from ?_) c hc hq
            have hj : ∃ i : Nat, 1 ≤ i ∧ i ≤ m ∧ told = nI i := ((f1.2 (by rcases hbb with h | h; exact absurd (hb135.symm.trans h.1) (by decide); exact h.2)).2.1 (by have := congrArg Int32.toInt hb174; rw [pw, t1] at this; omega)).resolve_left hb181
            refine tt_seg hT (fun pc => Nat.beq pc 317 || Nat.beq pc 190) 80 (fun c hc hq => ?_)
            refine And.intro (fun (hb187 : told < 1) => ?_) (fun (hb187 : ¬ told < 1) => ?_)
            · exact absurd hb187 (by obtain ⟨j, j1, j2, rfl⟩ := hj; exact show ¬ nI j < nI 1 from nI_nlt j1 (by omega))
            · refine (show TT T (0, 0) q 190 [some (.ref 0), some (.int x), some (.int (nI m)), some (.int ((nI w) - 1)), some (.int told), some (.int b), some (.int ((nI he) - 1)), some (.int (nI sp)), some (.int rt), some (.int no), some (.int ((nI li) - 1)), some (.int ev)] [] from ?_) c hc hq
              refine tt_seg hT (fun pc => Nat.beq pc 317 || Nat.beq pc 196) 80 (fun c hc hq => ?_)
              refine And.intro (fun (hb193 : (nI m) < told) => ?_) (fun (hb193 : ¬ (nI m) < told) => ?_)
              · exact absurd hb193 (by obtain ⟨j, j1, j2, rfl⟩ := hj; exact nI_nlt (by omega) (by omega))
              · refine (show TT T (0, 0) q 196 [some (.ref 0), some (.int x), some (.int (nI m)), some (.int ((nI w) - 1)), some (.int told), some (.int b), some (.int ((nI he) - 1)), some (.int (nI sp)), some (.int rt), some (.int no), some (.int ((nI li) - 1)), some (.int ev)] [] from ?_) c hc hq
                refine tt_seg hT (fun pc => Nat.beq pc 209) 60 (fun c hc hq => ?_)
                refine (show TT T (0, 0) q 209 [some (.ref 0), some (.int x), some (.int (nI m)), some (.int ((nI w) - 1)), some (.int told), some (.int b), some (.int ((nI he) - 1)), some (.int (nI sp)), some (.int rt), some (.int no), some (.int ((nI li) - 1)), some (.int ev)] [] from ?_) c hc hq
                exact s209
      · refine (show TT T (0, 0) q 151 [some (.ref 0), some (.int x), some (.int (nI m)), some (.int ((nI w) - 1)), some (.int told), some (.int b), some (.int ((nI he) - 1)), some (.int (nI sp)), some (.int rt), some (.int no), some (.int ((nI li) - 1)), some (.int ev)] [] from ?_) c hc hq
        have hj : ∃ k : Nat, k ≤ m ∧ k ≤ 60 ∧ told = nI k := (f1.2 (by rcases hbb with h | h; exact absurd (hb135.symm.trans h.1) (by decide); exact h.2)).1 (by have := congrArg Int32.toInt hb148; rw [pw, t0] at this; omega)
        refine tt_seg hT (fun pc => Nat.beq pc 317 || Nat.beq pc 156) 80 (fun c hc hq => ?_)
        refine And.intro (fun (hb153 : told < 0) => ?_) (fun (hb153 : ¬ told < 0) => ?_)
        · exact absurd hb153 (by obtain ⟨j, j1, j2, rfl⟩ := hj; exact nI_pos (by omega))
        · refine (show TT T (0, 0) q 156 [some (.ref 0), some (.int x), some (.int (nI m)), some (.int ((nI w) - 1)), some (.int told), some (.int b), some (.int ((nI he) - 1)), some (.int (nI sp)), some (.int rt), some (.int no), some (.int ((nI li) - 1)), some (.int ev)] [] from ?_) c hc hq
          refine tt_seg hT (fun pc => Nat.beq pc 317 || Nat.beq pc 162) 80 (fun c hc hq => ?_)
          refine And.intro (fun (hb159 : (nI m) < told) => ?_) (fun (hb159 : ¬ (nI m) < told) => ?_)
          · exact absurd hb159 (by obtain ⟨j, j1, j2, rfl⟩ := hj; exact nI_nlt (by omega) (by omega))
          · refine (show TT T (0, 0) q 162 [some (.ref 0), some (.int x), some (.int (nI m)), some (.int ((nI w) - 1)), some (.int told), some (.int b), some (.int ((nI he) - 1)), some (.int (nI sp)), some (.int rt), some (.int no), some (.int ((nI li) - 1)), some (.int ev)] [] from ?_) c hc hq
            refine tt_seg hT (fun pc => Nat.beq pc 317 || Nat.beq pc 169) 80 (fun c hc hq => ?_)
            refine And.intro (fun (hb166 : 60 < told) => ?_) (fun (hb166 : ¬ 60 < told) => ?_)
            · exact absurd hb166 (by obtain ⟨j, j1, j2, rfl⟩ := hj; exact show ¬ nI 60 < nI j from nI_nlt (by omega) (by decide))
            · refine (show TT T (0, 0) q 169 [some (.ref 0), some (.int x), some (.int (nI m)), some (.int ((nI w) - 1)), some (.int told), some (.int b), some (.int ((nI he) - 1)), some (.int (nI sp)), some (.int rt), some (.int no), some (.int ((nI li) - 1)), some (.int ev)] [] from ?_) c hc hq
              refine tt_seg hT (fun pc => Nat.beq pc 209) 60 (fun c hc hq => ?_)
              refine (show TT T (0, 0) q 209 [some (.ref 0), some (.int x), some (.int (nI m)), some (.int ((nI w) - 1)), some (.int told), some (.int b), some (.int ((nI he) - 1)), some (.int (nI sp)), some (.int rt), some (.int no), some (.int ((nI li) - 1)), some (.int ev)] [] from ?_) c hc hq
              exact s209
    · refine (show TT T (0, 0) q 138 [some (.ref 0), some (.int x), some (.int (nI m)), some (.int ((nI w) - 1)), some (.int told), some (.int b), some (.int ((nI he) - 1)), some (.int (nI sp)), some (.int rt), some (.int no), some (.int ((nI li) - 1)), some (.int ev)] [] from ?_) c hc hq
      refine tt_seg hT (fun pc => Nat.beq pc 317 || Nat.beq pc 144) 80 (fun c hc hq => ?_)
      refine And.intro (fun (hb141 : ¬ told = (-1)) => ?_) (fun (hb141 : told = (-1)) => ?_)
      · exact absurd ((by rcases hbb with h | h; exact f1.1 h.2; exact absurd h.1 hb135)) hb141
      · refine (show TT T (0, 0) q 144 [some (.ref 0), some (.int x), some (.int (nI m)), some (.int ((nI w) - 1)), some (.int told), some (.int b), some (.int ((nI he) - 1)), some (.int (nI sp)), some (.int rt), some (.int no), some (.int ((nI li) - 1)), some (.int ev)] [] from ?_) c hc hq
        refine tt_seg hT (fun pc => Nat.beq pc 209) 60 (fun c hc hq => ?_)
        refine (show TT T (0, 0) q 209 [some (.ref 0), some (.int x), some (.int (nI m)), some (.int ((nI w) - 1)), some (.int told), some (.int b), some (.int ((nI he) - 1)), some (.int (nI sp)), some (.int rt), some (.int no), some (.int ((nI li) - 1)), some (.int ev)] [] from ?_) c hc hq
        exact s209
  have s112 : ∀ told, told = vIf q.1 (nI m) ((nI w) - 1) → ∀ rt, rt = vFast q.1 ((nI he) - 1) (nI sp) → ∀ b no, (b = 1 ∧ (m = 0 ∨ m = 100 ∨ w = 0 ∨ 5 ≤ w)) ∨ (b = 0 ∧ ¬ (m = 0 ∨ m = 100 ∨ w = 0 ∨ 5 ≤ w)) → (no = 1 ∧ (he = 0 ∨ 1002 ≤ he ∨ sp = 0)) ∨ (no = 0 ∧ ¬ (he = 0 ∨ 1002 ≤ he ∨ sp = 0)) → TT T (0, 0) q 112 [some (.ref 0), some (.int x), some (.int (nI m)), some (.int ((nI w) - 1)), some (.int told), some (.int b), some (.int ((nI he) - 1)), some (.int (nI sp)), some (.int rt), some (.int no), none, none] [] := by
    intro told e1 rt e2 b no hbb hno
    refine tt_seg hT (fun pc => Nat.beq pc 121) 60 (fun c hc hq => ?_)
    refine And.intro ⟨⟨rfl, rfl⟩, (show ¬ ((503 : Int32) = 0) by decide)⟩ ?_
    refine (show TT T (0, 0) q 121 [some (.ref 0), some (.int x), some (.int (nI m)), some (.int ((nI w) - 1)), some (.int told), some (.int b), some (.int ((nI he) - 1)), some (.int (nI sp)), some (.int rt), some (.int no), none, none] [.int (lowV (x >>> (5 &&& 31)) 503)] from ?_) c hc hq
    rw [eli]
    refine tt_seg hT (fun pc => Nat.beq pc 128) 60 (fun c hc hq => ?_)
    refine (show TT T (0, 0) q 128 [some (.ref 0), some (.int x), some (.int (nI m)), some (.int ((nI w) - 1)), some (.int told), some (.int b), some (.int ((nI he) - 1)), some (.int (nI sp)), some (.int rt), some (.int no), some (.int ((nI li) - 1)), none] [.int ((nI li) - 1), .ref 0] from ?_) c hc hq
    refine tt_v1 (W := fun q x => (q, vEven q.1 x)) lq_even hT rfl rfl rfl rfl rfl ?_
    show TT T (0, 0) q 131 [some (.ref 0), some (.int x), some (.int (nI m)), some (.int ((nI w) - 1)), some (.int told), some (.int b), some (.int ((nI he) - 1)), some (.int (nI sp)), some (.int rt), some (.int no), some (.int ((nI li) - 1)), none] [.int (vEven q.1 ((nI li) - 1))]
    refine tt_seg hT (fun pc => Nat.beq pc 133) 60 (fun c hc hq => ?_)
    refine (show TT T (0, 0) q 133 [some (.ref 0), some (.int x), some (.int (nI m)), some (.int ((nI w) - 1)), some (.int told), some (.int b), some (.int ((nI he) - 1)), some (.int (nI sp)), some (.int rt), some (.int no), some (.int ((nI li) - 1)), some (.int (vEven q.1 ((nI li) - 1)))] [] from ?_) c hc hq
    exact body told e1 rt e2 _ rfl b no hbb hno
  have s53 : ∀ told, told = vIf q.1 (nI m) ((nI w) - 1) → ∀ b, (b = 1 ∧ (m = 0 ∨ m = 100 ∨ w = 0 ∨ 5 ≤ w)) ∨ (b = 0 ∧ ¬ (m = 0 ∨ m = 100 ∨ w = 0 ∨ 5 ≤ w)) → TT T (0, 0) q 53 [some (.ref 0), some (.int x), some (.int (nI m)), some (.int ((nI w) - 1)), some (.int told), some (.int b), none, none, none, none, none, none] [] := by
    intro told e1 b hbb
    refine tt_seg hT (fun pc => Nat.beq pc 63) 60 (fun c hc hq => ?_)
    refine And.intro ⟨⟨rfl, rfl⟩, (show ¬ ((1003 : Int32) = 0) by decide)⟩ ?_
    refine (show TT T (0, 0) q 63 [some (.ref 0), some (.int x), some (.int (nI m)), some (.int ((nI w) - 1)), some (.int told), some (.int b), none, none, none, none, none, none] [.int (lowV (x >>> (10 &&& 31)) 1003)] from ?_) c hc hq
    rw [ehe]
    refine tt_seg hT (fun pc => Nat.beq pc 75) 60 (fun c hc hq => ?_)
    refine And.intro ⟨⟨rfl, rfl⟩, (show ¬ ((14 : Int32) = 0) by decide)⟩ ?_
    refine (show TT T (0, 0) q 75 [some (.ref 0), some (.int x), some (.int (nI m)), some (.int ((nI w) - 1)), some (.int told), some (.int b), some (.int ((nI he) - 1)), none, none, none, none, none] [.int (lowV (x >>> (3 &&& 31)) 14)] from ?_) c hc hq
    rw [esp]
    refine tt_seg hT (fun pc => Nat.beq pc 82) 60 (fun c hc hq => ?_)
    refine (show TT T (0, 0) q 82 [some (.ref 0), some (.int x), some (.int (nI m)), some (.int ((nI w) - 1)), some (.int told), some (.int b), some (.int ((nI he) - 1)), some (.int (nI sp)), none, none, none, none] [.int (nI sp), .int ((nI he) - 1), .ref 0] from ?_) c hc hq
    refine tt_v2 (W := fun q x y => (q, vFast q.1 x y)) lq_fast hT rfl rfl rfl rfl rfl ?_
    show TT T (0, 0) q 85 [some (.ref 0), some (.int x), some (.int (nI m)), some (.int ((nI w) - 1)), some (.int told), some (.int b), some (.int ((nI he) - 1)), some (.int (nI sp)), none, none, none, none] [.int (vFast q.1 ((nI he) - 1) (nI sp))]
    refine tt_seg hT (fun pc => Nat.beq pc 105 || Nat.beq pc 92) 80 (fun c hc hq => ?_)
    refine And.intro (fun (hb89 : ((nI he) - 1) < 0) => ?_) (fun (hb89 : ¬ ((nI he) - 1) < 0) => ?_)
    · refine (show TT T (0, 0) q 105 [some (.ref 0), some (.int x), some (.int (nI m)), some (.int ((nI w) - 1)), some (.int told), some (.int b), some (.int ((nI he) - 1)), some (.int (nI sp)), some (.int (vFast q.1 ((nI he) - 1) (nI sp))), none, none, none] [] from ?_) c hc hq
      refine tt_seg hT (fun pc => Nat.beq pc 112) 60 (fun c hc hq => ?_)
      refine (show TT T (0, 0) q 112 [some (.ref 0), some (.int x), some (.int (nI m)), some (.int ((nI w) - 1)), some (.int told), some (.int b), some (.int ((nI he) - 1)), some (.int (nI sp)), some (.int (vFast q.1 ((nI he) - 1) (nI sp))), some (.int 1), none, none] [] from ?_) c hc hq
      exact s112 told e1 _ rfl b 1 hbb (Or.inl ⟨rfl, (by rw [Int32.lt_iff_toInt_lt, t0] at hb89; omega)⟩)
    · refine (show TT T (0, 0) q 92 [some (.ref 0), some (.int x), some (.int (nI m)), some (.int ((nI w) - 1)), some (.int told), some (.int b), some (.int ((nI he) - 1)), some (.int (nI sp)), some (.int (vFast q.1 ((nI he) - 1) (nI sp))), none, none, none] [] from ?_) c hc hq
      refine tt_seg hT (fun pc => Nat.beq pc 105 || Nat.beq pc 100) 80 (fun c hc hq => ?_)
      refine And.intro (fun (hb97 : 1000 < ((nI he) - 1)) => ?_) (fun (hb97 : ¬ 1000 < ((nI he) - 1)) => ?_)
      · refine (show TT T (0, 0) q 105 [some (.ref 0), some (.int x), some (.int (nI m)), some (.int ((nI w) - 1)), some (.int told), some (.int b), some (.int ((nI he) - 1)), some (.int (nI sp)), some (.int (vFast q.1 ((nI he) - 1) (nI sp))), none, none, none] [] from ?_) c hc hq
        refine tt_seg hT (fun pc => Nat.beq pc 112) 60 (fun c hc hq => ?_)
        refine (show TT T (0, 0) q 112 [some (.ref 0), some (.int x), some (.int (nI m)), some (.int ((nI w) - 1)), some (.int told), some (.int b), some (.int ((nI he) - 1)), some (.int (nI sp)), some (.int (vFast q.1 ((nI he) - 1) (nI sp))), some (.int 1), none, none] [] from ?_) c hc hq
        exact s112 told e1 _ rfl b 1 hbb (Or.inl ⟨rfl, (by rw [Int32.lt_iff_toInt_lt, t1000] at hb97; omega)⟩)
      · refine (show TT T (0, 0) q 100 [some (.ref 0), some (.int x), some (.int (nI m)), some (.int ((nI w) - 1)), some (.int told), some (.int b), some (.int ((nI he) - 1)), some (.int (nI sp)), some (.int (vFast q.1 ((nI he) - 1) (nI sp))), none, none, none] [] from ?_) c hc hq
        refine tt_seg hT (fun pc => Nat.beq pc 109 || Nat.beq pc 105) 80 (fun c hc hq => ?_)
        refine And.intro (fun (hb102 : ¬ (nI sp) = 0) => ?_) (fun (hb102 : (nI sp) = 0) => ?_)
        · refine (show TT T (0, 0) q 109 [some (.ref 0), some (.int x), some (.int (nI m)), some (.int ((nI w) - 1)), some (.int told), some (.int b), some (.int ((nI he) - 1)), some (.int (nI sp)), some (.int (vFast q.1 ((nI he) - 1) (nI sp))), none, none, none] [] from ?_) c hc hq
          refine tt_seg hT (fun pc => Nat.beq pc 112) 60 (fun c hc hq => ?_)
          refine (show TT T (0, 0) q 112 [some (.ref 0), some (.int x), some (.int (nI m)), some (.int ((nI w) - 1)), some (.int told), some (.int b), some (.int ((nI he) - 1)), some (.int (nI sp)), some (.int (vFast q.1 ((nI he) - 1) (nI sp))), some (.int 0), none, none] [] from ?_) c hc hq
          exact s112 told e1 _ rfl b 0 hbb (Or.inr ⟨rfl, (by have h5 : ¬ sp = 0 := (fun e => hb102 (by rw [e]; rfl)); rw [Int32.lt_iff_toInt_lt, t0] at hb89; rw [Int32.lt_iff_toInt_lt, t1000] at hb97; omega)⟩)
        · refine (show TT T (0, 0) q 105 [some (.ref 0), some (.int x), some (.int (nI m)), some (.int ((nI w) - 1)), some (.int told), some (.int b), some (.int ((nI he) - 1)), some (.int (nI sp)), some (.int (vFast q.1 ((nI he) - 1) (nI sp))), none, none, none] [] from ?_) c hc hq
          refine tt_seg hT (fun pc => Nat.beq pc 112) 60 (fun c hc hq => ?_)
          refine (show TT T (0, 0) q 112 [some (.ref 0), some (.int x), some (.int (nI m)), some (.int ((nI w) - 1)), some (.int told), some (.int b), some (.int ((nI he) - 1)), some (.int (nI sp)), some (.int (vFast q.1 ((nI he) - 1) (nI sp))), some (.int 1), none, none] [] from ?_) c hc hq
          exact s112 told e1 _ rfl b 1 hbb (Or.inl ⟨rfl, (Or.inr (Or.inr ((nI_eq (a := sp) (b := 0) (by omega) (by decide)).mp hb102)))⟩)
  refine tt_seg hT (fun pc => Nat.beq pc 6) 60 (fun c hc hq => ?_)
  refine And.intro ⟨⟨rfl, rfl⟩, (show ¬ ((101 : Int32) = 0) by decide)⟩ ?_
  refine (show TT T (0, 0) q 6 [some (.ref 0), some (.int x), none, none, none, none, none, none, none, none, none, none] [.int (lowV x 101)] from ?_) c hc hq
  rw [em]
  refine tt_seg hT (fun pc => Nat.beq pc 16) 60 (fun c hc hq => ?_)
  refine And.intro ⟨⟨rfl, rfl⟩, (show ¬ ((6 : Int32) = 0) by decide)⟩ ?_
  refine (show TT T (0, 0) q 16 [some (.ref 0), some (.int x), some (.int (nI m)), none, none, none, none, none, none, none, none, none] [.int (lowV (x >>> (7 &&& 31)) 6)] from ?_) c hc hq
  rw [ew]
  refine tt_seg hT (fun pc => Nat.beq pc 22) 60 (fun c hc hq => ?_)
  refine (show TT T (0, 0) q 22 [some (.ref 0), some (.int x), some (.int (nI m)), some (.int ((nI w) - 1)), none, none, none, none, none, none, none, none] [.int ((nI w) - 1), .int (nI m), .ref 0] from ?_) c hc hq
  refine tt_v2 (W := fun q x y => (q, vIf q.1 x y)) lq_if hT rfl rfl rfl rfl rfl ?_
  show TT T (0, 0) q 25 [some (.ref 0), some (.int x), some (.int (nI m)), some (.int ((nI w) - 1)), none, none, none, none, none, none, none, none] [.int (vIf q.1 (nI m) ((nI w) - 1))]
  refine tt_seg hT (fun pc => Nat.beq pc 46 || Nat.beq pc 31) 80 (fun c hc hq => ?_)
  refine And.intro (fun (hb28 : (nI m) = 0) => ?_) (fun (hb28 : ¬ (nI m) = 0) => ?_)
  · refine (show TT T (0, 0) q 46 [some (.ref 0), some (.int x), some (.int (nI m)), some (.int ((nI w) - 1)), some (.int (vIf q.1 (nI m) ((nI w) - 1))), none, none, none, none, none, none, none] [] from ?_) c hc hq
    refine tt_seg hT (fun pc => Nat.beq pc 53) 60 (fun c hc hq => ?_)
    refine (show TT T (0, 0) q 53 [some (.ref 0), some (.int x), some (.int (nI m)), some (.int ((nI w) - 1)), some (.int (vIf q.1 (nI m) ((nI w) - 1))), some (.int 1), none, none, none, none, none, none] [] from ?_) c hc hq
    exact s53 _ rfl 1 (Or.inl ⟨rfl, (Or.inl ((nI_eq (a := m) (b := 0) (by omega) (by decide)).mp hb28))⟩)
  · refine (show TT T (0, 0) q 31 [some (.ref 0), some (.int x), some (.int (nI m)), some (.int ((nI w) - 1)), some (.int (vIf q.1 (nI m) ((nI w) - 1))), none, none, none, none, none, none, none] [] from ?_) c hc hq
    refine tt_seg hT (fun pc => Nat.beq pc 46 || Nat.beq pc 37) 80 (fun c hc hq => ?_)
    refine And.intro (fun (hb34 : (nI m) = 100) => ?_) (fun (hb34 : ¬ (nI m) = 100) => ?_)
    · refine (show TT T (0, 0) q 46 [some (.ref 0), some (.int x), some (.int (nI m)), some (.int ((nI w) - 1)), some (.int (vIf q.1 (nI m) ((nI w) - 1))), none, none, none, none, none, none, none] [] from ?_) c hc hq
      refine tt_seg hT (fun pc => Nat.beq pc 53) 60 (fun c hc hq => ?_)
      refine (show TT T (0, 0) q 53 [some (.ref 0), some (.int x), some (.int (nI m)), some (.int ((nI w) - 1)), some (.int (vIf q.1 (nI m) ((nI w) - 1))), some (.int 1), none, none, none, none, none, none] [] from ?_) c hc hq
      exact s53 _ rfl 1 (Or.inl ⟨rfl, (Or.inr (Or.inl ((nI_eq (a := m) (b := 100) (by omega) (by decide)).mp hb34)))⟩)
    · refine (show TT T (0, 0) q 37 [some (.ref 0), some (.int x), some (.int (nI m)), some (.int ((nI w) - 1)), some (.int (vIf q.1 (nI m) ((nI w) - 1))), none, none, none, none, none, none, none] [] from ?_) c hc hq
      refine tt_seg hT (fun pc => Nat.beq pc 46 || Nat.beq pc 41) 80 (fun c hc hq => ?_)
      refine And.intro (fun (hb38 : ((nI w) - 1) < 0) => ?_) (fun (hb38 : ¬ ((nI w) - 1) < 0) => ?_)
      · refine (show TT T (0, 0) q 46 [some (.ref 0), some (.int x), some (.int (nI m)), some (.int ((nI w) - 1)), some (.int (vIf q.1 (nI m) ((nI w) - 1))), none, none, none, none, none, none, none] [] from ?_) c hc hq
        refine tt_seg hT (fun pc => Nat.beq pc 53) 60 (fun c hc hq => ?_)
        refine (show TT T (0, 0) q 53 [some (.ref 0), some (.int x), some (.int (nI m)), some (.int ((nI w) - 1)), some (.int (vIf q.1 (nI m) ((nI w) - 1))), some (.int 1), none, none, none, none, none, none] [] from ?_) c hc hq
        exact s53 _ rfl 1 (Or.inl ⟨rfl, (by rw [Int32.lt_iff_toInt_lt, t0] at hb38; omega)⟩)
      · refine (show TT T (0, 0) q 41 [some (.ref 0), some (.int x), some (.int (nI m)), some (.int ((nI w) - 1)), some (.int (vIf q.1 (nI m) ((nI w) - 1))), none, none, none, none, none, none, none] [] from ?_) c hc hq
        refine tt_seg hT (fun pc => Nat.beq pc 50 || Nat.beq pc 46) 80 (fun c hc hq => ?_)
        refine And.intro (fun (hb43 : ((nI w) - 1) ≤ 3) => ?_) (fun (hb43 : ¬ ((nI w) - 1) ≤ 3) => ?_)
        · refine (show TT T (0, 0) q 50 [some (.ref 0), some (.int x), some (.int (nI m)), some (.int ((nI w) - 1)), some (.int (vIf q.1 (nI m) ((nI w) - 1))), none, none, none, none, none, none, none] [] from ?_) c hc hq
          refine tt_seg hT (fun pc => Nat.beq pc 53) 60 (fun c hc hq => ?_)
          refine (show TT T (0, 0) q 53 [some (.ref 0), some (.int x), some (.int (nI m)), some (.int ((nI w) - 1)), some (.int (vIf q.1 (nI m) ((nI w) - 1))), some (.int 0), none, none, none, none, none, none] [] from ?_) c hc hq
          exact s53 _ rfl 0 (Or.inr ⟨rfl, (by have h5 : ¬ m = 0 := (fun e => hb28 (by rw [e]; rfl)); have h6 : ¬ m = 100 := (fun e => hb34 (by rw [e]; rfl)); rw [Int32.lt_iff_toInt_lt, t0] at hb38; rw [Int32.le_iff_toInt_le, t3] at hb43; omega)⟩)
        · refine (show TT T (0, 0) q 46 [some (.ref 0), some (.int x), some (.int (nI m)), some (.int ((nI w) - 1)), some (.int (vIf q.1 (nI m) ((nI w) - 1))), none, none, none, none, none, none, none] [] from ?_) c hc hq
          refine tt_seg hT (fun pc => Nat.beq pc 53) 60 (fun c hc hq => ?_)
          refine (show TT T (0, 0) q 53 [some (.ref 0), some (.int x), some (.int (nI m)), some (.int ((nI w) - 1)), some (.int (vIf q.1 (nI m) ((nI w) - 1))), some (.int 1), none, none, none, none, none, none] [] from ?_) c hc hq
          exact s53 _ rfl 1 (Or.inl ⟨rfl, (by rw [Int32.le_iff_toInt_le, t3] at hb43; omega)⟩)
set_option maxRecDepth 10000 in
theorem ct_L_would (l : Launch) : mjCTr l yL_would cL_would 12 (some .boolean) rm_L_would R_L_would :=
  mjCTr_of (own := RL) (G := G_L_would) (plainFor_of_name pn_L) rfl ok_L_would (fun meth hm => ⟨fun pc row h => (I_L_would_ok pc row h).1, (fun _ _ _ _ h => by cases h), List.forall_mem_cons.mpr ⟨⟨yL_low, cL_low, 2, (some .int), rm_L_low, ct_L_low l, ⟨rfl, rfl⟩, ⟨by decide, by decide⟩, by decide, nk_L_low, ln_L_39, st_L_low⟩, List.forall_mem_cons.mpr ⟨⟨yX6_ifPassed, cX6_ifPassed, 3, (some .int), rm_X6_ifPassed, ct_X6_ifPassed l, ⟨rfl, rfl⟩, ⟨by decide, by decide⟩, by decide, by decide, nk_X6_ifPassed, ln_L_42, im_X6_ifPassed, se_X6_ifPassed, rfl⟩, List.forall_mem_cons.mpr ⟨⟨yX6_fastest, cX6_fastest, 4, (some .int), rm_X6_fastest, ct_X6_fastest l, ⟨rfl, rfl⟩, ⟨by decide, by decide⟩, by decide, by decide, nk_X6_fastest, ln_L_45, im_X6_fastest, se_X6_fastest, rfl⟩, List.forall_mem_cons.mpr ⟨⟨yX6_evenIn, cX6_evenIn, 3, (some .int), rm_X6_evenIn, ct_X6_evenIn l, ⟨rfl, rfl⟩, ⟨by decide, by decide⟩, by decide, by decide, nk_X6_evenIn, ln_L_48, im_X6_evenIn, se_X6_evenIn, rfl⟩, List.forall_mem_cons.mpr ⟨⟨yX6_count, cX6_count, 2, (some .int), rm_X6_count, ct_X6_count l, ⟨rfl, rfl⟩, ⟨by decide, by decide⟩, by decide, by decide, nk_X6_count, ln_L_13, im_X6_count, se_X6_count, rfl⟩, fun _ h => absurd h List.not_mem_nil⟩⟩⟩⟩⟩, (fun _ _ _ h => by cases h), (mjcons_ok CN_L_ok), ⟨Nat.zero_le _, Nat.zero_le _⟩, (fun h => by cases h), (fun h => absurd h (by decide)), fun _ h => absurd h List.not_mem_nil⟩) rfl rfl rfl (fun pc row h => (I_L_would_ok pc row h).2)
