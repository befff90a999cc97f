/-! p26: what acts answer -/
theorem out_n {m : Nat} (h : 1 ≤ m ∧ m ≤ 99) : gOut (nI m) 1 99 = 0 := gOut_of (by rw [nI_toInt (by omega), show (1 : Int32).toInt = 1 from rfl, show (99 : Int32).toInt = 99 from rfl]; omega)
theorem pass_if {p : PSt} {m : Nat} (h : 1 ≤ m ∧ m ≤ 99) : vIf p (nI m) 0 = (pPass p m).2 ∧ vIf p (nI m) 3 = pLoss (pPass p m).1 := by
  obtain ⟨l1, l2, _, _⟩ := look_pass p m (by omega)
  unfold vIf
  rw [if_pos (out_n h), if_pos (out_n h), if_pos (show gOut 0 0 3 = 0 by decide), if_pos rfl, if_pos (show gOut 3 0 3 = 0 by decide), if_neg (show ¬ (3 : Int32) = 0 by decide), if_neg (show ¬ (3 : Int32) = 1 by decide), if_neg (show ¬ (3 : Int32) = 2 by decide), nI_clamp (by omega), l1, l2]
  exact ⟨rfl, rfl⟩
theorem pass_w {q : QSt} {m : Nat} (h : 1 ≤ m ∧ m ≤ 99) : wPass q (nI m) = (qNow q (pPass q.1 m).1, (pPass q.1 m).2) := by
  unfold wPass
  rw [if_pos (out_n h), nI_clamp (by omega)]
theorem pass_no {q : QSt} {m : Nat} (hm : m < 1000) (h : ¬ (1 ≤ m ∧ m ≤ 99)) : wPass q (nI m) = (q, -1) := if_neg (gOut_no (by rw [nI_toInt (by omega), show (1 : Int32).toInt = 1 from rfl, show (99 : Int32).toInt = 99 from rfl]; omega))
theorem aim_no {q : QSt} {x y : Int32} (h : ¬ ((0 ≤ x.toInt ∧ x.toInt ≤ 1000) ∧ 1 ≤ y.toInt ∧ y.toInt ≤ 100)) : wAim q x y = (q, -1) := by
  unfold wAim
  by_cases h1 : gOut x 0 1000 = 0
  · rw [if_pos h1, if_neg (fun h2 => h ⟨out_bd (x := x) (a := 0) (b := 1000) h1, out_bd (x := y) (a := 1) (b := 100) h2⟩)]
  · rw [if_neg h1]
theorem aim_w {q : QSt} {x y : Int32} (h : (0 ≤ x.toInt ∧ x.toInt ≤ 1000) ∧ 1 ≤ y.toInt ∧ y.toInt ≤ 100) : wAim q x y = (qNow q (pSetAim q.1 x y), pAim q.1) := by
  unfold wAim
  rw [if_pos (gOut_of (x := x) (a := 0) (b := 1000) h.1), if_pos (gOut_of (x := y) (a := 1) (b := 100) h.2)]
theorem heat_no {q : QSt} {k x : Int32} (h : gIsCell k = 0 ∨ ¬ (-200 ≤ x.toInt ∧ x.toInt ≤ 200)) : wHeat q k x = (q, -1) := by
  unfold wHeat
  by_cases h0 : gIsCell k = 0
  · rw [if_pos h0]
  · rw [if_neg h0, if_neg (fun h2 => (h.resolve_left h0) (out_bd (x := x) (a := -200) (b := 200) h2))]
/-- the heat of a flame, as the law says it -/
def dueV (h x : Int32) : Int32 := if 0 ≤ h + x then h + x else 0
theorem due_max (h x : Int32) : gMax 0 (h + x) = dueV h x := by
  unfold gMax dueV
  by_cases w : (0 : Int32) < h + x
  · rw [if_pos w, if_pos (Int32.le_of_lt w)]
  · rw [if_neg w]
    by_cases w2 : (0 : Int32) ≤ h + x
    · rw [if_pos w2]
      exact Int32.le_antisymm w2 (Int32.not_lt.mp w)
    · rw [if_neg w2]
theorem heat_w {q : QSt} {c : Nat} {x : Int32} (hc : c < 36) (h : -200 ≤ x.toInt ∧ x.toInt ≤ 200) : wHeat q (nI c) x = (qNow q (pFlame q.1 (nI c) x), dueV (pH q.1 c) x) := by
  unfold wHeat
  rw [if_neg (isC_n hc), if_pos (gOut_of (x := x) (a := -200) (b := 200) h), gAt_n hc, due_max]
theorem flame_F {p : PSt} {c : Nat} {x : Int32} (hc : c < 36) : pFlames (pFlame p (nI c) x) = pFlames p + (dueV (pH p c) x - pH p c) := by
  obtain ⟨hh, g, s, cc, fu, ai, ra, le, ri, mi, lo, fl⟩ := p
  show fl + (gMax 0 (gAt 36 hh (nI c) + x) - gAt 36 hh (nI c)) = _
  rw [gAt_n hc, due_max]
  rfl
theorem set_no {q : QSt} {w x : Int32} (h : ¬ ((0 ≤ w.toInt ∧ w.toInt ≤ 1) ∧ 0 ≤ x.toInt ∧ x.toInt ≤ 20)) : wSet q w x = (q, -1) := by
  unfold wSet
  by_cases h1 : gOut w 0 1 = 0
  · rw [if_pos h1, if_neg (fun h2 => h ⟨out_bd (x := w) (a := 0) (b := 1) h1, out_bd (x := x) (a := 0) (b := 20) h2⟩)]
  · rw [if_neg h1]
theorem set_0 {q : QSt} {x : Int32} (h : 0 ≤ x.toInt ∧ x.toInt ≤ 20) : wSet q (nI 0) x = (qNow q (pSetLead q.1 x), pLead q.1) := by
  unfold wSet
  rw [if_pos (show gOut (nI 0) 0 1 = 0 by decide), if_pos (gOut_of (x := x) (a := 0) (b := 20) h), if_pos (show nI 0 = 0 from rfl)]
theorem set_1 {q : QSt} {x : Int32} (h : 0 ≤ x.toInt ∧ x.toInt ≤ 20) : wSet q (nI 1) x = (qNow q (pSetRim q.1 x), pRim q.1) := by
  unfold wSet
  rw [if_pos (show gOut (nI 1) 0 1 = 0 by decide), if_pos (gOut_of (x := x) (a := 0) (b := 20) h), if_neg (show ¬ nI 1 = 0 by decide)]
/-! a new pane -/
theorem beg_no {q : QSt} {t : Nat} (ht : t < 2000) (h : 1000 < t) : wBegin q (nI t) = (q, -1) := if_neg (gOut_no (by rw [nI_toInt (by omega), show (0 : Int32).toInt = 0 from rfl, show (1000 : Int32).toInt = 1000 from rfl]; omega))
theorem new_H {p : PSt} {x : Int32} {k : Nat} (hk : k < 36) : pH (pNew p x) k = x := by
  obtain ⟨hh, g, s, cc, fu, ai, ra, le, ri, mi, lo, fl⟩ := p
  exact if_pos hk
theorem new_S {p : PSt} {x : Int32} {k : Nat} (hk : k < 60) : pS (pNew p x) k = 100 := by
  obtain ⟨hh, g, s, cc, fu, ai, ra, le, ri, mi, lo, fl⟩ := p
  exact if_pos hk
theorem new_C {p : PSt} {x : Int32} {k : Nat} (hk : k < 60) : pC (pNew p x) k = 0 := by
  obtain ⟨hh, g, s, cc, fu, ai, ra, le, ri, mi, lo, fl⟩ := p
  exact if_pos hk
theorem beg_w {q : QSt} {t : Nat} (h : t ≤ 1000) : wBegin q (nI t) = (qNow q (pNew q.1 (nI t)), 36 * nI t) := by
  unfold wBegin
  rw [if_pos (gOut_of (by rw [nI_toInt (by omega), show (0 : Int32).toInt = 0 from rfl, show (1000 : Int32).toInt = 1000 from rfl]; omega))]
  have e : gSum (pH (pNew q.1 (nI t))) = 36 * nI t := by
    rw [← gSum_fill (pH q.1) (nI t)]
    refine nf_congr 36 (fun i hi b => ?_)
    rw [new_H hi, show fillA 36 (pH q.1) (nI t) i = nI t from if_pos hi]
  rw [e]
theorem abs_0 (x : Int32) : gAbs (x - x) = 0 := by
  rw [Int32.sub_self]
  decide
theorem new_str {p : PSt} {x : Int32} {j : Nat} (hj : j < 60) : gStr (pH (pNew p x)) (nI j) = 0 := by
  unfold gStr
  rw [gFirst_n hj, gSecond_n hj, gAt_n (nF_lt hj), gAt_n (nS_lt hj), new_H (nF_lt hj), new_H (nS_lt hj), abs_0]
theorem new_crN {p : PSt} {x : Int32} : crN (pC (pNew p x)) 60 = 0 := by
  have key : ∀ n, n ≤ 60 → crN (pC (pNew p x)) n = 0 := by
    intro n
    induction n with
    | zero => exact fun _ => rfl
    | succ n ih =>
      intro hn
      rw [crN_s, ih (by omega), new_C (by omega), if_pos rfl]
  exact key 60 (Nat.le_refl _)
theorem new_wh {p : PSt} {x : Int32} {j : Nat} (hj : j < 60) : ¬ gWh (pC (pNew p x)) (nI j) = 0 := fun e => (gWh_0 hj).mp e (new_C hj)
theorem new_max {p : PSt} {x : Int32} : gStrMax (pH (pNew p x)) (pC (pNew p x)) = 0 := by
  have key : ∀ n, n ≤ 60 → nf (fun i a => if gWh (pC (pNew p x)) (nI i) = 0 then a else gMax a (gStr (pH (pNew p x)) (nI i))) (-4 : Int32) n = if n = 0 then -4 else 0 := by
    intro n
    induction n with
    | zero => exact fun _ => rfl
    | succ n ih =>
      intro hn
      show (if gWh (pC (pNew p x)) (nI n) = 0 then nf _ (-4 : Int32) n else gMax (nf _ (-4 : Int32) n) (gStr (pH (pNew p x)) (nI n))) = _
      rw [if_neg (new_wh (by omega)), new_str (by omega), ih (by omega), if_neg (show ¬ n + 1 = 0 by omega)]
      split <;> decide
  exact key 60 (Nat.le_refl _)
theorem new_mar {p : PSt} {x : Int32} {j : Nat} (hj : j < 60) : gMar (pH (pNew p x)) (pS (pNew p x)) (nI j) = 100 := by
  unfold gMar
  rw [gJt_n hj, new_S hj, new_str hj]
  decide
theorem new_least {p : PSt} {x : Int32} : gLeastMar (pH (pNew p x)) (pS (pNew p x)) (pC (pNew p x)) = 100 := by
  unfold gLeastMar
  rcases worst_least (pH (pNew p x)) (pS (pNew p x)) (pC (pNew p x)) 60 (Nat.le_refl _) with ⟨a, b⟩ | ⟨j, j1, j2, j3, j4⟩
  · exact absurd (new_C (by decide)) (b 0 (by decide))
  · rw [j3]
    dsimp only
    rw [if_neg (nI_nm j1).1, new_mar j1]
theorem up_ok : ∀ k, k < 36 → k = 0 ∨ ∃ j, j < 60 ∧ nS j = k ∧ nF j < k := by decide +kernel
theorem new_conn {p : PSt} {x : Int32} : ∀ n k : Nat, k ≤ n → k < 36 → cConn (pC (pNew p x)) k 0 := by
  intro n
  induction n with
  | zero =>
    intro k hk _
    rw [show k = 0 by omega]
    exact cc_refl 0
  | succ n ih =>
    intro k hk hk2
    rcases up_ok k hk2 with h | ⟨j, h1, h2, h3⟩
    · rw [h]
      exact cc_refl 0
    · rw [← h2]
      exact cc_trans (cc_joint' h1 (new_C h1)) (ih (nF j) (by omega) (nF_lt h1))
theorem new_go {p : PSt} {x : Int32} : goC (pNew p x) = 1 := by
  have hz : isName (pC (pNew p x)) (fun _ => nI 0) := ⟨fun k hk => ⟨0, Nat.zero_le k, rfl, new_conn k k (Nat.le_refl k) hk⟩, fun _ _ _ => rfl⟩
  rw [goC_is, cntR_congr (g := fun _ => nI 0) 36 (fun k hk => isName_u (goN_is _) hz hk)]
  decide +kernel
theorem vN9 {q : QSt} : vCount q 9 = gStrMax (pH q.1) (pC q.1) := by
  unfold vCount
  rw [if_neg (by decide), if_neg (by decide), if_neg (by decide), if_neg (by decide), if_neg (by decide), if_neg (by decide), if_neg (by decide), if_neg (by decide), if_neg (by decide), if_pos rfl]
theorem vN10 {q : QSt} : vCount q 10 = gLeastMar (pH q.1) (pS q.1) (pC q.1) := by
  unfold vCount
  rw [if_neg (by decide), if_neg (by decide), if_neg (by decide), if_neg (by decide), if_neg (by decide), if_neg (by decide), if_neg (by decide), if_neg (by decide), if_neg (by decide), if_neg (by decide), if_pos rfl]
theorem pred_ti {n : Nat} {a : Int32} (h : n < 100000) (ha : 0 ≤ a.toInt ∧ a.toInt ≤ 100000) : (nI n - a).toInt = (n : Int) - a.toInt := by
  rw [ti_sub] <;> rw [nI_toInt (by omega)] <;> omega
theorem nI_e {a b : Nat} (h : a = b) : nI a = nI b := by rw [h]
theorem beg_6 {q : QSt} {t : Nat} : vCount (qNow q (pNew q.1 (nI t))) 6 = 0 := by
  rw [vN6, show pC (qNow q (pNew q.1 (nI t))).1 = pC (pNew q.1 (nI t)) from rfl, new_crN]
  rfl
theorem beg_9 {q : QSt} {t : Nat} : vCount (qNow q (pNew q.1 (nI t))) 9 = 0 := by
  rw [vN9, show pC (qNow q (pNew q.1 (nI t))).1 = pC (pNew q.1 (nI t)) from rfl, show pH (qNow q (pNew q.1 (nI t))).1 = pH (pNew q.1 (nI t)) from rfl, new_max]
theorem beg_10 {q : QSt} {t : Nat} : vCount (qNow q (pNew q.1 (nI t))) 10 = 100 := by
  rw [vN10, show pC (qNow q (pNew q.1 (nI t))).1 = pC (pNew q.1 (nI t)) from rfl, show pH (qNow q (pNew q.1 (nI t))).1 = pH (pNew q.1 (nI t)) from rfl, show pS (qNow q (pNew q.1 (nI t))).1 = pS (pNew q.1 (nI t)) from rfl, new_least]
theorem beg_p {q : QSt} {t : Nat} : vPieces (qNow q (pNew q.1 (nI t))).1 0 = 1 := by
  unfold vPieces
  rw [if_pos rfl, show (qNow q (pNew q.1 (nI t))).1 = nrm (pNew q.1 (nI t)) from rfl, goC_nrm, new_go]
theorem pas_6 {q : QSt} {m k : Nat} (h : crN (pC (pPass q.1 m).1) 60 = crN (pC q.1) 60 + k) : vCount (qNow q (pPass q.1 m).1) 6 = nI (crN (pC q.1) 60 + k) := by
  rw [vN6, show pC (qNow q (pPass q.1 m).1).1 = pC (pPass q.1 m).1 from rfl, h]
theorem pas_4 {q : QSt} {m : Nat} : vCount (qNow q (pPass q.1 m).1) 4 = gSum (pH (pPass q.1 m).1) := by
  rw [vN4, show pH (qNow q (pPass q.1 m).1).1 = pH (pPass q.1 m).1 from rfl]
section TTL
variable {G : mjG} {Z : Option (Nat × (Nat → Int32))} {R : mjM → Option Value → Nat × Nat → Prop} {T : Nat → mjL → List Value → mjM → Nat × Nat → Prop} {pc i : Nat} {v : Int32} {t : Nat} {L : mjL} {S0 : List Value} {q : QSt} {u : Nat × Nat}
/-- looks: what is behind stays, the answer stands by itself -/
theorem tt_l1 {V : CSt → Int32 → CSt × Int32} {w : QSt → Int32 → Int32} {x : Int32} (hV : ∀ {c} x, cOk c → LQ (V c x) (qOf c) (w (qOf c) x)) (hT : mjC G Z R T) (hr : G.1 pc = some (.invokevirtual i, 3, v, t)) (hf : mjfind G.2.2.1 i = some (0, 5, 2, 0, 0, xm1 V)) (hh : G.2.2.2.1 pc = e47) (hu : ttu G u = true) (hS0 : Nat.ble (mjcat S0) 8 = true)
    (k : TT T u q (pc + 3) L (.int (w q x) :: S0)) : TT T u q pc L (.int x :: .ref 0 :: S0) := tt_v1 (W := fun q x => (q, w q x)) hV hT hr hf hh hu hS0 k
theorem tt_l2 {V : CSt → Int32 → Int32 → CSt × Int32} {w : QSt → Int32 → Int32 → Int32} {x y : Int32} (hV : ∀ {c} x y, cOk c → LQ (V c x y) (qOf c) (w (qOf c) x y)) (hT : mjC G Z R T) (hr : G.1 pc = some (.invokevirtual i, 3, v, t)) (hf : mjfind G.2.2.1 i = some (0, 5, 3, 0, 0, xm2 V)) (hh : G.2.2.2.1 pc = e47) (hu : ttu G u = true) (hS0 : Nat.ble (mjcat S0) 8 = true)
    (k : TT T u q (pc + 3) L (.int (w q x y) :: S0)) : TT T u q pc L (.int y :: .int x :: .ref 0 :: S0) := tt_v2 (W := fun q x y => (q, w q x y)) hV hT hr hf hh hu hS0 k
/-- a change whose outcome is known -/
theorem tt_e1 {V : CSt → Int32 → CSt × Int32} {W : QSt → Int32 → QSt × Int32} {x r : Int32} {q' : QSt} (hV : ∀ {c} x, cOk c → AQ (V c x) (W (qOf c) x)) (he : W q x = (q', r)) (hT : mjC G Z R T) (hr : G.1 pc = some (.invokevirtual i, 3, v, t)) (hf : mjfind G.2.2.1 i = some (0, 5, 2, 0, 0, xm1 V)) (hh : G.2.2.2.1 pc = e47) (hu : ttu G u = true) (hS0 : Nat.ble (mjcat S0) 8 = true)
    (k : TT T u q' (pc + 3) L (.int r :: S0)) : TT T u q pc L (.int x :: .ref 0 :: S0) := by
  refine tt_v1 hV hT hr hf hh hu hS0 ?_
  rw [he]
  exact k
theorem tt_e2 {V : CSt → Int32 → Int32 → CSt × Int32} {W : QSt → Int32 → Int32 → QSt × Int32} {x y r : Int32} {q' : QSt} (hV : ∀ {c} x y, cOk c → AQ (V c x y) (W (qOf c) x y)) (he : W q x y = (q', r)) (hT : mjC G Z R T) (hr : G.1 pc = some (.invokevirtual i, 3, v, t)) (hf : mjfind G.2.2.1 i = some (0, 5, 3, 0, 0, xm2 V)) (hh : G.2.2.2.1 pc = e47) (hu : ttu G u = true) (hS0 : Nat.ble (mjcat S0) 8 = true)
    (k : TT T u q' (pc + 3) L (.int r :: S0)) : TT T u q pc L (.int y :: .int x :: .ref 0 :: S0) := by
  refine tt_v2 hV hT hr hf hh hu hS0 ?_
  rw [he]
  exact k
theorem tt_e0 {V : CSt → CSt × Int32} {W : QSt → QSt × Int32} {r : Int32} {q' : QSt} (hV : ∀ {c}, cOk c → AQ (V c) (W (qOf c))) (he : W q = (q', r)) (hT : mjC G Z R T) (hr : G.1 pc = some (.invokevirtual i, 3, v, t)) (hf : mjfind G.2.2.1 i = some (0, 5, 1, 0, 0, xm0 V)) (hh : G.2.2.2.1 pc = e47) (hu : ttu G u = true) (hS0 : Nat.ble (mjcat S0) 8 = true)
    (k : TT T u q' (pc + 3) L (.int r :: S0)) : TT T u q pc L (.ref 0 :: S0) := by
  refine tt_v0 hV hT hr hf hh hu hS0 ?_
  rw [he]
  exact k
/-- a look whose answer is known -/
theorem tt_k1 {V : CSt → Int32 → CSt × Int32} {w : QSt → Int32 → Int32} {x r : Int32} (hV : ∀ {c} x, cOk c → LQ (V c x) (qOf c) (w (qOf c) x)) (he : w q x = r) (hT : mjC G Z R T) (hr : G.1 pc = some (.invokevirtual i, 3, v, t)) (hf : mjfind G.2.2.1 i = some (0, 5, 2, 0, 0, xm1 V)) (hh : G.2.2.2.1 pc = e47) (hu : ttu G u = true) (hS0 : Nat.ble (mjcat S0) 8 = true)
    (k : TT T u q (pc + 3) L (.int r :: S0)) : TT T u q pc L (.int x :: .ref 0 :: S0) := by
  refine tt_l1 hV hT hr hf hh hu hS0 ?_
  rw [he]
  exact k
theorem tt_k2 {V : CSt → Int32 → Int32 → CSt × Int32} {w : QSt → Int32 → Int32 → Int32} {x y r : Int32} (hV : ∀ {c} x y, cOk c → LQ (V c x y) (qOf c) (w (qOf c) x y)) (he : w q x y = r) (hT : mjC G Z R T) (hr : G.1 pc = some (.invokevirtual i, 3, v, t)) (hf : mjfind G.2.2.1 i = some (0, 5, 3, 0, 0, xm2 V)) (hh : G.2.2.2.1 pc = e47) (hu : ttu G u = true) (hS0 : Nat.ble (mjcat S0) 8 = true)
    (k : TT T u q (pc + 3) L (.int r :: S0)) : TT T u q pc L (.int y :: .int x :: .ref 0 :: S0) := by
  refine tt_l2 hV hT hr hf hh hu hS0 ?_
  rw [he]
  exact k
end TTL
