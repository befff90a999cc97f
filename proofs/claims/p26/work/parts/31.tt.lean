/-! p26: the law's methods walk by what is behind the object -/
def e47 : List Nat := [0, 1, 2, 3, 4, 5, 6, 7, 8, 9, 10, 11, 12, 13, 14, 15, 16, 17, 18, 19, 20, 21, 22, 23, 24, 25, 26, 27, 28, 29, 30, 31, 32, 33, 34, 35, 36, 37, 38, 39, 40, 41, 42, 43, 44, 45, 46]
def cF (c : CSt) : Nat → Option Nat := c.2.2.2.2.1.2.1
theorem cut_id {g : Nat → Nat} {f : Nat → Option Nat} (hf : hOk2 f) (hg : ∀ k, k = 18 ∨ k = 23 ∨ k = 28 ∨ k = 33 → g k = k) : mjcut g 4 f = f := by
  funext k
  unfold mjcut
  by_cases h : k < 4
  · rw [if_pos h]
    rcases hf.1 k h with e | e | e | e <;> rw [e] <;> simp [hg]
  · rw [if_neg h, hf.2 k (by omega)]
set_option maxRecDepth 100000 in
theorem ext47 {c : CSt} (hf : hOk2 (cF c)) : mjext e47 (xw c) = xw c := by
  have h : mjext e47 (xw c) = xw (c.1, c.2.1, c.2.2.1, c.2.2.2.1, (c.2.2.2.2.1.1, mjcut (mjri e47) 4 (cF c), c.2.2.2.2.1.2.2), c.2.2.2.2.2) := rfl
  rw [h, cut_id hf (fun k hk => by rcases hk with rfl | rfl | rfl | rfl <;> rfl)]
  rfl
set_option maxRecDepth 100000 in
theorem ins47 {c c' : CSt} (hf : hOk2 (cF c')) : mjins e47 (xw c) (xw c') = xw c' := by
  have h : mjins e47 (xw c) (xw c') = xw (c'.1, c'.2.1, c'.2.2.1, c'.2.2.2.1, (c'.2.2.2.2.1.1, mjcut (mjui e47 47) 4 (cF c'), c'.2.2.2.2.1.2.2), c'.2.2.2.2.2) := rfl
  rw [h, cut_id hf (fun k hk => by rcases hk with rfl | rfl | rfl | rfl <;> rfl)]
  rfl
theorem cOk_f {c : CSt} (h : cOk c) : hOk2 (cF c) := h.2.2.2.1.1.1
theorem cOk_x {c : CSt} (h : cOk c) : xOk c.2.2.2.2.1 := h.2.2.2.1.1
/-- whatever object holds what is behind -/
def TT (T : Nat → mjL → List Value → mjM → Nat × Nat → Prop) (u : Nat × Nat) (q : QSt) (pc : Nat) (L : mjL) (S : List Value) : Prop := ∀ c, cOk c → qOf c = q → T pc L S (xw c) u
section TTS
variable {G : mjG} {Z : Option (Nat × (Nat → Int32))} {R : mjM → Option Value → Nat × Nat → Prop} {T : Nat → mjL → List Value → mjM → Nat × Nat → Prop} {pc i : Nat} {v : Int32} {t : Nat} {L : mjL} {S0 : List Value} {q : QSt} {u : Nat × Nat}
theorem tt_seg (hT : mjC G Z R T) (cut : Nat → Bool) (n : Nat) {S : List Value} (h : ∀ c, cOk c → qOf c = q → mj G Z cut T R n pc L S (xw c) u) : TT T u q pc L S := fun c hc hq => hT.1 cut n pc L S (xw c) u (h c hc hq)
theorem tt_go {S : List Value} {M : mjM} {x : Nat × Nat × Nat × Nat × mjSp} (hT : mjC G Z R T) (hr : G.1 pc = some (.invokevirtual i, 3, v, t)) (hf : mjfind G.2.2.1 i = some (0, x)) (h : mjcall G T true (0, x) pc L S M u) : T pc L S M u := by
  refine hT.1 (fun _ => true) 1 pc L S M u ?_
  unfold mj
  rw [hr]
  show mjo (mjfind G.2.2.1 i) _
  rw [hf]
  exact h
theorem mjcall_of {nx : Nat → mjL → List Value → mjM → Nat × Nat → Prop} {virt : Bool} {k vc na cm sm : Nat} {Sp : mjSp} {S : List Value} {M : mjM} {N : mjM} {as : List Value} {P : Prop} {o : Option mjM} {r : Option Value} {M1 : mjM}
    (h1 : (Nat.ble na S.length && (S.take na).all mjone && Nat.ble (mjcat (S.drop na)) 8 && (mjinc (G.2.2.2.1 pc) M.length || mjnd (G.2.2.2.1 pc) M.length) && Nat.ble (G.2.2.2.1 pc).length 4000 && Nat.ble (u.1 + cm) G.2.2.2.2.2.2.2.2.1 && Nat.ble (u.2 + sm) G.2.2.2.2.2.2.2.2.2.1 && (!virt || mjrecv M vc (S.take na).reverse)) = true)
    (hN : mjext (G.2.2.2.1 pc) M = N) (ha : (S.take na).reverse.map (mjv (mjri (G.2.2.2.1 pc))) = as) (hS : Sp N as = (P, o, r)) (hP : P) (h3 : mjres (G.2.2.2.1 pc) cm L (S.drop na) M r o = (true, M1))
    (hn : nx (pc + 3) L (r.toList.map (mjv (mjui (G.2.2.2.1 pc) M.length)) ++ S.drop na) M1 (u.1 + cm, u.2 + sm)) : mjcall G nx virt (k, vc, na, cm, sm, Sp) pc L S M u := by
  unfold mjcall
  simp only [h1, mjb]
  rw [hN, ha, hS]
  refine ⟨hP, ?_⟩
  rw [h3]
  exact hn
def ttu (G : mjG) (u : Nat × Nat) : Bool := Nat.ble (u.1 + 0) G.2.2.2.2.2.2.2.2.1 && Nat.ble (u.2 + 0) G.2.2.2.2.2.2.2.2.2.1
theorem tt_c0 {Sp : mjSp} {P : Prop} {c c' : CSt} {rv : Value} (hT : mjC G Z R T) (hr : G.1 pc = some (.invokevirtual i, 3, v, t)) (hf : mjfind G.2.2.1 i = some (0, 5, 1, 0, 0, Sp)) (hh : G.2.2.2.1 pc = e47) (hu : ttu G u = true) (hS0 : Nat.ble (mjcat S0) 8 = true)
    (hS : Sp (xw c) [.ref 0] = (P, some (xw c'), some rv)) (hP : P) (h2 : hOk2 (cF c)) (h3 : hOk2 (cF c')) (hv : ∀ ad, mjv ad rv = rv) (k : T (pc + 3) L (rv :: S0) (xw c') u) : T pc L (.ref 0 :: S0) (xw c) u := by
  refine tt_go hT hr hf ?_
  unfold ttu at hu
  obtain ⟨hu1, hu2⟩ := Bool.and_eq_true_iff.mp hu
  refine mjcall_of (N := xw c) (as := [.ref 0]) (M1 := xw c') ?_ ?_ ?_ hS hP ?_ ?_
  · rw [hh]
    show (true && (true && Nat.ble (mjcat S0) 8 && true && true && Nat.ble (u.1 + 0) G.2.2.2.2.2.2.2.2.1 && Nat.ble (u.2 + 0) G.2.2.2.2.2.2.2.2.2.1 && true)) = true
    rw [hS0, hu1, hu2]
    rfl
  · rw [hh]
    exact ext47 h2
  · rw [hh]
    rfl
  · rw [hh]
    show (true, mjins e47 (xw c) (xw c')) = _
    rw [ins47 h3]
  · rw [hh]
    show T (pc + 3) L (mjv _ rv :: S0) _ _
    rw [hv]
    exact k
theorem tt_c1 {Sp : mjSp} {P : Prop} {c c' : CSt} {rv : Value} {x : Int32} (hT : mjC G Z R T) (hr : G.1 pc = some (.invokevirtual i, 3, v, t)) (hf : mjfind G.2.2.1 i = some (0, 5, 2, 0, 0, Sp)) (hh : G.2.2.2.1 pc = e47) (hu : ttu G u = true) (hS0 : Nat.ble (mjcat S0) 8 = true)
    (hS : Sp (xw c) [.ref 0, .int x] = (P, some (xw c'), some rv)) (hP : P) (h2 : hOk2 (cF c)) (h3 : hOk2 (cF c')) (hv : ∀ ad, mjv ad rv = rv) (k : T (pc + 3) L (rv :: S0) (xw c') u) : T pc L (.int x :: .ref 0 :: S0) (xw c) u := by
  refine tt_go hT hr hf ?_
  unfold ttu at hu
  obtain ⟨hu1, hu2⟩ := Bool.and_eq_true_iff.mp hu
  refine mjcall_of (N := xw c) (as := [.ref 0, .int x]) (M1 := xw c') ?_ ?_ ?_ hS hP ?_ ?_
  · rw [hh]
    show (true && (true && Nat.ble (mjcat S0) 8 && true && true && Nat.ble (u.1 + 0) G.2.2.2.2.2.2.2.2.1 && Nat.ble (u.2 + 0) G.2.2.2.2.2.2.2.2.2.1 && true)) = true
    rw [hS0, hu1, hu2]
    rfl
  · rw [hh]
    exact ext47 h2
  · rw [hh]
    rfl
  · rw [hh]
    show (true, mjins e47 (xw c) (xw c')) = _
    rw [ins47 h3]
  · rw [hh]
    show T (pc + 3) L (mjv _ rv :: S0) _ _
    rw [hv]
    exact k
theorem tt_c2 {Sp : mjSp} {P : Prop} {c c' : CSt} {rv : Value} {x y : Int32} (hT : mjC G Z R T) (hr : G.1 pc = some (.invokevirtual i, 3, v, t)) (hf : mjfind G.2.2.1 i = some (0, 5, 3, 0, 0, Sp)) (hh : G.2.2.2.1 pc = e47) (hu : ttu G u = true) (hS0 : Nat.ble (mjcat S0) 8 = true)
    (hS : Sp (xw c) [.ref 0, .int x, .int y] = (P, some (xw c'), some rv)) (hP : P) (h2 : hOk2 (cF c)) (h3 : hOk2 (cF c')) (hv : ∀ ad, mjv ad rv = rv) (k : T (pc + 3) L (rv :: S0) (xw c') u) : T pc L (.int y :: .int x :: .ref 0 :: S0) (xw c) u := by
  refine tt_go hT hr hf ?_
  unfold ttu at hu
  obtain ⟨hu1, hu2⟩ := Bool.and_eq_true_iff.mp hu
  refine mjcall_of (N := xw c) (as := [.ref 0, .int x, .int y]) (M1 := xw c') ?_ ?_ ?_ hS hP ?_ ?_
  · rw [hh]
    show (true && (true && Nat.ble (mjcat S0) 8 && true && true && Nat.ble (u.1 + 0) G.2.2.2.2.2.2.2.2.1 && Nat.ble (u.2 + 0) G.2.2.2.2.2.2.2.2.2.1 && true)) = true
    rw [hS0, hu1, hu2]
    rfl
  · rw [hh]
    exact ext47 h2
  · rw [hh]
    rfl
  · rw [hh]
    show (true, mjins e47 (xw c) (xw c')) = _
    rw [ins47 h3]
  · rw [hh]
    show T (pc + 3) L (mjv _ rv :: S0) _ _
    rw [hv]
    exact k
theorem tt_v0 {V : CSt → CSt × Int32} {W : QSt → QSt × Int32} (hV : ∀ {c}, cOk c → AQ (V c) (W (qOf c))) (hT : mjC G Z R T) (hr : G.1 pc = some (.invokevirtual i, 3, v, t)) (hf : mjfind G.2.2.1 i = some (0, 5, 1, 0, 0, xm0 V)) (hh : G.2.2.2.1 pc = e47) (hu : ttu G u = true) (hS0 : Nat.ble (mjcat S0) 8 = true)
    (k : TT T u (W q).1 (pc + 3) L (.int (W q).2 :: S0)) : TT T u q pc L (.ref 0 :: S0) := by
  intro c hc hq
  obtain ⟨a1, a2, a3⟩ := hV hc
  rw [hq] at a2 a3
  refine tt_c0 (c' := (V c).1) (rv := .int (V c).2) hT hr hf hh hu hS0 rfl ⟨⟨rfl, rfl⟩, cOk_x hc⟩ (cOk_f hc) (cOk_f a1) (fun _ => rfl) ?_
  rw [a3]
  exact k _ a1 a2
theorem tt_v1 {V : CSt → Int32 → CSt × Int32} {W : QSt → Int32 → QSt × Int32} {x : Int32} (hV : ∀ {c} x, cOk c → AQ (V c x) (W (qOf c) x)) (hT : mjC G Z R T) (hr : G.1 pc = some (.invokevirtual i, 3, v, t)) (hf : mjfind G.2.2.1 i = some (0, 5, 2, 0, 0, xm1 V)) (hh : G.2.2.2.1 pc = e47) (hu : ttu G u = true) (hS0 : Nat.ble (mjcat S0) 8 = true)
    (k : TT T u (W q x).1 (pc + 3) L (.int (W q x).2 :: S0)) : TT T u q pc L (.int x :: .ref 0 :: S0) := by
  intro c hc hq
  obtain ⟨a1, a2, a3⟩ := hV x hc
  rw [hq] at a2 a3
  refine tt_c1 (c' := (V c x).1) (rv := .int (V c x).2) hT hr hf hh hu hS0 rfl ⟨⟨rfl, rfl⟩, cOk_x hc⟩ (cOk_f hc) (cOk_f a1) (fun _ => rfl) ?_
  rw [a3]
  exact k _ a1 a2
theorem tt_v2 {V : CSt → Int32 → Int32 → CSt × Int32} {W : QSt → Int32 → Int32 → QSt × Int32} {x y : Int32} (hV : ∀ {c} x y, cOk c → AQ (V c x y) (W (qOf c) x y)) (hT : mjC G Z R T) (hr : G.1 pc = some (.invokevirtual i, 3, v, t)) (hf : mjfind G.2.2.1 i = some (0, 5, 3, 0, 0, xm2 V)) (hh : G.2.2.2.1 pc = e47) (hu : ttu G u = true) (hS0 : Nat.ble (mjcat S0) 8 = true)
    (k : TT T u (W q x y).1 (pc + 3) L (.int (W q x y).2 :: S0)) : TT T u q pc L (.int y :: .int x :: .ref 0 :: S0) := by
  intro c hc hq
  obtain ⟨a1, a2, a3⟩ := hV x y hc
  rw [hq] at a2 a3
  refine tt_c2 (c' := (V c x y).1) (rv := .int (V c x y).2) hT hr hf hh hu hS0 rfl ⟨⟨rfl, rfl⟩, cOk_x hc⟩ (cOk_f hc) (cOk_f a1) (fun _ => rfl) ?_
  rw [a3]
  exact k _ a1 a2
/-- the end of a method of the law that answers true -/
theorem tt_ret (hT : mjC G Z R T) (hr : G.1 pc = some (.ireturn, 1, v, t)) (hb : G.2.2.2.2.2.2.2.1 = some .boolean) (h : ∀ c, cOk c → qOf c = q → R (xw c) (some (.int 1)) u) : TT T u q pc L [.int 1] := by
  intro c hc hq
  refine hT.1 (fun _ => true) 1 pc L _ (xw c) u ?_
  unfold mj
  rw [hr]
  show mjrf G R 1 (xw c) u
  unfold mjrf
  rw [hb]
  exact ⟨rfl, h c hc hq⟩
theorem tt_lret (hT : mjC G Z R T) (hr : G.1 pc = some (.lreturn, 1, v, t)) {x : Int64} (h : ∀ c, cOk c → qOf c = q → R (xw c) (some (.long x)) u) : TT T u q pc L [.long x] := by
  intro c hc hq
  refine hT.1 (fun _ => true) 1 pc L _ (xw c) u ?_
  unfold mj
  rw [hr]
  exact h c hc hq
/-- calls of the law's own methods, that a relation tells -/
theorem tt_gor {S : List Value} {M : mjM} {x : Nat × mjSr} (hT : mjC G Z R T) (hr : G.1 pc = some (.invokestatic i, 3, v, t)) (hf : mjfindr G.2.2.2.2.2.2.2.2.2.2.2 i = some x) (h : mjcallr G T x pc L S M u) : T pc L S M u := by
  refine hT.1 (fun _ => true) 1 pc L S M u ?_
  unfold mj
  rw [hr]
  simp only [mjs, hf]
  exact h
theorem mjcallr_of {nx : Nat → mjL → List Value → mjM → Nat × Nat → Prop} {na : Nat} {Sr : mjSr} {S : List Value} {M : mjM} {N : mjM} {as : List Value}
    (h1 : (Nat.ble na S.length && (S.take na).all mjone && Nat.ble (mjcat (S.drop na)) 8 && (mjinc (G.2.2.2.1 pc) M.length || mjnd (G.2.2.2.1 pc) M.length) && Nat.ble (G.2.2.2.1 pc).length 4000 && Nat.ble u.1 G.2.2.2.2.2.2.2.2.1 && Nat.ble u.2 G.2.2.2.2.2.2.2.2.2.1) = true)
    (hN : mjext (G.2.2.2.1 pc) M = N) (ha : (S.take na).reverse.map (mjv (mjri (G.2.2.2.1 pc))) = as) (hP : (Sr N as).1)
    (hn : ∀ (M' : mjM) (r : Option Value), M'.length = (G.2.2.2.1 pc).length → (Sr N as).2 M' r → nx (pc + 3) L (r.toList.map (mjv (mjui (G.2.2.2.1 pc) M.length)) ++ S.drop na) (mjins (G.2.2.2.1 pc) M M') u) : mjcallr G nx (na, Sr) pc L S M u := by
  unfold mjcallr
  simp only [h1, mjb]
  rw [hN, ha]
  exact ⟨hP, hn⟩
/-- a method of the law: what it asks, what it answers, what is behind then; with no number, one, two -/
abbrev lr0 (P : QSt → Prop) (Q : QSt → QSt → Value → Prop) : mjSr := fun M as => ((M = xw (rX M) ∧ as = [.ref 0]) ∧ cOk (rX M) ∧ P (qOf (rX M)), fun M' r => ∃ (c' : CSt) (w : Value), M' = xw c' ∧ cOk c' ∧ r = some w ∧ (∀ ad, mjv ad w = w) ∧ Q (qOf (rX M)) (qOf c') w)
abbrev lr1 (P : QSt → Int32 → Prop) (Q : QSt → Int32 → QSt → Value → Prop) : mjSr := fun M as => ((M = xw (rX M) ∧ as = [.ref 0, .int (aI as 1)]) ∧ cOk (rX M) ∧ P (qOf (rX M)) (aI as 1), fun M' r => ∃ (c' : CSt) (w : Value), M' = xw c' ∧ cOk c' ∧ r = some w ∧ (∀ ad, mjv ad w = w) ∧ Q (qOf (rX M)) (aI as 1) (qOf c') w)
abbrev lr2 (P : QSt → Int32 → Int32 → Prop) (Q : QSt → Int32 → Int32 → QSt → Value → Prop) : mjSr := fun M as => ((M = xw (rX M) ∧ as = [.ref 0, .int (aI as 1), .int (aI as 2)]) ∧ cOk (rX M) ∧ P (qOf (rX M)) (aI as 1) (aI as 2), fun M' r => ∃ (c' : CSt) (w : Value), M' = xw c' ∧ cOk c' ∧ r = some w ∧ (∀ ad, mjv ad w = w) ∧ Q (qOf (rX M)) (aI as 1) (aI as 2) (qOf c') w)
theorem tt_r0 {P : QSt → Prop} {Q : QSt → QSt → Value → Prop} (hT : mjC G Z R T) (hr : G.1 pc = some (.invokestatic i, 3, v, t)) (hf : mjfindr G.2.2.2.2.2.2.2.2.2.2.2 i = some (1, lr0 P Q)) (hh : G.2.2.2.1 pc = e47) (hu : ttu G u = true) (hS0 : Nat.ble (mjcat S0) 8 = true)
    (hP : P q) (k : ∀ q' w, Q q q' w → TT T u q' (pc + 3) L (w :: S0)) : TT T u q pc L (.ref 0 :: S0) := by
  intro c hc hq
  subst hq
  refine tt_gor hT hr hf ?_
  unfold ttu at hu
  obtain ⟨hu1, hu2⟩ := Bool.and_eq_true_iff.mp hu
  refine mjcallr_of (N := xw c) (as := [.ref 0]) ?_ ?_ ?_ ⟨⟨rfl, rfl⟩, hc, hP⟩ (fun M' r hl h => ?_)
  · rw [hh]
    show (true && (true && Nat.ble (mjcat S0) 8 && true && true && Nat.ble (u.1 + 0) G.2.2.2.2.2.2.2.2.1 && Nat.ble (u.2 + 0) G.2.2.2.2.2.2.2.2.2.1)) = true
    rw [hS0, hu1, hu2]
    rfl
  · rw [hh]
    exact ext47 (cOk_f hc)
  · rw [hh]
    rfl
  · obtain ⟨c', w, rfl, hc', rfl, hw, hQ⟩ := h
    rw [hh]
    show T (pc + 3) L (mjv _ w :: S0) (mjins e47 (xw c) (xw c')) u
    rw [hw, ins47 (cOk_f hc')]
    exact k _ w hQ c' hc' rfl
theorem tt_r1 {P : QSt → Int32 → Prop} {Q : QSt → Int32 → QSt → Value → Prop} {x : Int32} (hT : mjC G Z R T) (hr : G.1 pc = some (.invokestatic i, 3, v, t)) (hf : mjfindr G.2.2.2.2.2.2.2.2.2.2.2 i = some (2, lr1 P Q)) (hh : G.2.2.2.1 pc = e47) (hu : ttu G u = true) (hS0 : Nat.ble (mjcat S0) 8 = true)
    (hP : P q x) (k : ∀ q' w, Q q x q' w → TT T u q' (pc + 3) L (w :: S0)) : TT T u q pc L (.int x :: .ref 0 :: S0) := by
  intro c hc hq
  subst hq
  refine tt_gor hT hr hf ?_
  unfold ttu at hu
  obtain ⟨hu1, hu2⟩ := Bool.and_eq_true_iff.mp hu
  refine mjcallr_of (N := xw c) (as := [.ref 0, .int x]) ?_ ?_ ?_ ⟨⟨rfl, rfl⟩, hc, hP⟩ (fun M' r hl h => ?_)
  · rw [hh]
    show (true && (true && Nat.ble (mjcat S0) 8 && true && true && Nat.ble (u.1 + 0) G.2.2.2.2.2.2.2.2.1 && Nat.ble (u.2 + 0) G.2.2.2.2.2.2.2.2.2.1)) = true
    rw [hS0, hu1, hu2]
    rfl
  · rw [hh]
    exact ext47 (cOk_f hc)
  · rw [hh]
    rfl
  · obtain ⟨c', w, rfl, hc', rfl, hw, hQ⟩ := h
    rw [hh]
    show T (pc + 3) L (mjv _ w :: S0) (mjins e47 (xw c) (xw c')) u
    rw [hw, ins47 (cOk_f hc')]
    exact k _ w hQ c' hc' rfl
theorem tt_r2 {P : QSt → Int32 → Int32 → Prop} {Q : QSt → Int32 → Int32 → QSt → Value → Prop} {x y : Int32} (hT : mjC G Z R T) (hr : G.1 pc = some (.invokestatic i, 3, v, t)) (hf : mjfindr G.2.2.2.2.2.2.2.2.2.2.2 i = some (3, lr2 P Q)) (hh : G.2.2.2.1 pc = e47) (hu : ttu G u = true) (hS0 : Nat.ble (mjcat S0) 8 = true)
    (hP : P q x y) (k : ∀ q' w, Q q x y q' w → TT T u q' (pc + 3) L (w :: S0)) : TT T u q pc L (.int y :: .int x :: .ref 0 :: S0) := by
  intro c hc hq
  subst hq
  refine tt_gor hT hr hf ?_
  unfold ttu at hu
  obtain ⟨hu1, hu2⟩ := Bool.and_eq_true_iff.mp hu
  refine mjcallr_of (N := xw c) (as := [.ref 0, .int x, .int y]) ?_ ?_ ?_ ⟨⟨rfl, rfl⟩, hc, hP⟩ (fun M' r hl h => ?_)
  · rw [hh]
    show (true && (true && Nat.ble (mjcat S0) 8 && true && true && Nat.ble (u.1 + 0) G.2.2.2.2.2.2.2.2.1 && Nat.ble (u.2 + 0) G.2.2.2.2.2.2.2.2.2.1)) = true
    rw [hS0, hu1, hu2]
    rfl
  · rw [hh]
    exact ext47 (cOk_f hc)
  · rw [hh]
    rfl
  · obtain ⟨c', w, rfl, hc', rfl, hw, hQ⟩ := h
    rw [hh]
    show T (pc + 3) L (mjv _ w :: S0) (mjins e47 (xw c) (xw c')) u
    rw [hw, ins47 (cOk_f hc')]
    exact k _ w hQ c' hc' rfl
end TTS
section TTM
variable {G : mjG} {Z : Option (Nat × (Nat → Int32))} {R : mjM → Option Value → Nat × Nat → Prop} {T : Nat → mjL → List Value → mjM → Nat × Nat → Prop} {pc : Nat} {L : mjL} {S : List Value} {q : QSt} {u : Nat × Nat}
theorem tt_mask (hT : mjC G Z R T) (bs : List Bool) (h : TT T u q pc (mjmask bs L) S) : TT T u q pc L S := fun c hc hq => hT.2 bs pc L S (xw c) u (h c hc hq)
theorem text60 {c : CSt} (h : cOk c) : (qOf c).2.2.2.length ≤ 60 := by
  obtain ⟨n, hn, hz⟩ := h.2.2.2.2.1
  show (qText c.2.2.2.2.2.1).length ≤ 60
  rw [text_len, hz, nI_clamp (by omega)]
  exact hn
end TTM
