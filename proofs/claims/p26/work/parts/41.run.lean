/-! p26: fault, and a run -/
def dOf (tx : List Int32) : DSt := mkD (fun i => tx.getD i 0) (z0, z0, z0) (nI tx.length) (0, 0, -1)
noncomputable def vFault (tx : List Int32) : Int32 := (dScan 60 0 (dOf tx)).2
theorem fault_mk (ch am rt mn : Nat → Int32) (ln : Int32) (r : RdS) : dFault (ch, am, rt, mn, ln, r) = dScan 60 0 (mkD ch (am, rt, mn) ln (0, 0, -1)) := rfl
theorem fault_ok {d : DSt} {n : Nat} (hn : n ≤ 60) (hl : dLen d = nI n) (hm : ∀ k : Nat, k < 20 → ¬ d.2.2.2.1 k < 0) : (rOk (kFault d).1 ∧ padE (kFault d).1 d.1 n) ∧ (((kFault d).2 = -4 ∧ prog (kFault d).1 d.1 n) ∨ ∃ j : Nat, j ≤ n ∧ (kFault d).2 = nI j) := by
  obtain ⟨ch, am, rt, mn, ln, r⟩ := d
  have hl : ln = nI n := hl
  subst hl
  rw [kFault, kseal_eq, fault_mk]
  refine scan_ok hn 60 0 (am, rt, mn) (0, 0, -1) rfl (Nat.zero_le n) ⟨rfl, Or.inl ⟨rfl, rfl, Nat.le_refl 0⟩⟩ ⟨hm, fun k hk => absurd hk (Nat.not_lt_zero k), fun k hk => absurd hk (Nat.not_lt_zero k), fun h => absurd h (by decide), fun h => absurd h (by decide)⟩ (fun h => absurd h (by decide))
theorem fault_v {d : DSt} {n : Nat} (hn : n ≤ 60) (hl : dLen d = nI n) : (kFault d).2 = vFault (qText d) := by
  obtain ⟨ch, am, rt, mn, ln, r⟩ := d
  have hl : ln = nI n := hl
  subst hl
  have el : (qText (ch, am, rt, mn, nI n, r)).length = n := by
    rw [text_len]
    exact nI_clamp (by omega)
  rw [kFault, kseal_eq, fault_mk]
  unfold vFault dOf
  rw [el]
  refine scan_u (fun i hi => ?_) hn 60 0 _ _ _ (Nat.le_refl 60)
  show ch i = (qText (ch, am, rt, mn, nI n, r)).getD i 0
  unfold qText
  rw [List.getD_eq_getElem?_getD, List.getElem?_map, List.getElem?_range (by show i < (nI n).toNatClampNeg; rw [nI_clamp (by omega)]; exact hi)]
  rfl
theorem aq_fault {c : CSt} (hc : cOk c) : AQ (cFault c) (qOf c, vFault (qOf c).2.2.2) := by
  obtain ⟨a, t, s, b, h, d, z, fo⟩ := c
  obtain ⟨h1, h2, h3, h4, ⟨n, hn, hl⟩, h7⟩ := hc
  obtain ⟨⟨f1, f2⟩, _⟩ := fault_ok hn hl h7
  refine ⟨⟨h1, h2, h3, h4, ⟨n, hn, f2.2⟩, f1.1⟩, ?_, fault_v hn hl⟩
  show (nrm a, _, qHist (zDn h), qText (kFault d).1) = _
  have e : qText (kFault d).1 = qText d := by
    unfold qText
    rw [f2.2, f2.1]
    have hl : dLen d = nI n := hl
    rw [hl]
  rw [e]
  rfl
/-- segments -/
theorem fRun_ok {d : DSt} {S : Nat} (hS : S ≤ 20) (hd : dSegs d = nI S) (hm : ∀ k : Nat, k < S → 1 ≤ (d.2.2.2.1 k).toInt ∧ (d.2.2.2.1 k).toInt ≤ 99) (ha : ∀ k : Nat, k < S → d.2.1 k = -1 ∨ ((0 ≤ (d.2.1 k).toInt ∧ (d.2.1 k).toInt ≤ 1000) ∧ 1 ≤ (d.2.2.1 k).toInt ∧ (d.2.2.1 k).toInt ≤ 100)) {B : Int} (hb : bOk B) :
    ∀ (f i : Nat) (x : Int32) (a : PSt) (m : Int), i + f = 20 → i ≤ S → MI B m a → m + 99 * f ≤ 900000 → ∃ (a' : PSt) (t : Nat), fRun d f i x a = (a', nI t) ∧ i ≤ t ∧ t ≤ S ∧ MI B (m + 99 * f) a' ∧ (pMinutes a).toInt + ((t : Int) - (i : Int)) ≤ (pMinutes a').toInt ∧ crN (pC a) 60 ≤ crN (pC a') 60 ∧ (¬ x = 0 → t = i ∧ a' = a) ∧ (x = 0 → (t = S ∨ crN (pC a) 60 < crN (pC a') 60) ∧ (i < S → i + 1 ≤ t)) := by
  intro f
  induction f with
  | zero =>
    intro i x a m hf hi hM hB
    refine ⟨a, i, rfl, Nat.le_refl i, hi, MI_mono (by omega) hM, by omega, Nat.le_refl _, fun _ => ⟨rfl, rfl⟩, fun _ => ⟨Or.inl (by omega), fun h => by omega⟩⟩
  | succ f ih =>
    intro i x a m hf hi hM hB
    have e : fRun d (f + 1) i x a = if dSegs d ≤ nI i then (a, nI i) else if ¬ x = 0 then (a, nI i) else fRun d f (i + 1) (fStep d (nI i) a).2 (fStep d (nI i) a).1 := rfl
    rw [e, hd]
    by_cases h1 : nI S ≤ nI i
    · have := (nI_leI (by omega) (by omega)).mp h1
      rw [if_pos h1]
      exact ⟨a, i, rfl, Nat.le_refl i, hi, MI_mono (by omega) hM, by omega, Nat.le_refl _, fun _ => ⟨rfl, rfl⟩, fun _ => ⟨Or.inl (by omega), fun h => by omega⟩⟩
    · rw [if_neg h1]
      have hiS : i < S := by
        rcases Nat.lt_or_ge i S with w | w
        · exact w
        · exact absurd (nI_le w (by omega)) h1
      by_cases h2 : x = 0
      · rw [if_neg (fun h => h h2)]
        have gs : ¬ gIsSeg (nI i) = 0 := by
          unfold gIsSeg
          rw [if_neg (nI_pos (by omega)), if_neg (show ¬ (20 : Int32) ≤ nI i from nI_ge (show i < 20 by omega) (by decide))]
          decide
        have g : ∀ (r : Nat → Int32) (e : Int32), gSeg r (nI i) e = r i := by
          intro r e
          unfold gSeg
          rw [if_neg gs, nI_clamp (by omega)]
        have hmi := hm i hiS
        obtain ⟨v, hv, ev⟩ := nI_of (show ¬ d.2.2.2.1 i < 0 by rw [Int32.lt_iff_toInt_lt, show (0 : Int32).toInt = 0 from rfl]; omega)
        rw [ev, nI_toInt hv] at hmi
        have est : ∃ a1 : PSt, MI B m a1 ∧ pMinutes a1 = pMinutes a ∧ pC a1 = pC a ∧ fStep d (nI i) a = pPass a1 v := by
          unfold fStep
          rw [kseal_eq, g, g, g, ev, nI_clamp hv]
          by_cases h3 : d.2.1 i = -1
          · rw [if_pos h3]
            exact ⟨a, hM, rfl, rfl, rfl⟩
          · rw [if_neg h3]
            have := (ha i hiS).resolve_left h3
            exact ⟨_, ⟨pG_aim hM.1 this.1 this.2, hM.2⟩, rfl, rfl, rfl⟩
        obtain ⟨a1, m1, m2, m3, m4⟩ := est
        rw [m4]
        obtain ⟨p1, p2, p3, p4, k, k1, k2, k3⟩ := pass_MI hb m1 v (by omega)
        obtain ⟨a', t, r1, r2, r3, r4, r5, r6, r7, r8⟩ := ih (i + 1) (pPass a1 v).2 (pPass a1 v).1 (m + v) (by omega) (by omega) p1 (by omega)
        rw [m2] at p3
        rw [m3] at k3
        refine ⟨a', t, r1, by omega, r3, MI_mono (by omega) r4, by omega, by omega, fun h => absurd h2 h, fun _ => ⟨?_, fun _ => by omega⟩⟩
        by_cases hk : k = 0
        · rw [k2, hk] at r8
          rcases (r8 rfl).1 with w | w
          · exact Or.inl w
          · exact Or.inr (by omega)
        · have hx : ¬ (pPass a1 v).2 = 0 := by
            rw [k2]
            exact nI_ne00 (by omega) (by omega)
          obtain ⟨_, w2⟩ := r7 hx
          rw [w2]
          exact Or.inr (by omega)
      · rw [if_pos h2]
        exact ⟨a, i, rfl, Nat.le_refl i, hi, MI_mono (by omega) hM, by omega, Nat.le_refl _, fun _ => ⟨rfl, rfl⟩, fun h => absurd h h2⟩
/-- what a run answers, and does -/
def runQ (q q' : QSt) (r : Int32) : Prop := (¬ vFault q.2.2.2 = -4 → q' = q ∧ r = -2) ∧ (vFault q.2.2.2 = -4 → ∃ (p' : PSt) (t : Nat), q' = (nrm p', q.2.1, qPush q, []) ∧ r = nI t ∧ 1 ≤ t ∧ t ≤ q.2.2.2.count 59 + 1 ∧ q.2.2.2.count 59 + 1 ≤ 20 ∧ (∀ l : List Int32, ¬ q.2.2.2 = l ++ [59]) ∧ (∀ k : Nat, k ≤ 99 → PI k q.1 → PI (k + 1) p' ∧ (pMinutes q.1).toInt + t ≤ (pMinutes p').toInt ∧ (t = q.2.2.2.count 59 + 1 ∨ crN (pC q.1) 60 < crN (pC p') 60)))
theorem fault_j {tx : List Int32} (h : tx.length ≤ 60) : vFault tx = -4 ∨ ∃ j : Nat, j ≤ tx.length ∧ vFault tx = nI j := by
  have := (scan_ok (ch := fun i => tx.getD i 0) h 60 0 (z0, z0, z0) (0, 0, -1) rfl (Nat.zero_le _) ⟨rfl, Or.inl ⟨rfl, rfl, Nat.le_refl 0⟩⟩ ⟨fun k _ => (show ¬ (0 : Int32) < 0 by decide), fun k hk => absurd hk (Nat.not_lt_zero k), fun k hk => absurd hk (Nat.not_lt_zero k), fun h => absurd h (by decide), fun h => absurd h (by decide)⟩ (fun h => absurd h (by decide))).2
  exact this.imp (fun h => h.1) id
theorem aq_run {c : CSt} (hc : cOk c) (hI : ∃ k : Nat, k ≤ 99 ∧ PI k (qOf c).1) : rOk (kFault c.2.2.2.2.2.1).1 ∧ cOk (cRun c).1 ∧ runQ (qOf c) (qOf (cRun c).1) (cRun c).2 := by
  obtain ⟨a, t, s, b, h, d, z, fo⟩ := c
  have hc0 := hc
  obtain ⟨h1, h2, h3, h4, ⟨n, hn, hl⟩, h7⟩ := hc
  dsimp only at h1 h2 h3 h4 hl h7
  obtain ⟨⟨f1, f2⟩, f3⟩ := fault_ok hn hl h7
  have fv := fault_v hn hl
  have et : qText (kFault d).1 = qText d := by
    unfold qText
    rw [f2.2, f2.1, hl]
  have ec : (qText d).count 59 = cS d.1 n := by
    unfold qText
    rw [hl, nI_clamp (by omega), cS_list]
  refine ⟨f1, ?_⟩
  unfold cRun
  by_cases h0 : (kFault d).2 = -4
  · rw [if_pos (show (kFault (a, t, s, b, h, d, z, fo).2.2.2.2.2.1).2 = -4 from h0)]
    have hp : prog (kFault d).1 d.1 n := by
      rcases f3 with w | ⟨j, _, w⟩
      · exact w.2
      · rw [h0] at w
        exact absurd (show (-4 : Int32).toInt = (nI j).toInt by rw [w]) (by rw [nI_toInt (by omega), show (-4 : Int32).toInt = -4 from rfl]; omega)
    obtain ⟨g1, g2, g3, g4, g5, g6⟩ := hp
    have ga : ∀ k : Nat, k ≤ 99 → PI k (nrm a) → PI k a := fun k _ hk => ⟨⟨hk.1.1, h1.2, hk.1.2.2⟩, hk.2⟩
    -- the pane behind the run, and how far it went: one for all bounds
    obtain ⟨k0, hk0, hI0⟩ := hI
    have run : ∀ k : Nat, k ≤ 99 → PI k (nrm a) → ∃ (a' : PSt) (t : Nat), fRun (kFault d).1 20 0 0 a = (a', nI t) ∧ 1 ≤ t ∧ t ≤ cS d.1 n + 1 ∧ PI (k + 1) a' ∧ (pMinutes a).toInt + t ≤ (pMinutes a').toInt ∧ (t = cS d.1 n + 1 ∨ crN (pC a) 60 < crN (pC a') 60) := by
      intro k hk hI
      obtain ⟨a', t, r1, r2, r3, r4, r5, r6, r7, r8⟩ := fRun_ok g2 g1 g5 g6 (bK_ok (k := k) (by omega)) 20 0 0 a (2000 * (k : Int)) rfl (Nat.zero_le _) (ga k hk hI) (by omega)
      exact ⟨a', t, r1, (r8 rfl).2 (by omega), r3, MI_mono (by omega) (MI_B (bK_le k) r4), by omega, (r8 rfl).1⟩
    obtain ⟨a', t', r1, r2, r3, r4, r5, r6⟩ := run k0 hk0 hI0
    have ek : kRun (kFault d).1 a = (a', nI t') := by rw [kRun, kseal_eq, r1]
    show cOk (cPad (cNow (a, t, s, b, h, d, z, fo) (kRun (kFault d).1 a).1 (cRec a h)) (dLen0 (kFault d).1)) ∧ runQ _ (qOf (cPad (cNow (a, t, s, b, h, d, z, fo) (kRun (kFault d).1 a).1 (cRec a h)) (dLen0 (kFault d).1))) (kRun (kFault d).1 a).2
    rw [ek]
    obtain ⟨k1, k2⟩ := crec_ok h4.1 h4.2 h1
    refine ⟨⟨MI_tOk r4, h2, h3, k1, ⟨0, by omega, rfl⟩, f1.1⟩, fun h => absurd (fv.symm.trans h0) h, fun _ => ⟨a', t', ?_, rfl, r2, ?_, ?_, ?_, fun k hk hI => ?_⟩⟩
    · show (nrm a', _, qHist (zDn (cRec a h)), qText (dLen0 (kFault d).1)) = _
      rw [k2]
      rfl
    · show t' ≤ (qText d).count 59 + 1
      rw [ec]
      exact r3
    · show (qText d).count 59 + 1 ≤ 20
      rw [ec]
      exact g2
    · intro l e
      have e : qText d = l ++ [59] := e
      unfold qText at e
      rw [hl, nI_clamp (by omega)] at e
      obtain ⟨m, rfl⟩ : ∃ m, n = m + 1 := ⟨n - 1, by omega⟩
      rw [List.range_succ, List.map_append] at e
      have e2 := (List.append_inj' e rfl).2
      rw [Nat.add_sub_cancel] at g4
      exact g4 (List.head_eq_of_cons_eq e2)
    · obtain ⟨a2, t2, s1, s2, s3, s4, s5, s6⟩ := run k hk hI
      rw [r1] at s1
      obtain ⟨e1, e2⟩ := Prod.mk.inj s1
      subst e1
      show PI (k + 1) a' ∧ (pMinutes a).toInt + t' ≤ (pMinutes a').toInt ∧ (t' = (qText d).count 59 + 1 ∨ crN (pC a) 60 < crN (pC a') 60)
      rw [ec]
      exact ⟨s4, r5, r6⟩
  · rw [if_neg (show ¬ (kFault (a, t, s, b, h, d, z, fo).2.2.2.2.2.1).2 = -4 from h0)]
    refine ⟨⟨h1, h2, h3, h4, ⟨n, hn, f2.2⟩, f1.1⟩, fun _ => ⟨?_, rfl⟩, fun h => absurd (fv.trans h) h0⟩
    show (nrm a, _, qHist (zDn h), qText (kFault d).1) = _
    rw [et]
    rfl
section TTR
variable {G : mjG} {Z : Option (Nat × (Nat → Int32))} {R : mjM → Option Value → Nat × Nat → Prop} {T : Nat → mjL → List Value → mjM → Nat × Nat → Prop} {pc i : Nat} {v : Int32} {t : Nat} {L : mjL} {S0 : List Value} {q : QSt} {u : Nat × Nat}
theorem tt_run (hI : ∃ k : Nat, k ≤ 99 ∧ PI k q.1) (hT : mjC G Z R T) (hr : G.1 pc = some (.invokevirtual i, 3, v, t)) (hf : mjfind G.2.2.1 i = some (0, 5, 1, 0, 0, S_X6_run)) (hh : G.2.2.2.1 pc = e47) (hu : ttu G u = true) (hS0 : Nat.ble (mjcat S0) 8 = true)
    (k : ∀ q' r, runQ q q' r → TT T u q' (pc + 3) L (.int r :: S0)) : TT T u q pc L (.ref 0 :: S0) := by
  intro c hc hq
  subst hq
  obtain ⟨a0, a1, a2⟩ := aq_run hc hI
  exact tt_c0 (c' := (cRun c).1) (rv := .int (cRun c).2) hT hr hf hh hu hS0 rfl ⟨⟨⟨rfl, rfl⟩, cOk_x hc⟩, a0⟩ (cOk_f hc) (cOk_f a1) (fun _ => rfl) (k _ _ a2 _ a1 rfl)
end TTR
