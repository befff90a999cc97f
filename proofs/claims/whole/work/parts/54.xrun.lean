/-! class and model: programs, run -/
def mnOk (mn : Nat → Int32) : Prop := ∀ k : Nat, k < 20 → ¬ mn k < 0
/-- the rows hold what the text's segments say, from a segment on -/
def RR (pd : Nat → Int32) (n : Nat) (am rt mn : Nat → Int32) (S : Nat) : Nat → Nat → Nat → Prop
  | 0, _, _ => False
  | f + 1, i, s => ∃ (i' : Nat) (ho ta tR tm : Int32), i + 2 ≤ i' ∧ i' ≤ n ∧ (ho = 0 ∨ ho = 1) ∧ segIs pd n i i' ho ta tR tm ∧ (0 ≤ ta.toInt ∧ ta.toInt ≤ 1000) ∧ (1 ≤ tR.toInt ∧ tR.toInt ≤ 100) ∧ s < S ∧ S ≤ 20 ∧ am s = (if ho = 0 then ta else -1) ∧ (ho = 0 → rt s = tR) ∧ mn s = tm ∧ ((i' = n ∧ S = s + 1) ∨ (i' < n ∧ RR pd n am rt mn S f (i' + 1) (s + 1)))
theorem keep_n {s : Nat} {f : Nat → Int32} {v : Int32} (hs : s < 20) : dKeep (nI s) f v = upd f s v := by
  unfold dKeep
  rw [if_neg (nI_pos (by omega)), if_neg (show ¬ (20 : Int32) ≤ nI s from nI_ge hs (by decide)), nI_clamp (by omega)]
theorem mnOk_upd {mn : Nat → Int32} {s : Nat} {v : Int32} (h : mnOk mn) (hv : 1 ≤ v.toInt) : mnOk (upd mn s v) := by
  intro k hk
  unfold upd
  split
  · rw [Int32.lt_iff_toInt_lt, show (0 : Int32).toInt = 0 from rfl]
    omega
  · exact h k hk
theorem prog_rel {ch pd : Nat → Int32} {n : Nat} (hX : tX ch pd n) : ∀ f i s, n - i < f → i ≤ n → 3 * s ≤ i → ∀ am rt mn, mnOk mn →
    ((∃ i', i' ≤ n ∧ (∀ r, (tProg pd (nI n) f (kSeg pd (nI n) (nI i, 1, r))).1 = nI i' ∧ (tProg pd (nI n) f (kSeg pd (nI n) (nI i, 1, r))).2.1 = 0) ∧ ∃ am' rt' mn' S p' nu, dScan (60 - i) i (ch, am, rt, mn, nI n, nI s, 0, -1) = ((ch, am', rt', mn', nI n, nI S, p', nu), nI i') ∧ mnOk mn' ∧ S ≤ 20) ∨
    ((∀ r, (tProg pd (nI n) f (kSeg pd (nI n) (nI i, 1, r))).2.1 = 1) ∧ ∃ am' rt' mn' S, dScan (60 - i) i (ch, am, rt, mn, nI n, nI s, 0, -1) = ((ch, am', rt', mn', nI n, nI S, 0, -1), -4) ∧ mnOk mn' ∧ S ≤ 20 ∧ s < S ∧ RR pd n am' rt' mn' S f i s ∧ ∀ k : Nat, k < s → am' k = am k ∧ rt' k = rt k ∧ mn' k = mn k)) := by
  have hn := hX.1
  have p3 : isPt 3 1 99 := Or.inr (Or.inr ⟨rfl, rfl, rfl⟩)
  intro f
  induction f with
  | zero => exact fun i s h => absurd h (by omega)
  | succ f ih =>
    intro i s hf hi hs am rt mn hmn
    rcases seg_rel hX hi with ⟨i', a1, a2, a3, a4⟩ | ⟨i', ho, ta, tR, tm, a1, a2, a3, a4, a5, a6, a7, a8, a9⟩
    · refine Or.inl ⟨i', a2, fun r => ?_, ?_⟩
      · have h := a3 r
        generalize kSeg pd (nI n) (nI i, 1, r) = g at h ⊢
        obtain ⟨g1, g2, g3, g4, g5, g6⟩ := g
        obtain ⟨h1, h2⟩ := h
        have h2 : g2 = 0 := h2
        rw [tProg_s, if_pos h2]
        exact ⟨h1, h2⟩
      · obtain ⟨am', rt', p', nu, e⟩ := a4 am rt mn (nI s)
        exact ⟨am', rt', mn, s, p', nu, e, hmn, by omega⟩
    · have hs20 : s < 20 := by omega
      have hneg : ¬ tm = -1 := fun e => by
        rw [e] at a7
        have : (-1 : Int32).toInt = -1 := rfl
        omega
      have eD : ∀ (am rt mn : Nat → Int32), dEnd (ch, am, rt, mn, nI n, nI s, 3, tm) = (ch, am, rt, upd mn s tm, nI n, nI (s + 1), 0, -1) := by
        intro am rt mn
        unfold dEnd
        dsimp only
        rw [if_neg (by decide), if_neg (by decide), keep_n hs20, nI_succ]
      have hM : mnOk (upd mn s tm) := mnOk_upd hmn a7.1
      have eS : ∀ r, kSeg pd (nI n) (nI i, 1, r) = (nI i', 1, ho, if ho = 0 then ta else r.2.1, if ho = 0 then tR else r.2.2.1, tm) := fun r => a4 r.1 r.2.1 r.2.2.1 r.2.2.2
      have key := a9 am rt mn (nI s)
      rw [keep_n hs20] at key
      have ert : (if ho = 0 then dKeep (nI s) rt tR else rt) = (if ho = 0 then upd rt s tR else rt) := by rw [keep_n hs20]
      rw [ert] at key
      have er : ho = 0 → (if ho = 0 then upd rt s tR else rt) s = tR := fun h => by
        rw [if_pos h]
        exact if_pos rfl
      have erk : ∀ k : Nat, k < s → (if ho = 0 then upd rt s tR else rt) k = rt k := by
        intro k hk
        split
        · exact if_neg (by omega)
        · rfl
      rcases end_rel hX p3 a2 a7 a8 with ⟨⟨b1, b2⟩, b3⟩ | b1 | ⟨⟨b1, b2⟩, b3⟩
      · have b2 : pd i' = 59 := b2
        have ih2 := ih (i' + 1) (s + 1) (by omega) (by omega) (by omega) (upd am s (if ho = 0 then ta else -1)) (if ho = 0 then upd rt s tR else rt) (upd mn s tm) hM
        have eP : ∀ r, tProg pd (nI n) (f + 1) (kSeg pd (nI n) (nI i, 1, r)) = tProg pd (nI n) f (kSeg pd (nI n) (nI (i' + 1), 1, ho, if ho = 0 then ta else r.2.1, if ho = 0 then tR else r.2.2.1, tm)) := by
          intro r
          rw [eS, tProg_s, if_neg (show ¬ (1 : Int32) = 0 by decide), if_neg (nI_ge b1 (by omega)), here_at hn b1, show gB (pd i') 59 = 1 from if_pos b2, if_neg (show ¬ tkF 1 1 = 0 by decide), ← nI_succ]
        rw [key, b3, eD]
        rcases ih2 with ⟨i2, c1, c2, c3⟩ | ⟨c1, am', rt', mn', S, c2, c3, c4, c5, c6, c7⟩
        · refine Or.inl ⟨i2, c1, fun r => ?_, c3⟩
          rw [eP]
          exact c2 _
        · refine Or.inr ⟨fun r => by rw [eP]; exact c1 _, am', rt', mn', S, c2, c3, c4, by omega, ?_, fun k hk => ?_⟩
          · obtain ⟨d1, d2, d3⟩ := c7 s (by omega)
            exact ⟨i', ho, ta, tR, tm, a1, a2, a3, a4, a5, a6, by omega, c4, d1.trans (if_pos rfl), fun h => d2.trans (er h), d3.trans (if_pos rfl), Or.inr ⟨b1, c6⟩⟩
          · obtain ⟨d1, d2, d3⟩ := c7 k (by omega)
            exact ⟨d1.trans (if_neg (by omega)), d2.trans (erk k hk), d3.trans (if_neg (by omega))⟩
      · subst b1
        have eP : ∀ r, tProg pd (nI i') (f + 1) (kSeg pd (nI i') (nI i, 1, r)) = (nI i', 1, ho, if ho = 0 then ta else r.2.1, if ho = 0 then tR else r.2.2.1, tm) := by
          intro r
          rw [eS, tProg_s, if_neg (show ¬ (1 : Int32) = 0 by decide), if_pos (nI_le (Nat.le_refl _) (by omega))]
        rw [key, scan_end hn rfl]
        have eF : ∀ (am rt mn : Nat → Int32), dFin (ch, am, rt, mn, nI i', nI s, 3, tm) = ((ch, am, rt, upd mn s tm, nI i', nI (s + 1), 0, -1), -4) := by
          intro am rt mn
          unfold dFin dPart dNum
          dsimp only
          rw [if_pos rfl, if_neg hneg, kEnd, kseal_eq, eD]
        rw [eF]
        refine Or.inr ⟨fun r => by rw [eP], _, _, _, s + 1, rfl, hM, by omega, by omega, ⟨i', ho, ta, tR, tm, a1, a2, a3, a4, a5, a6, by omega, by omega, if_pos rfl, er, if_pos rfl, Or.inl ⟨rfl, rfl⟩⟩, fun k hk => ⟨if_neg (by omega), erk k hk, if_neg (by omega)⟩⟩
      · have b2 : ¬ pd i' = 59 := b2
        refine Or.inl ⟨i', a2, fun r => ?_, ?_⟩
        · rw [eS, tProg_s, if_neg (show ¬ (1 : Int32) = 0 by decide), if_neg (nI_ge b1 (by omega)), here_at hn b1, show gB (pd i') 59 = 0 from if_neg b2, if_pos (show tkF 1 0 = 0 from rfl)]
          exact ⟨rfl, rfl⟩
        · obtain ⟨p', nu, e⟩ := b3 (upd am s (if ho = 0 then ta else -1)) (if ho = 0 then upd rt s tR else rt) mn (nI s)
          exact ⟨_, _, mn, s, p', nu, by rw [key, e], hmn, by omega⟩
/-- the whole text -/
theorem fault_rel {d : DSt} {pd : Nat → Int32} {ln : Int32} (hP : PadR d pd ln) :
    ∃ n, n ≤ 60 ∧ ln = nI n ∧ ((∃ i', i' ≤ n ∧ (∀ r, (kProg pd ln r).1 = nI i' ∧ (kProg pd ln r).2.1 = 0) ∧ (kFault d).2 = nI i') ∨ ((∀ r, (kProg pd ln r).2.1 = 1) ∧ (kFault d).2 = -4 ∧ ∃ S, dSegs (kFault d).1 = nI S ∧ RR pd n (kFault d).1.2.1 (kFault d).1.2.2.1 (kFault d).1.2.2.2.1 S 61 0 0)) ∧ rOk (kFault d).1 ∧ PadR (kFault d).1 pd ln := by
  obtain ⟨ch, am, rt, mn, l, sg, pt, nu⟩ := d
  obtain ⟨⟨n, n1, n2, n3, n4⟩, n5⟩ := hP
  have n2 : l = nI n := n2
  subst n2
  subst n3
  have hX : tX ch pd n := ⟨n1, n4⟩
  have hK : kFault (ch, am, rt, mn, nI n, sg, pt, nu) = dScan (60 - 0) 0 (ch, am, rt, mn, nI n, nI 0, 0, -1) := by
    rw [kFault, kseal_eq]
    rfl
  have hp := prog_rel hX 61 0 0 (by omega) (by omega) (by omega) am rt mn n5
  have eK : ∀ r, kProg pd (nI n) r = tProg pd (nI n) 61 (kSeg pd (nI n) (nI 0, 1, r)) := by
    intro r
    rw [kProg, kseal_eq]
    rfl
  rw [hK]
  refine ⟨n, n1, rfl, ?_⟩
  rcases hp with ⟨i', a1, a2, am', rt', mn', S, p', nu', a3, a4, a5⟩ | ⟨a1, am', rt', mn', S, a3, a4, a5, a6, a7, a8⟩
  · rw [a3]
    refine ⟨Or.inl ⟨i', a1, fun r => by rw [eK]; exact a2 r, rfl⟩, ⟨a4, show nI S ≤ nI 20 from nI_le a5 (by omega)⟩, ⟨n, n1, rfl, rfl, n4⟩, a4⟩
  · rw [a3]
    exact ⟨Or.inr ⟨fun r => by rw [eK]; exact a1 r, rfl, S, rfl, a7⟩, ⟨a4, show nI S ≤ nI 20 from nI_le a5 (by omega)⟩, ⟨n, n1, rfl, rfl, n4⟩, a4⟩
theorem nn_ne {i : Nat} (h : i ≤ 60) : ¬ nI i = -4 := by
  intro e
  have := nI_pos (n := i) (by omega)
  rw [e] at this
  exact this (by decide)
theorem x_fault {k : Nat} {c : CSt} {m : RSt} (hr : Rel k c m) (hk : k < 512) : (cFault c).2 = (rFault m).2 ∧ Rel (k + 1) (cFault c).1 (rFault m).1 := by
  obtain ⟨a, t, u, b, h, d, z, w⟩ := c
  obtain ⟨s, ad, pa, ke, pd, fl, nm, kn, ik, ln, sg, sp, fo, ho, ta, tR, tm⟩ := m
  have hm := Rel_mono hr
  have hR := hr
  obtain ⟨⟨a1, a2, a3⟩, b1, ⟨c1, c2, c3⟩, ⟨d1, d2⟩, e1⟩ := hr
  dsimp only at a1 a2 a3 b1 c1 c2 c3 d1 d2 e1
  obtain ⟨n, f1, f2, f3, f4, f5⟩ := fault_rel e1
  obtain ⟨m1, m2, m3, m4, m5⟩ := hm
  refine ⟨?_, m1, m2, m3, m4, f5⟩
  show (kFault d).2 = if (kProg pd ln (ho, ta, tR, tm)).2.1 = 0 then (kProg pd ln (ho, ta, tR, tm)).1 else -4
  rcases f3 with ⟨i', g1, g2, g3⟩ | ⟨g1, g2, _⟩
  · rw [if_pos (g2 _).2, (g2 _).1, g3]
  · rw [if_neg (by rw [g1]; decide), g2]
theorem seg_at {f : Nat → Int32} {s : Nat} {e : Int32} (hs : s < 20) : gSeg f (nI s) e = f s := by
  unfold gSeg gIsSeg
  rw [if_neg (nI_pos (by omega)), if_neg (show ¬ (20 : Int32) ≤ nI s from nI_ge hs (by decide)), if_neg (by decide), nI_clamp (by omega)]
theorem run_rel {B : Int} (hb : bOk B) {pd : Nat → Int32} {n : Nat} (hn : n ≤ 60) {d : DSt} {S : Nat} (hS : dSegs d = nI S) : ∀ f i s, RR pd n d.2.1 d.2.2.1 d.2.2.2.1 S f i s → ∀ F, f ≤ F → ∀ (a q : PSt) (x : Int32) (r : Int32 × Int32 × Int32 × Int32), pG B a → pE a q → gZ q.2.1 →
    pE (fRun d (20 - s) s 0 a).1 (uRun pd (nI n) F q x (nI i, 1, r) (nI s) 0).1 ∧ gZ (uRun pd (nI n) F q x (nI i, 1, r) (nI s) 0).1.2.1 ∧ pG B (fRun d (20 - s) s 0 a).1 ∧ (fRun d (20 - s) s 0 a).2 = (uRun pd (nI n) F q x (nI i, 1, r) (nI s) 0).2.2.2 := by
  intro f
  induction f with
  | zero => exact fun i s h => absurd h id
  | succ f ih =>
    intro i s hR F hF a q x r ha he hq
    obtain ⟨i', ho, ta, tR, tm, a1, a2, a3, a4, a5, a6, a7, a8, a9, a10, a11, a12⟩ := hR
    obtain ⟨F', rfl⟩ : ∃ F', F = F' + 1 := ⟨F - 1, by omega⟩
    obtain ⟨k, hk⟩ : ∃ k, 20 - s = k + 1 := ⟨20 - s - 1, by omega⟩
    have hk2 : 20 - (s + 1) = k := by omega
    rw [hk]
    have hs20 : s < 20 := by omega
    have eC : fRun d (k + 1) s 0 a = fRun d k (s + 1) (fStep d (nI s) a).2 (fStep d (nI s) a).1 := by
      show (if dSegs d ≤ nI s then (a, nI s) else if ¬ (0 : Int32) = 0 then (a, nI s) else fRun d k (s + 1) (fStep d (nI s) a).2 (fStep d (nI s) a).1) = _
      rw [hS, if_neg (nI_ge a7 (by omega)), if_neg (fun h => h rfl)]
    have eK : kSeg pd (nI n) (nI i, 1, r) = (nI i', 1, ho, if ho = 0 then ta else r.2.1, if ho = 0 then tR else r.2.2.1, tm) := a4 r.1 r.2.1 r.2.2.1 r.2.2.2
    have eM : uRun pd (nI n) (F' + 1) q x (nI i, 1, r) (nI s) 0 = uRun pd (nI n) F' (kPass7 (if ho = 0 then pSetAim q ta tR else q) x tm.toNatClampNeg).1 (kPass7 (if ho = 0 then pSetAim q ta tR else q) x tm.toNatClampNeg).2.1 (nI (i' + 1), 1, ho, if ho = 0 then ta else r.2.1, if ho = 0 then tR else r.2.2.1, tm) (nI (s + 1)) (kPass7 (if ho = 0 then pSetAim q ta tR else q) x tm.toNatClampNeg).2.2 := by
      show (if (0 : Int32) = 0 then (if nI n ≤ nI i then _ else uRun pd (nI n) F' (uStep (kSeg pd (nI n) (nI i, 1, r)) q x).1 (uStep (kSeg pd (nI n) (nI i, 1, r)) q x).2.1 ((kSeg pd (nI n) (nI i, 1, r)).1 + 1, (kSeg pd (nI n) (nI i, 1, r)).2) (nI s + 1) (uStep (kSeg pd (nI n) (nI i, 1, r)) q x).2.2) else _) = _
      rw [if_pos rfl, if_neg (nI_ge (show i < n by omega) (by omega)), eK, nI_succ, nI_succ]
      unfold uStep
      dsimp only
      rcases a3 with e | e
      · rw [if_pos e, if_pos e, if_pos e, if_pos e]
      · have hne : ¬ ho = 0 := by
          rw [e]
          decide
        rw [if_neg hne, if_neg hne, if_neg hne, if_neg hne]
    have eF : fStep d (nI s) a = pPass (if ho = 0 then pSetAim a ta tR else a) tm.toNatClampNeg := by
      rw [fStep, kseal_eq, seg_at hs20, seg_at hs20, seg_at hs20, a9, a11]
      rcases a3 with e | e
      · rw [if_pos e, if_pos e, a10 e]
        have hne : ¬ ta = -1 := fun e => by
          rw [e] at a5
          have : (-1 : Int32).toInt = -1 := rfl
          omega
        rw [if_neg hne]
      · have hne : ¬ ho = 0 := by
          rw [e]
          decide
        rw [if_neg hne, if_neg hne, if_pos rfl]
    have ha2 : pG B (if ho = 0 then pSetAim a ta tR else a) := by
      split
      · exact pG_aim ha a5 a6
      · exact ha
    have he2 : pE (if ho = 0 then pSetAim a ta tR else a) (if ho = 0 then pSetAim q ta tR else q) := by
      split
      · obtain ⟨h1, g1, r1⟩ := a
        obtain ⟨h2, g2, r2⟩ := q
        obtain ⟨e1, e2⟩ := he
        dsimp only at e1 e2
        subst e1
        subst e2
        exact ⟨rfl, rfl⟩
      · exact he
    have hq2 : gZ (if ho = 0 then pSetAim q ta tR else q).2.1 := by
      split
      · exact hq
      · exact hq
    have hp := pass_rel (x := x) hb ha2 he2 hq2 tm.toNatClampNeg
    rw [eC, eM, eF, kPass7, kseal_eq]
    generalize mPass (if ho = 0 then pSetAim q ta tR else q) x tm.toNatClampNeg = K at hp ⊢
    generalize pPass (if ho = 0 then pSetAim a ta tR else a) tm.toNatClampNeg = V at hp ⊢
    obtain ⟨p1, p2, p3, p4⟩ := hp
    rw [p4]
    have stopC : (S = s + 1 ∨ ¬ K.2.2 = 0) → fRun d k (s + 1) K.2.2 V.1 = (V.1, nI (s + 1)) := by
      intro h
      cases k with
      | zero => rfl
      | succ k =>
        show (if dSegs d ≤ nI (s + 1) then (V.1, nI (s + 1)) else if ¬ K.2.2 = 0 then (V.1, nI (s + 1)) else _) = _
        by_cases w : dSegs d ≤ nI (s + 1)
        · rw [if_pos w]
        · rw [if_neg w]
          rcases h with e | e
          · rw [hS, e] at w
            exact absurd (nI_le (Nat.le_refl _) (by omega)) w
          · rw [if_pos e]
    have stopM : ∀ g : GSt, ((nI n ≤ g.1) ∨ ¬ K.2.2 = 0) → uRun pd (nI n) F' K.1 K.2.1 g (nI (s + 1)) K.2.2 = (K.1, K.2.1, g, nI (s + 1)) := by
      intro g h
      cases F' with
      | zero => rfl
      | succ F' =>
        show (if K.2.2 = 0 then (if nI n ≤ g.1 then _ else _) else _) = _
        by_cases w : K.2.2 = 0
        · rw [if_pos w, if_pos (h.resolve_right (fun e => e w))]
        · rw [if_neg w]
    rcases a12 with ⟨e, e2⟩ | ⟨e, hRR⟩
    · rw [stopC (Or.inl e2), stopM _ (Or.inl (show nI n ≤ nI (i' + 1) from nI_le (by omega) (by omega)))]
      exact ⟨p1, p2, p3, rfl⟩
    · by_cases h0 : K.2.2 = 0
      · rw [h0]
        have ih2 := ih (i' + 1) (s + 1) hRR F' (by omega) V.1 K.1 K.2.1 (ho, if ho = 0 then ta else r.2.1, if ho = 0 then tR else r.2.2.1, tm) p3 p1 p2
        rw [hk2] at ih2
        exact ih2
      · rw [stopC (Or.inr h0), stopM _ (Or.inr h0)]
        exact ⟨p1, p2, p3, rfl⟩
theorem x_run {k : Nat} {c : CSt} {m : RSt} (hr : Rel k c m) (hk : k < 512) : (cRun c).2 = (rRun m).2 ∧ Rel (k + 1) (cRun c).1 (rRun m).1 := by
  obtain ⟨a, t, u, b, h, d, z, w⟩ := c
  obtain ⟨s, ad, pa, ke, pd, fl, nm, kn, ik, ln, sg, sp, fo, ho, ta, tR, tm⟩ := m
  have hm := Rel_mono hr
  have hR := hr
  obtain ⟨⟨a1, a2, a3⟩, b1, ⟨c1, c2, c3⟩, ⟨d1, d2⟩, e1⟩ := hr
  dsimp only at a1 a2 a3 b1 c1 c2 c3 d1 d2 e1
  obtain ⟨n, f1, f2, f3, f4, f5⟩ := fault_rel e1
  unfold cRun rRun
  dsimp only
  rcases f3 with ⟨i', g1, g2, g3⟩ | ⟨g1, g2, S, g3, g4⟩
  · rw [if_neg (by rw [g3]; exact nn_ne (by omega)), if_pos (g2 _).2]
    obtain ⟨m1, m2, m3, m4, m5⟩ := hm
    exact ⟨rfl, m1, m2, m3, m4, f5⟩
  · rw [if_pos g2, if_neg (by rw [g1]; decide), mD_a a2 a1.1]
    subst f2
    have hp : ∃ g0 r, kProg pd (nI n) (ho, ta, tR, tm) = (g0, 1, r) := by
      have h := g1 (ho, ta, tR, tm)
      generalize kProg pd (nI n) (ho, ta, tR, tm) = g at h ⊢
      obtain ⟨x1, x2, x3⟩ := g
      have h : x2 = 1 := h
      rw [h]
      exact ⟨x1, x3, rfl⟩
    obtain ⟨g0, r, hp⟩ := hp
    rw [hp, kRun7, kseal_eq, kRun, kseal_eq]
    have hrun := run_rel (bK_ok (show k ≤ 512 by omega)) f1 g3 61 0 0 g4 62 (by omega) a (a.1, fl, a.2.2) sg r a1 ⟨rfl, rfl⟩ a3
    have e0 : uRun pd (nI n) 62 (a.1, fl, a.2.2) sg (0, (1, r)) 0 0 = uRun pd (nI n) 62 (a.1, fl, a.2.2) sg (nI 0, 1, r) (nI 0) 0 := rfl
    rw [e0]
    generalize uRun pd (nI n) 62 (a.1, fl, a.2.2) sg (nI 0, 1, r) (nI 0) 0 = U at hrun ⊢
    have e20 : fRun (kFault d).1 20 0 0 a = fRun (kFault d).1 (20 - 0) 0 0 a := rfl
    rw [e20]
    generalize fRun (kFault d).1 (20 - 0) 0 0 a = V at hrun ⊢
    obtain ⟨r1, r2, r3, r4⟩ := hrun
    refine ⟨r4, ?_⟩
    have hnow := Rel_now (fl' := U.1.2.1) (sg' := U.2.1) hR (pG_mono (bK_le k) r3) r2
    obtain ⟨m1, m2, m3, m4, m5⟩ := hnow
    refine ⟨⟨m1.1, (mE_pE r1).symm, m1.2.2⟩, m2, m3, m4, ⟨0, by omega, ?_, rfl, fun i hi => absurd hi (by omega)⟩, ?_⟩
    · show (dLen0 (kFault d).1).2.2.2.2.1 = nI 0
      generalize (kFault d).1 = d'
      obtain ⟨ch, am, rt, mn, l, r⟩ := d'
      rfl
    · have h5 := f5.2
      show ∀ k : Nat, k < 20 → ¬ (dLen0 (kFault d).1).2.2.2.1 k < 0
      generalize (kFault d).1 = d' at h5
      obtain ⟨ch, am, rt, mn, l, r⟩ := d'
      exact h5
