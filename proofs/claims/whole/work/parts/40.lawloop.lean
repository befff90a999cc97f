/-! the law: its loop, and the claim out of a relation of the two objects -/
/-- what a relation of class and model has to give: alike at the beginning, alike behind each call, with the same answer -/
def RelOK (Rel : Nat → CSt → RSt → Prop) : Prop :=
  Rel 0 cInit rInit ∧ (∀ k c m, Rel k c m → xOk c.2.2.2.2.1 ∧ r7Ok m) ∧ (∀ k c m, Rel k c m → k < 512 → rOk (kFault c.2.2.2.2.2.1).1 ∧ ∀ x, ¬ gIsCell x = 0 → mOk (kGo c.1 c.2.2.2.2.2.2.1).1.1 (pH c.1) (gName (kGo c.1 c.2.2.2.2.2.2.1).1.1 x) ∧ vf_n64 (uMeanV m.1 (lcN (vC m.1) m.2.2.2.2.2.2.1) x))
  ∧ (∀ k c m, Rel k c m → Rel (k + 1) c m)
  ∧ (∀ k c m (x : Int32), Rel k c m → k < 512 → (cBegin c x).2 = (rBegin m x).2 ∧ Rel (k + 1) (cBegin c x).1 (rBegin m x).1)
  ∧ (∀ k c m (x y : Int32), Rel k c m → k < 512 → (cAim c x y).2 = (rAim m x y).2 ∧ Rel (k + 1) (cAim c x y).1 (rAim m x y).1)
  ∧ (∀ k c m (x : Int32), Rel k c m → k < 512 → (cPass c x).2 = (rPass m x).2 ∧ Rel (k + 1) (cPass c x).1 (rPass m x).1)
  ∧ (∀ k c m (x y : Int32), Rel k c m → k < 512 → (cScratch c x y).2 = (rScratch m x y).2 ∧ Rel (k + 1) (cScratch c x y).1 (rScratch m x y).1)
  ∧ (∀ k c m (x : Int32), Rel k c m → k < 512 → (cMend c x).2 = (rMend m x).2 ∧ Rel (k + 1) (cMend c x).1 (rMend m x).1)
  ∧ (∀ k c m (x y : Int32), Rel k c m → k < 512 → (cHeat c x y).2 = (rHeat m x y).2 ∧ Rel (k + 1) (cHeat c x y).1 (rHeat m x y).1)
  ∧ (∀ k c m (x y : Int32), Rel k c m → k < 512 → (cSet c x y).2 = (rSet m x y).2 ∧ Rel (k + 1) (cSet c x y).1 (rSet m x y).1)
  ∧ (∀ k c m (x : Int32), Rel k c m → k < 512 → (cAppend c x).2 = (rAppend m x).2 ∧ Rel (k + 1) (cAppend c x).1 (rAppend m x).1)
  ∧ (∀ k c m, Rel k c m → k < 512 → (cClear c).2 = (rClear m).2 ∧ Rel (k + 1) (cClear c).1 (rClear m).1)
  ∧ (∀ k c m, Rel k c m → k < 512 → (cFault c).2 = (rFault m).2 ∧ Rel (k + 1) (cFault c).1 (rFault m).1)
  ∧ (∀ k c m, Rel k c m → k < 512 → (cRun c).2 = (rRun m).2 ∧ Rel (k + 1) (cRun c).1 (rRun m).1)
  ∧ (∀ k c m (x y : Int32), Rel k c m → k < 512 → (cCell c x y).2 = (rCell m x y).2 ∧ Rel (k + 1) (cCell c x y).1 (rCell m x y).1)
  ∧ (∀ k c m (x y : Int32), Rel k c m → k < 512 → (cJoint c x y).2 = (rJoint m x y).2 ∧ Rel (k + 1) (cJoint c x y).1 (rJoint m x y).1)
  ∧ (∀ k c m (x : Int32), Rel k c m → k < 512 → (cStrained c x).2 = (rStrained m x).2 ∧ Rel (k + 1) (cStrained c x).1 m)
  ∧ (∀ k c m (x : Int32), Rel k c m → k < 512 → (cPieces c x).2 = (rPieces m x).2 ∧ Rel (k + 1) (cPieces c x).1 (rPieces m x).1)
  ∧ (∀ k c m (x : Int32), Rel k c m → k < 512 → (cCount c x).2 = (rCount m x).2 ∧ Rel (k + 1) (cCount c x).1 (rCount m x).1)
  ∧ (∀ k c m (x : Int32), Rel k c m → k < 512 → (cMean c x).2 = (rMean m x).2 ∧ Rel (k + 1) (cMean c x).1 (rMean m x).1)
  ∧ (∀ k c m (x y : Int32), Rel k c m → k < 512 → (cIf c x y).2 = (rIf m x y).2 ∧ Rel (k + 1) (cIf c x y).1 (rIf m x y).1)
  ∧ (∀ k c m (x y : Int32), Rel k c m → k < 512 → (cFast c x y).2 = (rFast m x y).2 ∧ Rel (k + 1) (cFast c x y).1 (rFast m x y).1)
  ∧ (∀ k c m (x : Int32), Rel k c m → k < 512 → (cEven c x).2 = (rEven m x).2 ∧ Rel (k + 1) (cEven c x).1 (rEven m x).1)
  ∧ (∀ k c m, Rel k c m → k < 512 → (cUndo c).2 = (rUndo m).2 ∧ Rel (k + 1) (cUndo c).1 (rUndo m).1)
  ∧ (∀ k c m, Rel k c m → k < 512 → (cSave c).2 = (rSave m).2 ∧ Rel (k + 1) (cSave c).1 (rSave m).1)
  ∧ (∀ k c m, Rel k c m → k < 512 → (cRestore c).2 = (rRestore m).2 ∧ Rel (k + 1) (cRestore c).1 (rRestore m).1)
theorem lim3 {n i : Nat} (hn : n ≤ 1536) (hi : i < 2000) : (nI n - 3 < nI i) ↔ n < i + 3 := by
  by_cases h : 3 ≤ n
  · have e : nI n - 3 = nI (n - 3) := pk_sub h
    rw [e, nI_ltI (by omega) (by omega)]
    omega
  · have hneg : nI n - 3 < 0 := by
      match n, h with
      | 0, _ => decide
      | 1, _ => decide
      | 2, _ => decide
      | (j + 3), h => exact absurd (by omega) h
    exact ⟨fun _ => by omega, fun _ => Int32.lt_of_lt_of_le hneg (nI_pos' (by omega))⟩
set_option maxHeartbeats 4000000 in
set_option maxRecDepth 100000 in
theorem law_loop {Rel : Nat → CSt → RSt → Prop} (H : RelOK Rel) {n : Nat} {f : Nat → Int32} {T : Nat → mjL → List Value → mjM → Nat × Nat → Prop} (hT : mjC G_L_law (some (n, f)) (fun _ r _ => r = some (.int 1)) T) (hn : n ≤ 1536) : ∀ d k c m, n < 3 * k + 3 * d + 3 → Rel k c m → k ≤ 513 → T 18 (lwL (3 * k)) [] (LW c m) (55, 2945) := by
  have HH := H
  obtain ⟨h0, hk, hsp, hend, hbegin, haim, hpass, hscratch, hmend, hheat, hset, happend, hclear, hfault, hrun, hcell, hjoint, hstrained, hpieces, hcount, hmean, hifPassed, hfastest, hevenIn, hundo, hsave, hrestore⟩ := H
  intro d
  induction d with
  | zero =>
    intro k c m hd hr hb
    refine hT.1 (fun pc => Nat.beq pc 26) 60 _ _ _ _ _ ?_
    exact And.intro (fun _ => ⟨rfl, rfl⟩) (fun h => absurd ((lim3 hn (by omega)).mpr (by omega)) h)
  | succ d ih =>
    intro k c m hd hr hb
    by_cases hlim : n < 3 * k + 3
    · refine hT.1 (fun pc => Nat.beq pc 26) 60 _ _ _ _ _ ?_
      exact And.intro (fun _ => ⟨rfl, rfl⟩) (fun h => absurd ((lim3 hn (by omega)).mpr hlim) h)
    have hi : 3 * k + 2 < n := by omega
    have hk5 : k < 512 := by omega
    have hx := (hk k c m hr).1
    have hm := (hk k c m hr).2
    have s717 : ∀ c' m', Rel (k + 1) c' m' → T 717 (lwL (3 * k)) [] (LW c' m') (55, 2945) := by
      intro c' m' hr'
      have ih2 : T 18 [some (.ref 4095), some (.ref 0), some (.ref 47), some (.int (nI (3 * (k + 1)))), none, none, none, none] [] (LW c' m') (55, 2945) := ih (k + 1) c' m' (by omega) hr' (by omega)
      refine hT.1 (fun pc => Nat.beq pc 18) 60 _ _ _ _ _ ?_
      rw [show 3 * (k + 1) = 3 * k + 3 by omega, ← nI_add] at ih2
      exact ih2
    have sbegin : T 140 (lwL (3 * k)) [] (LW c m) (55, 2945) := lc_begin hT hi hn hx (hk (k + 1) _ _ (hbegin k c m (f (3 * k + 1)) hr hk5).2).1.1 hm (hbegin k c m (f (3 * k + 1)) hr hk5).1 (s717 _ _ (hbegin k c m (f (3 * k + 1)) hr hk5).2)
    have saim : T 163 (lwL (3 * k)) [] (LW c m) (55, 2945) := lc_aim hT hi hn hx (hk (k + 1) _ _ (haim k c m (f (3 * k + 1)) (f (3 * k + 2)) hr hk5).2).1.1 hm (haim k c m (f (3 * k + 1)) (f (3 * k + 2)) hr hk5).1 (s717 _ _ (haim k c m (f (3 * k + 1)) (f (3 * k + 2)) hr hk5).2)
    have spass : T 196 (lwL (3 * k)) [] (LW c m) (55, 2945) := lc_pass hT hi hn hx (hk (k + 1) _ _ (hpass k c m (f (3 * k + 1)) hr hk5).2).1.1 hm (hpass k c m (f (3 * k + 1)) hr hk5).1 (s717 _ _ (hpass k c m (f (3 * k + 1)) hr hk5).2)
    have sscratch : T 219 (lwL (3 * k)) [] (LW c m) (55, 2945) := lc_scratch hT hi hn hx (hk (k + 1) _ _ (hscratch k c m (f (3 * k + 1)) (f (3 * k + 2)) hr hk5).2).1.1 hm (hscratch k c m (f (3 * k + 1)) (f (3 * k + 2)) hr hk5).1 (s717 _ _ (hscratch k c m (f (3 * k + 1)) (f (3 * k + 2)) hr hk5).2)
    have smend : T 252 (lwL (3 * k)) [] (LW c m) (55, 2945) := lc_mend hT hi hn hx (hk (k + 1) _ _ (hmend k c m (f (3 * k + 1)) hr hk5).2).1.1 hm (hmend k c m (f (3 * k + 1)) hr hk5).1 (s717 _ _ (hmend k c m (f (3 * k + 1)) hr hk5).2)
    have sheat : T 275 (lwL (3 * k)) [] (LW c m) (55, 2945) := lc_heat hT hi hn hx (hk (k + 1) _ _ (hheat k c m (f (3 * k + 1)) (f (3 * k + 2)) hr hk5).2).1.1 hm (hheat k c m (f (3 * k + 1)) (f (3 * k + 2)) hr hk5).1 (s717 _ _ (hheat k c m (f (3 * k + 1)) (f (3 * k + 2)) hr hk5).2)
    have sset : T 308 (lwL (3 * k)) [] (LW c m) (55, 2945) := lc_set hT hi hn hx (hk (k + 1) _ _ (hset k c m (f (3 * k + 1)) (f (3 * k + 2)) hr hk5).2).1.1 hm (hset k c m (f (3 * k + 1)) (f (3 * k + 2)) hr hk5).1 (s717 _ _ (hset k c m (f (3 * k + 1)) (f (3 * k + 2)) hr hk5).2)
    have sappend : T 341 (lwL (3 * k)) [] (LW c m) (55, 2945) := lc_append hT hi hn hx (hk (k + 1) _ _ (happend k c m (f (3 * k + 1)) hr hk5).2).1.1 hm (happend k c m (f (3 * k + 1)) hr hk5).1 (s717 _ _ (happend k c m (f (3 * k + 1)) hr hk5).2)
    have sclear : T 364 (lwL (3 * k)) [] (LW c m) (55, 2945) := lc_clear hT hi hn hx (hk (k + 1) _ _ (hclear k c m hr hk5).2).1.1 hm (hclear k c m hr hk5).1 (s717 _ _ (hclear k c m hr hk5).2)
    have sfault : T 377 (lwL (3 * k)) [] (LW c m) (55, 2945) := lc_fault hT hi hn hx (hk (k + 1) _ _ (hfault k c m hr hk5).2).1.1 hm (hfault k c m hr hk5).1 (s717 _ _ (hfault k c m hr hk5).2)
    have srun : T 390 (lwL (3 * k)) [] (LW c m) (55, 2945) := lc_run hT hi hn hx (hk (k + 1) _ _ (hrun k c m hr hk5).2).1.1 (hsp k c m hr hk5).1 hm (hrun k c m hr hk5).1 (s717 _ _ (hrun k c m hr hk5).2)
    have scell : T 403 (lwL (3 * k)) [] (LW c m) (55, 2945) := lc_cell hT hi hn hx (hk (k + 1) _ _ (hcell k c m (f (3 * k + 1)) (f (3 * k + 2)) hr hk5).2).1.1 trivial (hcell k c m (f (3 * k + 1)) (f (3 * k + 2)) hr hk5).1 (s717 _ _ (hcell k c m (f (3 * k + 1)) (f (3 * k + 2)) hr hk5).2)
    have sjoint : T 436 (lwL (3 * k)) [] (LW c m) (55, 2945) := lc_joint hT hi hn hx (hk (k + 1) _ _ (hjoint k c m (f (3 * k + 1)) (f (3 * k + 2)) hr hk5).2).1.1 trivial (hjoint k c m (f (3 * k + 1)) (f (3 * k + 2)) hr hk5).1 (s717 _ _ (hjoint k c m (f (3 * k + 1)) (f (3 * k + 2)) hr hk5).2)
    have sstrained : T 469 (lwL (3 * k)) [] (LW c m) (55, 2945) := lc_strained hT hi hn hx (hk (k + 1) _ _ (hstrained k c m (f (3 * k + 1)) hr hk5).2).1.1 (hstrained k c m (f (3 * k + 1)) hr hk5).1 (s717 _ _ (hstrained k c m (f (3 * k + 1)) hr hk5).2)
    have spieces : T 492 (lwL (3 * k)) [] (LW c m) (55, 2945) := lc_pieces hT hi hn hx (hk (k + 1) _ _ (hpieces k c m (f (3 * k + 1)) hr hk5).2).1.1 trivial (hpieces k c m (f (3 * k + 1)) hr hk5).1 (s717 _ _ (hpieces k c m (f (3 * k + 1)) hr hk5).2)
    have scount : T 515 (lwL (3 * k)) [] (LW c m) (55, 2945) := lc_count hT hi hn hx (hk (k + 1) _ _ (hcount k c m (f (3 * k + 1)) hr hk5).2).1.1 trivial (hcount k c m (f (3 * k + 1)) hr hk5).1 (s717 _ _ (hcount k c m (f (3 * k + 1)) hr hk5).2)
    have smean : T 538 (lwL (3 * k)) [] (LW c m) (55, 2945) := lc_mean hT hi hn hx (hk (k + 1) _ _ (hmean k c m (f (3 * k + 1)) hr hk5).2).1.1 (fun h => ((hsp k c m hr hk5).2 _ h).1) (fun h => ((hsp k c m hr hk5).2 _ h).2) (hmean k c m (f (3 * k + 1)) hr hk5).1 (s717 _ _ (hmean k c m (f (3 * k + 1)) hr hk5).2)
    have sifPassed : T 589 (lwL (3 * k)) [] (LW c m) (55, 2945) := lc_ifPassed hT hi hn hx (hk (k + 1) _ _ (hifPassed k c m (f (3 * k + 1)) (f (3 * k + 2)) hr hk5).2).1.1 hm (hifPassed k c m (f (3 * k + 1)) (f (3 * k + 2)) hr hk5).1 (s717 _ _ (hifPassed k c m (f (3 * k + 1)) (f (3 * k + 2)) hr hk5).2)
    have sfastest : T 622 (lwL (3 * k)) [] (LW c m) (55, 2945) := lc_fastest hT hi hn hx (hk (k + 1) _ _ (hfastest k c m (f (3 * k + 1)) (f (3 * k + 2)) hr hk5).2).1.1 hm (hfastest k c m (f (3 * k + 1)) (f (3 * k + 2)) hr hk5).1 (s717 _ _ (hfastest k c m (f (3 * k + 1)) (f (3 * k + 2)) hr hk5).2)
    have sevenIn : T 655 (lwL (3 * k)) [] (LW c m) (55, 2945) := lc_evenIn hT hi hn hx (hk (k + 1) _ _ (hevenIn k c m (f (3 * k + 1)) hr hk5).2).1.1 hm (hevenIn k c m (f (3 * k + 1)) hr hk5).1 (s717 _ _ (hevenIn k c m (f (3 * k + 1)) hr hk5).2)
    have sundo : T 678 (lwL (3 * k)) [] (LW c m) (55, 2945) := lc_undo hT hi hn hx (hk (k + 1) _ _ (hundo k c m hr hk5).2).1.1 hm (hundo k c m hr hk5).1 (s717 _ _ (hundo k c m hr hk5).2)
    have ssave : T 691 (lwL (3 * k)) [] (LW c m) (55, 2945) := lc_save hT hi hn hx (hk (k + 1) _ _ (hsave k c m hr hk5).2).1.1 hm (hsave k c m hr hk5).1 (s717 _ _ (hsave k c m hr hk5).2)
    have srestore : T 704 (lwL (3 * k)) [] (LW c m) (55, 2945) := lc_restore hT hi hn hx (hk (k + 1) _ _ (hrestore k c m hr hk5).2).1.1 hm (hrestore k c m hr hk5).1 (s717 _ _ (hrestore k c m hr hk5).2)
    have sdef : T 717 (lwL (3 * k)) [] (LW c m) (55, 2945) := s717 c m (hend k c m hr)
    refine hT.1 (fun pc => Nat.ble 140 pc) 60 _ _ _ _ _ ?_
    refine And.intro (fun h => absurd ((lim3 hn (by omega)).mp h) hlim) (fun _ => mjix_e (3 * k) rfl (by omega) (by omega) ?_)
    exact And.intro (fun (_ : f (3 * k) &&& 31 = 0) => sbegin) (fun _ => And.intro (fun (_ : f (3 * k) &&& 31 = 1) => saim) (fun _ => And.intro (fun (_ : f (3 * k) &&& 31 = 2) => spass) (fun _ => And.intro (fun (_ : f (3 * k) &&& 31 = 3) => sscratch) (fun _ => And.intro (fun (_ : f (3 * k) &&& 31 = 4) => smend) (fun _ => And.intro (fun (_ : f (3 * k) &&& 31 = 5) => sheat) (fun _ => And.intro (fun (_ : f (3 * k) &&& 31 = 6) => sset) (fun _ => And.intro (fun (_ : f (3 * k) &&& 31 = 7) => sappend) (fun _ => And.intro (fun (_ : f (3 * k) &&& 31 = 8) => sclear) (fun _ => And.intro (fun (_ : f (3 * k) &&& 31 = 9) => sfault) (fun _ => And.intro (fun (_ : f (3 * k) &&& 31 = 10) => srun) (fun _ => And.intro (fun (_ : f (3 * k) &&& 31 = 11) => scell) (fun _ => And.intro (fun (_ : f (3 * k) &&& 31 = 12) => sjoint) (fun _ => And.intro (fun (_ : f (3 * k) &&& 31 = 13) => sstrained) (fun _ => And.intro (fun (_ : f (3 * k) &&& 31 = 14) => spieces) (fun _ => And.intro (fun (_ : f (3 * k) &&& 31 = 15) => scount) (fun _ => And.intro (fun (_ : f (3 * k) &&& 31 = 16) => smean) (fun _ => And.intro (fun (_ : f (3 * k) &&& 31 = 17) => sifPassed) (fun _ => And.intro (fun (_ : f (3 * k) &&& 31 = 18) => sfastest) (fun _ => And.intro (fun (_ : f (3 * k) &&& 31 = 19) => sevenIn) (fun _ => And.intro (fun (_ : f (3 * k) &&& 31 = 20) => sundo) (fun _ => And.intro (fun (_ : f (3 * k) &&& 31 = 21) => ssave) (fun _ => And.intro (fun (_ : f (3 * k) &&& 31 = 22) => srestore) (fun _ => sdef)))))))))))))))))))))))
set_option maxHeartbeats 20000000 in
set_option maxRecDepth 100000 in
theorem law_start {Rel : Nat → CSt → RSt → Prop} (H : RelOK Rel) {n : Nat} {f : Nat → Int32} {T : Nat → mjL → List Value → mjM → Nat × Nat → Prop} (hT : mjC G_L_law (some (n, f)) (fun _ r _ => r = some (.int 1)) T) (hn : n ≤ 1536) : T 0 [some (.ref 4095), none, none, none, none, none, none, none] [] [] (0, 0) := by
  have s18 : T 18 (lwL 0) [] (LW cInit rInit) (55, 2945) := law_loop H hT hn 520 0 cInit rInit (by omega) H.1 (by omega)
  have s7 : ∀ g, g = hUp hf0 → T 7 [some (.ref 4095), none, none, none, none, none, none, none] [.ref 0] (xw (kP0, kP0, kP0, 0, (0, g, kP0, kP0, kP0, kP0), dInit, zInit, (0, 0, 0))) (47, 1648) := by
    intro g hg
    subst hg
    refine hT.1 (fun pc => Nat.beq pc 18) 60 _ _ _ _ _ ?_
    exact And.intro ⟨rfl, rfl⟩ s18
  refine hT.1 (fun pc => Nat.beq pc 7) 60 _ _ _ _ _ ?_
  exact And.intro ⟨rfl, rfl⟩ (s7 (mjcut (mjui [0] 1) 4 (hUp hf0)) (cut_id (hOk_up hf0_ok) (fun k hk => by rcases hk with rfl | rfl | rfl | rfl <;> rfl)))
