/-! p26: the mean of a cell alone -/
theorem one_c : FP.i2d 1 = FP.dconst1 := by decide +kernel
theorem div_1 (x : Int32) : FP.ddiv (FP.i2d x) (FP.i2d 1) = FP.i2d x := by
  rw [one_c]
  exact FP.Core.ddiv_one ((FP.Core.notNaN_iff _).mp (FP.Core.DFin.notNaN (FP.Core.i2d_fin x)))
theorem cmp_0 (x : Int32) : Op.cmpValue (FP.dcmp (FP.i2d x) (FP.i2d x)) .l = 0 := by
  rw [show FP.dcmp (FP.i2d x) (FP.i2d x) = some .eq from FP.Core.dcmp_refl (FP.Core.DFin.notNaN (FP.Core.i2d_fin x))]
  rfl
theorem ms_one {B : Int} (hB1 : B ≤ 200000) {nm h : Nat → Int32} (hh : hB B h) {k : Nat} (hk : k < 36) (h1 : nm k = nI k) (h2 : ∀ i, i < 36 → nm i = nI k → i = k) : ∀ n, n ≤ 36 → mSum nm h (nI k) n = if k < n then FP.i2d (h k) else FP.i2d 0 := by
  intro n
  induction n with
  | zero => exact fun _ => i2d_c
  | succ n ih =>
    intro hn
    have e : mSum nm h (nI k) (n + 1) = if nm n = nI k then FP.dadd (mSum nm h (nI k) n) (FP.i2d (gAt 36 h (nI n))) else mSum nm h (nI k) n := rfl
    rw [e, ih (by omega)]
    by_cases en : n = k
    · subst en
      have hb := hh n hk
      rw [if_pos h1, if_neg (Nat.lt_irrefl n), if_pos (Nat.lt_succ_self n), gAt_n hk, i2d_add (by decide) (by omega), Int32.zero_add]
    · rw [if_neg (fun e => en (h2 n (by omega) e))]
      by_cases w : k < n
      · rw [if_pos w, if_pos (show k < n + 1 by omega)]
      · rw [if_neg w, if_neg (show ¬ k < n + 1 by omega)]
theorem cx_one {nm : Nat → Int32} {k : Nat} (h1 : nm k = nI k) (h2 : ∀ i, i < 36 → nm i = nI k → i = k) : ∀ n, n ≤ 36 → cntX nm (nI k) n = if k < n then 1 else 0 := by
  intro n
  induction n with
  | zero => exact fun _ => rfl
  | succ n ih =>
    intro hn
    rw [cntX_s, ih (by omega)]
    by_cases en : n = k
    · subst en
      rw [if_pos h1, if_neg (Nat.lt_irrefl n), if_pos (Nat.lt_succ_self n)]
    · rw [if_neg (fun e => en (h2 n (by omega) e))]
      by_cases w : k < n
      · rw [if_pos w, if_pos (show k < n + 1 by omega)]
      · rw [if_neg w, if_neg (show ¬ k < n + 1 by omega)]
theorem size_one {nm : Nat → Int32} {k : Nat} (hk : k < 36) (h1 : nm k = nI k) (h2 : ∀ i, i < 36 → nm i = nI k → i = k) : gSize nm (nI k) = 1 := by
  rw [gSize_n, cx_one h1 h2 36 (Nat.le_refl _), if_pos hk]
  rfl
theorem mean_one {B : Int} (hB1 : B ≤ 200000) {p : PSt} (hh : hB B (pH p)) {k : Nat} (hk : k < 36) (h0 : wN (pC p) k 4 = 0) : vMean p (nI k) = FP.i2d (pH p k) := by
  obtain ⟨h1, h2⟩ := alone_name hk h0
  have en : gName (goN p) (nI k) = nI k := by
    unfold gName
    rw [if_neg (isC_n hk), nI_clamp (by omega)]
    exact h1
  unfold vMean
  rw [en, size_one hk h1 h2, if_neg (by decide), ms_one hB1 hh hk h1 h2 36 (Nat.le_refl _), if_pos hk, div_1]
theorem mOk_one {B : Int} (hB1 : B ≤ 200000) {p : PSt} {z : ZSt} (hh : hB B (pH p)) {k : Nat} (hk : k < 36) (h0 : wN (pC p) k 4 = 0) : mOk (kGo p z).1.1 (pH p) (gName (kGo p z).1.1 (nI k)) := by
  obtain ⟨h1, h2⟩ := alone_name hk h0
  have hN := kGo_N p z
  generalize (kGo p z).1.1 = nm at hN ⊢
  have h1' : nm k = nI k := (hN k hk).trans h1
  have h2' : ∀ i, i < 36 → nm i = nI k → i = k := fun i hi e => h2 i hi ((hN i hi).symm.trans e)
  have en : gName nm (nI k) = nI k := by
    unfold gName
    rw [if_neg (isC_n hk), nI_clamp (by omega)]
    exact h1'
  rw [en]
  refine ⟨fun i hi e => ?_, ?_⟩
  · have := h2' i hi e
    subst this
    have hb := hh i hk
    rw [ms_one hB1 hh hk h1' h2' i (by omega), if_neg (Nat.lt_irrefl i), gAt_n hk, i2d_add (by decide) (by omega)]
    exact vf_i2d _
  · rw [ms_one hB1 hh hk h1' h2' 36 (Nat.le_refl _), if_pos hk, size_one hk h1' h2', div_1]
    exact vf_i2d _
section TTN
variable {G : mjG} {Z : Option (Nat × (Nat → Int32))} {R : mjM → Option Value → Nat × Nat → Prop} {T : Nat → mjL → List Value → mjM → Nat × Nat → Prop} {pc i : Nat} {v : Int32} {t : Nat} {L : mjL} {S0 : List Value} {q : QSt} {u : Nat × Nat}
theorem tt_mean {B : Int} (hB1 : B ≤ 200000) (hh : hB B (pH q.1)) {k : Nat} (hk : k < 36) (h0 : wN (pC q.1) k 4 = 0) (hT : mjC G Z R T) (hr : G.1 pc = some (.invokevirtual i, 3, v, t)) (hf : mjfind G.2.2.1 i = some (0, 5, 2, 0, 0, S_X6_mean)) (hhn : G.2.2.2.1 pc = e47) (hu : ttu G u = true) (hS0 : Nat.ble (mjcat S0) 8 = true)
    (kk : TT T u q (pc + 3) L (.double (FP.i2d (pH q.1 k)) :: S0)) : TT T u q pc L (.int (nI k) :: .ref 0 :: S0) := by
  intro c hc hq
  subst hq
  obtain ⟨a1, a2, a3⟩ := lq_mean (nI k) hc (isC_n hk)
  rw [mean_one hB1 hh hk h0] at a3
  refine tt_c1 (c' := (cMean c (nI k)).1) (rv := .double (cMean c (nI k)).2) hT hr hf hhn hu hS0 rfl ⟨⟨⟨rfl, rfl⟩, cOk_x hc⟩, fun _ => mOk_one (p := c.1) hB1 hh hk h0⟩ (cOk_f hc) (cOk_f a1) (fun _ => rfl) ?_
  rw [a3]
  exact kk _ a1 a2
end TTN
theorem csA_is (h c : Nat → Int32) (k : Nat) : gStrOf h c (nI k) = csA h c k 4 := rfl
theorem mxA_is (h c : Nat → Int32) : gStrMax h c = mxA h c 60 := rfl
theorem vN7 {q : QSt} : vCount q 7 = gHot (pH q.1) := by
  unfold vCount
  rw [if_neg (by decide), if_neg (by decide), if_neg (by decide), if_neg (by decide), if_neg (by decide), if_neg (by decide), if_neg (by decide), if_pos rfl]
theorem vN8 {q : QSt} : vCount q 8 = gCold (pH q.1) := by
  unfold vCount
  rw [if_neg (by decide), if_neg (by decide), if_neg (by decide), if_neg (by decide), if_neg (by decide), if_neg (by decide), if_neg (by decide), if_neg (by decide), if_pos rfl]
theorem vP0 {p : PSt} : vPieces p 0 = nI (cntR (goN p) 36) := by
  unfold vPieces
  rw [if_pos rfl, goC_is]
theorem vP1 {p : PSt} : vPieces p 1 = nI (cntR (goN p) 36) := by
  unfold vPieces
  rw [if_neg (by decide), if_pos rfl, goC_is]
