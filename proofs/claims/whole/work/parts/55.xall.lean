/-! class and model: alike at the beginning; all of it -/
theorem P0_G : pG (bK 0) kP0 := by
  rw [kP0, kseal_eq]
  refine ⟨⟨fun k hk => (if_neg (by omega)), fun k hk => (if_neg (by omega)), fun k hk => (if_neg (by omega))⟩, gZ_z0, fun k hk => ?_, by decide, by decide, by decide, by decide, by decide⟩
  show 0 ≤ (fillA 36 z0 600 k).toInt ∧ (fillA 36 z0 600 k).toInt ≤ bK 0
  rw [show fillA 36 z0 600 k = 600 from if_pos hk]
  decide
theorem sInit_0 {k : Nat} (h2 : ¬ k = 2) (h6 : ¬ k = 6) (h7 : ¬ k = 7) : sInit k = 0 := by
  unfold sInit upd
  rw [if_neg h7, if_neg h6, if_neg h2]
  rfl
theorem rInit_E : mE (pNew (mD sInit z0) 600) = mE kP0 := by
  rw [kP0, kseal_eq]
  have e1 : vH sInit = z0 := by
    funext k
    unfold vH tr
    split
    · exact sInit_0 (by omega) (by omega) (by omega)
    · rfl
  have e2 : vS sInit = z0 := by
    funext k
    unfold vS tr
    split
    · exact sInit_0 (by omega) (by omega) (by omega)
    · rfl
  have e3 : vC sInit = z0 := by
    funext k
    unfold vC tr
    split
    · exact sInit_0 (by omega) (by omega) (by omega)
    · rfl
  have e : mD sInit z0 = (z0, z0, z0, z0, 0, 0, 10, 10, 8, 0, 0, 0) := by
    unfold mD
    rw [e1, e2, e3]
    rfl
  rw [e]
  rfl
theorem hf0_inj : ∀ i, i < 4 → ∀ j, j < 4 → hf0 i = hf0 j → i = j := by decide
theorem Rel_0 : Rel 0 cInit rInit := by
  refine ⟨⟨P0_G, rInit_E, gZ_z0⟩, pG_tOk P0_G, ⟨pG_tOk P0_G, rfl, Or.inl rfl⟩, ⟨⟨hOk_up hf0_ok, show ¬ (0 : Int32) < 0 by decide, show (0 : Int32) ≤ 4 by decide⟩, ?_⟩, ⟨0, by omega, rfl, rfl, fun i hi => absurd hi (by omega)⟩, fun k _ => show ¬ (0 : Int32) < 0 by decide⟩
  show HR (bK 0) (zDn (zUp (0, hf0, kP0, kP0, kP0, kP0))) z0 0
  rw [dn_up]
  have ht := pG_tOk P0_G
  exact ⟨⟨hf0_ok, fun i j hi hj e => hf0_inj i hi j hj e, ht, ht, ht, ht⟩, 0, by omega, rfl, rfl, fun i hi => absurd hi (by omega)⟩
theorem Rel_pre {k : Nat} {c : CSt} {m : RSt} (h : Rel k c m) (hk : k < 512) : rOk (kFault c.2.2.2.2.2.1).1 ∧ ∀ x, ¬ gIsCell x = 0 → mOk (kGo c.1 c.2.2.2.2.2.2.1).1.1 (pH c.1) (gName (kGo c.1 c.2.2.2.2.2.2.1).1.1 x) ∧ vf_n64 (uMeanV m.1 (lcN (vC m.1) m.2.2.2.2.2.2.1) x) := by
  obtain ⟨⟨a1, a2, a3⟩, b1, c1, d1, e1⟩ := h
  obtain ⟨n, f1, f2, f3, f4, f5⟩ := fault_rel e1
  exact ⟨f4, fun x hx => (mean_ok (bK_ok (show k ≤ 512 by omega)).2 a2 a1.1 a1.2.2.1 hx).2⟩
theorem rel_ok : RelOK Rel := ⟨Rel_0, fun _ _ _ h => Rel_ok h, fun _ _ _ h hk => Rel_pre h hk, fun _ _ _ h => Rel_mono h, fun k c m x h hk => x_begin x h hk, fun k c m x y h hk => x_aim x y h hk, fun k c m x h hk => x_pass x h hk, fun k c m x y h hk => x_scratch x y h hk, fun k c m x h hk => x_mend x h hk, fun k c m x y h hk => x_heat x y h hk, fun k c m x y h hk => x_set x y h hk, fun k c m x h hk => x_append x h hk, fun k c m h hk => x_clear h hk, fun k c m h hk => x_fault h hk, fun k c m h hk => x_run h hk, fun k c m x y h hk => x_cell x y h hk, fun k c m x y h hk => x_joint x y h hk, fun k c m x h hk => x_strained x h hk, fun k c m x h hk => x_pieces x h hk, fun k c m x h hk => x_count x h hk, fun k c m x h hk => x_mean x h hk, fun k c m x y h hk => x_ifPassed x y h hk, fun k c m x y h hk => x_fastest x y h hk, fun k c m x h hk => x_evenIn x h hk, fun k c m h hk => x_undo h hk, fun k c m h hk => x_save h hk, fun k c m h hk => x_restore h hk⟩
