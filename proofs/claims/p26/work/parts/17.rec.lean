/-! the history: record, take back -/
theorem hOk_some {f : Nat → Option Nat} (hf : hOk f) {k : Nat} (hk : k < 4) : ∃ r, f k = some r ∧ (r = 2 ∨ r = 7 ∨ r = 12 ∨ r = 17) := by
  rcases hf.1 k hk with h | h | h | h
  · exact ⟨_, h, Or.inl rfl⟩
  · exact ⟨_, h, Or.inr (Or.inl rfl)⟩
  · exact ⟨_, h, Or.inr (Or.inr (Or.inl rfl))⟩
  · exact ⟨_, h, Or.inr (Or.inr (Or.inr rfl))⟩
theorem hOk_rot {f : Nat → Option Nat} (hf : hOk f) : hOk (hRot f) := by
  refine ⟨fun k hk => ?_, fun k hk => ?_⟩
  · unfold hRot
    by_cases k3 : k = 3
    · rw [if_pos k3]; exact hf.1 0 (by decide)
    · rw [if_neg k3, if_pos (by omega)]; exact hf.1 (k + 1) (by omega)
  · unfold hRot
    rw [if_neg (by omega), if_neg (by omega)]
    exact hf.2 k hk
theorem cut_ri {f : Nat → Option Nat} (hf : hOk f) : mjcut (mjri i22) 4 f = f := mjcut_id hf (by decide) (by decide) (by decide) (by decide)
theorem cut_ui {f : Nat → Option Nat} (hf : hOk f) : mjcut (mjui i22 27) 4 f = f := mjcut_id hf (by decide) (by decide) (by decide) (by decide)
def rm_X2_record : Room := { frames := 2, cells := 0, slots := 0, locals := 64 }
noncomputable def G_X2_record : mjG := (I_X2_record, F_X2, [(22, 0, 1, 1, 0, 0, S_X2_dropOldest), (25, 0, 1, 2, 0, 0, S_X2_stateAt), (29, 0, 3, 2, 0, 0, S_X4_copyFrom)], (fun pc => bif Nat.beq pc 27 then [2, 3, 4, 5, 6, 22, 23, 24, 25, 26] else [0, 1, 2, 3, 4, 5, 6, 7, 8, 9, 10, 11, 12, 13, 14, 15, 16, 17, 18, 19, 20, 21]), Y0, (fun _ => none), (fun _ => none), none, 0, 0, false, [])
set_option maxHeartbeats 20000000 in
set_option maxRecDepth 100000 in
theorem ok_X2_record : mjOKh G_X2_record 3 S_X2_record := by
  intro M as hP T hT
  obtain ⟨hP, hf, hn0, hn4⟩ := hP
  obtain ⟨⟨n, f, p0, p1, p2, p3⟩, q, rfl, rfl, hf, hn0, hn4⟩ : ∃ z q, M = hw z ++ pwb 22 q ∧ as = [.ref 0, .ref 22] ∧ hOk z.2.1 ∧ ¬ z.1 < 0 ∧ z.1 ≤ 4 := ⟨_, _, hP.1, hP.2, hf, hn0, hn4⟩
  have fin : (S_X2_record (hw (n, f, p0, p1, p2, p3) ++ pwb 22 q) [.ref 0, .ref 22]).2.1 = some (hw (kseal (hRec q (n, f, p0, p1, p2, p3))) ++ pwb 22 q) := rfl
  have fin2 : (S_X2_record (hw (n, f, p0, p1, p2, p3) ++ pwb 22 q) [.ref 0, .ref 22]).2.2 = none := rfl
  rw [kseal_eq] at fin
  generalize S_X2_record (hw (n, f, p0, p1, p2, p3) ++ pwb 22 q) [.ref 0, .ref 22] = SS at hT fin fin2
  -- from the place where the oldest state is dropped, if it had to be
  have s1 : ∀ (m : Nat) (f : Nat → Option Nat), m < 4 → hOk f → hw (hRec q (n, f, p0, p1, p2, p3)) = hw (hRec q (n, f, p0, p1, p2, p3)) → SS.2.1 = some (hw (hPut ((f m).getD 0) q (nI m, f, p0, p1, p2, p3)) ++ pwb 22 q) → T 12 [some (.ref 0), some (.ref 22), none] [] (hw (nI m, f, p0, p1, p2, p3) ++ pwb 22 q) (0, 0) := by
    intro m f hm hf _ fin
    obtain ⟨r, hr, g⟩ := hOk_some hf hm
    have s2 : ∀ v, v = mjv (mjui i22 27) (if nI m < 0 then Value.null else if 4 ≤ nI m then .null else .ref ((mjcut (mjri i22) 4 f (nI m).toNatClampNeg).getD 0)) → T 20 [some (.ref 0), some (.ref 22), none] [v] (hw (nI m, f, p0, p1, p2, p3) ++ pwb 22 q) (0, 0) := by
      intro v hv
      rw [cut_ri hf, if_neg (nI_pos (by omega)), if_neg (show ¬ (4 : Int32) ≤ nI m from nI_ge (by omega : m < 4) (by decide)), nI_clamp (by omega), hr] at hv
      have hv : v = .ref r := by
        rw [hv]
        rcases g with rfl | rfl | rfl | rfl <;> rfl
      subst hv
      rw [hr] at fin
      have s3 : T 25 [some (.ref 0), some (.ref 22), some (.ref r)] [] (hw (nI m, f, p0, p1, p2, p3) ++ pwb 22 q) (0, 0) := by
        rcases g with rfl | rfl | rfl | rfl
        · refine (hT (fun _ => [2, 3, 4, 5, 6, 22, 23, 24, 25, 26])).1 (fun _ => false) 60 _ _ _ _ _ ?_
          refine And.intro ⟨rfl, rfl⟩ ⟨?_, fin2.symm⟩
          rw [fin]
          rfl
        · refine (hT (fun _ => [7, 8, 9, 10, 11, 22, 23, 24, 25, 26])).1 (fun _ => false) 60 _ _ _ _ _ ?_
          refine And.intro ⟨rfl, rfl⟩ ⟨?_, fin2.symm⟩
          rw [fin]
          rfl
        · refine (hT (fun _ => [12, 13, 14, 15, 16, 22, 23, 24, 25, 26])).1 (fun _ => false) 60 _ _ _ _ _ ?_
          refine And.intro ⟨rfl, rfl⟩ ⟨?_, fin2.symm⟩
          rw [fin]
          rfl
        · refine (hT (fun _ => [17, 18, 19, 20, 21, 22, 23, 24, 25, 26])).1 (fun _ => false) 60 _ _ _ _ _ ?_
          refine And.intro ⟨rfl, rfl⟩ ⟨?_, fin2.symm⟩
          rw [fin]
          rfl
      exact (hT G_X2_record.2.2.2.1).1 (fun pc => Nat.beq pc 25) 60 _ _ _ _ _ s3
    refine (hT G_X2_record.2.2.2.1).1 (fun pc => Nat.beq pc 20) 60 _ _ _ _ _ ?_
    refine And.intro ⟨⟨rfl, rfl⟩, ?_⟩ (s2 _ rfl)
    show hOk (mjcut (mjri i22) 4 f)
    rw [cut_ri hf]
    exact hf
  obtain ⟨m, hm31, rfl⟩ := nI_of hn0
  have hm4 : m ≤ 4 := (nI_leI hm31 (by decide)).mp hn4
  refine (hT G_X2_record.2.2.2.1).1 (fun pc => Nat.beq pc 12) 60 _ _ _ _ _ ?_
  refine And.intro (fun (h1 : nI m < 4) => ?_) (fun (h1 : ¬ nI m < 4) => And.intro ⟨⟨rfl, rfl⟩, ?_⟩ ?_)
  · have hm : m < 4 := (nI_ltI hm31 (by decide)).mp h1
    refine s1 m f hm hf rfl ?_
    rw [fin, hRec, if_pos h1]
    show some (hw (hPut ((f (nI m).toNatClampNeg).getD 0) q (nI m, f, p0, p1, p2, p3)) ++ pwb 22 q) = _
    rw [nI_clamp hm31]
  · show hOk (mjcut (mjri i22) 4 f)
    rw [cut_ri hf]
    exact hf
  · have s5 := s1 3 (hRot f) (by decide) (hOk_rot hf) rfl (by
      rw [fin, hRec, if_neg h1]
      rfl)
    have e5 : mjcut (mjui i22 27) 4 (hRot (mjcut (mjri i22) 4 f)) = hRot f := by
      rw [cut_ri hf, cut_ui (hOk_rot hf)]
    rw [← e5] at s5
    exact s5
set_option maxRecDepth 10000 in
theorem ct_X2_record (l : Launch) : mjCT l yX2_record cX2_record 3 none rm_X2_record S_X2_record :=
  mjCT_ofh (own := RX2) (G := G_X2_record) (plainFor_of_name pn_X2) rfl ok_X2_record (fun meth hm => ⟨fun pc row h => (I_X2_record_ok pc row h).1, F_X2_ok, List.forall_mem_cons.mpr ⟨⟨yX2_dropOldest, cX2_dropOldest, 3, none, rm_X2_dropOldest, ct_X2_dropOldest l, ⟨rfl, rfl⟩, ⟨by decide, by decide⟩, by decide, by decide, nk_X2_dropOldest, ln_X2_22, im_X2_dropOldest, se_X2_dropOldest, rfl⟩, List.forall_mem_cons.mpr ⟨⟨yX2_stateAt, cX2_stateAt, 2, (some (.object "ColdPanes$Pane")), rm_X2_stateAt, ct_X2_stateAt l, ⟨rfl, rfl⟩, ⟨by decide, by decide⟩, by decide, by decide, nk_X2_stateAt, ln_X2_25, im_X2_stateAt, se_X2_stateAt, rfl⟩, List.forall_mem_cons.mpr ⟨⟨yX4_copyFrom, cX4_copyFrom, 2, none, rm_X4_copyFrom, ct_X4_copyFrom l, ⟨rfl, rfl⟩, ⟨by decide, by decide⟩, by decide, by decide, nk_X4_copyFrom, ln_X2_29, im_X4_copyFrom, se_X4_copyFrom, rfl⟩, fun _ h => absurd h List.not_mem_nil⟩⟩⟩, (fun _ _ _ h => by cases h), (fun _ _ h => by cases h), ⟨Nat.le_refl _, Nat.le_refl _⟩, (fun h => by cases h), (fun h => absurd h (by decide)), fun _ h => absurd h List.not_mem_nil⟩) rfl rfl rfl (fun pc row h => (I_X2_record_ok pc row h).2)
def rm_X2_takeBack : Room := { frames := 2, cells := 0, slots := 0, locals := 64 }
noncomputable def G_X2_takeBack : mjG := (I_X2_takeBack, F_X2, [(25, 0, 1, 2, 0, 0, S_X2_stateAt), (29, 0, 3, 2, 0, 0, S_X4_copyFrom)], (fun pc => bif Nat.beq pc 19 then [22, 23, 24, 25, 26, 2, 3, 4, 5, 6] else [0, 1, 2, 3, 4, 5, 6, 7, 8, 9, 10, 11, 12, 13, 14, 15, 16, 17, 18, 19, 20, 21]), Y0, (fun _ => none), (fun _ => none), (some .boolean), 0, 0, false, [])
set_option maxHeartbeats 20000000 in
set_option maxRecDepth 100000 in
theorem ok_X2_takeBack : mjOKh G_X2_takeBack 3 S_X2_takeBack := by
  intro M as hP T hT
  obtain ⟨hP, hf, hn0, hn4⟩ := hP
  obtain ⟨⟨n, f, p0, p1, p2, p3⟩, q, rfl, rfl, hf, hn0, hn4⟩ : ∃ z q, M = hw z ++ pwb 22 q ∧ as = [.ref 0, .ref 22] ∧ hOk z.2.1 ∧ ¬ z.1 < 0 ∧ z.1 ≤ 4 := ⟨_, _, hP.1, hP.2, hf, hn0, hn4⟩
  have fin : (S_X2_takeBack (hw (n, f, p0, p1, p2, p3) ++ pwb 22 q) [.ref 0, .ref 22]).2.1 = some (hw (kseal (hTake (n, f, p0, p1, p2, p3) q)).1 ++ pwb 22 (kseal (hTake (n, f, p0, p1, p2, p3) q)).2) := rfl
  have fin2 : (S_X2_takeBack (hw (n, f, p0, p1, p2, p3) ++ pwb 22 q) [.ref 0, .ref 22]).2.2 = some (.int (if n = 0 then 0 else 1)) := rfl
  rw [kseal_eq] at fin
  generalize S_X2_takeBack (hw (n, f, p0, p1, p2, p3) ++ pwb 22 q) [.ref 0, .ref 22] = SS at hT fin fin2
  obtain ⟨m, hm31, rfl⟩ := nI_of hn0
  have hm4 : m ≤ 4 := (nI_leI hm31 (by decide)).mp hn4
  have s2 : ∀ v, v = mjv (mjui i22 27) (if nI m - 1 < 0 then Value.null else if 4 ≤ nI m - 1 then .null else .ref ((mjcut (mjri i22) 4 f (nI m - 1).toNatClampNeg).getD 0)) → T 10 [some (.ref 0), some (.ref 22), none] [v] (hw (nI m, f, p0, p1, p2, p3) ++ pwb 22 q) (0, 0) := by
    intro v hv
    cases m with
    | zero =>
      have hv : v = .null := by
        rw [hv, if_pos (show nI 0 - 1 < 0 by decide)]
        rfl
      subst hv
      refine (hT G_X2_takeBack.2.2.2.1).1 (fun _ => false) 60 _ _ _ _ _ ?_
      refine ⟨rfl, ?_, ?_⟩
      · rw [fin, hTake, if_pos (show nI 0 = 0 from rfl)]
        rfl
      · rw [fin2, if_pos (show nI 0 = 0 from rfl)]
    | succ m =>
      have hz : ¬ nI (m + 1) = 0 := nI_ne0 (by omega) hm31
      obtain ⟨r, hr, g⟩ := hOk_some hf (by omega : m < 4)
      rw [cut_ri hf, nI_pred, if_neg (nI_pos (by omega)), if_neg (show ¬ (4 : Int32) ≤ nI m from nI_ge (by omega : m < 4) (by decide)), nI_clamp (by omega), hr] at hv
      have hv : v = .ref r := by
        rw [hv]
        rcases g with rfl | rfl | rfl | rfl <;> rfl
      subst hv
      rw [hTake, if_neg hz] at fin
      have fin : SS.2.1 = some (hw (nI (m + 1) - 1, f, p0, p1, p2, p3) ++ pwb 22 (pCopy q (hGet r (nI (m + 1), f, p0, p1, p2, p3)))) := by
        rw [fin]
        show some (hw (nI (m + 1) - 1, f, p0, p1, p2, p3) ++ pwb 22 (pCopy q (hGet ((f (nI (m + 1) - 1).toNatClampNeg).getD 0) (nI (m + 1), f, p0, p1, p2, p3)))) = _
        have hr2 : f m = some r := hr
        rw [nI_pred, nI_clamp (by omega), hr2]
        rfl
      rw [if_neg hz] at fin2
      have s3 : T 17 [some (.ref 0), some (.ref 22), some (.ref r)] [] (hw (nI (m + 1), f, p0, p1, p2, p3) ++ pwb 22 q) (0, 0) := by
        rcases g with rfl | rfl | rfl | rfl
        · refine (hT (fun _ => [22, 23, 24, 25, 26, 2, 3, 4, 5, 6])).1 (fun _ => false) 60 _ _ _ _ _ ?_
          refine And.intro ⟨rfl, rfl⟩ ⟨rfl, ?_, fin2.symm⟩
          rw [fin]
          rfl
        · refine (hT (fun _ => [22, 23, 24, 25, 26, 7, 8, 9, 10, 11])).1 (fun _ => false) 60 _ _ _ _ _ ?_
          refine And.intro ⟨rfl, rfl⟩ ⟨rfl, ?_, fin2.symm⟩
          rw [fin]
          rfl
        · refine (hT (fun _ => [22, 23, 24, 25, 26, 12, 13, 14, 15, 16])).1 (fun _ => false) 60 _ _ _ _ _ ?_
          refine And.intro ⟨rfl, rfl⟩ ⟨rfl, ?_, fin2.symm⟩
          rw [fin]
          rfl
        · refine (hT (fun _ => [22, 23, 24, 25, 26, 17, 18, 19, 20, 21])).1 (fun _ => false) 60 _ _ _ _ _ ?_
          refine And.intro ⟨rfl, rfl⟩ ⟨rfl, ?_, fin2.symm⟩
          rw [fin]
          rfl
      exact (hT G_X2_takeBack.2.2.2.1).1 (fun pc => Nat.beq pc 17) 60 _ _ _ _ _ s3
  refine (hT G_X2_takeBack.2.2.2.1).1 (fun pc => Nat.beq pc 10) 60 _ _ _ _ _ ?_
  refine And.intro ⟨⟨rfl, rfl⟩, ?_⟩ (s2 _ rfl)
  show hOk (mjcut (mjri i22) 4 f)
  rw [cut_ri hf]
  exact hf
set_option maxRecDepth 10000 in
theorem ct_X2_takeBack (l : Launch) : mjCT l yX2_takeBack cX2_takeBack 3 (some .boolean) rm_X2_takeBack S_X2_takeBack :=
  mjCT_ofh (own := RX2) (G := G_X2_takeBack) (plainFor_of_name pn_X2) rfl ok_X2_takeBack (fun meth hm => ⟨fun pc row h => (I_X2_takeBack_ok pc row h).1, F_X2_ok, List.forall_mem_cons.mpr ⟨⟨yX2_stateAt, cX2_stateAt, 2, (some (.object "ColdPanes$Pane")), rm_X2_stateAt, ct_X2_stateAt l, ⟨rfl, rfl⟩, ⟨by decide, by decide⟩, by decide, by decide, nk_X2_stateAt, ln_X2_25, im_X2_stateAt, se_X2_stateAt, rfl⟩, List.forall_mem_cons.mpr ⟨⟨yX4_copyFrom, cX4_copyFrom, 2, none, rm_X4_copyFrom, ct_X4_copyFrom l, ⟨rfl, rfl⟩, ⟨by decide, by decide⟩, by decide, by decide, nk_X4_copyFrom, ln_X2_29, im_X4_copyFrom, se_X4_copyFrom, rfl⟩, fun _ h => absurd h List.not_mem_nil⟩⟩, (fun _ _ _ h => by cases h), (fun _ _ h => by cases h), ⟨Nat.le_refl _, Nat.le_refl _⟩, (fun h => by cases h), (fun h => absurd h (by decide)), fun _ h => absurd h List.not_mem_nil⟩) rfl rfl rfl (fun pc row h => (I_X2_takeBack_ok pc row h).2)
