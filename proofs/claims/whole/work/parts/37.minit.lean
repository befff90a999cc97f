/-! ColdPanesModel: a new one -/
def nf_X7 : List Value := [.null, .null, .null, .int 0, .null, .int 0, .null, .int 0, .null, .int 0, .int 0, .int 0, .int 0, .int 0, .int 0, .int 0, .null]
theorem nw_X7 {own : String} {i : Nat} (h : Cond.classLink own i RX7 ∈ mjW) : mjnewOK own i 6 nf_X7 := ⟨RX7, TX7, 17, tyX7, rfl, inWX7, tyX7_ok, h, it_X7, ii_X7, rfl, (fun j hj => match j, hj with | 0, _ => rfl | 1, _ => rfl | 2, _ => rfl | 3, _ => rfl | 4, _ => rfl | 5, _ => rfl | 6, _ => rfl | 7, _ => rfl | 8, _ => rfl | 9, _ => rfl | 10, _ => rfl | 11, _ => rfl | 12, _ => rfl | 13, _ => rfl | 14, _ => rfl | 15, _ => rfl | 16, _ => rfl | (k + 17), h => absurd h (by omega)), rfl⟩
def sInit : Nat → Int32 := upd (upd (upd z0 2 10) 6 10) 7 8
theorem sInit_z : sZ sInit := by
  intro k hk
  unfold sInit upd
  rw [if_neg (by omega), if_neg (by omega), if_neg (by omega)]
  rfl
noncomputable def rInit : RSt := (mE (pNew (mD sInit z0) 600), z0, z0, z0, z0, z0, z0, 0, 0, 0, 0, 0, 0, 0, 0, 0, 0)
noncomputable def S_X7_init : mjSp := fun M as => (M = [.inr (6, nf_X7)] ∧ as = [.ref 0], some (mw rInit), none)
def rm_X7_init : Room := { frames := 1, cells := 7, slots := 1280, locals := 22 }
noncomputable def G_X7_init : mjG := (I_X7_init, F_X7, [(1, 3, 0, 1, 0, 0, S_none), (31, 0, 6, 2, 0, 0, S_X7_goBegin)], (fun pc => [0, 1, 2, 3, 4, 5, 6, 7]), Y0, (fun _ => none), (fun _ => none), none, 7, 1280, true)
set_option maxHeartbeats 20000000 in
set_option maxRecDepth 100000 in
theorem ok_X7_init : mjOK G_X7_init 1 S_X7_init := by
  intro M as hP T hT
  obtain ⟨rfl, rfl⟩ := hP
  have fin : (S_X7_init [.inr (6, nf_X7)] [.ref 0]).2.1 = some (mw rInit) := rfl
  have fin2 : (S_X7_init [.inr (6, nf_X7)] [.ref 0]).2.2 = none := rfl
  rw [rInit] at fin
  generalize S_X7_init [.inr (6, nf_X7)] [.ref 0] = SS at hT fin fin2
  have s90 : ∀ s0, s0 = sInit → T 90 [some (.ref 0)] [] (mw (s0, z0, z0, z0, z0, z0, z0, 0, 0, 0, 0, 0, 0, 0, 0, 0, 0)) (7, 1280) := by
    intro s0 h0
    rw [← h0] at fin
    have hz : sZ s0 := by
      rw [h0]
      exact sInit_z
    refine hT.1 (fun _ => false) 60 _ _ _ _ _ ?_
    exact And.intro ⟨⟨rfl, rfl⟩, hz⟩ ⟨by rw [fin]; rfl, fin2.symm⟩
  have s64 : T 64 [some (.ref 0)] [] (mw (z0, z0, z0, z0, z0, z0, z0, 0, 0, 0, 0, 0, 0, 0, 0, 0, 0)) (7, 1280) := by
    refine hT.1 (fun pc => Nat.beq pc 90) 60 _ _ _ _ _ ?_
    exact mjix_e 2 rfl (by decide) (by decide) (mjix_e 6 rfl (by decide) (by decide) (mjix_e 7 rfl (by decide) (by decide) (s90 _ rfl)))
  refine hT.1 (fun pc => Nat.beq pc 64) 60 _ _ _ _ _ ?_
  exact mjix_e 164 rfl (by decide) (by decide) (mjix_e 164 rfl (by decide) (by decide) (mjix_e 656 rfl (by decide) (by decide) (mjix_e 164 rfl (by decide) (by decide) (mjix_e 60 rfl (by decide) (by decide) (mjix_e 36 rfl (by decide) (by decide) (mjix_e 36 rfl (by decide) (by decide) s64))))))
set_option maxRecDepth 10000 in
theorem ct_X7_init (l : Launch) : mjCT l yX7_init cX7_init 1 none rm_X7_init S_X7_init :=
  mjCT_of (own := RX7) (G := G_X7_init) (plainFor_of_name pn_X7) rfl ok_X7_init (fun meth hm => ⟨fun pc row h => (I_X7_init_ok pc row h).1, F_X7_ok, List.forall_mem_cons.mpr ⟨⟨ln_X7_1, ob_im, ob_code, by decide, by decide⟩, List.forall_mem_cons.mpr ⟨⟨yX7_goBegin, cX7_goBegin, 3, (some .int), rm_X7_goBegin, ct_X7_goBegin l, ⟨rfl, rfl⟩, ⟨by decide, by decide⟩, by decide, by decide, nk_X7_goBegin, ln_X7_31, im_X7_goBegin, se_X7_goBegin, rfl⟩, fun _ h => absurd h List.not_mem_nil⟩⟩, (fun _ _ _ h => by cases h), (fun _ _ h => by cases h), ⟨Nat.le_refl _, Nat.le_refl _⟩, (fun _ => hm), (fun _ => ⟨ac_int, ac_char, mjna_ok (q := fun _ => false) (n := 99) (by decide +kernel) (mjhi rfl) (fun _ h => by cases h)⟩)⟩) rfl rfl rfl (fun pc row h => (I_X7_init_ok pc row h).2)
