/-! constructors -/
def nf_X0 : List Value := [.int 0, .int 0, .int 0]
theorem nw_X0 {own : String} {i : Nat} (h : Cond.classLink own i RX0 ∈ mjW) : mjnewOK own i 0 nf_X0 := ⟨RX0, TX0, 3, tyX0, rfl, inWX0, tyX0_ok, h, it_X0, ii_X0, rfl, (fun j hj => match j, hj with | 0, _ => rfl | 1, _ => rfl | 2, _ => rfl | (k + 3), h => absurd h (by omega)), rfl⟩
def nf_X2 : List Value := [.null, .int 0]
theorem nw_X2 {own : String} {i : Nat} (h : Cond.classLink own i RX2 ∈ mjW) : mjnewOK own i 1 nf_X2 := ⟨RX2, TX2, 2, tyX2, rfl, inWX2, tyX2_ok, h, it_X2, ii_X2, rfl, (fun j hj => match j, hj with | 0, _ => rfl | 1, _ => rfl | (k + 2), h => absurd h (by omega)), rfl⟩
def nf_X3 : List Value := [.null, .int 0, .null, .null, .null, .int 0, .int 0, .int 0]
theorem nw_X3 {own : String} {i : Nat} (h : Cond.classLink own i RX3 ∈ mjW) : mjnewOK own i 2 nf_X3 := ⟨RX3, TX3, 8, tyX3, rfl, inWX3, tyX3_ok, h, it_X3, ii_X3, rfl, (fun j hj => match j, hj with | 0, _ => rfl | 1, _ => rfl | 2, _ => rfl | 3, _ => rfl | 4, _ => rfl | 5, _ => rfl | 6, _ => rfl | 7, _ => rfl | (k + 8), h => absurd h (by omega)), rfl⟩
def nf_X4 : List Value := [.null, .null, .null, .null, .int 0, .int 0, .int 0, .int 0, .int 0, .int 0, .int 0, .int 0]
theorem nw_X4 {own : String} {i : Nat} (h : Cond.classLink own i RX4 ∈ mjW) : mjnewOK own i 3 nf_X4 := ⟨RX4, TX4, 12, tyX4, rfl, inWX4, tyX4_ok, h, it_X4, ii_X4, rfl, (fun j hj => match j, hj with | 0, _ => rfl | 1, _ => rfl | 2, _ => rfl | 3, _ => rfl | 4, _ => rfl | 5, _ => rfl | 6, _ => rfl | 7, _ => rfl | 8, _ => rfl | 9, _ => rfl | 10, _ => rfl | 11, _ => rfl | (k + 12), h => absurd h (by omega)), rfl⟩
def nf_X5 : List Value := [.null, .null, .int 0]
theorem nw_X5 {own : String} {i : Nat} (h : Cond.classLink own i RX5 ∈ mjW) : mjnewOK own i 4 nf_X5 := ⟨RX5, TX5, 3, tyX5, rfl, inWX5, tyX5_ok, h, it_X5, ii_X5, rfl, (fun j hj => match j, hj with | 0, _ => rfl | 1, _ => rfl | 2, _ => rfl | (k + 3), h => absurd h (by omega)), rfl⟩
def nf_X6 : List Value := [.null, .null, .null, .int 0, .null, .null, .null, .null]
theorem nw_X6 {own : String} {i : Nat} (h : Cond.classLink own i RX6 ∈ mjW) : mjnewOK own i 5 nf_X6 := ⟨RX6, TX6, 8, tyX6, rfl, inWX6, tyX6_ok, h, it_X6, ii_X6, rfl, (fun j hj => match j, hj with | 0, _ => rfl | 1, _ => rfl | 2, _ => rfl | 3, _ => rfl | 4, _ => rfl | 5, _ => rfl | 6, _ => rfl | 7, _ => rfl | (k + 8), h => absurd h (by omega)), rfl⟩
theorem mjnw {own : String} {k i ci0 ci : Nat} {fs0 fs : List Value} {R : Option (Nat × List Value)} (h : (bif Nat.beq i k then some (ci0, fs0) else R) = some (ci, fs)) (hc : mjnewOK own k ci0 fs0) (hr : R = some (ci, fs) → mjnewOK own i ci fs) : mjnewOK own i ci fs := by
  cases hb : Nat.beq i k with
  | true =>
    rw [hb] at h
    cases h
    rw [Nat.eq_of_beq_eq_true hb]
    exact hc
  | false =>
    rw [hb] at h
    exact hr h
def mjnach (I : Nat → Option mjI) (q : Nat → Bool) (n : Nat) : Bool := (List.range n).all (fun pc => match I pc with
  | some (.anewarray k, _) => q k
  | _ => true)
theorem mjna_ok {own : String} {I : Nat → Option mjI} {q : Nat → Bool} {n : Nat} (h : mjnach I q n = true) (hn : ∀ pc, Nat.ble n pc = true → I pc = none) (hq : ∀ k, q k = true → Cond.classLink own k RX4 ∈ mjW) : ∀ pc i, I pc = some i → ∀ k, i.1 = .anewarray k → Cond.classLink own k RX4 ∈ mjW := by
  intro pc i hi k hk
  cases hb : Nat.ble n pc with
  | true => rw [hn pc hb] at hi; cases hi
  | false =>
    have hlt : pc < n := by
      rcases Nat.lt_or_ge pc n with w | w
      · exact w
      · rw [Nat.ble_eq_true_of_le w] at hb; cases hb
    have h1 := List.all_eq_true.mp h pc (List.mem_range.mpr hlt)
    rw [hi] at h1
    obtain ⟨i1, i2⟩ := i
    dsimp only at hk
    subst hk
    exact hq k h1
def z0 : Nat → Int32 := fun _ => 0
def pInit : PSt := pNew (z0, z0, z0, z0, 0, 0, 10, 10, 8, 0, 0, 0) 600
noncomputable def kP0 : PSt := kseal pInit
def hf0 : Nat → Option Nat := va_up (va_up (va_up (va_up (fun _ => none) 0 (some 2)) 1 (some 7)) 2 (some 12)) 3 (some 17)
theorem hf0_ok : hOk hf0 := by
  refine ⟨fun k hk => ?_, fun k hk => ?_⟩
  · match k, hk with
    | 0, _ => exact Or.inl rfl
    | 1, _ => exact Or.inr (Or.inl rfl)
    | 2, _ => exact Or.inr (Or.inr (Or.inl rfl))
    | 3, _ => exact Or.inr (Or.inr (Or.inr rfl))
    | (j + 4), h => exact absurd h (by omega)
  · unfold hf0 va_up
    rw [if_neg (by omega), if_neg (by omega), if_neg (by omega), if_neg (by omega)]
noncomputable def hInit : HSt := (0, hf0, kP0, kP0, kP0, kP0)
def dInit : DSt := (z0, z0, z0, z0, 0, 0, 0, -1)
def zInit : ZSt := (z0, z0, 0)
noncomputable def cInit : CSt := (kP0, kP0, kP0, 0, (0, hUp hf0, kP0, kP0, kP0, kP0), dInit, zInit, (0, 0, 0))
def S_X0_init : mjSp := fun M as => (M = [.inr (0, nf_X0)] ∧ as = [.ref 0], none, none)
noncomputable def S_X4_init : mjSp := fun M as => (M = [.inr (3, nf_X4)] ∧ as = [.ref 0], some (pw kP0), none)
def S_X5_init : mjSp := fun M as => (M = [.inr (4, nf_X5)] ∧ as = [.ref 0], some (zw zInit), none)
def S_X3_init : mjSp := fun M as => (M = [.inr (2, nf_X3)] ∧ as = [.ref 0], some (dw dInit), none)
noncomputable def S_X2_init : mjSp := fun M as => (M = [.inr (1, nf_X2)] ∧ as = [.ref 0], some (hw hInit), none)
noncomputable def S_X6_init : mjSp := fun M as => (M = [.inr (5, nf_X6)] ∧ as = [.ref 0], some (xw cInit), none)
def rm_X0_init : Room := { frames := 1, cells := 0, slots := 0, locals := 20 }
noncomputable def G_X0_init : mjG := (I_X0_init, F_X0, [(3, 3, 0, 1, 0, 0, S_none)], (fun pc => []), Y0, (fun _ => none), (fun _ => none), none, 0, 0, true, [])
set_option maxHeartbeats 20000000 in
set_option maxRecDepth 100000 in
theorem ok_X0_init : mjOK G_X0_init 1 S_X0_init := by
  intro M as hP T hT
  obtain ⟨rfl, rfl⟩ := hP
  refine hT.1 (fun _ => false) 40 _ _ _ _ _ ?_
  exact ⟨rfl, rfl⟩
set_option maxRecDepth 10000 in
theorem ct_X0_init (l : Launch) : mjCT l yX0_init cX0_init 1 none rm_X0_init S_X0_init :=
  mjCT_of (own := RX0) (G := G_X0_init) (plainFor_of_name pn_X0) rfl ok_X0_init (fun meth hm => ⟨fun pc row h => (I_X0_init_ok pc row h).1, F_X0_ok, List.forall_mem_cons.mpr ⟨⟨ln_X0_3, ob_im, ob_code, by decide, by decide⟩, fun _ h => absurd h List.not_mem_nil⟩, (fun _ _ _ h => by cases h), (fun _ _ h => by cases h), ⟨Nat.le_refl _, Nat.le_refl _⟩, (fun _ => hm), (fun h => absurd h (by decide)), fun _ h => absurd h List.not_mem_nil⟩) rfl rfl rfl (fun pc row h => (I_X0_init_ok pc row h).2)
def rm_X4_init : Room := { frames := 2, cells := 4, slots := 192, locals := 44 }
noncomputable def G_X4_init : mjG := (I_X4_init, F_X4, [(3, 3, 0, 1, 0, 0, S_none), (34, 0, 3, 2, 0, 0, S_X4_renew)], (fun pc => [0, 1, 2, 3, 4]), Y0, (fun _ => none), (fun _ => none), none, 4, 192, true, [])
set_option maxHeartbeats 20000000 in
set_option maxRecDepth 100000 in
theorem ok_X4_init : mjOK G_X4_init 1 S_X4_init := by
  intro M as hP T hT
  obtain ⟨rfl, rfl⟩ := hP
  have fin : (S_X4_init [.inr (3, nf_X4)] [.ref 0]).2.1 = some (pw (kseal pInit)) := rfl
  have fin2 : (S_X4_init [.inr (3, nf_X4)] [.ref 0]).2.2 = none := rfl
  rw [kseal_eq] at fin
  generalize S_X4_init [.inr (3, nf_X4)] [.ref 0] = SS at hT fin fin2
  refine hT.1 (fun _ => false) 60 _ _ _ _ _ ?_
  refine mjix_e 36 rfl (by decide) (by decide) (mjix_e 36 rfl (by decide) (by decide) (mjix_e 60 rfl (by decide) (by decide) (mjix_e 60 rfl (by decide) (by decide) (And.intro ⟨rfl, rfl⟩ ⟨?_, fin2.symm⟩))))
  rw [fin]
  rfl
set_option maxRecDepth 10000 in
theorem ct_X4_init (l : Launch) : mjCT l yX4_init cX4_init 1 none rm_X4_init S_X4_init :=
  mjCT_of (own := RX4) (G := G_X4_init) (plainFor_of_name pn_X4) rfl ok_X4_init (fun meth hm => ⟨fun pc row h => (I_X4_init_ok pc row h).1, F_X4_ok, List.forall_mem_cons.mpr ⟨⟨ln_X4_3, ob_im, ob_code, by decide, by decide⟩, List.forall_mem_cons.mpr ⟨⟨yX4_renew, cX4_renew, 2, none, rm_X4_renew, ct_X4_renew l, ⟨rfl, rfl⟩, ⟨by decide, by decide⟩, by decide, by decide, nk_X4_renew, ln_X4_34, im_X4_renew, se_X4_renew, rfl⟩, fun _ h => absurd h List.not_mem_nil⟩⟩, (fun _ _ _ h => by cases h), (fun _ _ h => by cases h), ⟨Nat.le_refl _, Nat.le_refl _⟩, (fun _ => hm), (fun _ => ⟨ac_int, ac_char, mjna_ok (q := fun _ => false) (n := 62) (by decide +kernel) (mjhi rfl) (fun _ h => by cases h)⟩), fun _ h => absurd h List.not_mem_nil⟩) rfl rfl rfl (fun pc row h => (I_X4_init_ok pc row h).2)
def rm_X5_init : Room := { frames := 1, cells := 2, slots := 72, locals := 20 }
noncomputable def G_X5_init : mjG := (I_X5_init, F_X5, [(3, 3, 0, 1, 0, 0, S_none)], (fun pc => []), Y0, (fun _ => none), (fun _ => none), none, 2, 72, true, [])
set_option maxHeartbeats 20000000 in
set_option maxRecDepth 100000 in
theorem ok_X5_init : mjOK G_X5_init 1 S_X5_init := by
  intro M as hP T hT
  obtain ⟨rfl, rfl⟩ := hP
  refine hT.1 (fun _ => false) 60 _ _ _ _ _ ?_
  exact mjix_e 36 rfl (by decide) (by decide) (mjix_e 36 rfl (by decide) (by decide) ⟨rfl, rfl⟩)
set_option maxRecDepth 10000 in
theorem ct_X5_init (l : Launch) : mjCT l yX5_init cX5_init 1 none rm_X5_init S_X5_init :=
  mjCT_of (own := RX5) (G := G_X5_init) (plainFor_of_name pn_X5) rfl ok_X5_init (fun meth hm => ⟨fun pc row h => (I_X5_init_ok pc row h).1, F_X5_ok, List.forall_mem_cons.mpr ⟨⟨ln_X5_3, ob_im, ob_code, by decide, by decide⟩, fun _ h => absurd h List.not_mem_nil⟩, (fun _ _ _ h => by cases h), (fun _ _ h => by cases h), ⟨Nat.le_refl _, Nat.le_refl _⟩, (fun _ => hm), (fun _ => ⟨ac_int, ac_char, mjna_ok (q := fun _ => false) (n := 26) (by decide +kernel) (mjhi rfl) (fun _ h => by cases h)⟩), fun _ h => absurd h List.not_mem_nil⟩) rfl rfl rfl (fun pc row h => (I_X5_init_ok pc row h).2)
def rm_X3_init : Room := { frames := 1, cells := 4, slots := 120, locals := 20 }
noncomputable def G_X3_init : mjG := (I_X3_init, F_X3, [(3, 3, 0, 1, 0, 0, S_none)], (fun pc => []), Y0, (fun _ => none), (fun _ => none), none, 4, 120, true, [])
set_option maxHeartbeats 20000000 in
set_option maxRecDepth 100000 in
theorem ok_X3_init : mjOK G_X3_init 1 S_X3_init := by
  intro M as hP T hT
  obtain ⟨rfl, rfl⟩ := hP
  refine hT.1 (fun _ => false) 60 _ _ _ _ _ ?_
  exact mjix_e 60 rfl (by decide) (by decide) (mjix_e 20 rfl (by decide) (by decide) (mjix_e 20 rfl (by decide) (by decide) (mjix_e 20 rfl (by decide) (by decide) ⟨rfl, rfl⟩)))
set_option maxRecDepth 10000 in
theorem ct_X3_init (l : Launch) : mjCT l yX3_init cX3_init 1 none rm_X3_init S_X3_init :=
  mjCT_of (own := RX3) (G := G_X3_init) (plainFor_of_name pn_X3) rfl ok_X3_init (fun meth hm => ⟨fun pc row h => (I_X3_init_ok pc row h).1, F_X3_ok, List.forall_mem_cons.mpr ⟨⟨ln_X3_3, ob_im, ob_code, by decide, by decide⟩, fun _ h => absurd h List.not_mem_nil⟩, (fun _ _ _ h => by cases h), (fun _ _ h => by cases h), ⟨Nat.le_refl _, Nat.le_refl _⟩, (fun _ => hm), (fun _ => ⟨ac_int, ac_char, mjna_ok (q := fun _ => false) (n := 57) (by decide +kernel) (mjhi rfl) (fun _ h => by cases h)⟩), fun _ h => absurd h List.not_mem_nil⟩) rfl rfl rfl (fun pc row h => (I_X3_init_ok pc row h).2)
def rm_X2_init : Room := { frames := 3, cells := 21, slots := 820, locals := 64 }
noncomputable def G_X2_init : mjG := (I_X2_init, F_X2, [(3, 3, 0, 1, 0, 0, S_none), (21, 2, 3, 1, 4, 192, S_X4_init)], (fun pc => [99]), Y0, (fun i => bif Nat.beq i 9 then some (3, nf_X4) else none), (fun _ => none), none, 21, 820, true, [])
set_option maxHeartbeats 20000000 in
set_option maxRecDepth 100000 in
theorem ok_X2_init : mjOKh G_X2_init 2 S_X2_init := by
  intro M as hP T hT
  obtain ⟨rfl, rfl⟩ := hP
  have mjO3 : ∀ {fs : List Value} {F : List Value → Prop}, F fs → mjO 3 (some (.inr (3, fs))) F := fun h => h
  have s4 : T 19 [some (.ref 0), some (.int (nI 4))] [] (hw hInit) (21, 820) := by
    refine (hT G_X2_init.2.2.2.1).1 (fun pc => Nat.beq pc 19) 60 _ _ _ _ _ ?_
    exact And.intro (fun _ => ⟨rfl, rfl⟩) (fun h => absurd (show nI 4 ≤ nI 4 by decide) h)
  have s3 : T 19 [some (.ref 0), some (.int (nI 3))] [] ((hw (0, va_up (va_up (va_up (fun _ => none) 0 (some 2)) 1 (some 7)) 2 (some 12), kP0, kP0, kP0, kP0)).take 17) (16, 616) := by
    refine (hT (fun _ => [17])).1 (fun pc => Nat.beq pc 19) 60 _ _ _ _ _ ?_
    exact And.intro (fun h => absurd h (by decide)) (fun _ => And.intro ⟨rfl, rfl⟩ (mjix_e 3 rfl (by decide) (by decide) s4))
  have s2 : T 19 [some (.ref 0), some (.int (nI 2))] [] ((hw (0, va_up (va_up (fun _ => none) 0 (some 2)) 1 (some 7), kP0, kP0, kP0, kP0)).take 12) (11, 412) := by
    refine (hT (fun _ => [12])).1 (fun pc => Nat.beq pc 19) 60 _ _ _ _ _ ?_
    exact And.intro (fun h => absurd h (by decide)) (fun _ => And.intro ⟨rfl, rfl⟩ (mjix_e 2 rfl (by decide) (by decide) s3))
  have s1 : T 19 [some (.ref 0), some (.int (nI 1))] [] ((hw (0, va_up (fun _ => none) 0 (some 2), kP0, kP0, kP0, kP0)).take 7) (6, 208) := by
    refine (hT (fun _ => [7])).1 (fun pc => Nat.beq pc 19) 60 _ _ _ _ _ ?_
    exact And.intro (fun h => absurd h (by decide)) (fun _ => And.intro ⟨rfl, rfl⟩ (mjix_e 1 rfl (by decide) (by decide) s2))
  have s0 : T 19 [some (.ref 0), some (.int (nI 0))] [] ((hw (0, (fun _ => none), kP0, kP0, kP0, kP0)).take 2) (1, 4) := by
    refine (hT (fun _ => [2])).1 (fun pc => Nat.beq pc 19) 60 _ _ _ _ _ ?_
    exact And.intro (fun h => absurd h (by decide)) (fun _ => And.intro ⟨rfl, rfl⟩ (mjix_e 0 rfl (by decide) (by decide) s1))
  refine (hT G_X2_init.2.2.2.1).1 (fun pc => Nat.beq pc 19) 60 _ _ _ _ _ ?_
  exact mjix_e 4 rfl (by decide) (by decide) s0
set_option maxRecDepth 10000 in
theorem ct_X2_init (l : Launch) : mjCT l yX2_init cX2_init 2 none rm_X2_init S_X2_init :=
  mjCT_ofh (own := RX2) (G := G_X2_init) (plainFor_of_name pn_X2) rfl ok_X2_init (fun meth hm => ⟨fun pc row h => (I_X2_init_ok pc row h).1, F_X2_ok, List.forall_mem_cons.mpr ⟨⟨ln_X2_3, ob_im, ob_code, by decide, by decide⟩, List.forall_mem_cons.mpr ⟨⟨yX4_init, cX4_init, 1, rm_X4_init, ct_X4_init l, ⟨rfl, rfl⟩, ⟨by decide, by decide⟩, by decide, by decide, nk_X4_init, ln_X2_21, im_X4_init, rfl⟩, fun _ h => absurd h List.not_mem_nil⟩⟩, (fun _ _ _ h => mjnw h (nw_X4 cl_X2_9) (fun h => by cases h)), (fun _ _ h => by cases h), ⟨Nat.le_refl _, Nat.le_refl _⟩, (fun _ => hm), (fun _ => ⟨ac_int, ac_char, mjna_ok (q := fun k => Nat.beq k 9) (n := 44) (by decide +kernel) (mjhi rfl) (fun k h => by rw [Nat.eq_of_beq_eq_true h]; exact cl_X2_9)⟩), fun _ h => absurd h List.not_mem_nil⟩) rfl rfl rfl (fun pc row h => (I_X2_init_ok pc row h).2)
def rm_X6_init : Room := { frames := 4, cells := 46, slots := 1640, locals := 85 }
noncomputable def G_X6_init : mjG := (I_X6_init, F_X6, [(3, 3, 0, 1, 0, 0, S_none), (11, 2, 3, 1, 4, 192, S_X4_init), (28, 2, 1, 1, 21, 820, S_X2_init), (35, 5, 2, 1, 4, 120, S_X3_init), (42, 5, 4, 1, 2, 72, S_X5_init), (49, 5, 0, 1, 0, 0, S_X0_init)], (fun pc => bif Nat.beq pc 80 then [46] else bif Nat.beq pc 69 then [43] else bif Nat.beq pc 58 then [38] else bif Nat.beq pc 47 then [16] else bif Nat.beq pc 31 then [11] else bif Nat.beq pc 20 then [6] else [1]), Y0, (fun i => bif Nat.beq i 47 then some (0, nf_X0) else bif Nat.beq i 40 then some (4, nf_X5) else bif Nat.beq i 33 then some (2, nf_X3) else bif Nat.beq i 26 then some (1, nf_X2) else bif Nat.beq i 9 then some (3, nf_X4) else none), (fun _ => none), none, 46, 1640, true, [])
theorem cut_in : mjcut (mjui [16] 17) 4 hf0 = hUp hf0 := by
  funext k
  match k with
  | 0 => rfl
  | 1 => rfl
  | 2 => rfl
  | 3 => rfl
  | (j + 4) =>
    unfold mjcut hUp hf0 va_up
    rw [if_neg (by omega), if_neg (by omega), if_neg (by omega), if_neg (by omega), if_neg (by omega)]
    rfl
set_option maxHeartbeats 20000000 in
set_option maxRecDepth 100000 in
theorem ok_X6_init : mjOK G_X6_init 1 S_X6_init := by
  intro M as hP T hT
  obtain ⟨rfl, rfl⟩ := hP
  have s1 : ∀ f, f = hUp hf0 → T 50 [some (.ref 0)] [.ref 16, .ref 0] (.inr (5, [.ref 1, .ref 6, .ref 11, .int 0, .null, .null, .null, .null]) :: ((xw (kP0, kP0, kP0, 0, (0, f, kP0, kP0, kP0, kP0), dInit, zInit, (0, 0, 0))).drop 1).take 37) (37, 1434) := by
    intro f hf
    subst hf
    refine hT.1 (fun _ => false) 60 _ _ _ _ _ ?_
    exact And.intro ⟨rfl, rfl⟩ (And.intro ⟨rfl, rfl⟩ (And.intro ⟨rfl, rfl⟩ ⟨rfl, rfl⟩))
  refine hT.1 (fun pc => Nat.beq pc 50) 60 _ _ _ _ _ ?_
  exact And.intro ⟨rfl, rfl⟩ (And.intro ⟨rfl, rfl⟩ (And.intro ⟨rfl, rfl⟩ (And.intro (Or.inl rfl) (And.intro ⟨rfl, rfl⟩ (s1 (mjcut (mjui [16] 17) 4 hf0) cut_in)))))
set_option maxRecDepth 10000 in
theorem ct_X6_init (l : Launch) : mjCT l yX6_init cX6_init 1 none rm_X6_init S_X6_init :=
  mjCT_of (own := RX6) (G := G_X6_init) (plainFor_of_name pn_X6) rfl ok_X6_init (fun meth hm => ⟨fun pc row h => (I_X6_init_ok pc row h).1, F_X6_ok, List.forall_mem_cons.mpr ⟨⟨ln_X6_3, ob_im, ob_code, by decide, by decide⟩, List.forall_mem_cons.mpr ⟨⟨yX4_init, cX4_init, 1, rm_X4_init, ct_X4_init l, ⟨rfl, rfl⟩, ⟨by decide, by decide⟩, by decide, by decide, nk_X4_init, ln_X6_11, im_X4_init, rfl⟩, List.forall_mem_cons.mpr ⟨⟨yX2_init, cX2_init, 2, rm_X2_init, ct_X2_init l, ⟨rfl, rfl⟩, ⟨by decide, by decide⟩, by decide, by decide, nk_X2_init, ln_X6_28, im_X2_init, rfl⟩, List.forall_mem_cons.mpr ⟨⟨yX3_init, cX3_init, 1, rm_X3_init, ct_X3_init l, ⟨rfl, rfl⟩, ⟨by decide, by decide⟩, by decide, by decide, nk_X3_init, List.mem_of_getElem? (i := 14) rfl, im_X3_init, rfl⟩, List.forall_mem_cons.mpr ⟨⟨yX5_init, cX5_init, 1, rm_X5_init, ct_X5_init l, ⟨rfl, rfl⟩, ⟨by decide, by decide⟩, by decide, by decide, nk_X5_init, List.mem_of_getElem? (i := 15) rfl, im_X5_init, rfl⟩, List.forall_mem_cons.mpr ⟨⟨yX0_init, cX0_init, 1, rm_X0_init, ct_X0_init l, ⟨rfl, rfl⟩, ⟨by decide, by decide⟩, by decide, by decide, nk_X0_init, List.mem_of_getElem? (i := 16) rfl, im_X0_init, rfl⟩, fun _ h => absurd h List.not_mem_nil⟩⟩⟩⟩⟩⟩, (fun _ _ _ h => mjnw h (nw_X0 cl_X6_47) (fun h => mjnw h (nw_X5 cl_X6_40) (fun h => mjnw h (nw_X3 cl_X6_33) (fun h => mjnw h (nw_X2 cl_X6_26) (fun h => mjnw h (nw_X4 cl_X6_9) (fun h => by cases h)))))), (fun _ _ h => by cases h), ⟨Nat.le_refl _, Nat.le_refl _⟩, (fun _ => hm), (fun _ => ⟨ac_int, ac_char, mjna_ok (q := fun _ => false) (n := 87) (by decide +kernel) (mjhi rfl) (fun _ h => by cases h)⟩), fun _ h => absurd h List.not_mem_nil⟩) rfl rfl rfl (fun pc row h => (I_X6_init_ok pc row h).2)
