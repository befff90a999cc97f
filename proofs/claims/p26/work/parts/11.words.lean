/-! of each field, method and call the tables' words, by their places (wip/p26/gen_words.py) -/
theorem mjW_list (ws : List Cond) (ps : List Nat) (h : ws.map some = ps.map (fun i => lw_tbl[i]?)) (hg : ws.all goodWord = true) : ∀ w ∈ ws, w ∈ mjW := by
  intro w hw
  have h1 : some w ∈ ps.map (fun i => lw_tbl[i]?) := by rw [← h]; exact List.mem_map.mpr ⟨w, hw, rfl⟩
  obtain ⟨i, -, hi⟩ := List.mem_map.mp h1
  exact mjW_of i hi (List.all_eq_true.mp hg w hw)
def mjff : List (Nat × Nat × Nat × Nat) → Nat → Option (Nat × Nat × Nat)
  | [], _ => none
  | q :: l, i => bif Nat.beq q.1 i then some q.2 else mjff l i
theorem mjff_ok {own : String} : ∀ {l : List (Nat × Nat × Nat × Nat)}, (∀ q ∈ l, mjfldOK own q.1 q.2.1 q.2.2.1 q.2.2.2) → ∀ i ci k tk, mjff l i = some (ci, k, tk) → mjfldOK own i ci k tk
  | [], _, i, ci, k, tk, h => by cases h
  | q :: l, hl, i, ci, k, tk, h => by
    unfold mjff at h
    by_cases z : Nat.beq q.1 i = true
    · rw [z] at h
      have h0 := hl q List.mem_cons_self
      have h1 : q.2 = (ci, k, tk) := Option.some.inj h
      rw [Nat.eq_of_beq_eq_true z] at h0
      rw [h1] at h0
      exact h0
    · rw [Bool.not_eq_true] at z
      rw [z] at h
      exact mjff_ok (fun q' hq' => hl q' (List.mem_cons_of_mem _ hq')) i ci k tk h
set_option maxRecDepth 10000 in
theorem inWX0 : ∀ w ∈ u_ws RX0 TX0 3, w ∈ mjW := mjW_list _ [178, 180, 182] rfl rfl
set_option maxRecDepth 10000 in
theorem inWX2 : ∀ w ∈ u_ws RX2 TX2 2, w ∈ mjW := mjW_list _ [111, 113] rfl rfl
set_option maxRecDepth 10000 in
theorem inWX3 : ∀ w ∈ u_ws RX3 TX3 8, w ∈ mjW := mjW_list _ [132, 134, 136, 138, 140, 142, 144, 146] rfl rfl
set_option maxRecDepth 10000 in
theorem inWX4 : ∀ w ∈ u_ws RX4 TX4 12, w ∈ mjW := mjW_list _ [73, 75, 77, 79, 81, 83, 85, 87, 89, 91, 93, 95] rfl rfl
set_option maxRecDepth 10000 in
theorem inWX5 : ∀ w ∈ u_ws RX5 TX5 3, w ∈ mjW := mjW_list _ [159, 161, 163] rfl rfl
set_option maxRecDepth 10000 in
theorem inWX6 : ∀ w ∈ u_ws RX6 TX6 8, w ∈ mjW := mjW_list _ [193, 195, 197, 199, 201, 203, 205, 207] rfl rfl
set_option maxRecDepth 10000 in
theorem fo_X4_9 : mjfldOK RX4 9 3 0 3 := ⟨RX4, TX4, 12, tyX4, rfl, by decide, inWX4, tyX4_ok, nmX4, Or.inl (mjW_of 53 rfl rfl), ⟨Or.inr ⟨_, rfl⟩, rfl, rfl, mjW_of 53 rfl rfl⟩⟩
set_option maxRecDepth 10000 in
theorem fo_X4_15 : mjfldOK RX4 15 3 1 3 := ⟨RX4, TX4, 12, tyX4, rfl, by decide, inWX4, tyX4_ok, nmX4, Or.inl (mjW_of 54 rfl rfl), ⟨Or.inr ⟨_, rfl⟩, rfl, rfl, mjW_of 54 rfl rfl⟩⟩
set_option maxRecDepth 10000 in
theorem fo_X4_18 : mjfldOK RX4 18 3 2 3 := ⟨RX4, TX4, 12, tyX4, rfl, by decide, inWX4, tyX4_ok, nmX4, Or.inl (mjW_of 55 rfl rfl), ⟨Or.inr ⟨_, rfl⟩, rfl, rfl, mjW_of 55 rfl rfl⟩⟩
set_option maxRecDepth 10000 in
theorem fo_X4_21 : mjfldOK RX4 21 3 3 3 := ⟨RX4, TX4, 12, tyX4, rfl, by decide, inWX4, tyX4_ok, nmX4, Or.inl (mjW_of 56 rfl rfl), ⟨Or.inr ⟨_, rfl⟩, rfl, rfl, mjW_of 56 rfl rfl⟩⟩
set_option maxRecDepth 10000 in
theorem fo_X4_44 : mjfldOK RX4 44 3 4 0 := ⟨RX4, TX4, 12, tyX4, rfl, by decide, inWX4, tyX4_ok, nmX4, Or.inl (mjW_of 57 rfl rfl), ⟨rfl, rfl⟩⟩
set_option maxRecDepth 10000 in
theorem fo_X4_47 : mjfldOK RX4 47 3 5 0 := ⟨RX4, TX4, 12, tyX4, rfl, by decide, inWX4, tyX4_ok, nmX4, Or.inl (mjW_of 59 rfl rfl), ⟨rfl, rfl⟩⟩
set_option maxRecDepth 10000 in
theorem fo_X4_24 : mjfldOK RX4 24 3 6 0 := ⟨RX4, TX4, 12, tyX4, rfl, by decide, inWX4, tyX4_ok, nmX4, Or.inl (mjW_of 61 rfl rfl), ⟨rfl, rfl⟩⟩
set_option maxRecDepth 10000 in
theorem fo_X4_28 : mjfldOK RX4 28 3 7 0 := ⟨RX4, TX4, 12, tyX4, rfl, by decide, inWX4, tyX4_ok, nmX4, Or.inl (mjW_of 63 rfl rfl), ⟨rfl, rfl⟩⟩
set_option maxRecDepth 10000 in
theorem fo_X4_31 : mjfldOK RX4 31 3 8 0 := ⟨RX4, TX4, 12, tyX4, rfl, by decide, inWX4, tyX4_ok, nmX4, Or.inl (mjW_of 65 rfl rfl), ⟨rfl, rfl⟩⟩
set_option maxRecDepth 10000 in
theorem fo_X4_50 : mjfldOK RX4 50 3 9 0 := ⟨RX4, TX4, 12, tyX4, rfl, by decide, inWX4, tyX4_ok, nmX4, Or.inl (mjW_of 67 rfl rfl), ⟨rfl, rfl⟩⟩
set_option maxRecDepth 10000 in
theorem fo_X4_53 : mjfldOK RX4 53 3 10 0 := ⟨RX4, TX4, 12, tyX4, rfl, by decide, inWX4, tyX4_ok, nmX4, Or.inl (mjW_of 69 rfl rfl), ⟨rfl, rfl⟩⟩
set_option maxRecDepth 10000 in
theorem fo_X4_56 : mjfldOK RX4 56 3 11 0 := ⟨RX4, TX4, 12, tyX4, rfl, by decide, inWX4, tyX4_ok, nmX4, Or.inl (mjW_of 71 rfl rfl), ⟨rfl, rfl⟩⟩
def FL_X4 : List (Nat × Nat × Nat × Nat) := [(9, 3, 0, 3), (15, 3, 1, 3), (18, 3, 2, 3), (21, 3, 3, 3), (44, 3, 4, 0), (47, 3, 5, 0), (24, 3, 6, 0), (28, 3, 7, 0), (31, 3, 8, 0), (50, 3, 9, 0), (53, 3, 10, 0), (56, 3, 11, 0)]
def F_X4 : Nat → Option (Nat × Nat × Nat) := mjff FL_X4
theorem F_X4_ok : ∀ i ci k tk, F_X4 i = some (ci, k, tk) → mjfldOK RX4 i ci k tk := mjff_ok (l := FL_X4) (List.forall_mem_cons.mpr ⟨fo_X4_9, List.forall_mem_cons.mpr ⟨fo_X4_15, List.forall_mem_cons.mpr ⟨fo_X4_18, List.forall_mem_cons.mpr ⟨fo_X4_21, List.forall_mem_cons.mpr ⟨fo_X4_44, List.forall_mem_cons.mpr ⟨fo_X4_47, List.forall_mem_cons.mpr ⟨fo_X4_24, List.forall_mem_cons.mpr ⟨fo_X4_28, List.forall_mem_cons.mpr ⟨fo_X4_31, List.forall_mem_cons.mpr ⟨fo_X4_50, List.forall_mem_cons.mpr ⟨fo_X4_53, List.forall_mem_cons.mpr ⟨fo_X4_56, fun _ h => absurd h List.not_mem_nil⟩⟩⟩⟩⟩⟩⟩⟩⟩⟩⟩⟩)
theorem fo_X6_178 : mjfldOK RX6 178 3 4 0 := ⟨RX4, TX4, 12, tyX4, rfl, by decide, inWX4, tyX4_ok, nmX4, Or.inr ⟨RX6, List.mem_of_getElem? (i := 0) rfl⟩, ⟨rfl, rfl⟩⟩
theorem fo_X6_70 : mjfldOK RX6 70 3 5 0 := ⟨RX4, TX4, 12, tyX4, rfl, by decide, inWX4, tyX4_ok, nmX4, Or.inr ⟨RX6, List.mem_of_getElem? (i := 1) rfl⟩, ⟨rfl, rfl⟩⟩
theorem fo_X6_74 : mjfldOK RX6 74 3 6 0 := ⟨RX4, TX4, 12, tyX4, rfl, by decide, inWX4, tyX4_ok, nmX4, Or.inr ⟨RX6, List.mem_of_getElem? (i := 2) rfl⟩, ⟨rfl, rfl⟩⟩
theorem fo_X6_110 : mjfldOK RX6 110 3 7 0 := ⟨RX4, TX4, 12, tyX4, rfl, by decide, inWX4, tyX4_ok, nmX4, Or.inr ⟨RX6, List.mem_of_getElem? (i := 3) rfl⟩, ⟨rfl, rfl⟩⟩
theorem fo_X6_113 : mjfldOK RX6 113 3 8 0 := ⟨RX4, TX4, 12, tyX4, rfl, by decide, inWX4, tyX4_ok, nmX4, Or.inr ⟨RX6, List.mem_of_getElem? (i := 4) rfl⟩, ⟨rfl, rfl⟩⟩
theorem fo_X6_181 : mjfldOK RX6 181 3 9 0 := ⟨RX4, TX4, 12, tyX4, rfl, by decide, inWX4, tyX4_ok, nmX4, Or.inr ⟨RX6, List.mem_of_getElem? (i := 5) rfl⟩, ⟨rfl, rfl⟩⟩
theorem fo_X6_184 : mjfldOK RX6 184 3 10 0 := ⟨RX4, TX4, 12, tyX4, rfl, by decide, inWX4, tyX4_ok, nmX4, Or.inr ⟨RX6, List.mem_of_getElem? (i := 6) rfl⟩, ⟨rfl, rfl⟩⟩
theorem fo_X6_202 : mjfldOK RX6 202 3 11 0 := ⟨RX4, TX4, 12, tyX4, rfl, by decide, inWX4, tyX4_ok, nmX4, Or.inr ⟨RX6, List.mem_of_getElem? (i := 7) rfl⟩, ⟨rfl, rfl⟩⟩
theorem fo_X6_205 : mjfldOK RX6 205 1 1 0 := ⟨RX2, TX2, 2, tyX2, rfl, by decide, inWX2, tyX2_ok, nmX2, Or.inr ⟨RX6, List.mem_of_getElem? (i := 8) rfl⟩, ⟨rfl, rfl⟩⟩
theorem fo_X6_120 : mjfldOK RX6 120 2 1 0 := ⟨RX3, TX3, 8, tyX3, rfl, by decide, inWX3, tyX3_ok, nmX3, Or.inr ⟨RX6, List.mem_of_getElem? (i := 9) rfl⟩, ⟨rfl, rfl⟩⟩
theorem fo_X6_126 : mjfldOK RX6 126 2 5 0 := ⟨RX3, TX3, 8, tyX3, rfl, by decide, inWX3, tyX3_ok, nmX3, Or.inr ⟨RX6, List.mem_of_getElem? (i := 10) rfl⟩, ⟨rfl, rfl⟩⟩
theorem fo_X6_221 : mjfldOK RX6 221 0 0 0 := ⟨RX0, TX0, 3, tyX0, rfl, by decide, inWX0, tyX0_ok, nmX0, Or.inr ⟨RX6, List.mem_of_getElem? (i := 11) rfl⟩, ⟨rfl, rfl⟩⟩
theorem fo_X6_224 : mjfldOK RX6 224 0 1 0 := ⟨RX0, TX0, 3, tyX0, rfl, by decide, inWX0, tyX0_ok, nmX0, Or.inr ⟨RX6, List.mem_of_getElem? (i := 12) rfl⟩, ⟨rfl, rfl⟩⟩
theorem fo_X6_227 : mjfldOK RX6 227 0 2 0 := ⟨RX0, TX0, 3, tyX0, rfl, by decide, inWX0, tyX0_ok, nmX0, Or.inr ⟨RX6, List.mem_of_getElem? (i := 13) rfl⟩, ⟨rfl, rfl⟩⟩
set_option maxRecDepth 10000 in
theorem fo_X6_12 : mjfldOK RX6 12 5 0 3 := ⟨RX6, TX6, 8, tyX6, rfl, by decide, inWX6, tyX6_ok, nmX6, Or.inl (mjW_of 185 rfl rfl), ⟨Or.inl ⟨_, rfl⟩, rfl, rfl, mjW_of 185 rfl rfl⟩⟩
set_option maxRecDepth 10000 in
theorem fo_X6_16 : mjfldOK RX6 16 5 1 3 := ⟨RX6, TX6, 8, tyX6, rfl, by decide, inWX6, tyX6_ok, nmX6, Or.inl (mjW_of 186 rfl rfl), ⟨Or.inl ⟨_, rfl⟩, rfl, rfl, mjW_of 186 rfl rfl⟩⟩
set_option maxRecDepth 10000 in
theorem fo_X6_19 : mjfldOK RX6 19 5 2 3 := ⟨RX6, TX6, 8, tyX6, rfl, by decide, inWX6, tyX6_ok, nmX6, Or.inl (mjW_of 187 rfl rfl), ⟨Or.inl ⟨_, rfl⟩, rfl, rfl, mjW_of 187 rfl rfl⟩⟩
set_option maxRecDepth 10000 in
theorem fo_X6_22 : mjfldOK RX6 22 5 3 1 := ⟨RX6, TX6, 8, tyX6, rfl, by decide, inWX6, tyX6_ok, nmX6, Or.inl (mjW_of 188 rfl rfl), ⟨rfl, rfl⟩⟩
set_option maxRecDepth 10000 in
theorem fo_X6_29 : mjfldOK RX6 29 5 4 3 := ⟨RX6, TX6, 8, tyX6, rfl, by decide, inWX6, tyX6_ok, nmX6, Or.inl (mjW_of 189 rfl rfl), ⟨Or.inl ⟨_, rfl⟩, rfl, rfl, mjW_of 189 rfl rfl⟩⟩
set_option maxRecDepth 10000 in
theorem fo_X6_36 : mjfldOK RX6 36 5 5 3 := ⟨RX6, TX6, 8, tyX6, rfl, by decide, inWX6, tyX6_ok, nmX6, Or.inl (mjW_of 190 rfl rfl), ⟨Or.inl ⟨_, rfl⟩, rfl, rfl, mjW_of 190 rfl rfl⟩⟩
set_option maxRecDepth 10000 in
theorem fo_X6_43 : mjfldOK RX6 43 5 6 3 := ⟨RX6, TX6, 8, tyX6, rfl, by decide, inWX6, tyX6_ok, nmX6, Or.inl (mjW_of 191 rfl rfl), ⟨Or.inl ⟨_, rfl⟩, rfl, rfl, mjW_of 191 rfl rfl⟩⟩
set_option maxRecDepth 10000 in
theorem fo_X6_50 : mjfldOK RX6 50 5 7 3 := ⟨RX6, TX6, 8, tyX6, rfl, by decide, inWX6, tyX6_ok, nmX6, Or.inl (mjW_of 192 rfl rfl), ⟨Or.inl ⟨_, rfl⟩, rfl, rfl, mjW_of 192 rfl rfl⟩⟩
def FL_X6 : List (Nat × Nat × Nat × Nat) := [(178, 3, 4, 0), (70, 3, 5, 0), (74, 3, 6, 0), (110, 3, 7, 0), (113, 3, 8, 0), (181, 3, 9, 0), (184, 3, 10, 0), (202, 3, 11, 0), (205, 1, 1, 0), (120, 2, 1, 0), (126, 2, 5, 0), (221, 0, 0, 0), (224, 0, 1, 0), (227, 0, 2, 0), (12, 5, 0, 3), (16, 5, 1, 3), (19, 5, 2, 3), (22, 5, 3, 1), (29, 5, 4, 3), (36, 5, 5, 3), (43, 5, 6, 3), (50, 5, 7, 3)]
def F_X6 : Nat → Option (Nat × Nat × Nat) := mjff FL_X6
theorem F_X6_ok : ∀ i ci k tk, F_X6 i = some (ci, k, tk) → mjfldOK RX6 i ci k tk := mjff_ok (l := FL_X6) (List.forall_mem_cons.mpr ⟨fo_X6_178, List.forall_mem_cons.mpr ⟨fo_X6_70, List.forall_mem_cons.mpr ⟨fo_X6_74, List.forall_mem_cons.mpr ⟨fo_X6_110, List.forall_mem_cons.mpr ⟨fo_X6_113, List.forall_mem_cons.mpr ⟨fo_X6_181, List.forall_mem_cons.mpr ⟨fo_X6_184, List.forall_mem_cons.mpr ⟨fo_X6_202, List.forall_mem_cons.mpr ⟨fo_X6_205, List.forall_mem_cons.mpr ⟨fo_X6_120, List.forall_mem_cons.mpr ⟨fo_X6_126, List.forall_mem_cons.mpr ⟨fo_X6_221, List.forall_mem_cons.mpr ⟨fo_X6_224, List.forall_mem_cons.mpr ⟨fo_X6_227, List.forall_mem_cons.mpr ⟨fo_X6_12, List.forall_mem_cons.mpr ⟨fo_X6_16, List.forall_mem_cons.mpr ⟨fo_X6_19, List.forall_mem_cons.mpr ⟨fo_X6_22, List.forall_mem_cons.mpr ⟨fo_X6_29, List.forall_mem_cons.mpr ⟨fo_X6_36, List.forall_mem_cons.mpr ⟨fo_X6_43, List.forall_mem_cons.mpr ⟨fo_X6_50, fun _ h => absurd h List.not_mem_nil⟩⟩⟩⟩⟩⟩⟩⟩⟩⟩⟩⟩⟩⟩⟩⟩⟩⟩⟩⟩⟩⟩)
set_option maxRecDepth 10000 in
theorem fo_X2_11 : mjfldOK RX2 11 1 0 3 := ⟨RX2, TX2, 2, tyX2, rfl, by decide, inWX2, tyX2_ok, nmX2, Or.inl (mjW_of 108 rfl rfl), ⟨Or.inr ⟨_, rfl⟩, rfl, rfl, mjW_of 108 rfl rfl⟩⟩
set_option maxRecDepth 10000 in
theorem fo_X2_17 : mjfldOK RX2 17 1 1 0 := ⟨RX2, TX2, 2, tyX2, rfl, by decide, inWX2, tyX2_ok, nmX2, Or.inl (mjW_of 109 rfl rfl), ⟨rfl, rfl⟩⟩
def FL_X2 : List (Nat × Nat × Nat × Nat) := [(11, 1, 0, 3), (17, 1, 1, 0)]
def F_X2 : Nat → Option (Nat × Nat × Nat) := mjff FL_X2
theorem F_X2_ok : ∀ i ci k tk, F_X2 i = some (ci, k, tk) → mjfldOK RX2 i ci k tk := mjff_ok (l := FL_X2) (List.forall_mem_cons.mpr ⟨fo_X2_11, List.forall_mem_cons.mpr ⟨fo_X2_17, fun _ h => absurd h List.not_mem_nil⟩⟩)
set_option maxRecDepth 10000 in
theorem fo_X3_9 : mjfldOK RX3 9 2 0 3 := ⟨RX3, TX3, 8, tyX3, rfl, by decide, inWX3, tyX3_ok, nmX3, Or.inl (mjW_of 122 rfl rfl), ⟨Or.inr ⟨_, rfl⟩, rfl, rfl, mjW_of 122 rfl rfl⟩⟩
set_option maxRecDepth 10000 in
theorem fo_X3_15 : mjfldOK RX3 15 2 1 0 := ⟨RX3, TX3, 8, tyX3, rfl, by decide, inWX3, tyX3_ok, nmX3, Or.inl (mjW_of 123 rfl rfl), ⟨rfl, rfl⟩⟩
set_option maxRecDepth 10000 in
theorem fo_X3_19 : mjfldOK RX3 19 2 2 3 := ⟨RX3, TX3, 8, tyX3, rfl, by decide, inWX3, tyX3_ok, nmX3, Or.inl (mjW_of 125 rfl rfl), ⟨Or.inr ⟨_, rfl⟩, rfl, rfl, mjW_of 125 rfl rfl⟩⟩
set_option maxRecDepth 10000 in
theorem fo_X3_23 : mjfldOK RX3 23 2 3 3 := ⟨RX3, TX3, 8, tyX3, rfl, by decide, inWX3, tyX3_ok, nmX3, Or.inl (mjW_of 126 rfl rfl), ⟨Or.inr ⟨_, rfl⟩, rfl, rfl, mjW_of 126 rfl rfl⟩⟩
set_option maxRecDepth 10000 in
theorem fo_X3_26 : mjfldOK RX3 26 2 4 3 := ⟨RX3, TX3, 8, tyX3, rfl, by decide, inWX3, tyX3_ok, nmX3, Or.inl (mjW_of 127 rfl rfl), ⟨Or.inr ⟨_, rfl⟩, rfl, rfl, mjW_of 127 rfl rfl⟩⟩
set_option maxRecDepth 10000 in
theorem fo_X3_29 : mjfldOK RX3 29 2 5 0 := ⟨RX3, TX3, 8, tyX3, rfl, by decide, inWX3, tyX3_ok, nmX3, Or.inl (mjW_of 128 rfl rfl), ⟨rfl, rfl⟩⟩
set_option maxRecDepth 10000 in
theorem fo_X3_32 : mjfldOK RX3 32 2 6 0 := ⟨RX3, TX3, 8, tyX3, rfl, by decide, inWX3, tyX3_ok, nmX3, Or.inl (mjW_of 130 rfl rfl), ⟨rfl, rfl⟩⟩
set_option maxRecDepth 10000 in
theorem fo_X3_35 : mjfldOK RX3 35 2 7 0 := ⟨RX3, TX3, 8, tyX3, rfl, by decide, inWX3, tyX3_ok, nmX3, Or.inl (mjW_of 131 rfl rfl), ⟨rfl, rfl⟩⟩
def FL_X3 : List (Nat × Nat × Nat × Nat) := [(9, 2, 0, 3), (15, 2, 1, 0), (19, 2, 2, 3), (23, 2, 3, 3), (26, 2, 4, 3), (29, 2, 5, 0), (32, 2, 6, 0), (35, 2, 7, 0)]
def F_X3 : Nat → Option (Nat × Nat × Nat) := mjff FL_X3
theorem F_X3_ok : ∀ i ci k tk, F_X3 i = some (ci, k, tk) → mjfldOK RX3 i ci k tk := mjff_ok (l := FL_X3) (List.forall_mem_cons.mpr ⟨fo_X3_9, List.forall_mem_cons.mpr ⟨fo_X3_15, List.forall_mem_cons.mpr ⟨fo_X3_19, List.forall_mem_cons.mpr ⟨fo_X3_23, List.forall_mem_cons.mpr ⟨fo_X3_26, List.forall_mem_cons.mpr ⟨fo_X3_29, List.forall_mem_cons.mpr ⟨fo_X3_32, List.forall_mem_cons.mpr ⟨fo_X3_35, fun _ h => absurd h List.not_mem_nil⟩⟩⟩⟩⟩⟩⟩⟩)
set_option maxRecDepth 10000 in
theorem fo_X5_9 : mjfldOK RX5 9 4 0 3 := ⟨RX5, TX5, 3, tyX5, rfl, by decide, inWX5, tyX5_ok, nmX5, Or.inl (mjW_of 156 rfl rfl), ⟨Or.inr ⟨_, rfl⟩, rfl, rfl, mjW_of 156 rfl rfl⟩⟩
set_option maxRecDepth 10000 in
theorem fo_X5_15 : mjfldOK RX5 15 4 1 3 := ⟨RX5, TX5, 3, tyX5, rfl, by decide, inWX5, tyX5_ok, nmX5, Or.inl (mjW_of 157 rfl rfl), ⟨Or.inr ⟨_, rfl⟩, rfl, rfl, mjW_of 157 rfl rfl⟩⟩
set_option maxRecDepth 10000 in
theorem fo_X5_18 : mjfldOK RX5 18 4 2 0 := ⟨RX5, TX5, 3, tyX5, rfl, by decide, inWX5, tyX5_ok, nmX5, Or.inl (mjW_of 158 rfl rfl), ⟨rfl, rfl⟩⟩
def FL_X5 : List (Nat × Nat × Nat × Nat) := [(9, 4, 0, 3), (15, 4, 1, 3), (18, 4, 2, 0)]
def F_X5 : Nat → Option (Nat × Nat × Nat) := mjff FL_X5
theorem F_X5_ok : ∀ i ci k tk, F_X5 i = some (ci, k, tk) → mjfldOK RX5 i ci k tk := mjff_ok (l := FL_X5) (List.forall_mem_cons.mpr ⟨fo_X5_9, List.forall_mem_cons.mpr ⟨fo_X5_15, List.forall_mem_cons.mpr ⟨fo_X5_18, fun _ h => absurd h List.not_mem_nil⟩⟩⟩)
set_option maxRecDepth 10000 in
theorem fo_X0_9 : mjfldOK RX0 9 0 0 0 := ⟨RX0, TX0, 3, tyX0, rfl, by decide, inWX0, tyX0_ok, nmX0, Or.inl (mjW_of 172 rfl rfl), ⟨rfl, rfl⟩⟩
set_option maxRecDepth 10000 in
theorem fo_X0_15 : mjfldOK RX0 15 0 1 0 := ⟨RX0, TX0, 3, tyX0, rfl, by decide, inWX0, tyX0_ok, nmX0, Or.inl (mjW_of 174 rfl rfl), ⟨rfl, rfl⟩⟩
set_option maxRecDepth 10000 in
theorem fo_X0_18 : mjfldOK RX0 18 0 2 0 := ⟨RX0, TX0, 3, tyX0, rfl, by decide, inWX0, tyX0_ok, nmX0, Or.inl (mjW_of 176 rfl rfl), ⟨rfl, rfl⟩⟩
def FL_X0 : List (Nat × Nat × Nat × Nat) := [(9, 0, 0, 0), (15, 0, 1, 0), (18, 0, 2, 0)]
def F_X0 : Nat → Option (Nat × Nat × Nat) := mjff FL_X0
theorem F_X0_ok : ∀ i ci k tk, F_X0 i = some (ci, k, tk) → mjfldOK RX0 i ci k tk := mjff_ok (l := FL_X0) (List.forall_mem_cons.mpr ⟨fo_X0_9, List.forall_mem_cons.mpr ⟨fo_X0_15, List.forall_mem_cons.mpr ⟨fo_X0_18, fun _ h => absurd h List.not_mem_nil⟩⟩⟩)
set_option maxRecDepth 10000 in
theorem nk_X0_init : mjnameOK yX0_init cX0_init 1 none 0 := ⟨⟨by decide, by decide, by decide +kernel⟩, mjW_of 170 rfl rfl, mjW_of 28 rfl rfl⟩
set_option maxRecDepth 10000 in
theorem im_X0_init : Cond.instanceMethod yX0_init ∈ mjW := mjW_of 169 rfl rfl
set_option maxRecDepth 10000 in
theorem nk_X0_look : mjnameOK yX0_look cX0_look 4 none 2 := ⟨⟨by decide, by decide, by decide +kernel⟩, mjW_of 465 rfl rfl, mjW_of 28 rfl rfl⟩
set_option maxRecDepth 10000 in
theorem im_X0_look : Cond.instanceMethod yX0_look ∈ mjW := mjW_of 463 rfl rfl
set_option maxRecDepth 10000 in
theorem se_X0_look : Cond.selects yX0_look.cls yX0_look yX0_look ∈ mjW := mjW_of 464 rfl rfl
set_option maxRecDepth 10000 in
theorem nk_X1_isCell : mjnameOK yX1_isCell cX1_isCell 1 (some .boolean) 1 := ⟨⟨by decide, by decide, by decide +kernel⟩, mjW_of 299 rfl rfl, mjW_of 30 rfl rfl⟩
set_option maxRecDepth 10000 in
theorem st_X1_isCell : Cond.static yX1_isCell ∈ mjW := mjW_of 298 rfl rfl
set_option maxRecDepth 10000 in
theorem nk_X1_isJoint : mjnameOK yX1_isJoint cX1_isJoint 1 (some .boolean) 1 := ⟨⟨by decide, by decide, by decide +kernel⟩, mjW_of 279 rfl rfl, mjW_of 30 rfl rfl⟩
set_option maxRecDepth 10000 in
theorem st_X1_isJoint : Cond.static yX1_isJoint ∈ mjW := mjW_of 278 rfl rfl
set_option maxRecDepth 10000 in
theorem nk_X1_firstCell : mjnameOK yX1_firstCell cX1_firstCell 1 (some .int) 1 := ⟨⟨by decide, by decide, by decide +kernel⟩, mjW_of 250 rfl rfl, mjW_of 30 rfl rfl⟩
set_option maxRecDepth 10000 in
theorem st_X1_firstCell : Cond.static yX1_firstCell ∈ mjW := mjW_of 249 rfl rfl
set_option maxRecDepth 10000 in
theorem nk_X1_secondCell : mjnameOK yX1_secondCell cX1_secondCell 1 (some .int) 1 := ⟨⟨by decide, by decide, by decide +kernel⟩, mjW_of 257 rfl rfl, mjW_of 30 rfl rfl⟩
set_option maxRecDepth 10000 in
theorem st_X1_secondCell : Cond.static yX1_secondCell ∈ mjW := mjW_of 256 rfl rfl
set_option maxRecDepth 10000 in
theorem nk_X1_otherCell : mjnameOK yX1_otherCell cX1_otherCell 2 (some .int) 2 := ⟨⟨by decide, by decide, by decide +kernel⟩, mjW_of 306 rfl rfl, mjW_of 30 rfl rfl⟩
set_option maxRecDepth 10000 in
theorem st_X1_otherCell : Cond.static yX1_otherCell ∈ mjW := mjW_of 305 rfl rfl
set_option maxRecDepth 10000 in
theorem nk_X1_jointAt : mjnameOK yX1_jointAt cX1_jointAt 4 (some .int) 2 := ⟨⟨by decide, by decide, by decide +kernel⟩, mjW_of 302 rfl rfl, mjW_of 30 rfl rfl⟩
set_option maxRecDepth 10000 in
theorem st_X1_jointAt : Cond.static yX1_jointAt ∈ mjW := mjW_of 301 rfl rfl
set_option maxRecDepth 10000 in
theorem nk_X1_rimSides : mjnameOK yX1_rimSides cX1_rimSides 5 (some .int) 1 := ⟨⟨by decide, by decide, by decide +kernel⟩, mjW_of 381 rfl rfl, mjW_of 30 rfl rfl⟩
set_option maxRecDepth 10000 in
theorem st_X1_rimSides : Cond.static yX1_rimSides ∈ mjW := mjW_of 380 rfl rfl
set_option maxRecDepth 10000 in
theorem nk_X1_touch : mjnameOK yX1_touch cX1_touch 2 (some .boolean) 2 := ⟨⟨by decide, by decide, by decide +kernel⟩, mjW_of 406 rfl rfl, mjW_of 30 rfl rfl⟩
set_option maxRecDepth 10000 in
theorem st_X1_touch : Cond.static yX1_touch ∈ mjW := mjW_of 405 rfl rfl
set_option maxRecDepth 10000 in
theorem nk_X1_isEnd : mjnameOK yX1_isEnd cX1_isEnd 2 (some .boolean) 2 := ⟨⟨by decide, by decide, by decide +kernel⟩, mjW_of 409 rfl rfl, mjW_of 30 rfl rfl⟩
set_option maxRecDepth 10000 in
theorem st_X1_isEnd : Cond.static yX1_isEnd ∈ mjW := mjW_of 408 rfl rfl
set_option maxRecDepth 10000 in
theorem nk_X2_init : mjnameOK yX2_init cX2_init 2 none 0 := ⟨⟨by decide, by decide, by decide +kernel⟩, mjW_of 103 rfl rfl, mjW_of 25 rfl rfl⟩
set_option maxRecDepth 10000 in
theorem im_X2_init : Cond.instanceMethod yX2_init ∈ mjW := mjW_of 102 rfl rfl
set_option maxRecDepth 10000 in
theorem nk_X2_record : mjnameOK yX2_record cX2_record 3 none 1 := ⟨⟨by decide, by decide, by decide +kernel⟩, mjW_of 349 rfl rfl, mjW_of 25 rfl rfl⟩
set_option maxRecDepth 10000 in
theorem im_X2_record : Cond.instanceMethod yX2_record ∈ mjW := mjW_of 347 rfl rfl
set_option maxRecDepth 10000 in
theorem se_X2_record : Cond.selects yX2_record.cls yX2_record yX2_record ∈ mjW := mjW_of 348 rfl rfl
set_option maxRecDepth 10000 in
theorem nk_X2_takeBack : mjnameOK yX2_takeBack cX2_takeBack 3 (some .boolean) 1 := ⟨⟨by decide, by decide, by decide +kernel⟩, mjW_of 325 rfl rfl, mjW_of 25 rfl rfl⟩
set_option maxRecDepth 10000 in
theorem im_X2_takeBack : Cond.instanceMethod yX2_takeBack ∈ mjW := mjW_of 323 rfl rfl
set_option maxRecDepth 10000 in
theorem se_X2_takeBack : Cond.selects yX2_takeBack.cls yX2_takeBack yX2_takeBack ∈ mjW := mjW_of 324 rfl rfl
set_option maxRecDepth 10000 in
theorem nk_X2_stateAt : mjnameOK yX2_stateAt cX2_stateAt 2 (some (.object "ColdPanes$Pane")) 1 := ⟨⟨by decide, by decide, by decide +kernel⟩, mjW_of 329 rfl rfl, mjW_of 25 rfl rfl⟩
set_option maxRecDepth 10000 in
theorem im_X2_stateAt : Cond.instanceMethod yX2_stateAt ∈ mjW := mjW_of 328 rfl rfl
set_option maxRecDepth 10000 in
theorem se_X2_stateAt : Cond.selects yX2_stateAt.cls yX2_stateAt yX2_stateAt ∈ mjW := mjW_of 4 rfl rfl
set_option maxRecDepth 10000 in
theorem nk_X2_dropOldest : mjnameOK yX2_dropOldest cX2_dropOldest 3 none 0 := ⟨⟨by decide, by decide, by decide +kernel⟩, mjW_of 353 rfl rfl, mjW_of 25 rfl rfl⟩
set_option maxRecDepth 10000 in
theorem im_X2_dropOldest : Cond.instanceMethod yX2_dropOldest ∈ mjW := mjW_of 352 rfl rfl
set_option maxRecDepth 10000 in
theorem se_X2_dropOldest : Cond.selects yX2_dropOldest.cls yX2_dropOldest yX2_dropOldest ∈ mjW := mjW_of 5 rfl rfl
set_option maxRecDepth 10000 in
theorem nk_X3_init : mjnameOK yX3_init cX3_init 1 none 0 := ⟨⟨by decide, by decide, by decide +kernel⟩, mjW_of 120 rfl rfl, mjW_of 26 rfl rfl⟩
set_option maxRecDepth 10000 in
theorem im_X3_init : Cond.instanceMethod yX3_init ∈ mjW := mjW_of 119 rfl rfl
set_option maxRecDepth 10000 in
theorem nk_X3_take : mjnameOK yX3_take cX3_take 2 (some .boolean) 1 := ⟨⟨by decide, by decide, by decide +kernel⟩, mjW_of 575 rfl rfl, mjW_of 26 rfl rfl⟩
set_option maxRecDepth 10000 in
theorem im_X3_take : Cond.instanceMethod yX3_take ∈ mjW := mjW_of 573 rfl rfl
set_option maxRecDepth 10000 in
theorem se_X3_take : Cond.selects yX3_take.cls yX3_take yX3_take ∈ mjW := mjW_of 574 rfl rfl
set_option maxRecDepth 10000 in
theorem nk_X3_findFault : mjnameOK yX3_findFault cX3_findFault 2 (some .int) 0 := ⟨⟨by decide, by decide, by decide +kernel⟩, mjW_of 586 rfl rfl, mjW_of 26 rfl rfl⟩
set_option maxRecDepth 10000 in
theorem im_X3_findFault : Cond.instanceMethod yX3_findFault ∈ mjW := mjW_of 584 rfl rfl
set_option maxRecDepth 10000 in
theorem se_X3_findFault : Cond.selects yX3_findFault.cls yX3_findFault yX3_findFault ∈ mjW := mjW_of 585 rfl rfl
set_option maxRecDepth 10000 in
theorem nk_X3_reads : mjnameOK yX3_reads cX3_reads 2 (some .boolean) 1 := ⟨⟨by decide, by decide, by decide +kernel⟩, mjW_of 590 rfl rfl, mjW_of 26 rfl rfl⟩
set_option maxRecDepth 10000 in
theorem im_X3_reads : Cond.instanceMethod yX3_reads ∈ mjW := mjW_of 589 rfl rfl
set_option maxRecDepth 10000 in
theorem se_X3_reads : Cond.selects yX3_reads.cls yX3_reads yX3_reads ∈ mjW := mjW_of 13 rfl rfl
set_option maxRecDepth 10000 in
theorem nk_X3_readsHold : mjnameOK yX3_readsHold cX3_readsHold 2 (some .boolean) 1 := ⟨⟨by decide, by decide, by decide +kernel⟩, mjW_of 606 rfl rfl, mjW_of 26 rfl rfl⟩
set_option maxRecDepth 10000 in
theorem im_X3_readsHold : Cond.instanceMethod yX3_readsHold ∈ mjW := mjW_of 605 rfl rfl
set_option maxRecDepth 10000 in
theorem se_X3_readsHold : Cond.selects yX3_readsHold.cls yX3_readsHold yX3_readsHold ∈ mjW := mjW_of 17 rfl rfl
set_option maxRecDepth 10000 in
theorem nk_X3_readsDigit : mjnameOK yX3_readsDigit cX3_readsDigit 2 (some .boolean) 1 := ⟨⟨by decide, by decide, by decide +kernel⟩, mjW_of 594 rfl rfl, mjW_of 26 rfl rfl⟩
set_option maxRecDepth 10000 in
theorem im_X3_readsDigit : Cond.instanceMethod yX3_readsDigit ∈ mjW := mjW_of 593 rfl rfl
set_option maxRecDepth 10000 in
theorem se_X3_readsDigit : Cond.selects yX3_readsDigit.cls yX3_readsDigit yX3_readsDigit ∈ mjW := mjW_of 14 rfl rfl
set_option maxRecDepth 10000 in
theorem nk_X3_endNumber : mjnameOK yX3_endNumber cX3_endNumber 1 none 0 := ⟨⟨by decide, by decide, by decide +kernel⟩, mjW_of 618 rfl rfl, mjW_of 26 rfl rfl⟩
set_option maxRecDepth 10000 in
theorem im_X3_endNumber : Cond.instanceMethod yX3_endNumber ∈ mjW := mjW_of 617 rfl rfl
set_option maxRecDepth 10000 in
theorem se_X3_endNumber : Cond.selects yX3_endNumber.cls yX3_endNumber yX3_endNumber ∈ mjW := mjW_of 20 rfl rfl
set_option maxRecDepth 10000 in
theorem nk_X3_keepIn : mjnameOK yX3_keepIn cX3_keepIn 3 none 2 := ⟨⟨by decide, by decide, by decide +kernel⟩, mjW_of 610 rfl rfl, mjW_of 26 rfl rfl⟩
set_option maxRecDepth 10000 in
theorem im_X3_keepIn : Cond.instanceMethod yX3_keepIn ∈ mjW := mjW_of 609 rfl rfl
set_option maxRecDepth 10000 in
theorem se_X3_keepIn : Cond.selects yX3_keepIn.cls yX3_keepIn yX3_keepIn ∈ mjW := mjW_of 18 rfl rfl
set_option maxRecDepth 10000 in
theorem nk_X3_endOfPart : mjnameOK yX3_endOfPart cX3_endOfPart 1 (some .char) 0 := ⟨⟨by decide, by decide, by decide +kernel⟩, mjW_of 614 rfl rfl, mjW_of 26 rfl rfl⟩
set_option maxRecDepth 10000 in
theorem im_X3_endOfPart : Cond.instanceMethod yX3_endOfPart ∈ mjW := mjW_of 613 rfl rfl
set_option maxRecDepth 10000 in
theorem se_X3_endOfPart : Cond.selects yX3_endOfPart.cls yX3_endOfPart yX3_endOfPart ∈ mjW := mjW_of 19 rfl rfl
set_option maxRecDepth 10000 in
theorem nk_X3_leastOfPart : mjnameOK yX3_leastOfPart cX3_leastOfPart 1 (some .int) 0 := ⟨⟨by decide, by decide, by decide +kernel⟩, mjW_of 598 rfl rfl, mjW_of 26 rfl rfl⟩
set_option maxRecDepth 10000 in
theorem im_X3_leastOfPart : Cond.instanceMethod yX3_leastOfPart ∈ mjW := mjW_of 597 rfl rfl
set_option maxRecDepth 10000 in
theorem se_X3_leastOfPart : Cond.selects yX3_leastOfPart.cls yX3_leastOfPart yX3_leastOfPart ∈ mjW := mjW_of 15 rfl rfl
set_option maxRecDepth 10000 in
theorem nk_X3_mostOfPart : mjnameOK yX3_mostOfPart cX3_mostOfPart 1 (some .int) 0 := ⟨⟨by decide, by decide, by decide +kernel⟩, mjW_of 602 rfl rfl, mjW_of 26 rfl rfl⟩
set_option maxRecDepth 10000 in
theorem im_X3_mostOfPart : Cond.instanceMethod yX3_mostOfPart ∈ mjW := mjW_of 601 rfl rfl
set_option maxRecDepth 10000 in
theorem se_X3_mostOfPart : Cond.selects yX3_mostOfPart.cls yX3_mostOfPart yX3_mostOfPart ∈ mjW := mjW_of 16 rfl rfl
set_option maxRecDepth 10000 in
theorem nk_X3_aimOf : mjnameOK yX3_aimOf cX3_aimOf 2 (some .int) 1 := ⟨⟨by decide, by decide, by decide +kernel⟩, mjW_of 626 rfl rfl, mjW_of 26 rfl rfl⟩
set_option maxRecDepth 10000 in
theorem im_X3_aimOf : Cond.instanceMethod yX3_aimOf ∈ mjW := mjW_of 624 rfl rfl
set_option maxRecDepth 10000 in
theorem se_X3_aimOf : Cond.selects yX3_aimOf.cls yX3_aimOf yX3_aimOf ∈ mjW := mjW_of 625 rfl rfl
set_option maxRecDepth 10000 in
theorem nk_X3_rateOf : mjnameOK yX3_rateOf cX3_rateOf 2 (some .int) 1 := ⟨⟨by decide, by decide, by decide +kernel⟩, mjW_of 633 rfl rfl, mjW_of 26 rfl rfl⟩
set_option maxRecDepth 10000 in
theorem im_X3_rateOf : Cond.instanceMethod yX3_rateOf ∈ mjW := mjW_of 631 rfl rfl
set_option maxRecDepth 10000 in
theorem se_X3_rateOf : Cond.selects yX3_rateOf.cls yX3_rateOf yX3_rateOf ∈ mjW := mjW_of 632 rfl rfl
set_option maxRecDepth 10000 in
theorem nk_X3_minutesOf : mjnameOK yX3_minutesOf cX3_minutesOf 2 (some .int) 1 := ⟨⟨by decide, by decide, by decide +kernel⟩, mjW_of 637 rfl rfl, mjW_of 26 rfl rfl⟩
set_option maxRecDepth 10000 in
theorem im_X3_minutesOf : Cond.instanceMethod yX3_minutesOf ∈ mjW := mjW_of 635 rfl rfl
set_option maxRecDepth 10000 in
theorem se_X3_minutesOf : Cond.selects yX3_minutesOf.cls yX3_minutesOf yX3_minutesOf ∈ mjW := mjW_of 636 rfl rfl
set_option maxRecDepth 10000 in
theorem nk_X3_isSegment : mjnameOK yX3_isSegment cX3_isSegment 1 (some .boolean) 1 := ⟨⟨by decide, by decide, by decide +kernel⟩, mjW_of 629 rfl rfl, mjW_of 26 rfl rfl⟩
set_option maxRecDepth 10000 in
theorem st_X3_isSegment : Cond.static yX3_isSegment ∈ mjW := mjW_of 628 rfl rfl
set_option maxRecDepth 10000 in
theorem nk_X4_init : mjnameOK yX4_init cX4_init 1 none 0 := ⟨⟨by decide, by decide, by decide +kernel⟩, mjW_of 44 rfl rfl, mjW_of 23 rfl rfl⟩
set_option maxRecDepth 10000 in
theorem im_X4_init : Cond.instanceMethod yX4_init ∈ mjW := mjW_of 43 rfl rfl
set_option maxRecDepth 10000 in
theorem nk_X4_renew : mjnameOK yX4_renew cX4_renew 2 none 1 := ⟨⟨by decide, by decide, by decide +kernel⟩, mjW_of 49 rfl rfl, mjW_of 23 rfl rfl⟩
set_option maxRecDepth 10000 in
theorem im_X4_renew : Cond.instanceMethod yX4_renew ∈ mjW := mjW_of 47 rfl rfl
set_option maxRecDepth 10000 in
theorem se_X4_renew : Cond.selects yX4_renew.cls yX4_renew yX4_renew ∈ mjW := mjW_of 48 rfl rfl
set_option maxRecDepth 10000 in
theorem nk_X4_copyFrom : mjnameOK yX4_copyFrom cX4_copyFrom 2 none 1 := ⟨⟨by decide, by decide, by decide +kernel⟩, mjW_of 333 rfl rfl, mjW_of 23 rfl rfl⟩
set_option maxRecDepth 10000 in
theorem im_X4_copyFrom : Cond.instanceMethod yX4_copyFrom ∈ mjW := mjW_of 331 rfl rfl
set_option maxRecDepth 10000 in
theorem se_X4_copyFrom : Cond.selects yX4_copyFrom.cls yX4_copyFrom yX4_copyFrom ∈ mjW := mjW_of 332 rfl rfl
set_option maxRecDepth 10000 in
theorem nk_X4_passMinutes : mjnameOK yX4_passMinutes cX4_passMinutes 4 (some .int) 1 := ⟨⟨by decide, by decide, by decide +kernel⟩, mjW_of 515 rfl rfl, mjW_of 23 rfl rfl⟩
set_option maxRecDepth 10000 in
theorem im_X4_passMinutes : Cond.instanceMethod yX4_passMinutes ∈ mjW := mjW_of 513 rfl rfl
set_option maxRecDepth 10000 in
theorem se_X4_passMinutes : Cond.selects yX4_passMinutes.cls yX4_passMinutes yX4_passMinutes ∈ mjW := mjW_of 514 rfl rfl
set_option maxRecDepth 10000 in
theorem nk_X4_staysWhole : mjnameOK yX4_staysWhole cX4_staysWhole 3 (some .boolean) 1 := ⟨⟨by decide, by decide, by decide +kernel⟩, mjW_of 505 rfl rfl, mjW_of 23 rfl rfl⟩
set_option maxRecDepth 10000 in
theorem im_X4_staysWhole : Cond.instanceMethod yX4_staysWhole ∈ mjW := mjW_of 503 rfl rfl
set_option maxRecDepth 10000 in
theorem se_X4_staysWhole : Cond.selects yX4_staysWhole.cls yX4_staysWhole yX4_staysWhole ∈ mjW := mjW_of 504 rfl rfl
set_option maxRecDepth 10000 in
theorem nk_X4_letHeatFlow : mjnameOK yX4_letHeatFlow cX4_letHeatFlow 2 none 0 := ⟨⟨by decide, by decide, by decide +kernel⟩, mjW_of 469 rfl rfl, mjW_of 23 rfl rfl⟩
set_option maxRecDepth 10000 in
theorem im_X4_letHeatFlow : Cond.instanceMethod yX4_letHeatFlow ∈ mjW := mjW_of 467 rfl rfl
set_option maxRecDepth 10000 in
theorem se_X4_letHeatFlow : Cond.selects yX4_letHeatFlow.cls yX4_letHeatFlow yX4_letHeatFlow ∈ mjW := mjW_of 468 rfl rfl
set_option maxRecDepth 10000 in
theorem nk_X4_moveFurnace : mjnameOK yX4_moveFurnace cX4_moveFurnace 1 none 0 := ⟨⟨by decide, by decide, by decide +kernel⟩, mjW_of 473 rfl rfl, mjW_of 23 rfl rfl⟩
set_option maxRecDepth 10000 in
theorem im_X4_moveFurnace : Cond.instanceMethod yX4_moveFurnace ∈ mjW := mjW_of 472 rfl rfl
set_option maxRecDepth 10000 in
theorem se_X4_moveFurnace : Cond.selects yX4_moveFurnace.cls yX4_moveFurnace yX4_moveFurnace ∈ mjW := mjW_of 8 rfl rfl
set_option maxRecDepth 10000 in
theorem nk_X4_flowOverJoints : mjnameOK yX4_flowOverJoints cX4_flowOverJoints 5 none 0 := ⟨⟨by decide, by decide, by decide +kernel⟩, mjW_of 477 rfl rfl, mjW_of 23 rfl rfl⟩
set_option maxRecDepth 10000 in
theorem im_X4_flowOverJoints : Cond.instanceMethod yX4_flowOverJoints ∈ mjW := mjW_of 476 rfl rfl
set_option maxRecDepth 10000 in
theorem se_X4_flowOverJoints : Cond.selects yX4_flowOverJoints.cls yX4_flowOverJoints yX4_flowOverJoints ∈ mjW := mjW_of 9 rfl rfl
set_option maxRecDepth 10000 in
theorem nk_X4_flowAtRim : mjnameOK yX4_flowAtRim cX4_flowAtRim 3 none 0 := ⟨⟨by decide, by decide, by decide +kernel⟩, mjW_of 486 rfl rfl, mjW_of 23 rfl rfl⟩
set_option maxRecDepth 10000 in
theorem im_X4_flowAtRim : Cond.instanceMethod yX4_flowAtRim ∈ mjW := mjW_of 485 rfl rfl
set_option maxRecDepth 10000 in
theorem se_X4_flowAtRim : Cond.selects yX4_flowAtRim.cls yX4_flowAtRim yX4_flowAtRim ∈ mjW := mjW_of 11 rfl rfl
set_option maxRecDepth 10000 in
theorem nk_X4_gain : mjnameOK yX4_gain cX4_gain 3 none 2 := ⟨⟨by decide, by decide, by decide +kernel⟩, mjW_of 481 rfl rfl, mjW_of 23 rfl rfl⟩
set_option maxRecDepth 10000 in
theorem im_X4_gain : Cond.instanceMethod yX4_gain ∈ mjW := mjW_of 480 rfl rfl
set_option maxRecDepth 10000 in
theorem se_X4_gain : Cond.selects yX4_gain.cls yX4_gain yX4_gain ∈ mjW := mjW_of 10 rfl rfl
set_option maxRecDepth 10000 in
theorem nk_X4_crackWorst : mjnameOK yX4_crackWorst cX4_crackWorst 2 (some .boolean) 0 := ⟨⟨by decide, by decide, by decide +kernel⟩, mjW_of 493 rfl rfl, mjW_of 23 rfl rfl⟩
set_option maxRecDepth 10000 in
theorem im_X4_crackWorst : Cond.instanceMethod yX4_crackWorst ∈ mjW := mjW_of 491 rfl rfl
set_option maxRecDepth 10000 in
theorem se_X4_crackWorst : Cond.selects yX4_crackWorst.cls yX4_crackWorst yX4_crackWorst ∈ mjW := mjW_of 492 rfl rfl
set_option maxRecDepth 10000 in
theorem nk_X4_weakenBeside : mjnameOK yX4_weakenBeside cX4_weakenBeside 3 none 1 := ⟨⟨by decide, by decide, by decide +kernel⟩, mjW_of 497 rfl rfl, mjW_of 23 rfl rfl⟩
set_option maxRecDepth 10000 in
theorem im_X4_weakenBeside : Cond.instanceMethod yX4_weakenBeside ∈ mjW := mjW_of 496 rfl rfl
set_option maxRecDepth 10000 in
theorem se_X4_weakenBeside : Cond.selects yX4_weakenBeside.cls yX4_weakenBeside yX4_weakenBeside ∈ mjW := mjW_of 12 rfl rfl
set_option maxRecDepth 10000 in
theorem nk_X4_holdFlame : mjnameOK yX4_holdFlame cX4_holdFlame 5 (some .int) 2 := ⟨⟨by decide, by decide, by decide +kernel⟩, mjW_of 553 rfl rfl, mjW_of 23 rfl rfl⟩
set_option maxRecDepth 10000 in
theorem im_X4_holdFlame : Cond.instanceMethod yX4_holdFlame ∈ mjW := mjW_of 551 rfl rfl
set_option maxRecDepth 10000 in
theorem se_X4_holdFlame : Cond.selects yX4_holdFlame.cls yX4_holdFlame yX4_holdFlame ∈ mjW := mjW_of 552 rfl rfl
set_option maxRecDepth 10000 in
theorem nk_X4_makeWhole : mjnameOK yX4_makeWhole cX4_makeWhole 2 none 1 := ⟨⟨by decide, by decide, by decide +kernel⟩, mjW_of 545 rfl rfl, mjW_of 23 rfl rfl⟩
set_option maxRecDepth 10000 in
theorem im_X4_makeWhole : Cond.instanceMethod yX4_makeWhole ∈ mjW := mjW_of 543 rfl rfl
set_option maxRecDepth 10000 in
theorem se_X4_makeWhole : Cond.selects yX4_makeWhole.cls yX4_makeWhole yX4_makeWhole ∈ mjW := mjW_of 544 rfl rfl
set_option maxRecDepth 10000 in
theorem nk_X4_strengthen : mjnameOK yX4_strengthen cX4_strengthen 3 none 2 := ⟨⟨by decide, by decide, by decide +kernel⟩, mjW_of 537 rfl rfl, mjW_of 23 rfl rfl⟩
set_option maxRecDepth 10000 in
theorem im_X4_strengthen : Cond.instanceMethod yX4_strengthen ∈ mjW := mjW_of 535 rfl rfl
set_option maxRecDepth 10000 in
theorem se_X4_strengthen : Cond.selects yX4_strengthen.cls yX4_strengthen yX4_strengthen ∈ mjW := mjW_of 536 rfl rfl
set_option maxRecDepth 10000 in
theorem nk_X4_heatAt : mjnameOK yX4_heatAt cX4_heatAt 2 (some .int) 1 := ⟨⟨by decide, by decide, by decide +kernel⟩, mjW_of 254 rfl rfl, mjW_of 23 rfl rfl⟩
set_option maxRecDepth 10000 in
theorem im_X4_heatAt : Cond.instanceMethod yX4_heatAt ∈ mjW := mjW_of 252 rfl rfl
set_option maxRecDepth 10000 in
theorem se_X4_heatAt : Cond.selects yX4_heatAt.cls yX4_heatAt yX4_heatAt ∈ mjW := mjW_of 253 rfl rfl
set_option maxRecDepth 10000 in
theorem nk_X4_isWhole : mjnameOK yX4_isWhole cX4_isWhole 2 (some .boolean) 1 := ⟨⟨by decide, by decide, by decide +kernel⟩, mjW_of 225 rfl rfl, mjW_of 23 rfl rfl⟩
set_option maxRecDepth 10000 in
theorem im_X4_isWhole : Cond.instanceMethod yX4_isWhole ∈ mjW := mjW_of 223 rfl rfl
set_option maxRecDepth 10000 in
theorem se_X4_isWhole : Cond.selects yX4_isWhole.cls yX4_isWhole yX4_isWhole ∈ mjW := mjW_of 224 rfl rfl
set_option maxRecDepth 10000 in
theorem nk_X4_crackedMinuteOf : mjnameOK yX4_crackedMinuteOf cX4_crackedMinuteOf 2 (some .int) 1 := ⟨⟨by decide, by decide, by decide +kernel⟩, mjW_of 399 rfl rfl, mjW_of 23 rfl rfl⟩
set_option maxRecDepth 10000 in
theorem im_X4_crackedMinuteOf : Cond.instanceMethod yX4_crackedMinuteOf ∈ mjW := mjW_of 397 rfl rfl
set_option maxRecDepth 10000 in
theorem se_X4_crackedMinuteOf : Cond.selects yX4_crackedMinuteOf.cls yX4_crackedMinuteOf yX4_crackedMinuteOf ∈ mjW := mjW_of 398 rfl rfl
set_option maxRecDepth 10000 in
theorem nk_X4_strengthOf : mjnameOK yX4_strengthOf cX4_strengthOf 2 (some .int) 1 := ⟨⟨by decide, by decide, by decide +kernel⟩, mjW_of 276 rfl rfl, mjW_of 23 rfl rfl⟩
set_option maxRecDepth 10000 in
theorem im_X4_strengthOf : Cond.instanceMethod yX4_strengthOf ∈ mjW := mjW_of 274 rfl rfl
set_option maxRecDepth 10000 in
theorem se_X4_strengthOf : Cond.selects yX4_strengthOf.cls yX4_strengthOf yX4_strengthOf ∈ mjW := mjW_of 275 rfl rfl
set_option maxRecDepth 10000 in
theorem nk_X4_stressOf : mjnameOK yX4_stressOf cX4_stressOf 2 (some .int) 1 := ⟨⟨by decide, by decide, by decide +kernel⟩, mjW_of 247 rfl rfl, mjW_of 23 rfl rfl⟩
set_option maxRecDepth 10000 in
theorem im_X4_stressOf : Cond.instanceMethod yX4_stressOf ∈ mjW := mjW_of 245 rfl rfl
set_option maxRecDepth 10000 in
theorem se_X4_stressOf : Cond.selects yX4_stressOf.cls yX4_stressOf yX4_stressOf ∈ mjW := mjW_of 246 rfl rfl
set_option maxRecDepth 10000 in
theorem nk_X4_marginOf : mjnameOK yX4_marginOf cX4_marginOf 2 (some .int) 1 := ⟨⟨by decide, by decide, by decide +kernel⟩, mjW_of 272 rfl rfl, mjW_of 23 rfl rfl⟩
set_option maxRecDepth 10000 in
theorem im_X4_marginOf : Cond.instanceMethod yX4_marginOf ∈ mjW := mjW_of 270 rfl rfl
set_option maxRecDepth 10000 in
theorem se_X4_marginOf : Cond.selects yX4_marginOf.cls yX4_marginOf yX4_marginOf ∈ mjW := mjW_of 271 rfl rfl
set_option maxRecDepth 10000 in
theorem nk_X4_wholeJointsOf : mjnameOK yX4_wholeJointsOf cX4_wholeJointsOf 4 (some .int) 1 := ⟨⟨by decide, by decide, by decide +kernel⟩, mjW_of 377 rfl rfl, mjW_of 23 rfl rfl⟩
set_option maxRecDepth 10000 in
theorem im_X4_wholeJointsOf : Cond.instanceMethod yX4_wholeJointsOf ∈ mjW := mjW_of 375 rfl rfl
set_option maxRecDepth 10000 in
theorem se_X4_wholeJointsOf : Cond.selects yX4_wholeJointsOf.cls yX4_wholeJointsOf yX4_wholeJointsOf ∈ mjW := mjW_of 376 rfl rfl
set_option maxRecDepth 10000 in
theorem nk_X4_wholeJointsBeside : mjnameOK yX4_wholeJointsBeside cX4_wholeJointsBeside 4 (some .int) 1 := ⟨⟨by decide, by decide, by decide +kernel⟩, mjW_of 403 rfl rfl, mjW_of 23 rfl rfl⟩
set_option maxRecDepth 10000 in
theorem im_X4_wholeJointsBeside : Cond.instanceMethod yX4_wholeJointsBeside ∈ mjW := mjW_of 401 rfl rfl
set_option maxRecDepth 10000 in
theorem se_X4_wholeJointsBeside : Cond.selects yX4_wholeJointsBeside.cls yX4_wholeJointsBeside yX4_wholeJointsBeside ∈ mjW := mjW_of 402 rfl rfl
set_option maxRecDepth 10000 in
theorem nk_X4_greatestStressOf : mjnameOK yX4_greatestStressOf cX4_greatestStressOf 5 (some .int) 1 := ⟨⟨by decide, by decide, by decide +kernel⟩, mjW_of 385 rfl rfl, mjW_of 23 rfl rfl⟩
set_option maxRecDepth 10000 in
theorem im_X4_greatestStressOf : Cond.instanceMethod yX4_greatestStressOf ∈ mjW := mjW_of 383 rfl rfl
set_option maxRecDepth 10000 in
theorem se_X4_greatestStressOf : Cond.selects yX4_greatestStressOf.cls yX4_greatestStressOf yX4_greatestStressOf ∈ mjW := mjW_of 384 rfl rfl
set_option maxRecDepth 10000 in
theorem nk_X4_greatestStress : mjnameOK yX4_greatestStress cX4_greatestStress 3 (some .int) 0 := ⟨⟨by decide, by decide, by decide +kernel⟩, mjW_of 243 rfl rfl, mjW_of 23 rfl rfl⟩
set_option maxRecDepth 10000 in
theorem im_X4_greatestStress : Cond.instanceMethod yX4_greatestStress ∈ mjW := mjW_of 241 rfl rfl
set_option maxRecDepth 10000 in
theorem se_X4_greatestStress : Cond.selects yX4_greatestStress.cls yX4_greatestStress yX4_greatestStress ∈ mjW := mjW_of 242 rfl rfl
set_option maxRecDepth 10000 in
theorem nk_X4_leastMargin : mjnameOK yX4_leastMargin cX4_leastMargin 2 (some .int) 0 := ⟨⟨by decide, by decide, by decide +kernel⟩, mjW_of 264 rfl rfl, mjW_of 23 rfl rfl⟩
set_option maxRecDepth 10000 in
theorem im_X4_leastMargin : Cond.instanceMethod yX4_leastMargin ∈ mjW := mjW_of 262 rfl rfl
set_option maxRecDepth 10000 in
theorem se_X4_leastMargin : Cond.selects yX4_leastMargin.cls yX4_leastMargin yX4_leastMargin ∈ mjW := mjW_of 263 rfl rfl
set_option maxRecDepth 10000 in
theorem nk_X4_mostStrained : mjnameOK yX4_mostStrained cX4_mostStrained 5 (some .int) 0 := ⟨⟨by decide, by decide, by decide +kernel⟩, mjW_of 268 rfl rfl, mjW_of 23 rfl rfl⟩
set_option maxRecDepth 10000 in
theorem im_X4_mostStrained : Cond.instanceMethod yX4_mostStrained ∈ mjW := mjW_of 267 rfl rfl
set_option maxRecDepth 10000 in
theorem se_X4_mostStrained : Cond.selects yX4_mostStrained.cls yX4_mostStrained yX4_mostStrained ∈ mjW := mjW_of 0 rfl rfl
set_option maxRecDepth 10000 in
theorem nk_X4_strainedAt : mjnameOK yX4_strainedAt cX4_strainedAt 3 (some .int) 1 := ⟨⟨by decide, by decide, by decide +kernel⟩, mjW_of 432 rfl rfl, mjW_of 23 rfl rfl⟩
set_option maxRecDepth 10000 in
theorem im_X4_strainedAt : Cond.instanceMethod yX4_strainedAt ∈ mjW := mjW_of 430 rfl rfl
set_option maxRecDepth 10000 in
theorem se_X4_strainedAt : Cond.selects yX4_strainedAt.cls yX4_strainedAt yX4_strainedAt ∈ mjW := mjW_of 431 rfl rfl
set_option maxRecDepth 10000 in
theorem nk_X4_placeOf : mjnameOK yX4_placeOf cX4_placeOf 6 (some .int) 1 := ⟨⟨by decide, by decide, by decide +kernel⟩, mjW_of 436 rfl rfl, mjW_of 23 rfl rfl⟩
set_option maxRecDepth 10000 in
theorem im_X4_placeOf : Cond.instanceMethod yX4_placeOf ∈ mjW := mjW_of 435 rfl rfl
set_option maxRecDepth 10000 in
theorem se_X4_placeOf : Cond.selects yX4_placeOf.cls yX4_placeOf yX4_placeOf ∈ mjW := mjW_of 6 rfl rfl
set_option maxRecDepth 10000 in
theorem nk_X4_crackedJoints : mjnameOK yX4_crackedJoints cX4_crackedJoints 3 (some .int) 0 := ⟨⟨by decide, by decide, by decide +kernel⟩, mjW_of 221 rfl rfl, mjW_of 23 rfl rfl⟩
set_option maxRecDepth 10000 in
theorem im_X4_crackedJoints : Cond.instanceMethod yX4_crackedJoints ∈ mjW := mjW_of 219 rfl rfl
set_option maxRecDepth 10000 in
theorem se_X4_crackedJoints : Cond.selects yX4_crackedJoints.cls yX4_crackedJoints yX4_crackedJoints ∈ mjW := mjW_of 220 rfl rfl
set_option maxRecDepth 10000 in
theorem nk_X4_sumOfHeats : mjnameOK yX4_sumOfHeats cX4_sumOfHeats 3 (some .int) 0 := ⟨⟨by decide, by decide, by decide +kernel⟩, mjW_of 217 rfl rfl, mjW_of 23 rfl rfl⟩
set_option maxRecDepth 10000 in
theorem im_X4_sumOfHeats : Cond.instanceMethod yX4_sumOfHeats ∈ mjW := mjW_of 215 rfl rfl
set_option maxRecDepth 10000 in
theorem se_X4_sumOfHeats : Cond.selects yX4_sumOfHeats.cls yX4_sumOfHeats yX4_sumOfHeats ∈ mjW := mjW_of 216 rfl rfl
set_option maxRecDepth 10000 in
theorem nk_X4_greatestHeat : mjnameOK yX4_greatestHeat cX4_greatestHeat 3 (some .int) 0 := ⟨⟨by decide, by decide, by decide +kernel⟩, mjW_of 229 rfl rfl, mjW_of 23 rfl rfl⟩
set_option maxRecDepth 10000 in
theorem im_X4_greatestHeat : Cond.instanceMethod yX4_greatestHeat ∈ mjW := mjW_of 227 rfl rfl
set_option maxRecDepth 10000 in
theorem se_X4_greatestHeat : Cond.selects yX4_greatestHeat.cls yX4_greatestHeat yX4_greatestHeat ∈ mjW := mjW_of 228 rfl rfl
set_option maxRecDepth 10000 in
theorem nk_X4_leastHeat : mjnameOK yX4_leastHeat cX4_leastHeat 3 (some .int) 0 := ⟨⟨by decide, by decide, by decide +kernel⟩, mjW_of 236 rfl rfl, mjW_of 23 rfl rfl⟩
set_option maxRecDepth 10000 in
theorem im_X4_leastHeat : Cond.instanceMethod yX4_leastHeat ∈ mjW := mjW_of 234 rfl rfl
set_option maxRecDepth 10000 in
theorem se_X4_leastHeat : Cond.selects yX4_leastHeat.cls yX4_leastHeat yX4_leastHeat ∈ mjW := mjW_of 235 rfl rfl
set_option maxRecDepth 10000 in
theorem nk_X5_init : mjnameOK yX5_init cX5_init 1 none 0 := ⟨⟨by decide, by decide, by decide +kernel⟩, mjW_of 154 rfl rfl, mjW_of 27 rfl rfl⟩
set_option maxRecDepth 10000 in
theorem im_X5_init : Cond.instanceMethod yX5_init ∈ mjW := mjW_of 153 rfl rfl
set_option maxRecDepth 10000 in
theorem nk_X5_tellByGoing : mjnameOK yX5_tellByGoing cX5_tellByGoing 4 (some .int) 1 := ⟨⟨by decide, by decide, by decide +kernel⟩, mjW_of 283 rfl rfl, mjW_of 27 rfl rfl⟩
set_option maxRecDepth 10000 in
theorem im_X5_tellByGoing : Cond.instanceMethod yX5_tellByGoing ∈ mjW := mjW_of 281 rfl rfl
set_option maxRecDepth 10000 in
theorem se_X5_tellByGoing : Cond.selects yX5_tellByGoing.cls yX5_tellByGoing yX5_tellByGoing ∈ mjW := mjW_of 282 rfl rfl
set_option maxRecDepth 10000 in
theorem nk_X5_spreadFrom : mjnameOK yX5_spreadFrom cX5_spreadFrom 7 none 2 := ⟨⟨by decide, by decide, by decide +kernel⟩, mjW_of 288 rfl rfl, mjW_of 27 rfl rfl⟩
set_option maxRecDepth 10000 in
theorem im_X5_spreadFrom : Cond.instanceMethod yX5_spreadFrom ∈ mjW := mjW_of 287 rfl rfl
set_option maxRecDepth 10000 in
theorem se_X5_spreadFrom : Cond.selects yX5_spreadFrom.cls yX5_spreadFrom yX5_spreadFrom ∈ mjW := mjW_of 1 rfl rfl
set_option maxRecDepth 10000 in
theorem nk_X5_reach : mjnameOK yX5_reach cX5_reach 3 none 2 := ⟨⟨by decide, by decide, by decide +kernel⟩, mjW_of 292 rfl rfl, mjW_of 27 rfl rfl⟩
set_option maxRecDepth 10000 in
theorem im_X5_reach : Cond.instanceMethod yX5_reach ∈ mjW := mjW_of 291 rfl rfl
set_option maxRecDepth 10000 in
theorem se_X5_reach : Cond.selects yX5_reach.cls yX5_reach yX5_reach ∈ mjW := mjW_of 2 rfl rfl
set_option maxRecDepth 10000 in
theorem nk_X5_tellByJoining : mjnameOK yX5_tellByJoining cX5_tellByJoining 4 (some .int) 1 := ⟨⟨by decide, by decide, by decide +kernel⟩, mjW_of 444 rfl rfl, mjW_of 27 rfl rfl⟩
set_option maxRecDepth 10000 in
theorem im_X5_tellByJoining : Cond.instanceMethod yX5_tellByJoining ∈ mjW := mjW_of 442 rfl rfl
set_option maxRecDepth 10000 in
theorem se_X5_tellByJoining : Cond.selects yX5_tellByJoining.cls yX5_tellByJoining yX5_tellByJoining ∈ mjW := mjW_of 443 rfl rfl
set_option maxRecDepth 10000 in
theorem nk_X5_join : mjnameOK yX5_join cX5_join 6 (some .boolean) 2 := ⟨⟨by decide, by decide, by decide +kernel⟩, mjW_of 450 rfl rfl, mjW_of 27 rfl rfl⟩
set_option maxRecDepth 10000 in
theorem im_X5_join : Cond.instanceMethod yX5_join ∈ mjW := mjW_of 449 rfl rfl
set_option maxRecDepth 10000 in
theorem se_X5_join : Cond.selects yX5_join.cls yX5_join yX5_join ∈ mjW := mjW_of 7 rfl rfl
set_option maxRecDepth 10000 in
theorem nk_X5_nameOf : mjnameOK yX5_nameOf cX5_nameOf 2 (some .int) 1 := ⟨⟨by decide, by decide, by decide +kernel⟩, mjW_of 296 rfl rfl, mjW_of 27 rfl rfl⟩
set_option maxRecDepth 10000 in
theorem im_X5_nameOf : Cond.instanceMethod yX5_nameOf ∈ mjW := mjW_of 294 rfl rfl
set_option maxRecDepth 10000 in
theorem se_X5_nameOf : Cond.selects yX5_nameOf.cls yX5_nameOf yX5_nameOf ∈ mjW := mjW_of 295 rfl rfl
set_option maxRecDepth 10000 in
theorem nk_X5_greatestSize : mjnameOK yX5_greatestSize cX5_greatestSize 3 (some .int) 0 := ⟨⟨by decide, by decide, by decide +kernel⟩, mjW_of 312 rfl rfl, mjW_of 27 rfl rfl⟩
set_option maxRecDepth 10000 in
theorem im_X5_greatestSize : Cond.instanceMethod yX5_greatestSize ∈ mjW := mjW_of 310 rfl rfl
set_option maxRecDepth 10000 in
theorem se_X5_greatestSize : Cond.selects yX5_greatestSize.cls yX5_greatestSize yX5_greatestSize ∈ mjW := mjW_of 311 rfl rfl
set_option maxRecDepth 10000 in
theorem nk_X5_sizeOf : mjnameOK yX5_sizeOf cX5_sizeOf 4 (some .int) 1 := ⟨⟨by decide, by decide, by decide +kernel⟩, mjW_of 316 rfl rfl, mjW_of 27 rfl rfl⟩
set_option maxRecDepth 10000 in
theorem im_X5_sizeOf : Cond.instanceMethod yX5_sizeOf ∈ mjW := mjW_of 315 rfl rfl
set_option maxRecDepth 10000 in
theorem se_X5_sizeOf : Cond.selects yX5_sizeOf.cls yX5_sizeOf yX5_sizeOf ∈ mjW := mjW_of 3 rfl rfl
set_option maxRecDepth 10000 in
theorem nk_X5_meanHeat : mjnameOK yX5_meanHeat cX5_meanHeat 7 (some .double) 2 := ⟨⟨by decide, by decide, by decide +kernel⟩, mjW_of 422 rfl rfl, mjW_of 27 rfl rfl⟩
set_option maxRecDepth 10000 in
theorem im_X5_meanHeat : Cond.instanceMethod yX5_meanHeat ∈ mjW := mjW_of 420 rfl rfl
set_option maxRecDepth 10000 in
theorem se_X5_meanHeat : Cond.selects yX5_meanHeat.cls yX5_meanHeat yX5_meanHeat ∈ mjW := mjW_of 421 rfl rfl
set_option maxRecDepth 10000 in
theorem nk_X6_init : mjnameOK yX6_init cX6_init 1 none 0 := ⟨⟨by decide, by decide, by decide +kernel⟩, mjW_of 36 rfl rfl, mjW_of 22 rfl rfl⟩
set_option maxRecDepth 10000 in
theorem im_X6_init : Cond.instanceMethod yX6_init ∈ mjW := mjW_of 35 rfl rfl
set_option maxRecDepth 10000 in
theorem nk_X6_begin : mjnameOK yX6_begin cX6_begin 2 (some .int) 1 := ⟨⟨by decide, by decide, by decide +kernel⟩, mjW_of 641 rfl rfl, mjW_of 22 rfl rfl⟩
set_option maxRecDepth 10000 in
theorem im_X6_begin : Cond.instanceMethod yX6_begin ∈ mjW := mjW_of 639 rfl rfl
set_option maxRecDepth 10000 in
theorem se_X6_begin : Cond.selects yX6_begin.cls yX6_begin yX6_begin ∈ mjW := mjW_of 640 rfl rfl
set_option maxRecDepth 10000 in
theorem nk_X6_aim : mjnameOK yX6_aim cX6_aim 4 (some .int) 2 := ⟨⟨by decide, by decide, by decide +kernel⟩, mjW_of 526 rfl rfl, mjW_of 22 rfl rfl⟩
set_option maxRecDepth 10000 in
theorem im_X6_aim : Cond.instanceMethod yX6_aim ∈ mjW := mjW_of 524 rfl rfl
set_option maxRecDepth 10000 in
theorem se_X6_aim : Cond.selects yX6_aim.cls yX6_aim yX6_aim ∈ mjW := mjW_of 525 rfl rfl
set_option maxRecDepth 10000 in
theorem nk_X6_pass : mjnameOK yX6_pass cX6_pass 2 (some .int) 1 := ⟨⟨by decide, by decide, by decide +kernel⟩, mjW_of 522 rfl rfl, mjW_of 22 rfl rfl⟩
set_option maxRecDepth 10000 in
theorem im_X6_pass : Cond.instanceMethod yX6_pass ∈ mjW := mjW_of 520 rfl rfl
set_option maxRecDepth 10000 in
theorem se_X6_pass : Cond.selects yX6_pass.cls yX6_pass yX6_pass ∈ mjW := mjW_of 521 rfl rfl
set_option maxRecDepth 10000 in
theorem nk_X6_scratch : mjnameOK yX6_scratch cX6_scratch 4 (some .int) 2 := ⟨⟨by decide, by decide, by decide +kernel⟩, mjW_of 533 rfl rfl, mjW_of 22 rfl rfl⟩
set_option maxRecDepth 10000 in
theorem im_X6_scratch : Cond.instanceMethod yX6_scratch ∈ mjW := mjW_of 531 rfl rfl
set_option maxRecDepth 10000 in
theorem se_X6_scratch : Cond.selects yX6_scratch.cls yX6_scratch yX6_scratch ∈ mjW := mjW_of 532 rfl rfl
set_option maxRecDepth 10000 in
theorem nk_X6_mend : mjnameOK yX6_mend cX6_mend 2 (some .int) 1 := ⟨⟨by decide, by decide, by decide +kernel⟩, mjW_of 541 rfl rfl, mjW_of 22 rfl rfl⟩
set_option maxRecDepth 10000 in
theorem im_X6_mend : Cond.instanceMethod yX6_mend ∈ mjW := mjW_of 539 rfl rfl
set_option maxRecDepth 10000 in
theorem se_X6_mend : Cond.selects yX6_mend.cls yX6_mend yX6_mend ∈ mjW := mjW_of 540 rfl rfl
set_option maxRecDepth 10000 in
theorem nk_X6_heat : mjnameOK yX6_heat cX6_heat 3 (some .int) 2 := ⟨⟨by decide, by decide, by decide +kernel⟩, mjW_of 549 rfl rfl, mjW_of 22 rfl rfl⟩
set_option maxRecDepth 10000 in
theorem im_X6_heat : Cond.instanceMethod yX6_heat ∈ mjW := mjW_of 547 rfl rfl
set_option maxRecDepth 10000 in
theorem se_X6_heat : Cond.selects yX6_heat.cls yX6_heat yX6_heat ∈ mjW := mjW_of 548 rfl rfl
set_option maxRecDepth 10000 in
theorem nk_X6_set : mjnameOK yX6_set cX6_set 4 (some .int) 2 := ⟨⟨by decide, by decide, by decide +kernel⟩, mjW_of 557 rfl rfl, mjW_of 22 rfl rfl⟩
set_option maxRecDepth 10000 in
theorem im_X6_set : Cond.instanceMethod yX6_set ∈ mjW := mjW_of 555 rfl rfl
set_option maxRecDepth 10000 in
theorem se_X6_set : Cond.selects yX6_set.cls yX6_set yX6_set ∈ mjW := mjW_of 556 rfl rfl
set_option maxRecDepth 10000 in
theorem nk_X6_append : mjnameOK yX6_append cX6_append 2 (some .int) 1 := ⟨⟨by decide, by decide, by decide +kernel⟩, mjW_of 571 rfl rfl, mjW_of 22 rfl rfl⟩
set_option maxRecDepth 10000 in
theorem im_X6_append : Cond.instanceMethod yX6_append ∈ mjW := mjW_of 569 rfl rfl
set_option maxRecDepth 10000 in
theorem se_X6_append : Cond.selects yX6_append.cls yX6_append yX6_append ∈ mjW := mjW_of 570 rfl rfl
set_option maxRecDepth 10000 in
theorem nk_X6_clear : mjnameOK yX6_clear cX6_clear 2 (some .int) 0 := ⟨⟨by decide, by decide, by decide +kernel⟩, mjW_of 567 rfl rfl, mjW_of 22 rfl rfl⟩
set_option maxRecDepth 10000 in
theorem im_X6_clear : Cond.instanceMethod yX6_clear ∈ mjW := mjW_of 565 rfl rfl
set_option maxRecDepth 10000 in
theorem se_X6_clear : Cond.selects yX6_clear.cls yX6_clear yX6_clear ∈ mjW := mjW_of 566 rfl rfl
set_option maxRecDepth 10000 in
theorem nk_X6_fault : mjnameOK yX6_fault cX6_fault 1 (some .int) 0 := ⟨⟨by decide, by decide, by decide +kernel⟩, mjW_of 582 rfl rfl, mjW_of 22 rfl rfl⟩
set_option maxRecDepth 10000 in
theorem im_X6_fault : Cond.instanceMethod yX6_fault ∈ mjW := mjW_of 580 rfl rfl
set_option maxRecDepth 10000 in
theorem se_X6_fault : Cond.selects yX6_fault.cls yX6_fault yX6_fault ∈ mjW := mjW_of 581 rfl rfl
set_option maxRecDepth 10000 in
theorem nk_X6_run : mjnameOK yX6_run cX6_run 3 (some .int) 0 := ⟨⟨by decide, by decide, by decide +kernel⟩, mjW_of 622 rfl rfl, mjW_of 22 rfl rfl⟩
set_option maxRecDepth 10000 in
theorem im_X6_run : Cond.instanceMethod yX6_run ∈ mjW := mjW_of 620 rfl rfl
set_option maxRecDepth 10000 in
theorem se_X6_run : Cond.selects yX6_run.cls yX6_run yX6_run ∈ mjW := mjW_of 621 rfl rfl
set_option maxRecDepth 10000 in
theorem nk_X6_cell : mjnameOK yX6_cell cX6_cell 3 (some .int) 2 := ⟨⟨by decide, by decide, by decide +kernel⟩, mjW_of 370 rfl rfl, mjW_of 22 rfl rfl⟩
set_option maxRecDepth 10000 in
theorem im_X6_cell : Cond.instanceMethod yX6_cell ∈ mjW := mjW_of 368 rfl rfl
set_option maxRecDepth 10000 in
theorem se_X6_cell : Cond.selects yX6_cell.cls yX6_cell yX6_cell ∈ mjW := mjW_of 369 rfl rfl
set_option maxRecDepth 10000 in
theorem nk_X6_joint : mjnameOK yX6_joint cX6_joint 4 (some .int) 2 := ⟨⟨by decide, by decide, by decide +kernel⟩, mjW_of 389 rfl rfl, mjW_of 22 rfl rfl⟩
set_option maxRecDepth 10000 in
theorem im_X6_joint : Cond.instanceMethod yX6_joint ∈ mjW := mjW_of 387 rfl rfl
set_option maxRecDepth 10000 in
theorem se_X6_joint : Cond.selects yX6_joint.cls yX6_joint yX6_joint ∈ mjW := mjW_of 388 rfl rfl
set_option maxRecDepth 10000 in
theorem nk_X6_strained : mjnameOK yX6_strained cX6_strained 2 (some .int) 1 := ⟨⟨by decide, by decide, by decide +kernel⟩, mjW_of 428 rfl rfl, mjW_of 22 rfl rfl⟩
set_option maxRecDepth 10000 in
theorem im_X6_strained : Cond.instanceMethod yX6_strained ∈ mjW := mjW_of 426 rfl rfl
set_option maxRecDepth 10000 in
theorem se_X6_strained : Cond.selects yX6_strained.cls yX6_strained yX6_strained ∈ mjW := mjW_of 427 rfl rfl
set_option maxRecDepth 10000 in
theorem nk_X6_pieces : mjnameOK yX6_pieces cX6_pieces 2 (some .int) 1 := ⟨⟨by decide, by decide, by decide +kernel⟩, mjW_of 440 rfl rfl, mjW_of 22 rfl rfl⟩
set_option maxRecDepth 10000 in
theorem im_X6_pieces : Cond.instanceMethod yX6_pieces ∈ mjW := mjW_of 438 rfl rfl
set_option maxRecDepth 10000 in
theorem se_X6_pieces : Cond.selects yX6_pieces.cls yX6_pieces yX6_pieces ∈ mjW := mjW_of 439 rfl rfl
set_option maxRecDepth 10000 in
theorem nk_X6_count : mjnameOK yX6_count cX6_count 2 (some .int) 1 := ⟨⟨by decide, by decide, by decide +kernel⟩, mjW_of 213 rfl rfl, mjW_of 22 rfl rfl⟩
set_option maxRecDepth 10000 in
theorem im_X6_count : Cond.instanceMethod yX6_count ∈ mjW := mjW_of 211 rfl rfl
set_option maxRecDepth 10000 in
theorem se_X6_count : Cond.selects yX6_count.cls yX6_count yX6_count ∈ mjW := mjW_of 212 rfl rfl
set_option maxRecDepth 10000 in
theorem nk_X6_mean : mjnameOK yX6_mean cX6_mean 2 (some .double) 1 := ⟨⟨by decide, by decide, by decide +kernel⟩, mjW_of 417 rfl rfl, mjW_of 22 rfl rfl⟩
set_option maxRecDepth 10000 in
theorem im_X6_mean : Cond.instanceMethod yX6_mean ∈ mjW := mjW_of 415 rfl rfl
set_option maxRecDepth 10000 in
theorem se_X6_mean : Cond.selects yX6_mean.cls yX6_mean yX6_mean ∈ mjW := mjW_of 416 rfl rfl
set_option maxRecDepth 10000 in
theorem nk_X6_ifPassed : mjnameOK yX6_ifPassed cX6_ifPassed 3 (some .int) 2 := ⟨⟨by decide, by decide, by decide +kernel⟩, mjW_of 458 rfl rfl, mjW_of 22 rfl rfl⟩
set_option maxRecDepth 10000 in
theorem im_X6_ifPassed : Cond.instanceMethod yX6_ifPassed ∈ mjW := mjW_of 456 rfl rfl
set_option maxRecDepth 10000 in
theorem se_X6_ifPassed : Cond.selects yX6_ifPassed.cls yX6_ifPassed yX6_ifPassed ∈ mjW := mjW_of 457 rfl rfl
set_option maxRecDepth 10000 in
theorem nk_X6_fastest : mjnameOK yX6_fastest cX6_fastest 4 (some .int) 2 := ⟨⟨by decide, by decide, by decide +kernel⟩, mjW_of 501 rfl rfl, mjW_of 22 rfl rfl⟩
set_option maxRecDepth 10000 in
theorem im_X6_fastest : Cond.instanceMethod yX6_fastest ∈ mjW := mjW_of 499 rfl rfl
set_option maxRecDepth 10000 in
theorem se_X6_fastest : Cond.selects yX6_fastest.cls yX6_fastest yX6_fastest ∈ mjW := mjW_of 500 rfl rfl
set_option maxRecDepth 10000 in
theorem nk_X6_evenIn : mjnameOK yX6_evenIn cX6_evenIn 3 (some .int) 1 := ⟨⟨by decide, by decide, by decide +kernel⟩, mjW_of 511 rfl rfl, mjW_of 22 rfl rfl⟩
set_option maxRecDepth 10000 in
theorem im_X6_evenIn : Cond.instanceMethod yX6_evenIn ∈ mjW := mjW_of 509 rfl rfl
set_option maxRecDepth 10000 in
theorem se_X6_evenIn : Cond.selects yX6_evenIn.cls yX6_evenIn yX6_evenIn ∈ mjW := mjW_of 510 rfl rfl
set_option maxRecDepth 10000 in
theorem nk_X6_undo : mjnameOK yX6_undo cX6_undo 1 (some .int) 0 := ⟨⟨by decide, by decide, by decide +kernel⟩, mjW_of 321 rfl rfl, mjW_of 22 rfl rfl⟩
set_option maxRecDepth 10000 in
theorem im_X6_undo : Cond.instanceMethod yX6_undo ∈ mjW := mjW_of 319 rfl rfl
set_option maxRecDepth 10000 in
theorem se_X6_undo : Cond.selects yX6_undo.cls yX6_undo yX6_undo ∈ mjW := mjW_of 320 rfl rfl
set_option maxRecDepth 10000 in
theorem nk_X6_save : mjnameOK yX6_save cX6_save 1 (some .int) 0 := ⟨⟨by decide, by decide, by decide +kernel⟩, mjW_of 340 rfl rfl, mjW_of 22 rfl rfl⟩
set_option maxRecDepth 10000 in
theorem im_X6_save : Cond.instanceMethod yX6_save ∈ mjW := mjW_of 338 rfl rfl
set_option maxRecDepth 10000 in
theorem se_X6_save : Cond.selects yX6_save.cls yX6_save yX6_save ∈ mjW := mjW_of 339 rfl rfl
set_option maxRecDepth 10000 in
theorem nk_X6_restore : mjnameOK yX6_restore cX6_restore 1 (some .int) 0 := ⟨⟨by decide, by decide, by decide +kernel⟩, mjW_of 345 rfl rfl, mjW_of 22 rfl rfl⟩
set_option maxRecDepth 10000 in
theorem im_X6_restore : Cond.instanceMethod yX6_restore ∈ mjW := mjW_of 343 rfl rfl
set_option maxRecDepth 10000 in
theorem se_X6_restore : Cond.selects yX6_restore.cls yX6_restore yX6_restore ∈ mjW := mjW_of 344 rfl rfl
set_option maxRecDepth 10000 in
theorem nk_X6_isOutside : mjnameOK yX6_isOutside cX6_isOutside 3 (some .boolean) 3 := ⟨⟨by decide, by decide, by decide +kernel⟩, mjW_of 461 rfl rfl, mjW_of 22 rfl rfl⟩
set_option maxRecDepth 10000 in
theorem st_X6_isOutside : Cond.static yX6_isOutside ∈ mjW := mjW_of 460 rfl rfl
set_option maxRecDepth 10000 in
theorem nk_J9_abs_0f7a4 : mjnameOK yJ9_abs_0f7a4 cJ9_abs_0f7a4 1 (some .int) 1 := ⟨⟨by decide, by decide, by decide +kernel⟩, mjW_of 260 rfl rfl, mjW_of 29 rfl rfl⟩
set_option maxRecDepth 10000 in
theorem st_J9_abs_0f7a4 : Cond.static yJ9_abs_0f7a4 ∈ mjW := mjW_of 259 rfl rfl
set_option maxRecDepth 10000 in
theorem nk_J9_max_7cf53 : mjnameOK yJ9_max_7cf53 cJ9_max_7cf53 2 (some .int) 2 := ⟨⟨by decide, by decide, by decide +kernel⟩, mjW_of 232 rfl rfl, mjW_of 29 rfl rfl⟩
set_option maxRecDepth 10000 in
theorem st_J9_max_7cf53 : Cond.static yJ9_max_7cf53 ∈ mjW := mjW_of 231 rfl rfl
set_option maxRecDepth 10000 in
theorem nk_J9_min_7cf53 : mjnameOK yJ9_min_7cf53 cJ9_min_7cf53 2 (some .int) 2 := ⟨⟨by decide, by decide, by decide +kernel⟩, mjW_of 239 rfl rfl, mjW_of 29 rfl rfl⟩
set_option maxRecDepth 10000 in
theorem st_J9_min_7cf53 : Cond.static yJ9_min_7cf53 ∈ mjW := mjW_of 238 rfl rfl
set_option maxRecDepth 10000 in
theorem nk_J7_fill_53178 : mjnameOK yJ7_fill_53178 cJ7_fill_53178 4 none 2 := ⟨⟨by decide, by decide, by decide +kernel⟩, mjW_of 52 rfl rfl, mjW_of 24 rfl rfl⟩
set_option maxRecDepth 10000 in
theorem st_J7_fill_53178 : Cond.static yJ7_fill_53178 ∈ mjW := mjW_of 51 rfl rfl
set_option maxRecDepth 10000 in
theorem nk_L_lot : mjnameOK yL_lot cL_lot 2 (some .int) 2 := ⟨⟨by decide, by decide, by decide +kernel⟩, mjW_of 356 rfl rfl, mjW_of 21 rfl rfl⟩
set_option maxRecDepth 10000 in
theorem st_L_lot : Cond.static yL_lot ∈ mjW := mjW_of 355 rfl rfl
set_option maxRecDepth 10000 in
theorem nk_L_low : mjnameOK yL_low cL_low 2 (some .int) 2 := ⟨⟨by decide, by decide, by decide +kernel⟩, mjW_of 360 rfl rfl, mjW_of 21 rfl rfl⟩
set_option maxRecDepth 10000 in
theorem st_L_low : Cond.static yL_low ∈ mjW := mjW_of 359 rfl rfl
set_option maxRecDepth 10000 in
theorem nk_L_look : mjnameOK yL_look cL_look 4 (some .long) 1 := ⟨⟨by decide, by decide, by decide +kernel⟩, mjW_of 364 rfl rfl, mjW_of 21 rfl rfl⟩
set_option maxRecDepth 10000 in
theorem st_L_look : Cond.static yL_look ∈ mjW := mjW_of 363 rfl rfl
set_option maxRecDepth 10000 in
theorem nk_L_holds : mjnameOK yL_holds cL_holds 13 (some .boolean) 1 := ⟨⟨by decide, by decide, by decide +kernel⟩, mjW_of 412 rfl rfl, mjW_of 21 rfl rfl⟩
set_option maxRecDepth 10000 in
theorem st_L_holds : Cond.static yL_holds ∈ mjW := mjW_of 411 rfl rfl
set_option maxRecDepth 10000 in
theorem nk_L_would : mjnameOK yL_would cL_would 12 (some .boolean) 2 := ⟨⟨by decide, by decide, by decide +kernel⟩, mjW_of 454 rfl rfl, mjW_of 21 rfl rfl⟩
set_option maxRecDepth 10000 in
theorem st_L_would : Cond.static yL_would ∈ mjW := mjW_of 453 rfl rfl
set_option maxRecDepth 10000 in
theorem nk_L_number : mjnameOK yL_number cL_number 2 (some .boolean) 2 := ⟨⟨by decide, by decide, by decide +kernel⟩, mjW_of 578 rfl rfl, mjW_of 21 rfl rfl⟩
set_option maxRecDepth 10000 in
theorem st_L_number : Cond.static yL_number ∈ mjW := mjW_of 577 rfl rfl
set_option maxRecDepth 10000 in
theorem nk_L_types : mjnameOK yL_types cL_types 6 (some .boolean) 2 := ⟨⟨by decide, by decide, by decide +kernel⟩, mjW_of 563 rfl rfl, mjW_of 21 rfl rfl⟩
set_option maxRecDepth 10000 in
theorem st_L_types : Cond.static yL_types ∈ mjW := mjW_of 562 rfl rfl
set_option maxRecDepth 10000 in
theorem nk_L_runs : mjnameOK yL_runs cL_runs 14 (some .boolean) 2 := ⟨⟨by decide, by decide, by decide +kernel⟩, mjW_of 560 rfl rfl, mjW_of 21 rfl rfl⟩
set_option maxRecDepth 10000 in
theorem st_L_runs : Cond.static yL_runs ∈ mjW := mjW_of 559 rfl rfl
set_option maxRecDepth 10000 in
theorem nk_L_joints : mjnameOK yL_joints cL_joints 10 (some .boolean) 3 := ⟨⟨by decide, by decide, by decide +kernel⟩, mjW_of 529 rfl rfl, mjW_of 21 rfl rfl⟩
set_option maxRecDepth 10000 in
theorem st_L_joints : Cond.static yL_joints ∈ mjW := mjW_of 528 rfl rfl
set_option maxRecDepth 10000 in
theorem nk_L_acts : mjnameOK yL_acts cL_acts 12 (some .boolean) 3 := ⟨⟨by decide, by decide, by decide +kernel⟩, mjW_of 518 rfl rfl, mjW_of 21 rfl rfl⟩
set_option maxRecDepth 10000 in
theorem st_L_acts : Cond.static yL_acts ∈ mjW := mjW_of 517 rfl rfl
set_option maxRecDepth 10000 in
theorem ii_L : Cond.initialized RL ∈ mjW := mjW_of 21 rfl rfl
set_option maxRecDepth 10000 in
theorem ii_X6 : Cond.initialized RX6 ∈ mjW := mjW_of 22 rfl rfl
set_option maxRecDepth 10000 in
theorem ii_X4 : Cond.initialized RX4 ∈ mjW := mjW_of 23 rfl rfl
set_option maxRecDepth 10000 in
theorem ii_J7 : Cond.initialized RJ7 ∈ mjW := mjW_of 24 rfl rfl
set_option maxRecDepth 10000 in
theorem ii_X2 : Cond.initialized RX2 ∈ mjW := mjW_of 25 rfl rfl
set_option maxRecDepth 10000 in
theorem ii_X3 : Cond.initialized RX3 ∈ mjW := mjW_of 26 rfl rfl
set_option maxRecDepth 10000 in
theorem ii_X5 : Cond.initialized RX5 ∈ mjW := mjW_of 27 rfl rfl
set_option maxRecDepth 10000 in
theorem ii_X0 : Cond.initialized RX0 ∈ mjW := mjW_of 28 rfl rfl
set_option maxRecDepth 10000 in
theorem ii_J9 : Cond.initialized RJ9 ∈ mjW := mjW_of 29 rfl rfl
set_option maxRecDepth 10000 in
theorem ii_X1 : Cond.initialized RX1 ∈ mjW := mjW_of 30 rfl rfl
set_option maxRecDepth 10000 in
theorem cp_ini : Cond.initialized "java/lang/System" ∈ mjW := mjW_of 31 rfl rfl
set_option maxRecDepth 10000 in
theorem ii_J10 : Cond.initialized RJ10 ∈ mjW := mjW_of 31 rfl rfl
set_option maxRecDepth 10000 in
theorem cl_L_14 : Cond.classLink RL 14 RX6 ∈ mjW := mjW_of 32 rfl rfl
set_option maxRecDepth 10000 in
theorem it_X6 : Cond.instantiable RX6 8 ∈ mjW := mjW_of 33 rfl rfl
set_option maxRecDepth 10000 in
theorem ln_L_103 : Cond.methodLink RL 103 yX6_init ∈ mjW := mjW_of 34 rfl rfl
set_option maxRecDepth 10000 in
theorem ln_X6_3 : Cond.methodLink RX6 3 Lib.objectInit ∈ mjW := mjW_of 37 rfl rfl
set_option maxRecDepth 10000 in
theorem ob_im : Cond.instanceMethod Lib.objectInit ∈ mjW := mjW_of 38 rfl rfl
set_option maxRecDepth 10000 in
theorem ob_code : Cond.code Lib.objectInit ⟨#[0xb1]⟩ 1 none ∈ mjW := mjW_of 39 rfl rfl
set_option maxRecDepth 10000 in
theorem cl_X6_9 : Cond.classLink RX6 9 RX4 ∈ mjW := mjW_of 40 rfl rfl
set_option maxRecDepth 10000 in
theorem it_X4 : Cond.instantiable RX4 12 ∈ mjW := mjW_of 41 rfl rfl
set_option maxRecDepth 10000 in
theorem ln_X6_11 : Cond.methodLink RX6 11 yX4_init ∈ mjW := mjW_of 42 rfl rfl
set_option maxRecDepth 10000 in
theorem ln_X4_3 : Cond.methodLink RX4 3 Lib.objectInit ∈ mjW := mjW_of 45 rfl rfl
set_option maxRecDepth 10000 in
theorem ln_X4_34 : Cond.methodLink RX4 34 yX4_renew ∈ mjW := mjW_of 46 rfl rfl
set_option maxRecDepth 10000 in
theorem ln_X4_38 : Cond.methodLink RX4 38 yJ7_fill_53178 ∈ mjW := mjW_of 50 rfl rfl
set_option maxRecDepth 10000 in
theorem ac_int : Cond.arrayClass .int ∈ mjW := mjW_of 98 rfl rfl
set_option maxRecDepth 10000 in
theorem cl_X6_26 : Cond.classLink RX6 26 RX2 ∈ mjW := mjW_of 99 rfl rfl
set_option maxRecDepth 10000 in
theorem it_X2 : Cond.instantiable RX2 2 ∈ mjW := mjW_of 100 rfl rfl
set_option maxRecDepth 10000 in
theorem ln_X6_28 : Cond.methodLink RX6 28 yX2_init ∈ mjW := mjW_of 101 rfl rfl
set_option maxRecDepth 10000 in
theorem ln_X2_3 : Cond.methodLink RX2 3 Lib.objectInit ∈ mjW := mjW_of 104 rfl rfl
set_option maxRecDepth 10000 in
theorem cl_X2_9 : Cond.classLink RX2 9 RX4 ∈ mjW := mjW_of 105 rfl rfl
set_option maxRecDepth 10000 in
theorem ln_X2_21 : Cond.methodLink RX2 21 yX4_init ∈ mjW := mjW_of 107 rfl rfl
set_option maxRecDepth 10000 in
theorem cl_X6_33 : Cond.classLink RX6 33 RX3 ∈ mjW := mjW_of 116 rfl rfl
set_option maxRecDepth 10000 in
theorem it_X3 : Cond.instantiable RX3 8 ∈ mjW := mjW_of 117 rfl rfl
set_option maxRecDepth 10000 in
theorem ln_X3_3 : Cond.methodLink RX3 3 Lib.objectInit ∈ mjW := mjW_of 121 rfl rfl
set_option maxRecDepth 10000 in
theorem ac_char : Cond.arrayClass .char ∈ mjW := mjW_of 149 rfl rfl
set_option maxRecDepth 10000 in
theorem cl_X6_40 : Cond.classLink RX6 40 RX5 ∈ mjW := mjW_of 150 rfl rfl
set_option maxRecDepth 10000 in
theorem it_X5 : Cond.instantiable RX5 3 ∈ mjW := mjW_of 151 rfl rfl
set_option maxRecDepth 10000 in
theorem ln_X5_3 : Cond.methodLink RX5 3 Lib.objectInit ∈ mjW := mjW_of 155 rfl rfl
set_option maxRecDepth 10000 in
theorem cl_X6_47 : Cond.classLink RX6 47 RX0 ∈ mjW := mjW_of 166 rfl rfl
set_option maxRecDepth 10000 in
theorem it_X0 : Cond.instantiable RX0 3 ∈ mjW := mjW_of 167 rfl rfl
set_option maxRecDepth 10000 in
theorem ln_X0_3 : Cond.methodLink RX0 3 Lib.objectInit ∈ mjW := mjW_of 171 rfl rfl
set_option maxRecDepth 10000 in
theorem ln_L_13 : Cond.methodLink RL 13 yX6_count ∈ mjW := mjW_of 210 rfl rfl
set_option maxRecDepth 10000 in
theorem ln_X6_66 : Cond.methodLink RX6 66 yX4_sumOfHeats ∈ mjW := mjW_of 214 rfl rfl
set_option maxRecDepth 10000 in
theorem ln_X6_100 : Cond.methodLink RX6 100 yX4_crackedJoints ∈ mjW := mjW_of 218 rfl rfl
set_option maxRecDepth 10000 in
theorem ln_X4_90 : Cond.methodLink RX4 90 yX4_isWhole ∈ mjW := mjW_of 222 rfl rfl
set_option maxRecDepth 10000 in
theorem ln_X6_187 : Cond.methodLink RX6 187 yX4_greatestHeat ∈ mjW := mjW_of 226 rfl rfl
set_option maxRecDepth 10000 in
theorem ln_X4_87 : Cond.methodLink RX4 87 yJ9_max_7cf53 ∈ mjW := mjW_of 230 rfl rfl
set_option maxRecDepth 10000 in
theorem ln_X6_190 : Cond.methodLink RX6 190 yX4_leastHeat ∈ mjW := mjW_of 233 rfl rfl
set_option maxRecDepth 10000 in
theorem ln_X4_81 : Cond.methodLink RX4 81 yJ9_min_7cf53 ∈ mjW := mjW_of 237 rfl rfl
set_option maxRecDepth 10000 in
theorem ln_X6_193 : Cond.methodLink RX6 193 yX4_greatestStress ∈ mjW := mjW_of 240 rfl rfl
set_option maxRecDepth 10000 in
theorem ln_X4_139 : Cond.methodLink RX4 139 yX4_stressOf ∈ mjW := mjW_of 244 rfl rfl
set_option maxRecDepth 10000 in
theorem ln_X4_94 : Cond.methodLink RX4 94 yX1_firstCell ∈ mjW := mjW_of 248 rfl rfl
set_option maxRecDepth 10000 in
theorem ln_X4_103 : Cond.methodLink RX4 103 yX4_heatAt ∈ mjW := mjW_of 251 rfl rfl
set_option maxRecDepth 10000 in
theorem ln_X4_100 : Cond.methodLink RX4 100 yX1_secondCell ∈ mjW := mjW_of 255 rfl rfl
set_option maxRecDepth 10000 in
theorem ln_X4_133 : Cond.methodLink RX4 133 yJ9_abs_0f7a4 ∈ mjW := mjW_of 258 rfl rfl
set_option maxRecDepth 10000 in
theorem ln_X6_196 : Cond.methodLink RX6 196 yX4_leastMargin ∈ mjW := mjW_of 261 rfl rfl
set_option maxRecDepth 10000 in
theorem ln_X4_116 : Cond.methodLink RX4 116 yX4_mostStrained ∈ mjW := mjW_of 265 rfl rfl
set_option maxRecDepth 10000 in
theorem ln_X4_120 : Cond.methodLink RX4 120 yX4_marginOf ∈ mjW := mjW_of 269 rfl rfl
set_option maxRecDepth 10000 in
theorem ln_X4_136 : Cond.methodLink RX4 136 yX4_strengthOf ∈ mjW := mjW_of 273 rfl rfl
set_option maxRecDepth 10000 in
theorem ln_X4_130 : Cond.methodLink RX4 130 yX1_isJoint ∈ mjW := mjW_of 277 rfl rfl
set_option maxRecDepth 10000 in
theorem ln_X6_141 : Cond.methodLink RX6 141 yX5_tellByGoing ∈ mjW := mjW_of 280 rfl rfl
set_option maxRecDepth 10000 in
theorem ln_X5_22 : Cond.methodLink RX5 22 yJ7_fill_53178 ∈ mjW := mjW_of 284 rfl rfl
set_option maxRecDepth 10000 in
theorem ln_X5_28 : Cond.methodLink RX5 28 yX5_spreadFrom ∈ mjW := mjW_of 285 rfl rfl
set_option maxRecDepth 10000 in
theorem ln_X5_32 : Cond.methodLink RX5 32 yX5_reach ∈ mjW := mjW_of 289 rfl rfl
set_option maxRecDepth 10000 in
theorem ln_X5_51 : Cond.methodLink RX5 51 yX5_nameOf ∈ mjW := mjW_of 293 rfl rfl
set_option maxRecDepth 10000 in
theorem ln_X5_55 : Cond.methodLink RX5 55 yX1_isCell ∈ mjW := mjW_of 297 rfl rfl
set_option maxRecDepth 10000 in
theorem ln_X5_36 : Cond.methodLink RX5 36 yX1_jointAt ∈ mjW := mjW_of 300 rfl rfl
set_option maxRecDepth 10000 in
theorem ln_X5_42 : Cond.methodLink RX5 42 yX4_isWhole ∈ mjW := mjW_of 303 rfl rfl
set_option maxRecDepth 10000 in
theorem ln_X5_48 : Cond.methodLink RX5 48 yX1_otherCell ∈ mjW := mjW_of 304 rfl rfl
set_option maxRecDepth 10000 in
theorem ln_X1_9 : Cond.methodLink RX1 9 yX1_firstCell ∈ mjW := mjW_of 307 rfl rfl
set_option maxRecDepth 10000 in
theorem ln_X1_15 : Cond.methodLink RX1 15 yX1_secondCell ∈ mjW := mjW_of 308 rfl rfl
set_option maxRecDepth 10000 in
theorem ln_X6_199 : Cond.methodLink RX6 199 yX5_greatestSize ∈ mjW := mjW_of 309 rfl rfl
set_option maxRecDepth 10000 in
theorem ln_X5_76 : Cond.methodLink RX5 76 yX5_sizeOf ∈ mjW := mjW_of 313 rfl rfl
set_option maxRecDepth 10000 in
theorem ln_X5_73 : Cond.methodLink RX5 73 yJ9_max_7cf53 ∈ mjW := mjW_of 317 rfl rfl
set_option maxRecDepth 10000 in
theorem ln_L_111 : Cond.methodLink RL 111 yX6_undo ∈ mjW := mjW_of 318 rfl rfl
set_option maxRecDepth 10000 in
theorem ln_X6_232 : Cond.methodLink RX6 232 yX2_takeBack ∈ mjW := mjW_of 322 rfl rfl
set_option maxRecDepth 10000 in
theorem ln_X2_25 : Cond.methodLink RX2 25 yX2_stateAt ∈ mjW := mjW_of 326 rfl rfl
set_option maxRecDepth 10000 in
theorem ln_X2_29 : Cond.methodLink RX2 29 yX4_copyFrom ∈ mjW := mjW_of 330 rfl rfl
set_option maxRecDepth 10000 in
theorem ln_X4_59 : Cond.methodLink RX4 59 arraycopyName ∈ mjW := mjW_of 334 rfl rfl
set_option maxRecDepth 10000 in
theorem cp_st : Cond.static arraycopyName ∈ mjW := mjW_of 335 rfl rfl
set_option maxRecDepth 10000 in
theorem cp_nat : Cond.native arraycopyName ∈ mjW := mjW_of 336 rfl rfl
set_option maxRecDepth 10000 in
theorem ln_L_117 : Cond.methodLink RL 117 yX6_save ∈ mjW := mjW_of 337 rfl rfl
set_option maxRecDepth 10000 in
theorem ln_X6_214 : Cond.methodLink RX6 214 yX4_copyFrom ∈ mjW := mjW_of 341 rfl rfl
set_option maxRecDepth 10000 in
theorem ln_L_114 : Cond.methodLink RL 114 yX6_restore ∈ mjW := mjW_of 342 rfl rfl
set_option maxRecDepth 10000 in
theorem ln_X6_58 : Cond.methodLink RX6 58 yX2_record ∈ mjW := mjW_of 346 rfl rfl
set_option maxRecDepth 10000 in
theorem ln_X2_22 : Cond.methodLink RX2 22 yX2_dropOldest ∈ mjW := mjW_of 350 rfl rfl
set_option maxRecDepth 10000 in
theorem ln_L_120 : Cond.methodLink RL 120 yL_lot ∈ mjW := mjW_of 354 rfl rfl
set_option maxRecDepth 10000 in
theorem ck_L_7 : Cond.constant RL 7 (-1209997971 : Int32) ∈ mjW := mjW_of 357 rfl rfl
set_option maxRecDepth 10000 in
theorem ln_L_39 : Cond.methodLink RL 39 yL_low ∈ mjW := mjW_of 358 rfl rfl
set_option maxRecDepth 10000 in
theorem ck_L_8 : Cond.constant RL 8 (2147483647 : Int32) ∈ mjW := mjW_of 361 rfl rfl
set_option maxRecDepth 10000 in
theorem ln_L_62 : Cond.methodLink RL 62 yL_look ∈ mjW := mjW_of 362 rfl rfl
set_option maxRecDepth 10000 in
theorem ck_L_9 : Cond.constantLong RL 9 (383 : Int64) ∈ mjW := mjW_of 365 rfl rfl
set_option maxRecDepth 10000 in
theorem ck_L_11 : Cond.constantLong RL 11 (31 : Int64) ∈ mjW := mjW_of 366 rfl rfl
set_option maxRecDepth 10000 in
theorem ln_L_19 : Cond.methodLink RL 19 yX6_cell ∈ mjW := mjW_of 367 rfl rfl
set_option maxRecDepth 10000 in
theorem ln_X6_103 : Cond.methodLink RX6 103 yX1_isCell ∈ mjW := mjW_of 371 rfl rfl
set_option maxRecDepth 10000 in
theorem ln_X6_138 : Cond.methodLink RX6 138 yX4_heatAt ∈ mjW := mjW_of 372 rfl rfl
set_option maxRecDepth 10000 in
theorem ln_X6_145 : Cond.methodLink RX6 145 yX5_nameOf ∈ mjW := mjW_of 373 rfl rfl
set_option maxRecDepth 10000 in
theorem ln_X6_148 : Cond.methodLink RX6 148 yX4_wholeJointsOf ∈ mjW := mjW_of 374 rfl rfl
set_option maxRecDepth 10000 in
theorem ln_X4_142 : Cond.methodLink RX4 142 yX1_jointAt ∈ mjW := mjW_of 378 rfl rfl
set_option maxRecDepth 10000 in
theorem ln_X6_151 : Cond.methodLink RX6 151 yX1_rimSides ∈ mjW := mjW_of 379 rfl rfl
set_option maxRecDepth 10000 in
theorem ln_X6_154 : Cond.methodLink RX6 154 yX4_greatestStressOf ∈ mjW := mjW_of 382 rfl rfl
set_option maxRecDepth 10000 in
theorem ln_L_23 : Cond.methodLink RL 23 yX6_joint ∈ mjW := mjW_of 386 rfl rfl
set_option maxRecDepth 10000 in
theorem ln_X6_81 : Cond.methodLink RX6 81 yX1_isJoint ∈ mjW := mjW_of 390 rfl rfl
set_option maxRecDepth 10000 in
theorem ln_X6_87 : Cond.methodLink RX6 87 yX4_isWhole ∈ mjW := mjW_of 391 rfl rfl
set_option maxRecDepth 10000 in
theorem ln_X6_157 : Cond.methodLink RX6 157 yX1_firstCell ∈ mjW := mjW_of 392 rfl rfl
set_option maxRecDepth 10000 in
theorem ln_X6_160 : Cond.methodLink RX6 160 yX1_secondCell ∈ mjW := mjW_of 393 rfl rfl
set_option maxRecDepth 10000 in
theorem ln_X6_90 : Cond.methodLink RX6 90 yX4_strengthOf ∈ mjW := mjW_of 394 rfl rfl
set_option maxRecDepth 10000 in
theorem ln_X6_163 : Cond.methodLink RX6 163 yX4_stressOf ∈ mjW := mjW_of 395 rfl rfl
set_option maxRecDepth 10000 in
theorem ln_X6_166 : Cond.methodLink RX6 166 yX4_crackedMinuteOf ∈ mjW := mjW_of 396 rfl rfl
set_option maxRecDepth 10000 in
theorem ln_X6_169 : Cond.methodLink RX6 169 yX4_wholeJointsBeside ∈ mjW := mjW_of 400 rfl rfl
set_option maxRecDepth 10000 in
theorem ln_X4_126 : Cond.methodLink RX4 126 yX1_touch ∈ mjW := mjW_of 404 rfl rfl
set_option maxRecDepth 10000 in
theorem ln_X1_18 : Cond.methodLink RX1 18 yX1_isEnd ∈ mjW := mjW_of 407 rfl rfl
set_option maxRecDepth 10000 in
theorem ln_L_104 : Cond.methodLink RL 104 yL_holds ∈ mjW := mjW_of 410 rfl rfl
set_option maxRecDepth 10000 in
theorem ck_L_26 : Cond.constant RL 26 (1000000 : Int32) ∈ mjW := mjW_of 413 rfl rfl
set_option maxRecDepth 10000 in
theorem ln_L_29 : Cond.methodLink RL 29 yX6_mean ∈ mjW := mjW_of 414 rfl rfl
set_option maxRecDepth 10000 in
theorem cd_X6_208 : Cond.constantDouble RX6 208 (13830554455654793216 : UInt64) ∈ mjW := mjW_of 418 rfl rfl
set_option maxRecDepth 10000 in
theorem ln_X6_210 : Cond.methodLink RX6 210 yX5_meanHeat ∈ mjW := mjW_of 419 rfl rfl
set_option maxRecDepth 10000 in
theorem cd_X5_79 : Cond.constantDouble RX5 79 (13830554455654793216 : UInt64) ∈ mjW := mjW_of 423 rfl rfl
set_option maxRecDepth 10000 in
theorem ln_X5_81 : Cond.methodLink RX5 81 yX4_heatAt ∈ mjW := mjW_of 424 rfl rfl
set_option maxRecDepth 10000 in
theorem ln_L_33 : Cond.methodLink RL 33 yX6_strained ∈ mjW := mjW_of 425 rfl rfl
set_option maxRecDepth 10000 in
theorem ln_X6_172 : Cond.methodLink RX6 172 yX4_strainedAt ∈ mjW := mjW_of 429 rfl rfl
set_option maxRecDepth 10000 in
theorem ln_X4_145 : Cond.methodLink RX4 145 yX4_placeOf ∈ mjW := mjW_of 433 rfl rfl
set_option maxRecDepth 10000 in
theorem ln_L_36 : Cond.methodLink RL 36 yX6_pieces ∈ mjW := mjW_of 437 rfl rfl
set_option maxRecDepth 10000 in
theorem ln_X6_175 : Cond.methodLink RX6 175 yX5_tellByJoining ∈ mjW := mjW_of 441 rfl rfl
set_option maxRecDepth 10000 in
theorem ln_X5_58 : Cond.methodLink RX5 58 yX1_firstCell ∈ mjW := mjW_of 445 rfl rfl
set_option maxRecDepth 10000 in
theorem ln_X5_61 : Cond.methodLink RX5 61 yX1_secondCell ∈ mjW := mjW_of 446 rfl rfl
set_option maxRecDepth 10000 in
theorem ln_X5_64 : Cond.methodLink RX5 64 yX5_join ∈ mjW := mjW_of 447 rfl rfl
set_option maxRecDepth 10000 in
theorem ln_X5_68 : Cond.methodLink RX5 68 yJ9_min_7cf53 ∈ mjW := mjW_of 451 rfl rfl
set_option maxRecDepth 10000 in
theorem ln_L_108 : Cond.methodLink RL 108 yL_would ∈ mjW := mjW_of 452 rfl rfl
set_option maxRecDepth 10000 in
theorem ln_L_42 : Cond.methodLink RL 42 yX6_ifPassed ∈ mjW := mjW_of 455 rfl rfl
set_option maxRecDepth 10000 in
theorem ln_X6_54 : Cond.methodLink RX6 54 yX6_isOutside ∈ mjW := mjW_of 459 rfl rfl
set_option maxRecDepth 10000 in
theorem ln_X6_217 : Cond.methodLink RX6 217 yX0_look ∈ mjW := mjW_of 462 rfl rfl
set_option maxRecDepth 10000 in
theorem ln_X0_21 : Cond.methodLink RX0 21 yX4_letHeatFlow ∈ mjW := mjW_of 466 rfl rfl
set_option maxRecDepth 10000 in
theorem ln_X4_72 : Cond.methodLink RX4 72 yX4_moveFurnace ∈ mjW := mjW_of 470 rfl rfl
set_option maxRecDepth 10000 in
theorem ln_X4_75 : Cond.methodLink RX4 75 yX4_flowOverJoints ∈ mjW := mjW_of 474 rfl rfl
set_option maxRecDepth 10000 in
theorem ln_X4_106 : Cond.methodLink RX4 106 yX4_gain ∈ mjW := mjW_of 478 rfl rfl
set_option maxRecDepth 10000 in
theorem ln_X4_113 : Cond.methodLink RX4 113 yX1_isCell ∈ mjW := mjW_of 482 rfl rfl
set_option maxRecDepth 10000 in
theorem ln_X4_78 : Cond.methodLink RX4 78 yX4_flowAtRim ∈ mjW := mjW_of 483 rfl rfl
set_option maxRecDepth 10000 in
theorem ln_X4_110 : Cond.methodLink RX4 110 yX1_rimSides ∈ mjW := mjW_of 487 rfl rfl
set_option maxRecDepth 10000 in
theorem ln_X0_26 : Cond.methodLink RX0 26 yX4_greatestStress ∈ mjW := mjW_of 488 rfl rfl
set_option maxRecDepth 10000 in
theorem ln_X0_29 : Cond.methodLink RX0 29 yJ9_max_7cf53 ∈ mjW := mjW_of 489 rfl rfl
set_option maxRecDepth 10000 in
theorem ln_X0_35 : Cond.methodLink RX0 35 yX4_crackWorst ∈ mjW := mjW_of 490 rfl rfl
set_option maxRecDepth 10000 in
theorem ln_X4_123 : Cond.methodLink RX4 123 yX4_weakenBeside ∈ mjW := mjW_of 494 rfl rfl
set_option maxRecDepth 10000 in
theorem ln_L_45 : Cond.methodLink RL 45 yX6_fastest ∈ mjW := mjW_of 498 rfl rfl
set_option maxRecDepth 10000 in
theorem ln_X6_229 : Cond.methodLink RX6 229 yX4_staysWhole ∈ mjW := mjW_of 502 rfl rfl
set_option maxRecDepth 10000 in
theorem ln_X4_65 : Cond.methodLink RX4 65 yX4_letHeatFlow ∈ mjW := mjW_of 506 rfl rfl
set_option maxRecDepth 10000 in
theorem ln_X4_68 : Cond.methodLink RX4 68 yX4_crackWorst ∈ mjW := mjW_of 507 rfl rfl
set_option maxRecDepth 10000 in
theorem ln_L_48 : Cond.methodLink RL 48 yX6_evenIn ∈ mjW := mjW_of 508 rfl rfl
set_option maxRecDepth 10000 in
theorem ln_X6_77 : Cond.methodLink RX6 77 yX4_passMinutes ∈ mjW := mjW_of 512 rfl rfl
set_option maxRecDepth 10000 in
theorem ln_L_124 : Cond.methodLink RL 124 yL_acts ∈ mjW := mjW_of 516 rfl rfl
set_option maxRecDepth 10000 in
theorem ln_L_81 : Cond.methodLink RL 81 yX6_pass ∈ mjW := mjW_of 519 rfl rfl
set_option maxRecDepth 10000 in
theorem ln_L_84 : Cond.methodLink RL 84 yX6_aim ∈ mjW := mjW_of 523 rfl rfl
set_option maxRecDepth 10000 in
theorem ln_L_87 : Cond.methodLink RL 87 yL_joints ∈ mjW := mjW_of 527 rfl rfl
set_option maxRecDepth 10000 in
theorem ln_L_75 : Cond.methodLink RL 75 yX6_scratch ∈ mjW := mjW_of 530 rfl rfl
set_option maxRecDepth 10000 in
theorem ln_X6_93 : Cond.methodLink RX6 93 yX4_strengthen ∈ mjW := mjW_of 534 rfl rfl
set_option maxRecDepth 10000 in
theorem ln_L_78 : Cond.methodLink RL 78 yX6_mend ∈ mjW := mjW_of 538 rfl rfl
set_option maxRecDepth 10000 in
theorem ln_X6_97 : Cond.methodLink RX6 97 yX4_makeWhole ∈ mjW := mjW_of 542 rfl rfl
set_option maxRecDepth 10000 in
theorem ln_L_91 : Cond.methodLink RL 91 yX6_heat ∈ mjW := mjW_of 546 rfl rfl
set_option maxRecDepth 10000 in
theorem ln_X6_106 : Cond.methodLink RX6 106 yX4_holdFlame ∈ mjW := mjW_of 550 rfl rfl
set_option maxRecDepth 10000 in
theorem ln_L_94 : Cond.methodLink RL 94 yX6_set ∈ mjW := mjW_of 554 rfl rfl
set_option maxRecDepth 10000 in
theorem ln_L_97 : Cond.methodLink RL 97 yL_runs ∈ mjW := mjW_of 558 rfl rfl
set_option maxRecDepth 10000 in
theorem ln_L_66 : Cond.methodLink RL 66 yL_types ∈ mjW := mjW_of 561 rfl rfl
set_option maxRecDepth 10000 in
theorem ln_L_54 : Cond.methodLink RL 54 yX6_clear ∈ mjW := mjW_of 564 rfl rfl
set_option maxRecDepth 10000 in
theorem ln_L_51 : Cond.methodLink RL 51 yX6_append ∈ mjW := mjW_of 568 rfl rfl
set_option maxRecDepth 10000 in
theorem ln_X6_116 : Cond.methodLink RX6 116 yX3_take ∈ mjW := mjW_of 572 rfl rfl
set_option maxRecDepth 10000 in
theorem ln_L_58 : Cond.methodLink RL 58 yL_number ∈ mjW := mjW_of 576 rfl rfl
set_option maxRecDepth 10000 in
theorem ln_L_69 : Cond.methodLink RL 69 yX6_fault ∈ mjW := mjW_of 579 rfl rfl
set_option maxRecDepth 10000 in
theorem ln_X6_123 : Cond.methodLink RX6 123 yX3_findFault ∈ mjW := mjW_of 583 rfl rfl
set_option maxRecDepth 10000 in
theorem ln_X3_38 : Cond.methodLink RX3 38 yX3_reads ∈ mjW := mjW_of 587 rfl rfl
set_option maxRecDepth 10000 in
theorem ln_X3_45 : Cond.methodLink RX3 45 yX3_readsDigit ∈ mjW := mjW_of 591 rfl rfl
set_option maxRecDepth 10000 in
theorem ln_X3_60 : Cond.methodLink RX3 60 yX3_leastOfPart ∈ mjW := mjW_of 595 rfl rfl
set_option maxRecDepth 10000 in
theorem ln_X3_64 : Cond.methodLink RX3 64 yX3_mostOfPart ∈ mjW := mjW_of 599 rfl rfl
set_option maxRecDepth 10000 in
theorem ln_X3_49 : Cond.methodLink RX3 49 yX3_readsHold ∈ mjW := mjW_of 603 rfl rfl
set_option maxRecDepth 10000 in
theorem ln_X3_56 : Cond.methodLink RX3 56 yX3_keepIn ∈ mjW := mjW_of 607 rfl rfl
set_option maxRecDepth 10000 in
theorem ln_X3_52 : Cond.methodLink RX3 52 yX3_endOfPart ∈ mjW := mjW_of 611 rfl rfl
set_option maxRecDepth 10000 in
theorem ln_X3_42 : Cond.methodLink RX3 42 yX3_endNumber ∈ mjW := mjW_of 615 rfl rfl
set_option maxRecDepth 10000 in
theorem ln_L_72 : Cond.methodLink RL 72 yX6_run ∈ mjW := mjW_of 619 rfl rfl
set_option maxRecDepth 10000 in
theorem ln_X6_129 : Cond.methodLink RX6 129 yX3_aimOf ∈ mjW := mjW_of 623 rfl rfl
set_option maxRecDepth 10000 in
theorem ln_X3_67 : Cond.methodLink RX3 67 yX3_isSegment ∈ mjW := mjW_of 627 rfl rfl
set_option maxRecDepth 10000 in
theorem ln_X6_132 : Cond.methodLink RX6 132 yX3_rateOf ∈ mjW := mjW_of 630 rfl rfl
set_option maxRecDepth 10000 in
theorem ln_X6_135 : Cond.methodLink RX6 135 yX3_minutesOf ∈ mjW := mjW_of 634 rfl rfl
set_option maxRecDepth 10000 in
theorem ln_L_100 : Cond.methodLink RL 100 yX6_begin ∈ mjW := mjW_of 638 rfl rfl
set_option maxRecDepth 10000 in
theorem ln_X6_62 : Cond.methodLink RX6 62 yX4_renew ∈ mjW := mjW_of 642 rfl rfl
