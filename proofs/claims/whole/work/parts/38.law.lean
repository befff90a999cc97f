/-! the law: both objects, and a call of each -/
def mwb (m : RSt) : mjM := [.inr (6, [.ref 48, .ref 49, .ref 50, .int m.2.2.2.2.2.2.2.1, .ref 51, .int m.2.2.2.2.2.2.2.2.1, .ref 52, .int m.2.2.2.2.2.2.2.2.2.1, .ref 53, .int m.2.2.2.2.2.2.2.2.2.2.1, .int m.2.2.2.2.2.2.2.2.2.2.2.1, .int m.2.2.2.2.2.2.2.2.2.2.2.2.1, .int m.2.2.2.2.2.2.2.2.2.2.2.2.2.1, .int m.2.2.2.2.2.2.2.2.2.2.2.2.2.2.1, .int m.2.2.2.2.2.2.2.2.2.2.2.2.2.2.2.1, .int m.2.2.2.2.2.2.2.2.2.2.2.2.2.2.2.2, .ref 54]),
  .inl (0, (164, .inl m.1)), .inl (0, (164, .inl m.2.1)), .inl (0, (656, .inl m.2.2.1)), .inl (0, (164, .inl m.2.2.2.1)), .inl (0, (60, .inl m.2.2.2.2.1)), .inl (0, (36, .inl m.2.2.2.2.2.1)), .inl (0, (36, .inl m.2.2.2.2.2.2.1))]
def LW (c : CSt) (m : RSt) : mjM := xw c ++ mwb m
def e47 : List Nat := [0, 1, 2, 3, 4, 5, 6, 7, 8, 9, 10, 11, 12, 13, 14, 15, 16, 17, 18, 19, 20, 21, 22, 23, 24, 25, 26, 27, 28, 29, 30, 31, 32, 33, 34, 35, 36, 37, 38, 39, 40, 41, 42, 43, 44, 45, 46]
def e8 : List Nat := [47, 48, 49, 50, 51, 52, 53, 54]
def rm_L_law : Room := { frames := 8, cells := 100, slots := 5000, locals := 178 }
noncomputable def G_L_law : mjG := (I_L_law, (fun _ => none), [(9, 2, 5, 1, 46, 1640, S_X6_init), (12, 2, 6, 1, 7, 1280, S_X7_init), (13, 0, 5, 2, 0, 0, S_X6_begin), (17, 0, 6, 2, 0, 0, S_X7_begin), (18, 0, 5, 3, 0, 0, S_X6_aim), (22, 0, 6, 3, 0, 0, S_X7_aim), (23, 0, 5, 2, 0, 0, S_X6_pass), (26, 0, 6, 2, 0, 0, S_X7_pass), (27, 0, 5, 3, 0, 0, S_X6_scratch), (30, 0, 6, 3, 0, 0, S_X7_scratch), (31, 0, 5, 2, 0, 0, S_X6_mend), (34, 0, 6, 2, 0, 0, S_X7_mend), (35, 0, 5, 3, 0, 0, S_X6_heat), (38, 0, 6, 3, 0, 0, S_X7_heat), (39, 0, 5, 3, 0, 0, S_X6_set), (42, 0, 6, 3, 0, 0, S_X7_set), (43, 0, 5, 2, 0, 0, S_X6_append), (46, 0, 6, 2, 0, 0, S_X7_append), (47, 0, 5, 1, 0, 0, S_X6_clear), (51, 0, 6, 1, 0, 0, S_X7_clear), (52, 0, 5, 1, 0, 0, S_X6_fault), (55, 0, 6, 1, 0, 0, S_X7_fault), (56, 0, 5, 1, 0, 0, S_X6_run), (59, 0, 6, 1, 0, 0, S_X7_run), (60, 0, 5, 3, 0, 0, S_X6_cell), (63, 0, 6, 3, 0, 0, S_X7_cell), (64, 0, 5, 3, 0, 0, S_X6_joint), (67, 0, 6, 3, 0, 0, S_X7_joint), (68, 0, 5, 2, 0, 0, S_X6_strained), (71, 0, 6, 2, 0, 0, S_X7_strained), (72, 0, 5, 2, 0, 0, S_X6_pieces), (75, 0, 6, 2, 0, 0, S_X7_pieces), (76, 0, 5, 2, 0, 0, S_X6_count), (79, 0, 6, 2, 0, 0, S_X7_count), (80, 0, 5, 2, 0, 0, S_X6_mean), (84, 0, 6, 2, 0, 0, S_X7_mean), (85, 0, 5, 3, 0, 0, S_X6_ifPassed), (88, 0, 6, 3, 0, 0, S_X7_ifPassed), (89, 0, 5, 3, 0, 0, S_X6_fastest), (92, 0, 6, 3, 0, 0, S_X7_fastest), (93, 0, 5, 2, 0, 0, S_X6_evenIn), (96, 0, 6, 2, 0, 0, S_X7_evenIn), (97, 0, 5, 1, 0, 0, S_X6_undo), (100, 0, 6, 1, 0, 0, S_X7_undo), (101, 0, 5, 1, 0, 0, S_X6_save), (104, 0, 6, 1, 0, 0, S_X7_save), (105, 0, 5, 1, 0, 0, S_X6_restore), (108, 0, 6, 1, 0, 0, S_X7_restore)], (fun pc => bif Nat.beq pc 709 then [47, 48, 49, 50, 51, 52, 53, 54] else bif Nat.beq pc 696 then [47, 48, 49, 50, 51, 52, 53, 54] else bif Nat.beq pc 683 then [47, 48, 49, 50, 51, 52, 53, 54] else bif Nat.beq pc 670 then [47, 48, 49, 50, 51, 52, 53, 54] else bif Nat.beq pc 647 then [47, 48, 49, 50, 51, 52, 53, 54] else bif Nat.beq pc 614 then [47, 48, 49, 50, 51, 52, 53, 54] else bif Nat.beq pc 555 then [47, 48, 49, 50, 51, 52, 53, 54] else bif Nat.beq pc 530 then [47, 48, 49, 50, 51, 52, 53, 54] else bif Nat.beq pc 507 then [47, 48, 49, 50, 51, 52, 53, 54] else bif Nat.beq pc 484 then [47, 48, 49, 50, 51, 52, 53, 54] else bif Nat.beq pc 461 then [47, 48, 49, 50, 51, 52, 53, 54] else bif Nat.beq pc 428 then [47, 48, 49, 50, 51, 52, 53, 54] else bif Nat.beq pc 395 then [47, 48, 49, 50, 51, 52, 53, 54] else bif Nat.beq pc 382 then [47, 48, 49, 50, 51, 52, 53, 54] else bif Nat.beq pc 369 then [47, 48, 49, 50, 51, 52, 53, 54] else bif Nat.beq pc 356 then [47, 48, 49, 50, 51, 52, 53, 54] else bif Nat.beq pc 333 then [47, 48, 49, 50, 51, 52, 53, 54] else bif Nat.beq pc 300 then [47, 48, 49, 50, 51, 52, 53, 54] else bif Nat.beq pc 267 then [47, 48, 49, 50, 51, 52, 53, 54] else bif Nat.beq pc 244 then [47, 48, 49, 50, 51, 52, 53, 54] else bif Nat.beq pc 211 then [47, 48, 49, 50, 51, 52, 53, 54] else bif Nat.beq pc 188 then [47, 48, 49, 50, 51, 52, 53, 54] else bif Nat.beq pc 155 then [47, 48, 49, 50, 51, 52, 53, 54] else bif Nat.beq pc 12 then [47] else bif Nat.beq pc 4 then [0] else [0, 1, 2, 3, 4, 5, 6, 7, 8, 9, 10, 11, 12, 13, 14, 15, 16, 17, 18, 19, 20, 21, 22, 23, 24, 25, 26, 27, 28, 29, 30, 31, 32, 33, 34, 35, 36, 37, 38, 39, 40, 41, 42, 43, 44, 45, 46]), Y_L_law, (fun i => bif Nat.beq i 10 then some (6, nf_X7) else bif Nat.beq i 7 then some (5, nf_X6) else none), (fun _ => none), (some .boolean), 100, 5000, false)
set_option maxRecDepth 10000 in
theorem gok_L_law (l : Launch) (meth : Method) : mjG_ok l room_1 cL_law RL G_L_law meth 8 :=
  ⟨fun pc row h => (I_L_law_ok pc row h).1, (fun _ _ _ _ h => by cases h), List.forall_mem_cons.mpr ⟨⟨yX6_init, cX6_init, 1, rm_X6_init, ct_X6_init l, ⟨rfl, rfl⟩, ⟨by decide, by decide⟩, by decide, by decide, nk_X6_init, ln_L_9, im_X6_init, rfl⟩, List.forall_mem_cons.mpr ⟨⟨yX7_init, cX7_init, 1, rm_X7_init, ct_X7_init l, ⟨rfl, rfl⟩, ⟨by decide, by decide⟩, by decide, by decide, nk_X7_init, ln_L_12, im_X7_init, rfl⟩, List.forall_mem_cons.mpr ⟨⟨yX6_begin, cX6_begin, 2, (some .int), rm_X6_begin, ct_X6_begin l, ⟨rfl, rfl⟩, ⟨by decide, by decide⟩, by decide, by decide, nk_X6_begin, ln_L_13, im_X6_begin, se_X6_begin, rfl⟩, List.forall_mem_cons.mpr ⟨⟨yX7_begin, cX7_begin, 2, (some .int), rm_X7_begin, ct_X7_begin l, ⟨rfl, rfl⟩, ⟨by decide, by decide⟩, by decide, by decide, nk_X7_begin, ln_L_17, im_X7_begin, se_X7_begin, rfl⟩, List.forall_mem_cons.mpr ⟨⟨yX6_aim, cX6_aim, 4, (some .int), rm_X6_aim, ct_X6_aim l, ⟨rfl, rfl⟩, ⟨by decide, by decide⟩, by decide, by decide, nk_X6_aim, ln_L_18, im_X6_aim, se_X6_aim, rfl⟩, List.forall_mem_cons.mpr ⟨⟨yX7_aim, cX7_aim, 4, (some .int), rm_X7_aim, ct_X7_aim l, ⟨rfl, rfl⟩, ⟨by decide, by decide⟩, by decide, by decide, nk_X7_aim, ln_L_22, im_X7_aim, se_X7_aim, rfl⟩, List.forall_mem_cons.mpr ⟨⟨yX6_pass, cX6_pass, 2, (some .int), rm_X6_pass, ct_X6_pass l, ⟨rfl, rfl⟩, ⟨by decide, by decide⟩, by decide, by decide, nk_X6_pass, ln_L_23, im_X6_pass, se_X6_pass, rfl⟩, List.forall_mem_cons.mpr ⟨⟨yX7_pass, cX7_pass, 2, (some .int), rm_X7_pass, ct_X7_pass l, ⟨rfl, rfl⟩, ⟨by decide, by decide⟩, by decide, by decide, nk_X7_pass, ln_L_26, im_X7_pass, se_X7_pass, rfl⟩, List.forall_mem_cons.mpr ⟨⟨yX6_scratch, cX6_scratch, 4, (some .int), rm_X6_scratch, ct_X6_scratch l, ⟨rfl, rfl⟩, ⟨by decide, by decide⟩, by decide, by decide, nk_X6_scratch, ln_L_27, im_X6_scratch, se_X6_scratch, rfl⟩, List.forall_mem_cons.mpr ⟨⟨yX7_scratch, cX7_scratch, 4, (some .int), rm_X7_scratch, ct_X7_scratch l, ⟨rfl, rfl⟩, ⟨by decide, by decide⟩, by decide, by decide, nk_X7_scratch, ln_L_30, im_X7_scratch, se_X7_scratch, rfl⟩, List.forall_mem_cons.mpr ⟨⟨yX6_mend, cX6_mend, 2, (some .int), rm_X6_mend, ct_X6_mend l, ⟨rfl, rfl⟩, ⟨by decide, by decide⟩, by decide, by decide, nk_X6_mend, ln_L_31, im_X6_mend, se_X6_mend, rfl⟩, List.forall_mem_cons.mpr ⟨⟨yX7_mend, cX7_mend, 2, (some .int), rm_X7_mend, ct_X7_mend l, ⟨rfl, rfl⟩, ⟨by decide, by decide⟩, by decide, by decide, nk_X7_mend, ln_L_34, im_X7_mend, se_X7_mend, rfl⟩, List.forall_mem_cons.mpr ⟨⟨yX6_heat, cX6_heat, 3, (some .int), rm_X6_heat, ct_X6_heat l, ⟨rfl, rfl⟩, ⟨by decide, by decide⟩, by decide, by decide, nk_X6_heat, ln_L_35, im_X6_heat, se_X6_heat, rfl⟩, List.forall_mem_cons.mpr ⟨⟨yX7_heat, cX7_heat, 4, (some .int), rm_X7_heat, ct_X7_heat l, ⟨rfl, rfl⟩, ⟨by decide, by decide⟩, by decide, by decide, nk_X7_heat, ln_L_38, im_X7_heat, se_X7_heat, rfl⟩, List.forall_mem_cons.mpr ⟨⟨yX6_set, cX6_set, 4, (some .int), rm_X6_set, ct_X6_set l, ⟨rfl, rfl⟩, ⟨by decide, by decide⟩, by decide, by decide, nk_X6_set, ln_L_39, im_X6_set, se_X6_set, rfl⟩, List.forall_mem_cons.mpr ⟨⟨yX7_set, cX7_set, 4, (some .int), rm_X7_set, ct_X7_set l, ⟨rfl, rfl⟩, ⟨by decide, by decide⟩, by decide, by decide, nk_X7_set, ln_L_42, im_X7_set, se_X7_set, rfl⟩, List.forall_mem_cons.mpr ⟨⟨yX6_append, cX6_append, 2, (some .int), rm_X6_append, ct_X6_append l, ⟨rfl, rfl⟩, ⟨by decide, by decide⟩, by decide, by decide, nk_X6_append, ln_L_43, im_X6_append, se_X6_append, rfl⟩, List.forall_mem_cons.mpr ⟨⟨yX7_append, cX7_append, 2, (some .int), rm_X7_append, ct_X7_append l, ⟨rfl, rfl⟩, ⟨by decide, by decide⟩, by decide, by decide, nk_X7_append, ln_L_46, im_X7_append, se_X7_append, rfl⟩, List.forall_mem_cons.mpr ⟨⟨yX6_clear, cX6_clear, 2, (some .int), rm_X6_clear, ct_X6_clear l, ⟨rfl, rfl⟩, ⟨by decide, by decide⟩, by decide, by decide, nk_X6_clear, ln_L_47, im_X6_clear, se_X6_clear, rfl⟩, List.forall_mem_cons.mpr ⟨⟨yX7_clear, cX7_clear, 2, (some .int), rm_X7_clear, ct_X7_clear l, ⟨rfl, rfl⟩, ⟨by decide, by decide⟩, by decide, by decide, nk_X7_clear, ln_L_51, im_X7_clear, se_X7_clear, rfl⟩, List.forall_mem_cons.mpr ⟨⟨yX6_fault, cX6_fault, 1, (some .int), rm_X6_fault, ct_X6_fault l, ⟨rfl, rfl⟩, ⟨by decide, by decide⟩, by decide, by decide, nk_X6_fault, ln_L_52, im_X6_fault, se_X6_fault, rfl⟩, List.forall_mem_cons.mpr ⟨⟨yX7_fault, cX7_fault, 1, (some .int), rm_X7_fault, ct_X7_fault l, ⟨rfl, rfl⟩, ⟨by decide, by decide⟩, by decide, by decide, nk_X7_fault, ln_L_55, im_X7_fault, se_X7_fault, rfl⟩, List.forall_mem_cons.mpr ⟨⟨yX6_run, cX6_run, 3, (some .int), rm_X6_run, ct_X6_run l, ⟨rfl, rfl⟩, ⟨by decide, by decide⟩, by decide, by decide, nk_X6_run, ln_L_56, im_X6_run, se_X6_run, rfl⟩, List.forall_mem_cons.mpr ⟨⟨yX7_run, cX7_run, 3, (some .int), rm_X7_run, ct_X7_run l, ⟨rfl, rfl⟩, ⟨by decide, by decide⟩, by decide, by decide, nk_X7_run, ln_L_59, im_X7_run, se_X7_run, rfl⟩, List.forall_mem_cons.mpr ⟨⟨yX6_cell, cX6_cell, 3, (some .int), rm_X6_cell, ct_X6_cell l, ⟨rfl, rfl⟩, ⟨by decide, by decide⟩, by decide, by decide, nk_X6_cell, ln_L_60, im_X6_cell, se_X6_cell, rfl⟩, List.forall_mem_cons.mpr ⟨⟨yX7_cell, cX7_cell, 3, (some .int), rm_X7_cell, ct_X7_cell l, ⟨rfl, rfl⟩, ⟨by decide, by decide⟩, by decide, by decide, nk_X7_cell, ln_L_63, im_X7_cell, se_X7_cell, rfl⟩, List.forall_mem_cons.mpr ⟨⟨yX6_joint, cX6_joint, 4, (some .int), rm_X6_joint, ct_X6_joint l, ⟨rfl, rfl⟩, ⟨by decide, by decide⟩, by decide, by decide, nk_X6_joint, ln_L_64, im_X6_joint, se_X6_joint, rfl⟩, List.forall_mem_cons.mpr ⟨⟨yX7_joint, cX7_joint, 3, (some .int), rm_X7_joint, ct_X7_joint l, ⟨rfl, rfl⟩, ⟨by decide, by decide⟩, by decide, by decide, nk_X7_joint, ln_L_67, im_X7_joint, se_X7_joint, rfl⟩, List.forall_mem_cons.mpr ⟨⟨yX6_strained, cX6_strained, 2, (some .int), rm_X6_strained, ct_X6_strained l, ⟨rfl, rfl⟩, ⟨by decide, by decide⟩, by decide, by decide, nk_X6_strained, ln_L_68, im_X6_strained, se_X6_strained, rfl⟩, List.forall_mem_cons.mpr ⟨⟨yX7_strained, cX7_strained, 6, (some .int), rm_X7_strained, ct_X7_strained l, ⟨rfl, rfl⟩, ⟨by decide, by decide⟩, by decide, by decide, nk_X7_strained, ln_L_71, im_X7_strained, se_X7_strained, rfl⟩, List.forall_mem_cons.mpr ⟨⟨yX6_pieces, cX6_pieces, 2, (some .int), rm_X6_pieces, ct_X6_pieces l, ⟨rfl, rfl⟩, ⟨by decide, by decide⟩, by decide, by decide, nk_X6_pieces, ln_L_72, im_X6_pieces, se_X6_pieces, rfl⟩, List.forall_mem_cons.mpr ⟨⟨yX7_pieces, cX7_pieces, 4, (some .int), rm_X7_pieces, ct_X7_pieces l, ⟨rfl, rfl⟩, ⟨by decide, by decide⟩, by decide, by decide, nk_X7_pieces, ln_L_75, im_X7_pieces, se_X7_pieces, rfl⟩, List.forall_mem_cons.mpr ⟨⟨yX6_count, cX6_count, 2, (some .int), rm_X6_count, ct_X6_count l, ⟨rfl, rfl⟩, ⟨by decide, by decide⟩, by decide, by decide, nk_X6_count, ln_L_76, im_X6_count, se_X6_count, rfl⟩, List.forall_mem_cons.mpr ⟨⟨yX7_count, cX7_count, 2, (some .int), rm_X7_count, ct_X7_count l, ⟨rfl, rfl⟩, ⟨by decide, by decide⟩, by decide, by decide, nk_X7_count, ln_L_79, im_X7_count, se_X7_count, rfl⟩, List.forall_mem_cons.mpr ⟨⟨yX6_mean, cX6_mean, 2, (some .double), rm_X6_mean, ct_X6_mean l, ⟨rfl, rfl⟩, ⟨by decide, by decide⟩, by decide, by decide, nk_X6_mean, ln_L_80, im_X6_mean, se_X6_mean, rfl⟩, List.forall_mem_cons.mpr ⟨⟨yX7_mean, cX7_mean, 4, (some .double), rm_X7_mean, ct_X7_mean l, ⟨rfl, rfl⟩, ⟨by decide, by decide⟩, by decide, by decide, nk_X7_mean, ln_L_84, im_X7_mean, se_X7_mean, rfl⟩, List.forall_mem_cons.mpr ⟨⟨yX6_ifPassed, cX6_ifPassed, 3, (some .int), rm_X6_ifPassed, ct_X6_ifPassed l, ⟨rfl, rfl⟩, ⟨by decide, by decide⟩, by decide, by decide, nk_X6_ifPassed, ln_L_85, im_X6_ifPassed, se_X6_ifPassed, rfl⟩, List.forall_mem_cons.mpr ⟨⟨yX7_ifPassed, cX7_ifPassed, 8, (some .int), rm_X7_ifPassed, ct_X7_ifPassed l, ⟨rfl, rfl⟩, ⟨by decide, by decide⟩, by decide, by decide, nk_X7_ifPassed, ln_L_88, im_X7_ifPassed, se_X7_ifPassed, rfl⟩, List.forall_mem_cons.mpr ⟨⟨yX6_fastest, cX6_fastest, 4, (some .int), rm_X6_fastest, ct_X6_fastest l, ⟨rfl, rfl⟩, ⟨by decide, by decide⟩, by decide, by decide, nk_X6_fastest, ln_L_89, im_X6_fastest, se_X6_fastest, rfl⟩, List.forall_mem_cons.mpr ⟨⟨yX7_fastest, cX7_fastest, 4, (some .int), rm_X7_fastest, ct_X7_fastest l, ⟨rfl, rfl⟩, ⟨by decide, by decide⟩, by decide, by decide, nk_X7_fastest, ln_L_92, im_X7_fastest, se_X7_fastest, rfl⟩, List.forall_mem_cons.mpr ⟨⟨yX6_evenIn, cX6_evenIn, 3, (some .int), rm_X6_evenIn, ct_X6_evenIn l, ⟨rfl, rfl⟩, ⟨by decide, by decide⟩, by decide, by decide, nk_X6_evenIn, ln_L_93, im_X6_evenIn, se_X6_evenIn, rfl⟩, List.forall_mem_cons.mpr ⟨⟨yX7_evenIn, cX7_evenIn, 4, (some .int), rm_X7_evenIn, ct_X7_evenIn l, ⟨rfl, rfl⟩, ⟨by decide, by decide⟩, by decide, by decide, nk_X7_evenIn, ln_L_96, im_X7_evenIn, se_X7_evenIn, rfl⟩, List.forall_mem_cons.mpr ⟨⟨yX6_undo, cX6_undo, 1, (some .int), rm_X6_undo, ct_X6_undo l, ⟨rfl, rfl⟩, ⟨by decide, by decide⟩, by decide, by decide, nk_X6_undo, ln_L_97, im_X6_undo, se_X6_undo, rfl⟩, List.forall_mem_cons.mpr ⟨⟨yX7_undo, cX7_undo, 1, (some .int), rm_X7_undo, ct_X7_undo l, ⟨rfl, rfl⟩, ⟨by decide, by decide⟩, by decide, by decide, nk_X7_undo, ln_L_100, im_X7_undo, se_X7_undo, rfl⟩, List.forall_mem_cons.mpr ⟨⟨yX6_save, cX6_save, 1, (some .int), rm_X6_save, ct_X6_save l, ⟨rfl, rfl⟩, ⟨by decide, by decide⟩, by decide, by decide, nk_X6_save, ln_L_101, im_X6_save, se_X6_save, rfl⟩, List.forall_mem_cons.mpr ⟨⟨yX7_save, cX7_save, 1, (some .int), rm_X7_save, ct_X7_save l, ⟨rfl, rfl⟩, ⟨by decide, by decide⟩, by decide, by decide, nk_X7_save, ln_L_104, im_X7_save, se_X7_save, rfl⟩, List.forall_mem_cons.mpr ⟨⟨yX6_restore, cX6_restore, 1, (some .int), rm_X6_restore, ct_X6_restore l, ⟨rfl, rfl⟩, ⟨by decide, by decide⟩, by decide, by decide, nk_X6_restore, ln_L_105, im_X6_restore, se_X6_restore, rfl⟩, List.forall_mem_cons.mpr ⟨⟨yX7_restore, cX7_restore, 1, (some .int), rm_X7_restore, ct_X7_restore l, ⟨rfl, rfl⟩, ⟨by decide, by decide⟩, by decide, by decide, nk_X7_restore, ln_L_108, im_X7_restore, se_X7_restore, rfl⟩, fun _ h => absurd h List.not_mem_nil⟩⟩⟩⟩⟩⟩⟩⟩⟩⟩⟩⟩⟩⟩⟩⟩⟩⟩⟩⟩⟩⟩⟩⟩⟩⟩⟩⟩⟩⟩⟩⟩⟩⟩⟩⟩⟩⟩⟩⟩⟩⟩⟩⟩⟩⟩⟩⟩, (fun _ _ _ h => mjnw h (nw_X7 cl_L_10) (fun h => mjnw h (nw_X6 cl_L_7) (fun h => by cases h))), (fun _ _ h => by cases h), ⟨show (100 : Nat) ≤ 600000 by decide, show (5000 : Nat) ≤ 7302250 by decide⟩, (fun h => by cases h), (fun _ => ⟨ac_int, ac_char, mjna_ok (q := fun _ => false) (n := 725) (by decide +kernel) (mjhi rfl) (fun _ h => by cases h)⟩)⟩
def cF (c : CSt) : Nat → Option Nat := c.2.2.2.2.1.2.1
theorem cut_id {g : Nat → Nat} {f : Nat → Option Nat} (hf : hOk2 f) (hg : ∀ k, k = 18 ∨ k = 23 ∨ k = 28 ∨ k = 33 → g k = k) : mjcut g 4 f = f := by
  funext k
  unfold mjcut
  by_cases h : k < 4
  · rw [if_pos h]
    rcases hf.1 k h with e | e | e | e <;> rw [e] <;> simp [hg]
  · rw [if_neg h, hf.2 k (by omega)]
set_option maxRecDepth 100000 in
theorem ext6 {c : CSt} {m : RSt} (hf : hOk2 (cF c)) : mjext e47 (LW c m) = xw c := by
  have h : mjext e47 (LW c m) = xw (c.1, c.2.1, c.2.2.1, c.2.2.2.1, (c.2.2.2.2.1.1, mjcut (mjri e47) 4 (cF c), c.2.2.2.2.1.2.2), c.2.2.2.2.2) := rfl
  rw [h, cut_id hf (fun k hk => by rcases hk with rfl | rfl | rfl | rfl <;> rfl)]
  rfl
set_option maxRecDepth 100000 in
theorem ins6 {c c' : CSt} {m : RSt} (hf : hOk2 (cF c')) : mjins e47 (LW c m) (xw c') = LW c' m := by
  have h : mjins e47 (LW c m) (xw c') = LW (c'.1, c'.2.1, c'.2.2.1, c'.2.2.2.1, (c'.2.2.2.2.1.1, mjcut (mjui e47 55) 4 (cF c'), c'.2.2.2.2.1.2.2), c'.2.2.2.2.2) m := rfl
  rw [h, cut_id hf (fun k hk => by rcases hk with rfl | rfl | rfl | rfl <;> rfl)]
  rfl
set_option maxRecDepth 100000 in
theorem ext7 {c : CSt} {m : RSt} : mjext e8 (LW c m) = mw m := rfl
set_option maxRecDepth 100000 in
theorem ins7 {c : CSt} {m m' : RSt} : mjins e8 (LW c m) (mw m') = LW c m' := rfl
theorem mjcall_of {G : mjG} {nx : Nat → mjL → List Value → mjM → Nat × Nat → Prop} {virt : Bool} {k vc na cm sm : Nat} {Sp : mjSp} {pc : Nat} {L : mjL} {S : List Value} {M : mjM} {u : Nat × Nat} {N : mjM} {as : List Value} {P : Prop} {o : Option mjM} {r : Option Value} {M1 : mjM}
    (h1 : (Nat.ble na S.length && (S.take na).all mjone && Nat.ble (mjcat (S.drop na)) 8 && (mjinc (G.2.2.2.1 pc) M.length || mjnd (G.2.2.2.1 pc) M.length) && Nat.ble (G.2.2.2.1 pc).length 4000 && Nat.ble (u.1 + cm) G.2.2.2.2.2.2.2.2.1 && Nat.ble (u.2 + sm) G.2.2.2.2.2.2.2.2.2.1 && (!virt || mjrecv M vc (S.take na).reverse)) = true)
    (hN : mjext (G.2.2.2.1 pc) M = N) (ha : (S.take na).reverse.map (mjv (mjri (G.2.2.2.1 pc))) = as) (hS : Sp N as = (P, o, r)) (hP : P) (h3 : mjres (G.2.2.2.1 pc) cm L (S.drop na) M r o = (true, M1))
    (hn : nx (pc + 3) L (r.toList.map (mjv (mjui (G.2.2.2.1 pc) M.length)) ++ S.drop na) M1 (u.1 + cm, u.2 + sm)) : mjcall G nx virt (k, vc, na, cm, sm, Sp) pc L S M u := by
  unfold mjcall
  simp only [h1, mjb]
  rw [hN, ha, hS]
  refine ⟨hP, ?_⟩
  rw [h3]
  exact hn
theorem law_go {Z : Option (Nat × (Nat → Int32))} {R : mjM → Option Value → Nat × Nat → Prop} {T : Nat → mjL → List Value → mjM → Nat × Nat → Prop} (hT : mjC G_L_law Z R T) {pc i : Nat} {v : Int32} {t : Nat} {L : mjL} {S : List Value} {M : mjM} {u : Nat × Nat} {q : Nat × Nat × Nat × Nat × mjSp}
    (hr : G_L_law.1 pc = some (.invokevirtual i, 3, v, t)) (hf : mjfind G_L_law.2.2.1 i = some (0, q)) (h : mjcall G_L_law T true (0, q) pc L S M u) : T pc L S M u := by
  refine hT.1 (fun _ => true) 1 pc L S M u ?_
  unfold mj
  rw [hr]
  show mjo (mjfind G_L_law.2.2.1 i) _
  rw [hf]
  exact h
theorem lcall6_0 {Z : Option (Nat × (Nat → Int32))} {R : mjM → Option Value → Nat × Nat → Prop} {T : Nat → mjL → List Value → mjM → Nat × Nat → Prop} (hT : mjC G_L_law Z R T) {pc i : Nat} {v : Int32} {t : Nat} {L : mjL} {S0 : List Value} {c c' : CSt} {m : RSt} {Sp : mjSp} {P : Prop} {rv : Value}
    (hr : G_L_law.1 pc = some (.invokevirtual i, 3, v, t)) (hf : mjfind G_L_law.2.2.1 i = some (0, 5, 1, 0, 0, Sp)) (hh : G_L_law.2.2.2.1 pc = e47) (hS0 : Nat.ble (mjcat S0) 8 = true) (hS : Sp (xw c) [.ref 0] = (P, some (xw c'), some rv)) (hP : P) (h2 : hOk2 (cF c)) (h3 : hOk2 (cF c')) (hv : ∀ ad, mjv ad rv = rv) (k : T (pc + 3) L (rv :: S0) (LW c' m) (55, 2945)) : T pc L (.ref 0 :: S0) (LW c m) (55, 2945) := by
  refine law_go hT hr hf ?_
  refine mjcall_of (N := xw c) (as := [.ref 0]) (M1 := LW c' m) ?_ ?_ ?_ hS hP ?_ ?_
  · rw [hh]
    show (true && (true && Nat.ble (mjcat S0) 8 && true && true && true && true && true)) = true
    rw [hS0]
    rfl
  · rw [hh]
    exact ext6 h2
  · rw [hh]
    rfl
  · rw [hh]
    show (true, mjins e47 (LW c m) (xw c')) = _
    rw [ins6 h3]
  · rw [hh]
    show T (pc + 3) L (mjv _ rv :: S0) _ _
    rw [hv]
    exact k
theorem lcall7_0 {Z : Option (Nat × (Nat → Int32))} {R : mjM → Option Value → Nat × Nat → Prop} {T : Nat → mjL → List Value → mjM → Nat × Nat → Prop} (hT : mjC G_L_law Z R T) {pc i : Nat} {v : Int32} {t : Nat} {L : mjL} {S0 : List Value} {c : CSt} {m m' : RSt} {Sp : mjSp} {P : Prop} {rv : Value}
    (hr : G_L_law.1 pc = some (.invokevirtual i, 3, v, t)) (hf : mjfind G_L_law.2.2.1 i = some (0, 6, 1, 0, 0, Sp)) (hh : G_L_law.2.2.2.1 pc = e8) (hS0 : Nat.ble (mjcat S0) 8 = true) (hS : Sp (mw m) [.ref 0] = (P, some (mw m'), some rv)) (hP : P) (hv : ∀ ad, mjv ad rv = rv) (k : T (pc + 3) L (rv :: S0) (LW c m') (55, 2945)) : T pc L (.ref 47 :: S0) (LW c m) (55, 2945) := by
  refine law_go hT hr hf ?_
  refine mjcall_of (N := mw m) (as := [.ref 0]) (M1 := LW c m') ?_ ?_ ?_ hS hP ?_ ?_
  · rw [hh]
    show (true && (true && Nat.ble (mjcat S0) 8 && true && true && true && true && true)) = true
    rw [hS0]
    rfl
  · rw [hh]
    exact ext7
  · rw [hh]
    rfl
  · rw [hh]
    exact congrArg (Prod.mk true) ins7
  · rw [hh]
    show T (pc + 3) L (mjv _ rv :: S0) _ _
    rw [hv]
    exact k
theorem lcall7_0n {Z : Option (Nat × (Nat → Int32))} {R : mjM → Option Value → Nat × Nat → Prop} {T : Nat → mjL → List Value → mjM → Nat × Nat → Prop} (hT : mjC G_L_law Z R T) {pc i : Nat} {v : Int32} {t : Nat} {L : mjL} {S0 : List Value} {c : CSt} {m : RSt} {Sp : mjSp} {P : Prop} {rv : Value}
    (hr : G_L_law.1 pc = some (.invokevirtual i, 3, v, t)) (hf : mjfind G_L_law.2.2.1 i = some (0, 6, 1, 0, 0, Sp)) (hh : G_L_law.2.2.2.1 pc = e8) (hS0 : Nat.ble (mjcat S0) 8 = true) (hS : Sp (mw m) [.ref 0] = (P, none, some rv)) (hP : P) (hv : ∀ ad, mjv ad rv = rv) (k : T (pc + 3) L (rv :: S0) (LW c m) (55, 2945)) : T pc L (.ref 47 :: S0) (LW c m) (55, 2945) := by
  refine law_go hT hr hf ?_
  refine mjcall_of (N := mw m) (as := [.ref 0]) (M1 := LW c m) ?_ ?_ ?_ hS hP ?_ ?_
  · rw [hh]
    show (true && (true && Nat.ble (mjcat S0) 8 && true && true && true && true && true)) = true
    rw [hS0]
    rfl
  · rw [hh]
    exact ext7
  · rw [hh]
    rfl
  · rfl
  · rw [hh]
    show T (pc + 3) L (mjv _ rv :: S0) _ _
    rw [hv]
    exact k
theorem lcall6_1 {Z : Option (Nat × (Nat → Int32))} {R : mjM → Option Value → Nat × Nat → Prop} {T : Nat → mjL → List Value → mjM → Nat × Nat → Prop} (hT : mjC G_L_law Z R T) {pc i : Nat} {v : Int32} {t : Nat} {L : mjL} {S0 : List Value} {x : Int32} {c c' : CSt} {m : RSt} {Sp : mjSp} {P : Prop} {rv : Value}
    (hr : G_L_law.1 pc = some (.invokevirtual i, 3, v, t)) (hf : mjfind G_L_law.2.2.1 i = some (0, 5, 2, 0, 0, Sp)) (hh : G_L_law.2.2.2.1 pc = e47) (hS0 : Nat.ble (mjcat S0) 8 = true) (hS : Sp (xw c) [.ref 0, .int x] = (P, some (xw c'), some rv)) (hP : P) (h2 : hOk2 (cF c)) (h3 : hOk2 (cF c')) (hv : ∀ ad, mjv ad rv = rv) (k : T (pc + 3) L (rv :: S0) (LW c' m) (55, 2945)) : T pc L (.int x :: .ref 0 :: S0) (LW c m) (55, 2945) := by
  refine law_go hT hr hf ?_
  refine mjcall_of (N := xw c) (as := [.ref 0, .int x]) (M1 := LW c' m) ?_ ?_ ?_ hS hP ?_ ?_
  · rw [hh]
    show (true && (true && Nat.ble (mjcat S0) 8 && true && true && true && true && true)) = true
    rw [hS0]
    rfl
  · rw [hh]
    exact ext6 h2
  · rw [hh]
    rfl
  · rw [hh]
    show (true, mjins e47 (LW c m) (xw c')) = _
    rw [ins6 h3]
  · rw [hh]
    show T (pc + 3) L (mjv _ rv :: S0) _ _
    rw [hv]
    exact k
theorem lcall7_1 {Z : Option (Nat × (Nat → Int32))} {R : mjM → Option Value → Nat × Nat → Prop} {T : Nat → mjL → List Value → mjM → Nat × Nat → Prop} (hT : mjC G_L_law Z R T) {pc i : Nat} {v : Int32} {t : Nat} {L : mjL} {S0 : List Value} {x : Int32} {c : CSt} {m m' : RSt} {Sp : mjSp} {P : Prop} {rv : Value}
    (hr : G_L_law.1 pc = some (.invokevirtual i, 3, v, t)) (hf : mjfind G_L_law.2.2.1 i = some (0, 6, 2, 0, 0, Sp)) (hh : G_L_law.2.2.2.1 pc = e8) (hS0 : Nat.ble (mjcat S0) 8 = true) (hS : Sp (mw m) [.ref 0, .int x] = (P, some (mw m'), some rv)) (hP : P) (hv : ∀ ad, mjv ad rv = rv) (k : T (pc + 3) L (rv :: S0) (LW c m') (55, 2945)) : T pc L (.int x :: .ref 47 :: S0) (LW c m) (55, 2945) := by
  refine law_go hT hr hf ?_
  refine mjcall_of (N := mw m) (as := [.ref 0, .int x]) (M1 := LW c m') ?_ ?_ ?_ hS hP ?_ ?_
  · rw [hh]
    show (true && (true && Nat.ble (mjcat S0) 8 && true && true && true && true && true)) = true
    rw [hS0]
    rfl
  · rw [hh]
    exact ext7
  · rw [hh]
    rfl
  · rw [hh]
    exact congrArg (Prod.mk true) ins7
  · rw [hh]
    show T (pc + 3) L (mjv _ rv :: S0) _ _
    rw [hv]
    exact k
theorem lcall7_1n {Z : Option (Nat × (Nat → Int32))} {R : mjM → Option Value → Nat × Nat → Prop} {T : Nat → mjL → List Value → mjM → Nat × Nat → Prop} (hT : mjC G_L_law Z R T) {pc i : Nat} {v : Int32} {t : Nat} {L : mjL} {S0 : List Value} {x : Int32} {c : CSt} {m : RSt} {Sp : mjSp} {P : Prop} {rv : Value}
    (hr : G_L_law.1 pc = some (.invokevirtual i, 3, v, t)) (hf : mjfind G_L_law.2.2.1 i = some (0, 6, 2, 0, 0, Sp)) (hh : G_L_law.2.2.2.1 pc = e8) (hS0 : Nat.ble (mjcat S0) 8 = true) (hS : Sp (mw m) [.ref 0, .int x] = (P, none, some rv)) (hP : P) (hv : ∀ ad, mjv ad rv = rv) (k : T (pc + 3) L (rv :: S0) (LW c m) (55, 2945)) : T pc L (.int x :: .ref 47 :: S0) (LW c m) (55, 2945) := by
  refine law_go hT hr hf ?_
  refine mjcall_of (N := mw m) (as := [.ref 0, .int x]) (M1 := LW c m) ?_ ?_ ?_ hS hP ?_ ?_
  · rw [hh]
    show (true && (true && Nat.ble (mjcat S0) 8 && true && true && true && true && true)) = true
    rw [hS0]
    rfl
  · rw [hh]
    exact ext7
  · rw [hh]
    rfl
  · rfl
  · rw [hh]
    show T (pc + 3) L (mjv _ rv :: S0) _ _
    rw [hv]
    exact k
theorem lcall6_2 {Z : Option (Nat × (Nat → Int32))} {R : mjM → Option Value → Nat × Nat → Prop} {T : Nat → mjL → List Value → mjM → Nat × Nat → Prop} (hT : mjC G_L_law Z R T) {pc i : Nat} {v : Int32} {t : Nat} {L : mjL} {S0 : List Value} {x : Int32} {y : Int32} {c c' : CSt} {m : RSt} {Sp : mjSp} {P : Prop} {rv : Value}
    (hr : G_L_law.1 pc = some (.invokevirtual i, 3, v, t)) (hf : mjfind G_L_law.2.2.1 i = some (0, 5, 3, 0, 0, Sp)) (hh : G_L_law.2.2.2.1 pc = e47) (hS0 : Nat.ble (mjcat S0) 8 = true) (hS : Sp (xw c) [.ref 0, .int x, .int y] = (P, some (xw c'), some rv)) (hP : P) (h2 : hOk2 (cF c)) (h3 : hOk2 (cF c')) (hv : ∀ ad, mjv ad rv = rv) (k : T (pc + 3) L (rv :: S0) (LW c' m) (55, 2945)) : T pc L (.int y :: .int x :: .ref 0 :: S0) (LW c m) (55, 2945) := by
  refine law_go hT hr hf ?_
  refine mjcall_of (N := xw c) (as := [.ref 0, .int x, .int y]) (M1 := LW c' m) ?_ ?_ ?_ hS hP ?_ ?_
  · rw [hh]
    show (true && (true && Nat.ble (mjcat S0) 8 && true && true && true && true && true)) = true
    rw [hS0]
    rfl
  · rw [hh]
    exact ext6 h2
  · rw [hh]
    rfl
  · rw [hh]
    show (true, mjins e47 (LW c m) (xw c')) = _
    rw [ins6 h3]
  · rw [hh]
    show T (pc + 3) L (mjv _ rv :: S0) _ _
    rw [hv]
    exact k
theorem lcall7_2 {Z : Option (Nat × (Nat → Int32))} {R : mjM → Option Value → Nat × Nat → Prop} {T : Nat → mjL → List Value → mjM → Nat × Nat → Prop} (hT : mjC G_L_law Z R T) {pc i : Nat} {v : Int32} {t : Nat} {L : mjL} {S0 : List Value} {x : Int32} {y : Int32} {c : CSt} {m m' : RSt} {Sp : mjSp} {P : Prop} {rv : Value}
    (hr : G_L_law.1 pc = some (.invokevirtual i, 3, v, t)) (hf : mjfind G_L_law.2.2.1 i = some (0, 6, 3, 0, 0, Sp)) (hh : G_L_law.2.2.2.1 pc = e8) (hS0 : Nat.ble (mjcat S0) 8 = true) (hS : Sp (mw m) [.ref 0, .int x, .int y] = (P, some (mw m'), some rv)) (hP : P) (hv : ∀ ad, mjv ad rv = rv) (k : T (pc + 3) L (rv :: S0) (LW c m') (55, 2945)) : T pc L (.int y :: .int x :: .ref 47 :: S0) (LW c m) (55, 2945) := by
  refine law_go hT hr hf ?_
  refine mjcall_of (N := mw m) (as := [.ref 0, .int x, .int y]) (M1 := LW c m') ?_ ?_ ?_ hS hP ?_ ?_
  · rw [hh]
    show (true && (true && Nat.ble (mjcat S0) 8 && true && true && true && true && true)) = true
    rw [hS0]
    rfl
  · rw [hh]
    exact ext7
  · rw [hh]
    rfl
  · rw [hh]
    exact congrArg (Prod.mk true) ins7
  · rw [hh]
    show T (pc + 3) L (mjv _ rv :: S0) _ _
    rw [hv]
    exact k
theorem lcall7_2n {Z : Option (Nat × (Nat → Int32))} {R : mjM → Option Value → Nat × Nat → Prop} {T : Nat → mjL → List Value → mjM → Nat × Nat → Prop} (hT : mjC G_L_law Z R T) {pc i : Nat} {v : Int32} {t : Nat} {L : mjL} {S0 : List Value} {x : Int32} {y : Int32} {c : CSt} {m : RSt} {Sp : mjSp} {P : Prop} {rv : Value}
    (hr : G_L_law.1 pc = some (.invokevirtual i, 3, v, t)) (hf : mjfind G_L_law.2.2.1 i = some (0, 6, 3, 0, 0, Sp)) (hh : G_L_law.2.2.2.1 pc = e8) (hS0 : Nat.ble (mjcat S0) 8 = true) (hS : Sp (mw m) [.ref 0, .int x, .int y] = (P, none, some rv)) (hP : P) (hv : ∀ ad, mjv ad rv = rv) (k : T (pc + 3) L (rv :: S0) (LW c m) (55, 2945)) : T pc L (.int y :: .int x :: .ref 47 :: S0) (LW c m) (55, 2945) := by
  refine law_go hT hr hf ?_
  refine mjcall_of (N := mw m) (as := [.ref 0, .int x, .int y]) (M1 := LW c m) ?_ ?_ ?_ hS hP ?_ ?_
  · rw [hh]
    show (true && (true && Nat.ble (mjcat S0) 8 && true && true && true && true && true)) = true
    rw [hS0]
    rfl
  · rw [hh]
    exact ext7
  · rw [hh]
    rfl
  · rfl
  · rw [hh]
    show T (pc + 3) L (mjv _ rv :: S0) _ _
    rw [hv]
    exact k
