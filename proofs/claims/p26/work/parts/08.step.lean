/-! mj: every step -/
section MJS
variable {p : Program} {l : Launch} {e : Env} {R : Room} {s : State} {m : MethodId} {args : Array Value} {below : List Frame} {meth : Method} {c : Code} {Q : State → Prop} {D : va_G} {tc : Nat → ClassId} {ad0 : Nat → Nat} {n0 mc ms nL : Nat} {A : Nat → Prop} {H0 : Heap}
/-- a constant, by the tables -/
def mjconOK (own : String) (i : Nat) (x : Value) : Prop := match x with
  | .double x => Cond.constantDouble own i x ∈ mjW
  | .long x => Cond.constantLong own i x ∈ mjW
  | .int x => Cond.constant own i x ∈ mjW
  | _ => True
theorem mjfindr_mem : ∀ {l : List (Nat × Nat × mjSr)} {i : Nat} {q : Nat × mjSr}, mjfindr l i = some q → (i, q) ∈ l
  | [], i, q, h => by cases h
  | x :: l, i, q, h => by
    unfold mjfindr at h
    by_cases z : Nat.beq x.1 i = true
    · rw [z] at h
      have h1 : x.2 = q := Option.some.inj h
      rw [← h1, ← Nat.eq_of_beq_eq_true z]
      exact List.mem_cons_self
    · rw [Bool.not_eq_true] at z
      rw [z] at h
      exact List.mem_cons_of_mem _ (mjfindr_mem h)
/-- what is known of a method's tables -/
def mjG_ok (l : Launch) (R : Room) (cc : ByteArray) (own : String) (G : mjG) (meth : Method) (nL : Nat) : Prop :=
  (∀ pc row, G.1 pc = some row → mjrow G.2.2.2.2.1 cc pc row = true) ∧ (∀ i ci k tk, G.2.1 i = some (ci, k, tk) → mjfldOK own i ci k tk) ∧ (∀ q ∈ G.2.2.1, mjcallOK l R own q) ∧ (∀ i ci fs, G.2.2.2.2.2.1 i = some (ci, fs) → mjnewOK own i ci fs) ∧ (∀ i x, G.2.2.2.2.2.2.1 i = some x → mjconOK own i x) ∧ (G.2.2.2.2.2.2.2.2.1 ≤ R.cells ∧ G.2.2.2.2.2.2.2.2.2.1 ≤ R.slots) ∧ (G.2.2.2.2.2.2.2.2.2.2.1 = true → meth.name = "<init>") ∧ (0 < G.2.2.2.2.2.2.2.2.1 → Cond.arrayClass .int ∈ mjW ∧ Cond.arrayClass .char ∈ mjW ∧ ∀ pc i, G.1 pc = some i → ∀ k, i.1 = .anewarray k → Cond.classLink own k RX4 ∈ mjW) ∧ (∀ q ∈ G.2.2.2.2.2.2.2.2.2.2.2, mjcallOKr l R own q)
/-- the ends of a method -/
def mjRet (p : Program) (l : Launch) (e : Env) (R : Room) (s : State) (m : MethodId) (args : Array Value) (below : List Frame) (meth : Method) (c : Code) (Q : State → Prop) (D : va_G) (tc : Nat → ClassId) (ad0 : Nat → Nat) (n0 mc ms : Nat) (A : Nat → Prop) (H0 : Heap) (cc : ByteArray) (rt : Option FieldType) (rp : Instr → Bool) (Rr : mjM → Option Value → Nat × Nat → Prop) : Prop :=
  ∀ (M : mjM) (o : Option Value) (u : Nat × Nat) (ad : Nat → Nat) (H : Heap) (locs : List Loc) (ls : Array Slot) (pc : Nat) (ins : Instr), Rr M o u → (∀ i, (i < n0 ∨ 4000 < i) → ad i = ad0 i) → (mc = 0 → ad = ad0) → (u.1 ≤ mc ∧ u.2 ≤ ms) → va_P D vwCl (mjw tc ad M) H → va_D A (mjw tc ad M) → va_S A H0 H locs → decode cc pc = .ok (ins, 1) → rp ins = true →
    ((∃ x ty, ins = .ireturn ∧ o = some (.int x) ∧ rt = some ty ∧ narrow ty (.int x) = .int x) ∨ ((∃ x, ins = .dreturn ∧ o = some (.double x)) ∨ (∃ x, ins = .lreturn ∧ o = some (.long x))) ∨ (ins = .areturn ∧ ((∃ x, o = some (.ref x)) ∨ o = some .null)) ∨ (ins = .return_ ∧ o = none)) →
    W p l e R s m args below meth c H locs u.1 u.2 Q (F0 m pc ls ((o.map (mjv ad)).toList))
theorem mjfree_new {ad : Nat → Nat} {M : mjM} {q : Nat} {x : va_E} {tc : Nat → ClassId} (hM : M.all (mjqc (mjPf M.length)) = true) (hn : M.length < 4000) (hx : mje tc (va_up ad M.length q) x = mje tc ad x) : mjw tc (va_up ad M.length q) (M ++ [x]) = mjw tc ad M ++ [(q, mje tc ad x)] := by
  rw [mjw_app, mjw_congr tc (fun i hi => mjup_pf (ad := ad) (q := q) hn i hi) hM, hx]
  simp [va_up]
set_option maxHeartbeats 4000000 in
theorem mjs_sound {G : mjG} {Z : Option (Nat × (Nat → Int32))} {Rr : mjM → Option Value → Nat × Nat → Prop} {nx : Nat → mjL → List Value → mjM → Nat × Nat → Prop} {cc : ByteArray} {own : String} {ins : Instr} {len t pc : Nat} {v : Int32} {L : mjL} {S : List Value} {M : mjM} {u : Nat × Nat} {rp : Instr → Bool}
    (hx : p.tables.exec = Jvm.exec) (hb : c.code = cc) (hml : c.maxLocals = nL) (hown : s.vm.findClass own = some m.cls) (hts : ∀ w ∈ mjW, w.before args s = true) (hK : mjK D tc s) (hA : ∀ q, H0.size ≤ q → A q) (hmc : G.2.2.2.2.2.2.2.2.1 = mc) (hms : G.2.2.2.2.2.2.2.2.2.1 = ms)
    (hG : mjG_ok l R cc own G meth nL) (hZ : ∀ n f, Z = some (n, f) → ∃ b, ad0 4095 = b ∧ va_X b n f s H0 ∧ b < H0.size ∧ ¬ A b) (hRet : mjRet p l e R s m args below meth c Q D tc ad0 n0 mc ms A H0 cc G.2.2.2.2.2.2.2.1 rp Rr) (hrp : ∀ pc row, G.1 pc = some row → rp row.1 = true)
    (hnx : mjNx p l e R s m args below meth c Q D tc ad0 n0 mc ms A H0 nL nx) (hrow : mjrow G.2.2.2.2.1 cc pc (ins, len, v, t) = true) (hi : G.1 pc = some (ins, len, v, t)) (h : mjs G Z Rr nx ins v t pc L S M u) : mjT p l e R s m args below meth c Q D tc ad0 n0 mc ms A H0 nL pc L S M u := by
  obtain ⟨-, hfld, hcalls, hnew, hcon, hR, hini, harr, hcallr⟩ := hG
  have hRm : mc ≤ R.cells ∧ ms ≤ R.slots := ⟨by rw [← hmc]; exact hR.1, by rw [← hms]; exact hR.2⟩
  cases ins with
  | invokevirtual i =>
    have hd : decode cc pc = .ok (.invokevirtual i, 3) := mjr1 hrow
    obtain ⟨⟨k, vc, na, cm, sm, Sp⟩, hf, h⟩ := mjo_inv h
    obtain ⟨hk, h⟩ := mjb_inv h
    have hk := Nat.eq_of_beq_eq_true hk
    subst hk
    exact mjcallV hx hb hml hown hts hK hA hRm hmc hms hnx (hcalls _ (mjfind_mem hf)) hd h
  | invokestatic i =>
    have hd : decode cc pc = .ok (.invokestatic i, 3) := mjr1 hrow
    cases hfr : mjfindr G.2.2.2.2.2.2.2.2.2.2.2 i with
    | some q0 =>
      have h0 : mjcallr G nx q0 pc L S M u := by
        simp only [mjs, hfr] at h
        exact h
      exact mjcallR hx hb hml hown hts hK hA hRm hmc hms hnx (hcallr _ (mjfindr_mem hfr)) hd h0
    | none =>
    simp only [mjs, hfr] at h
    obtain ⟨⟨k, vc, na, cm, sm, Sp⟩, hf, h⟩ := mjo_inv h
    have hq := hcalls _ (mjfind_mem hf)
    match k, h, hq with
    | 6, h, hq =>
      have h00 : mjir S (fun k a S' => bif Nat.beq a 4095 then mjo Z fun z => ((¬ k < 0) ∧ z.1 < 2147483648) ∧ mjb (Nat.ble (mjcat S') 8) (nx (pc + 3) L (.int (lotV z.1 z.2 k) :: S') M u) else False) := h
      obtain ⟨k0, a0, S', rfl, hh⟩ := mjir_inv h00
      cases ha : Nat.beq a0 4095 with
      | false => rw [ha] at hh; exact hh.elim
      | true =>
        have ha0 := Nat.eq_of_beq_eq_true ha
        subst ha0
        have h0 : mjo Z (fun z => ((¬ k0 < 0) ∧ z.1 < 2147483648) ∧ mjb (Nat.ble (mjcat S') 8) (nx (pc + 3) L (.int (lotV z.1 z.2 k0) :: S') M u)) := hh
        obtain ⟨⟨zn, zf⟩, hz, ⟨hk0, hn0⟩, h1⟩ := mjo_inv h0
        obtain ⟨h8, h1⟩ := mjb_inv h1
        obtain ⟨b, hb0, hX, hbl, hbA⟩ := hZ zn zf hz
        exact mjcallL (G := G) hx hb hml hown hts hK hA hRm hnx hq hd hX hbl hbA hb0 hk0 hn0 (Nat.le_of_ble_eq_true h8) h1
    | 1, h, hq => exact mjcallS hx hb hml hown hts hK hA hRm hmc hms hnx hq hd h
    | 4, h, hq =>
      intro ad H locs ls hag hmz hn0 hM4 hu hL hP hD hS
      obtain ⟨n, dp, a1, sp, a0, S', rfl, h⟩ := mjiriri_inv h
      obtain ⟨n0', f, hm0, h⟩ := mjA_inv h
      obtain ⟨n1, g, hm1, h⟩ := mjA_inv h
      obtain ⟨⟨c1, c2, c3, c4, c5⟩, h⟩ := h
      obtain ⟨hc8, h⟩ := mjb_inv h
      have hc8 := Nat.le_of_ble_eq_true hc8
      obtain ⟨q1, q2, q3, q4, q5, q6⟩ := hq
      refine va_copyi hx hb (by rw [hml]; exact hL.2.1.symm) hown (hts _ q1) (hts _ q2) (hts _ q3) (hts _ q4) hK.1 hP hD hS a0 a1 0 0 (mjw_at hm0) (mjw_at hm1) rfl rfl rfl c1 c2 c3 c4 c5 (fun _ _ => rfl) q5 (by rw [mjcat_sum]; omega) hd (fun H1 locs1 hP1 hD1 hS1 => ?_)
      refine hnx _ _ _ _ _ h ad H1 locs1 ls hag hmz (by rw [List.length_set]; exact hn0) (by rw [List.length_set]; exact hM4) hu hL ?_ ?_ hS1
      · rw [mjw_set]; exact hP1
      · rw [mjw_set]; exact hD1
    | 0, h, _ => exact h.elim
    | 2, h, _ => exact h.elim
    | 3, h, _ => exact h.elim
    | 5, h, _ => exact h.elim
    | k + 7, h, _ => exact h.elim
  | invokespecial i =>
    have hd : decode cc pc = .ok (.invokespecial i, 3) := mjr1 hrow
    obtain ⟨⟨k, vc, na, cm, sm, Sp⟩, hf, h⟩ := mjo_inv h
    have hq := hcalls _ (mjfind_mem hf)
    match k, h, hq with
    | 2, h, hq => exact mjcallI hx hb hml hown hts hK hA hRm hmc hms hnx hq hd h
    | 5, h, hq => exact mjcallIN hx hb hml hown hts hK hA hRm hmc hms hnx hq hd h
    | 3, h, hq =>
      intro ad H locs ls hag hmz hn0 hM4 hu hL hP hD hS
      obtain ⟨a, S', rfl, h⟩ := mjr_inv h
      obtain ⟨hc8, h⟩ := mjb_inv h
      have hc8 := Nat.le_of_ble_eq_true hc8
      obtain ⟨q1, q2, q3, q4, q5⟩ := hq
      have hz : (F0 m pc ls (Value.ref (ad a) :: S'.map (mjv ad))).monitorRoom = 0 := rfl
      refine W.objInit hx hb hown (hts _ q1) (hts _ q2) (hts _ q3) rfl (by rw [hml]; exact hL.2.1) rfl hd q4 (by
        rw [mjcat_sum]
        have : 2 * (F0 m pc ls (List.map (mjv ad) (Value.ref a :: S'))).monitorRoom = 0 := by rfl
        omega) ?_
      exact hnx _ _ _ _ _ h ad H locs ls hag hmz hn0 hM4 hu hL hP hD hS
    | 0, h, _ => exact h.elim
    | 1, h, _ => exact h.elim
    | 4, h, _ => exact h.elim
    | k + 6, h, _ => exact h.elim
  | iconst n =>
    intro ad H locs ls hag hmz hn0 hM4 hu hL hP hD hS
    obtain ⟨hd, hv⟩ : decode cc pc = .ok (.iconst n, 1) ∧ _ := mjr2 hrow
    exact lv_iconst hx hb hd hv (hnx _ _ _ _ _ h ad H locs ls hag hmz hn0 hM4 hu hL hP hD hS)
  | bipush n =>
    intro ad H locs ls hag hmz hn0 hM4 hu hL hP hD hS
    obtain ⟨hd, hv⟩ : decode cc pc = .ok (.bipush n, 2) ∧ _ := mjr2 hrow
    exact lv_bipush hx hb hd hv (hnx _ _ _ _ _ h ad H locs ls hag hmz hn0 hM4 hu hL hP hD hS)
  | sipush n =>
    intro ad H locs ls hag hmz hn0 hM4 hu hL hP hD hS
    obtain ⟨hd, hv⟩ : decode cc pc = .ok (.sipush n, 3) ∧ _ := mjr2 hrow
    exact lv_sipush hx hb hd hv (hnx _ _ _ _ _ h ad H locs ls hag hmz hn0 hM4 hu hL hP hD hS)
  | iload i =>
    intro ad H locs ls hag hmz hn0 hM4 hu hL hP hD hS
    have hd : decode cc pc = .ok (.iload i, 2) := mjr1 hrow
    obtain ⟨x, S', e1, h⟩ := mji_inv h
    exact lv_iload hx hb hd (mjlv_get hL (mjtol e1)) (hnx _ _ _ _ _ h ad H locs ls hag hmz hn0 hM4 hu hL hP hD hS)
  | iload_n i =>
    intro ad H locs ls hag hmz hn0 hM4 hu hL hP hD hS
    have hd : decode cc pc = .ok (.iload_n i, 1) := mjr1 hrow
    obtain ⟨x, S', e1, h⟩ := mji_inv h
    exact lv_iload_n hx hb hd rfl (mjlv_get hL (mjtol e1)) (hnx _ _ _ _ _ h ad H locs ls hag hmz hn0 hM4 hu hL hP hD hS)
  | dload i =>
    intro ad H locs ls hag hmz hn0 hM4 hu hL hP hD hS
    have hd : decode cc pc = .ok (.dload i, 2) := mjr1 hrow
    obtain ⟨x, S', e1, h⟩ := mjd_inv h
    exact lv_dload hx hb hd (mjlv_get hL (mjtol e1)) (hnx _ _ _ _ _ h ad H locs ls hag hmz hn0 hM4 hu hL hP hD hS)
  | dload_n i =>
    intro ad H locs ls hag hmz hn0 hM4 hu hL hP hD hS
    have hd : decode cc pc = .ok (.dload_n i, 1) := mjr1 hrow
    obtain ⟨x, S', e1, h⟩ := mjd_inv h
    exact lv_dload_n hx hb hd rfl (mjlv_get hL (mjtol e1)) (hnx _ _ _ _ _ h ad H locs ls hag hmz hn0 hM4 hu hL hP hD hS)
  | aload i =>
    intro ad H locs ls hag hmz hn0 hM4 hu hL hP hD hS
    have hd : decode cc pc = .ok (.aload i, 2) := mjr1 hrow
    have h0 : mjrn (mjlg L i).toList (fun x _ _ => nx (pc + 2) L (x :: S) M u) := h
    rcases mjrn_inv h0 with ⟨x, S', e1, h⟩ | ⟨S', e1, h⟩
    · exact lv_aload hx hb hd (mjlv_get hL (mjtol e1)) (hnx _ _ _ _ _ h ad H locs ls hag hmz hn0 hM4 hu hL hP hD hS)
    · exact lv_aloadN hx hb hd (mjlv_get hL (mjtol e1)) (hnx _ _ _ _ _ h ad H locs ls hag hmz hn0 hM4 hu hL hP hD hS)
  | aload_n i =>
    intro ad H locs ls hag hmz hn0 hM4 hu hL hP hD hS
    have hd : decode cc pc = .ok (.aload_n i, 1) := mjr1 hrow
    have h0 : mjrn (mjlg L i.val).toList (fun x _ _ => nx (pc + 1) L (x :: S) M u) := h
    rcases mjrn_inv h0 with ⟨x, S', e1, h⟩ | ⟨S', e1, h⟩
    · exact lv_aload_n hx hb hd rfl (mjlv_get hL (mjtol e1)) (hnx _ _ _ _ _ h ad H locs ls hag hmz hn0 hM4 hu hL hP hD hS)
    · exact lv_aload_nN hx hb hd rfl (mjlv_get hL (mjtol e1)) (hnx _ _ _ _ _ h ad H locs ls hag hmz hn0 hM4 hu hL hP hD hS)
  | istore i =>
    intro ad H locs ls hag hmz hn0 hM4 hu hL hP hD hS
    have hd : decode cc pc = .ok (.istore i, 2) := mjr1 hrow
    obtain ⟨x, S', rfl, h⟩ := mji_inv h
    obtain ⟨hb1, h⟩ := mjb_inv h
    exact lv_istore hx hb hd hL.2 (by rw [← hL.1]; exact Nat.le_of_ble_eq_true hb1) rfl (fun ls' h' => hnx _ _ _ _ _ h ad H locs ls' hag hmz hn0 hM4 hu (mjlv_put (v := .int x) hL h') hP hD hS)
  | istore_n i =>
    intro ad H locs ls hag hmz hn0 hM4 hu hL hP hD hS
    have hd : decode cc pc = .ok (.istore_n i, 1) := mjr1 hrow
    obtain ⟨x, S', rfl, h⟩ := mji_inv h
    obtain ⟨hb1, h⟩ := mjb_inv h
    exact lv_istore_n hx hb hd rfl hL.2 (by rw [← hL.1]; exact Nat.le_of_ble_eq_true hb1) rfl (fun ls' h' => hnx _ _ _ _ _ h ad H locs ls' hag hmz hn0 hM4 hu (mjlv_put (v := .int x) hL h') hP hD hS)
  | dstore i =>
    intro ad H locs ls hag hmz hn0 hM4 hu hL hP hD hS
    have hd : decode cc pc = .ok (.dstore i, 2) := mjr1 hrow
    obtain ⟨x, S', rfl, h⟩ := mjd_inv h
    obtain ⟨hb1, h⟩ := mjb_inv h
    exact lv_dstore hx hb hd hL.2 (by rw [← hL.1]; exact Nat.le_of_ble_eq_true hb1) rfl (fun ls' h' => hnx _ _ _ _ _ h ad H locs ls' hag hmz hn0 hM4 hu (mjlv_put2 (v := .double x) hL h') hP hD hS)
  | dstore_n i =>
    intro ad H locs ls hag hmz hn0 hM4 hu hL hP hD hS
    have hd : decode cc pc = .ok (.dstore_n i, 1) := mjr1 hrow
    obtain ⟨x, S', rfl, h⟩ := mjd_inv h
    obtain ⟨hb1, h⟩ := mjb_inv h
    exact lv_dstore_n hx hb hd rfl hL.2 (by rw [← hL.1]; exact Nat.le_of_ble_eq_true hb1) rfl (fun ls' h' => hnx _ _ _ _ _ h ad H locs ls' hag hmz hn0 hM4 hu (mjlv_put2 (v := .double x) hL h') hP hD hS)
  | astore i =>
    intro ad H locs ls hag hmz hn0 hM4 hu hL hP hD hS
    have hd : decode cc pc = .ok (.astore i, 2) := mjr1 hrow
    have h0 : mjrn S (fun x _ S' => mjb (Nat.ble (i + 1) L.length) (nx (pc + 2) (mjlp L i x) S' M u)) := h
    rcases mjrn_inv h0 with ⟨x, S', rfl, h1⟩ | ⟨S', rfl, h1⟩
    · obtain ⟨hb1, h2⟩ := mjb_inv h1
      exact lv_astore hx hb hd hL.2 (by rw [← hL.1]; exact Nat.le_of_ble_eq_true hb1) rfl (fun ls' h' => hnx _ _ _ _ _ h2 ad H locs ls' hag hmz hn0 hM4 hu (mjlv_put (v := .ref x) hL h') hP hD hS)
    · obtain ⟨hb1, h2⟩ := mjb_inv h1
      exact lv_astoreN hx hb hd hL.2 (by rw [← hL.1]; exact Nat.le_of_ble_eq_true hb1) rfl (fun ls' h' => hnx _ _ _ _ _ h2 ad H locs ls' hag hmz hn0 hM4 hu (mjlv_put (v := .null) hL h') hP hD hS)
  | astore_n i =>
    intro ad H locs ls hag hmz hn0 hM4 hu hL hP hD hS
    have hd : decode cc pc = .ok (.astore_n i, 1) := mjr1 hrow
    have h0 : mjrn S (fun x _ S' => mjb (Nat.ble (i.val + 1) L.length) (nx (pc + 1) (mjlp L i.val x) S' M u)) := h
    rcases mjrn_inv h0 with ⟨x, S', rfl, h1⟩ | ⟨S', rfl, h1⟩
    · obtain ⟨hb1, h2⟩ := mjb_inv h1
      exact lv_astore_n hx hb hd rfl hL.2 (by rw [← hL.1]; exact Nat.le_of_ble_eq_true hb1) rfl (fun ls' h' => hnx _ _ _ _ _ h2 ad H locs ls' hag hmz hn0 hM4 hu (mjlv_put (v := .ref x) hL h') hP hD hS)
    · obtain ⟨hb1, h2⟩ := mjb_inv h1
      exact lv_astore_nN hx hb hd rfl hL.2 (by rw [← hL.1]; exact Nat.le_of_ble_eq_true hb1) rfl (fun ls' h' => hnx _ _ _ _ _ h2 ad H locs ls' hag hmz hn0 hM4 hu (mjlv_put (v := .null) hL h') hP hD hS)
  | iinc i n =>
    intro ad H locs ls hag hmz hn0 hM4 hu hL hP hD hS
    obtain ⟨hd, hv⟩ : decode cc pc = .ok (.iinc i n, 3) ∧ Int32.ofInt n = v := mjr2 hrow
    obtain ⟨x, S', e1, h⟩ := mji_inv h
    obtain ⟨k, hk⟩ := List.getElem?_of_mem (mjpr_mem (ad := ad).mpr ⟨.int x, mjtol e1, rfl⟩ : ((i, .int x) : Nat × Value) ∈ mjpr ad L)
    have hin : i < nL := by
      have := (List.getElem?_eq_some_iff.mp (mjlg_some.mp (mjtol e1))).1
      rw [hL.1] at this
      exact this
    exact lv_iinc hx hb hd hL.2 hk (v := x + v) (by rw [hv]) hin rfl (fun ls' h' => hnx _ _ _ _ _ h ad H locs ls' hag hmz hn0 hM4 hu (mjlv_put (v := .int (x + v)) hL h') hP hD hS)
  | iadd =>
    intro ad H locs ls hag hmz hn0 hM4 hu hL hP hD hS
    have hd : decode cc pc = .ok (.iadd, 1) := mjr1 hrow
    obtain ⟨y, x, S', rfl, h⟩ := mjii_inv h
    exact lv_iadd hx hb hd (hnx _ _ _ _ _ h ad H locs ls hag hmz hn0 hM4 hu hL hP hD hS)
  | isub =>
    intro ad H locs ls hag hmz hn0 hM4 hu hL hP hD hS
    have hd : decode cc pc = .ok (.isub, 1) := mjr1 hrow
    obtain ⟨y, x, S', rfl, h⟩ := mjii_inv h
    exact lv_isub hx hb hd (hnx _ _ _ _ _ h ad H locs ls hag hmz hn0 hM4 hu hL hP hD hS)
  | imul =>
    intro ad H locs ls hag hmz hn0 hM4 hu hL hP hD hS
    have hd : decode cc pc = .ok (.imul, 1) := mjr1 hrow
    obtain ⟨y, x, S', rfl, h⟩ := mjii_inv h
    exact lv_imul hx hb hd (hnx _ _ _ _ _ h ad H locs ls hag hmz hn0 hM4 hu hL hP hD hS)
  | iand =>
    intro ad H locs ls hag hmz hn0 hM4 hu hL hP hD hS
    have hd : decode cc pc = .ok (.iand, 1) := mjr1 hrow
    obtain ⟨y, x, S', rfl, h⟩ := mjii_inv h
    exact lv_iand hx hb hd (hnx _ _ _ _ _ h ad H locs ls hag hmz hn0 hM4 hu hL hP hD hS)
  | idiv =>
    intro ad H locs ls hag hmz hn0 hM4 hu hL hP hD hS
    have hd : decode cc pc = .ok (.idiv, 1) := mjr1 hrow
    obtain ⟨y, x, S', rfl, h⟩ := mjii_inv h
    obtain ⟨hy, h⟩ := mjb_inv h
    exact lv_idiv hx hb hd (by simpa using hy) (hnx _ _ _ _ _ h ad H locs ls hag hmz hn0 hM4 hu hL hP hD hS)
  | irem =>
    intro ad H locs ls hag hmz hn0 hM4 hu hL hP hD hS
    have hd : decode cc pc = .ok (.irem, 1) := mjr1 hrow
    obtain ⟨y, x, S', rfl, h⟩ := mjii_inv h
    obtain ⟨hy, h⟩ := mjb_inv h
    exact lv_irem hx hb hd (by simpa using hy) (hnx _ _ _ _ _ h ad H locs ls hag hmz hn0 hM4 hu hL hP hD hS)
  | ineg =>
    intro ad H locs ls hag hmz hn0 hM4 hu hL hP hD hS
    have hd : decode cc pc = .ok (.ineg, 1) := mjr1 hrow
    obtain ⟨x, S', rfl, h⟩ := mji_inv h
    exact lv_ineg hx hb hd (hnx _ _ _ _ _ h ad H locs ls hag hmz hn0 hM4 hu hL hP hD hS)
  | i2c =>
    intro ad H locs ls hag hmz hn0 hM4 hu hL hP hD hS
    have hd : decode cc pc = .ok (.i2c, 1) := mjr1 hrow
    obtain ⟨x, S', rfl, h⟩ := mji_inv h
    exact lv_i2c hx hb hd rfl (hnx _ _ _ _ _ h ad H locs ls hag hmz hn0 hM4 hu hL hP hD hS)
  | i2d =>
    intro ad H locs ls hag hmz hn0 hM4 hu hL hP hD hS
    have hd : decode cc pc = .ok (.i2d, 1) := mjr1 hrow
    obtain ⟨x, S', rfl, h⟩ := mji_inv h
    exact lv_i2d hx hb hd (hnx _ _ _ _ _ h ad H locs ls hag hmz hn0 hM4 hu hL hP hD hS)
  | dadd =>
    intro ad H locs ls hag hmz hn0 hM4 hu hL hP hD hS
    have hd : decode cc pc = .ok (.dadd, 1) := mjr1 hrow
    obtain ⟨y, x, S', rfl, h⟩ := mjdd_inv h
    exact lv_dadd hx hb hd h.1 (hnx _ _ _ _ _ h.2 ad H locs ls hag hmz hn0 hM4 hu hL hP hD hS)
  | ddiv =>
    intro ad H locs ls hag hmz hn0 hM4 hu hL hP hD hS
    have hd : decode cc pc = .ok (.ddiv, 1) := mjr1 hrow
    obtain ⟨y, x, S', rfl, h⟩ := mjdd_inv h
    exact lv_ddiv hx hb hd h.1 (hnx _ _ _ _ _ h.2 ad H locs ls hag hmz hn0 hM4 hu hL hP hD hS)
  | dcmp o =>
    intro ad H locs ls hag hmz hn0 hM4 hu hL hP hD hS
    have hd : decode cc pc = .ok (.dcmp o, 1) := mjr1 hrow
    obtain ⟨y, x, S', rfl, h⟩ := mjdd_inv h
    exact lv_dcmp hx hb hd (hnx _ _ _ _ _ h ad H locs ls hag hmz hn0 hM4 hu hL hP hD hS)
  | dconst d =>
    intro ad H locs ls hag hmz hn0 hM4 hu hL hP hD hS
    obtain ⟨hd0, h⟩ := mjb_inv h
    have hdv := Nat.eq_of_beq_eq_true hd0
    have hd : decode cc pc = .ok (.dconst 0, 1) := by
      have hd1 : decode cc pc = .ok (.dconst d, 1) := mjr1 hrow
      rw [hd1, show d = 0 from Fin.ext hdv]
    exact lv_dconst0 hx hb hd (hnx _ _ _ _ _ h ad H locs ls hag hmz hn0 hM4 hu hL hP hD hS)
  | ldc2_w i =>
    intro ad H locs ls hag hmz hn0 hM4 hu hL hP hD hS
    have hd : decode cc pc = .ok (.ldc2_w i, 3) := mjr1 hrow
    obtain ⟨x, hc, h⟩ := mjo_inv h
    have hc2 := hcon i x hc
    cases x with
    | double x => exact lv_ldc2d hx hb hown (hts _ hc2) hd (hnx _ _ _ _ _ h ad H locs ls hag hmz hn0 hM4 hu hL hP hD hS)
    | long x => exact lv_ldc2 hx hb hown (hts _ hc2) hd (hnx _ _ _ _ _ h ad H locs ls hag hmz hn0 hM4 hu hL hP hD hS)
    | _ => exact h.elim
  | ldc i =>
    intro ad H locs ls hag hmz hn0 hM4 hu hL hP hD hS
    have hd : decode cc pc = .ok (.ldc i, 2) := mjr1 hrow
    obtain ⟨x, hc, h⟩ := mjo_inv h
    have hc2 := hcon i x hc
    cases x with
    | int x => exact lv_ldc hx hb hown (hts _ hc2) hd (hnx _ _ _ _ _ h ad H locs ls hag hmz hn0 hM4 hu hL hP hD hS)
    | _ => exact h.elim
  | ishr =>
    intro ad H locs ls hag hmz hn0 hM4 hu hL hP hD hS
    have hd : decode cc pc = .ok (.ishr, 1) := mjr1 hrow
    obtain ⟨y, x, S', rfl, h⟩ := mjii_inv h
    exact lv_ishr hx hb hd (hnx _ _ _ _ _ h ad H locs ls hag hmz hn0 hM4 hu hL hP hD hS)
  | i2l =>
    intro ad H locs ls hag hmz hn0 hM4 hu hL hP hD hS
    have hd : decode cc pc = .ok (.i2l, 1) := mjr1 hrow
    obtain ⟨x, S', rfl, h⟩ := mji_inv h
    exact lv_i2l hx hb hd rfl (hnx _ _ _ _ _ h ad H locs ls hag hmz hn0 hM4 hu hL hP hD hS)
  | ladd =>
    intro ad H locs ls hag hmz hn0 hM4 hu hL hP hD hS
    have hd : decode cc pc = .ok (.ladd, 1) := mjr1 hrow
    obtain ⟨y, x, S', rfl, h⟩ := mjll_inv h
    exact lv_ladd hx hb hd (hnx _ _ _ _ _ h ad H locs ls hag hmz hn0 hM4 hu hL hP hD hS)
  | lmul =>
    intro ad H locs ls hag hmz hn0 hM4 hu hL hP hD hS
    have hd : decode cc pc = .ok (.lmul, 1) := mjr1 hrow
    obtain ⟨y, x, S', rfl, h⟩ := mjll_inv h
    exact lv_lmul hx hb hd (hnx _ _ _ _ _ h ad H locs ls hag hmz hn0 hM4 hu hL hP hD hS)
  | lcmp =>
    intro ad H locs ls hag hmz hn0 hM4 hu hL hP hD hS
    have hd : decode cc pc = .ok (.lcmp, 1) := mjr1 hrow
    obtain ⟨y, x, S', rfl, h⟩ := mjll_inv h
    exact W.lcmp hx hb hd (hnx _ _ _ _ _ h ad H locs ls hag hmz hn0 hM4 hu hL hP hD hS)
  | lload i =>
    intro ad H locs ls hag hmz hn0 hM4 hu hL hP hD hS
    have hd : decode cc pc = .ok (.lload i, 2) := mjr1 hrow
    obtain ⟨x, S', e1, h⟩ := mjl_inv h
    exact lv_lload hx hb hd (mjlv_get hL (mjtol e1)) (hnx _ _ _ _ _ h ad H locs ls hag hmz hn0 hM4 hu hL hP hD hS)
  | lload_n i =>
    intro ad H locs ls hag hmz hn0 hM4 hu hL hP hD hS
    have hd : decode cc pc = .ok (.lload_n i, 1) := mjr1 hrow
    obtain ⟨x, S', e1, h⟩ := mjl_inv h
    exact lv_lload_n hx hb hd rfl (mjlv_get hL (mjtol e1)) (hnx _ _ _ _ _ h ad H locs ls hag hmz hn0 hM4 hu hL hP hD hS)
  | lstore i =>
    intro ad H locs ls hag hmz hn0 hM4 hu hL hP hD hS
    have hd : decode cc pc = .ok (.lstore i, 2) := mjr1 hrow
    obtain ⟨x, S', rfl, h⟩ := mjl_inv h
    obtain ⟨hb1, h⟩ := mjb_inv h
    exact lv_lstore hx hb hd hL.2 (by rw [← hL.1]; exact Nat.le_of_ble_eq_true hb1) rfl (fun ls' h' => hnx _ _ _ _ _ h ad H locs ls' hag hmz hn0 hM4 hu (mjlv_put2 (v := .long x) hL h') hP hD hS)
  | lstore_n i =>
    intro ad H locs ls hag hmz hn0 hM4 hu hL hP hD hS
    have hd : decode cc pc = .ok (.lstore_n i, 1) := mjr1 hrow
    obtain ⟨x, S', rfl, h⟩ := mjl_inv h
    obtain ⟨hb1, h⟩ := mjb_inv h
    exact lv_lstore_n hx hb hd rfl hL.2 (by rw [← hL.1]; exact Nat.le_of_ble_eq_true hb1) rfl (fun ls' h' => hnx _ _ _ _ _ h ad H locs ls' hag hmz hn0 hM4 hu (mjlv_put2 (v := .long x) hL h') hP hD hS)
  | lreturn =>
    intro ad H locs ls hag hmz hn0 hM4 hu hL hP hD hS
    have hd : decode cc pc = .ok (.lreturn, 1) := mjr1 hrow
    obtain ⟨x, S', rfl, h⟩ := mjl_inv h
    obtain ⟨rfl, h⟩ := mjno_inv h
    exact hRet M (some (.long x)) u ad H locs ls pc .lreturn h hag hmz hu hP hD hS hd (hrp pc _ hi) (Or.inr (Or.inl (Or.inr ⟨x, rfl, rfl⟩)))
  | dup =>
    intro ad H locs ls hag hmz hn0 hM4 hu hL hP hD hS
    have hd : decode cc pc = .ok (.dup, 1) := mjr1 hrow
    have h0 : mjan S (fun x S' => nx (pc + 1) L (x :: x :: S') M u) := h
    obtain ⟨x, S', rfl, hc, h1⟩ := mjan_inv h0
    exact lv_dup hx hb hd (by rw [mjv_cat]; exact hc) (hnx _ _ _ _ _ h1 ad H locs ls hag hmz hn0 hM4 hu hL hP hD hS)
  | dup2 =>
    intro ad H locs ls hag hmz hn0 hM4 hu hL hP hD hS
    have hd : decode cc pc = .ok (.dup2, 1) := mjr1 hrow
    have h0 : mji S (fun x S' => mjan S' fun y S' => nx (pc + 1) L (.int x :: y :: .int x :: y :: S') M u) := h
    obtain ⟨x, S1, rfl, h1⟩ := mji_inv h0
    obtain ⟨y, S', rfl, hc, h2⟩ := mjan_inv h1
    exact lv_dup2_11 (va := .int x) (vb := mjv ad y) hx hb hd rfl (by rw [mjv_cat]; exact hc) (hnx _ _ _ _ _ h2 ad H locs ls hag hmz hn0 hM4 hu hL hP hD hS)
  | pop =>
    intro ad H locs ls hag hmz hn0 hM4 hu hL hP hD hS
    have hd : decode cc pc = .ok (.pop, 1) := mjr1 hrow
    have h0 : mjan S (fun _ S' => nx (pc + 1) L S' M u) := h
    obtain ⟨x, S', rfl, hc, h1⟩ := mjan_inv h0
    exact lv_pop hx hb hd (by rw [mjv_cat]; exact hc) (hnx _ _ _ _ _ h1 ad H locs ls hag hmz hn0 hM4 hu hL hP hD hS)
  | aconst_null =>
    intro ad H locs ls hag hmz hn0 hM4 hu hL hP hD hS
    have hd : decode cc pc = .ok (.aconst_null, 1) := mjr1 hrow
    exact lv_null hx hb hd (hnx _ _ _ _ _ h ad H locs ls hag hmz hn0 hM4 hu hL hP hD hS)
  | goto o =>
    intro ad H locs ls hag hmz hn0 hM4 hu hL hP hD hS
    obtain ⟨hd, ht⟩ : decode cc pc = .ok (.goto o, 3) ∧ (pc : Int) + o = (t : Int) := mjr2 hrow
    exact lv_goto hx hb hd ht (hnx _ _ _ _ _ h ad H locs ls hag hmz hn0 hM4 hu hL hP hD hS)
  | ifCond o off =>
    intro ad H locs ls hag hmz hn0 hM4 hu hL hP hD hS
    obtain ⟨hd, ht⟩ : decode cc pc = .ok (.ifCond o off, 3) ∧ (pc : Int) + off = (t : Int) := mjr2 hrow
    obtain ⟨x, S', rfl, h⟩ := mji_inv h
    cases o with
    | eq => exact lv_if_eq hx hb hd ht (fun q => hnx _ _ _ _ _ (h.1 q) ad H locs ls hag hmz hn0 hM4 hu hL hP hD hS) (fun q => hnx _ _ _ _ _ (h.2 q) ad H locs ls hag hmz hn0 hM4 hu hL hP hD hS)
    | ne => exact lv_if_ne hx hb hd ht (fun q => hnx _ _ _ _ _ (h.1 q) ad H locs ls hag hmz hn0 hM4 hu hL hP hD hS) (fun q => hnx _ _ _ _ _ (h.2 q) ad H locs ls hag hmz hn0 hM4 hu hL hP hD hS)
    | lt => exact lv_if_lt hx hb hd ht (fun q => hnx _ _ _ _ _ (h.1 q) ad H locs ls hag hmz hn0 hM4 hu hL hP hD hS) (fun q => hnx _ _ _ _ _ (h.2 q) ad H locs ls hag hmz hn0 hM4 hu hL hP hD hS)
    | ge => exact lv_if_ge hx hb hd ht (fun q => hnx _ _ _ _ _ (h.1 q) ad H locs ls hag hmz hn0 hM4 hu hL hP hD hS) (fun q => hnx _ _ _ _ _ (h.2 q) ad H locs ls hag hmz hn0 hM4 hu hL hP hD hS)
    | gt => exact lv_if_gt hx hb hd ht (fun q => hnx _ _ _ _ _ (h.1 q) ad H locs ls hag hmz hn0 hM4 hu hL hP hD hS) (fun q => hnx _ _ _ _ _ (h.2 q) ad H locs ls hag hmz hn0 hM4 hu hL hP hD hS)
    | le => exact lv_if_le hx hb hd ht (fun q => hnx _ _ _ _ _ (h.1 q) ad H locs ls hag hmz hn0 hM4 hu hL hP hD hS) (fun q => hnx _ _ _ _ _ (h.2 q) ad H locs ls hag hmz hn0 hM4 hu hL hP hD hS)
  | if_icmp o off =>
    intro ad H locs ls hag hmz hn0 hM4 hu hL hP hD hS
    obtain ⟨hd, ht⟩ : decode cc pc = .ok (.if_icmp o off, 3) ∧ (pc : Int) + off = (t : Int) := mjr2 hrow
    obtain ⟨y, x, S', rfl, h⟩ := mjii_inv h
    cases o with
    | eq => exact lv_icmp_eq hx hb hd ht (fun q => hnx _ _ _ _ _ (h.1 q) ad H locs ls hag hmz hn0 hM4 hu hL hP hD hS) (fun q => hnx _ _ _ _ _ (h.2 q) ad H locs ls hag hmz hn0 hM4 hu hL hP hD hS)
    | ne => exact lv_icmp_ne hx hb hd ht (fun q => hnx _ _ _ _ _ (h.1 q) ad H locs ls hag hmz hn0 hM4 hu hL hP hD hS) (fun q => hnx _ _ _ _ _ (h.2 q) ad H locs ls hag hmz hn0 hM4 hu hL hP hD hS)
    | lt => exact lv_icmp_lt hx hb hd ht (fun q => hnx _ _ _ _ _ (h.1 q) ad H locs ls hag hmz hn0 hM4 hu hL hP hD hS) (fun q => hnx _ _ _ _ _ (h.2 q) ad H locs ls hag hmz hn0 hM4 hu hL hP hD hS)
    | ge => exact lv_icmp_ge hx hb hd ht (fun q => hnx _ _ _ _ _ (h.1 q) ad H locs ls hag hmz hn0 hM4 hu hL hP hD hS) (fun q => hnx _ _ _ _ _ (h.2 q) ad H locs ls hag hmz hn0 hM4 hu hL hP hD hS)
    | gt => exact lv_icmp_gt hx hb hd ht (fun q => hnx _ _ _ _ _ (h.1 q) ad H locs ls hag hmz hn0 hM4 hu hL hP hD hS) (fun q => hnx _ _ _ _ _ (h.2 q) ad H locs ls hag hmz hn0 hM4 hu hL hP hD hS)
    | le => exact lv_icmp_le hx hb hd ht (fun q => hnx _ _ _ _ _ (h.1 q) ad H locs ls hag hmz hn0 hM4 hu hL hP hD hS) (fun q => hnx _ _ _ _ _ (h.2 q) ad H locs ls hag hmz hn0 hM4 hu hL hP hD hS)
  | ifnull off =>
    intro ad H locs ls hag hmz hn0 hM4 hu hL hP hD hS
    obtain ⟨hd, ht⟩ : decode cc pc = .ok (.ifnull off, 3) ∧ (pc : Int) + off = (t : Int) := mjr2 hrow
    have h0 : mjrn S (fun _ b S' => nx (bif b then pc + 3 else t) L S' M u) := h
    rcases mjrn_inv h0 with ⟨x, S', rfl, h1⟩ | ⟨S', rfl, h1⟩
    · exact lv_ifnull hx hb hd (hnx _ _ _ _ _ h1 ad H locs ls hag hmz hn0 hM4 hu hL hP hD hS)
    · exact lv_ifnullN hx hb hd ht (hnx _ _ _ _ _ h1 ad H locs ls hag hmz hn0 hM4 hu hL hP hD hS)
  | ifnonnull off =>
    intro ad H locs ls hag hmz hn0 hM4 hu hL hP hD hS
    obtain ⟨hd, ht⟩ : decode cc pc = .ok (.ifnonnull off, 3) ∧ (pc : Int) + off = (t : Int) := mjr2 hrow
    have h0 : mjrn S (fun _ b S' => nx (bif b then t else pc + 3) L S' M u) := h
    rcases mjrn_inv h0 with ⟨x, S', rfl, h1⟩ | ⟨S', rfl, h1⟩
    · exact lv_ifnonnull hx hb hd ht (hnx _ _ _ _ _ h1 ad H locs ls hag hmz hn0 hM4 hu hL hP hD hS)
    · exact lv_ifnonnullN hx hb hd (hnx _ _ _ _ _ h1 ad H locs ls hag hmz hn0 hM4 hu hL hP hD hS)
  | tableswitch d lo top os =>
    intro ad H locs ls hag hmz hn0 hM4 hu hL hP hD hS
    simp only [mjrow, Bool.and_eq_true, decide_eq_true_eq] at hrow
    obtain ⟨hd, ⟨⟨ht, hlo, hhi, hsz, hsm⟩, hlen⟩, hall⟩ := hrow
    obtain ⟨x, S', rfl, h⟩ := mji_inv h
    have row : ∀ i : Nat, i < os.size → ∃ (k : Int32) (tt : Nat) (o : Int), (G.2.2.2.2.1 pc)[i]? = some (k, tt) ∧ os[i]? = some o ∧ k.toInt = lo + (i : Int) ∧ (pc : Int) + o = (tt : Int) := by
      intro i hi
      have h1 := List.all_eq_true.mp hall i (List.mem_range.mpr hi)
      split at h1
      · rename_i k tt o g1 g2
        simp only [Bool.and_eq_true, decide_eq_true_eq] at h1
        exact ⟨k, tt, o, g1, g2, h1.1, h1.2⟩
      · cases h1
    rcases mjsw_inv h with ⟨i, k, tt, g1, -, rfl, h⟩ | ⟨g1, h⟩
    · have hil : i < os.size := by rw [← hlen]; exact (List.getElem?_eq_some_iff.mp g1).1
      obtain ⟨k', tt', o, g2, g3, g4, g5⟩ := row i hil
      rw [g1] at g2
      cases g2
      exact lv_tableIn hx hb hd (by omega) (by omega) (by rw [show (x.toInt - lo).toNat = i by omega]; exact g3) g5 (hnx _ _ _ _ _ h ad H locs ls hag hmz hn0 hM4 hu hL hP hD hS)
    · refine lv_tableOut hx hb hd ?_ ht (hnx _ _ _ _ _ h ad H locs ls hag hmz hn0 hM4 hu hL hP hD hS)
      by_cases z1 : x.toInt < lo
      · exact Or.inl z1
      · by_cases z2 : top < x.toInt
        · exact Or.inr z2
        · exfalso
          obtain ⟨k, tt, o, g2, g3, g4, g5⟩ := row (x.toInt - lo).toNat (by omega)
          exact g1 _ (List.mem_of_getElem? g2) (Int32.toInt_inj.mp (by show x.toInt = k.toInt; omega))
  | lookupswitch d ps =>
    intro ad H locs ls hag hmz hn0 hM4 hu hL hP hD hS
    simp only [mjrow, Bool.and_eq_true, decide_eq_true_eq] at hrow
    obtain ⟨hd, ⟨⟨ht, hord⟩, hlen⟩, hall⟩ := hrow
    obtain ⟨x, S', rfl, h⟩ := mji_inv h
    have row : ∀ i : Nat, i < ps.toList.length → ∃ (k : Int32) (tt : Nat) (a o : Int), (G.2.2.2.2.1 pc)[i]? = some (k, tt) ∧ ps.toList[i]? = some (a, o) ∧ k.toInt = a ∧ (pc : Int) + o = (tt : Int) := by
      intro i hi
      have h1 := List.all_eq_true.mp hall i (List.mem_range.mpr hi)
      split at h1
      · rename_i k tt a o g1 g2
        simp only [Bool.and_eq_true, decide_eq_true_eq] at h1
        exact ⟨k, tt, a, o, g1, g2, h1.1, h1.2⟩
      · cases h1
    rcases mjsw_inv h with ⟨i, k, tt, g1, gb, rfl, h⟩ | ⟨g1, h⟩
    · have hil : i < ps.toList.length := by rw [← hlen]; exact (List.getElem?_eq_some_iff.mp g1).1
      obtain ⟨k', tt', a, o, g2, g3, g4, g5⟩ := row i hil
      rw [g1] at g2
      cases g2
      refine lv_lookup hx hb hd (by simpa using hord) (mjlook g3 (fun j hj q hq z => ?_) g4.symm) g5 (hnx _ _ _ _ _ h ad H locs ls hag hmz hn0 hM4 hu hL hP hD hS)
      obtain ⟨k2, t2, a2, o2, e1, e2, e3, e4⟩ := row j (by omega)
      rw [hq] at e2
      cases e2
      exact gb j hj _ e1 (Int32.toInt_inj.mp (by show x.toInt = k2.toInt; omega))
    · refine lv_lookup hx hb hd (by simpa using hord) (mjlook_none (fun q hq z => ?_)) ht (hnx _ _ _ _ _ h ad H locs ls hag hmz hn0 hM4 hu hL hP hD hS)
      obtain ⟨j, hj⟩ := List.getElem?_of_mem hq
      obtain ⟨k2, t2, a2, o2, e1, e2, e3, e4⟩ := row j (List.getElem?_eq_some_iff.mp hj).1
      rw [hj] at e2
      cases e2
      exact g1 _ (List.mem_of_getElem? e1) (Int32.toInt_inj.mp (by show x.toInt = k2.toInt; omega))
  | getfield i =>
    intro ad H locs ls hag hmz hn0 hM4 hu hL hP hD hS
    have hd : decode cc pc = .ok (.getfield i, 3) := mjr1 hrow
    obtain ⟨a, S', rfl, h⟩ := mjr_inv h
    obtain ⟨⟨ci, k, tk⟩, hq, h⟩ := mjo_inv h
    obtain ⟨fs, hm, h⟩ := mjO_inv h
    obtain ⟨w, hw, h⟩ := mjo_inv h
    obtain ⟨C, T, N, ty, hc, hk, hin, hty, hnm, hlink, -⟩ := hfld i ci k tk hq
    have hw' : (fs.map (mjv ad))[k]? = some (mjv ad w) := by rw [List.getElem?_map, hw]; rfl
    rcases hlink with hlink | ⟨host, hlink⟩
    · exact va_get (D := D) (ci := ci) hx hb hts hin hown hK.1 hP a (mjw_at hm) hc k hk (hts _ hlink) (fun _ z => z) hw' hd (hnx _ _ _ _ _ h ad H locs ls hag hmz hn0 hM4 hu hL hP hD hS)
    · exact va_getN (D := D) (ci := ci) hx hb hts hin hown hK.1 hP a (mjw_at hm) hc k hk (va_Nw.use rfl (hK.2.1 _ hlink)) (fun _ z => z) hw' hd (hnx _ _ _ _ _ h ad H locs ls hag hmz hn0 hM4 hu hL hP hD hS)
  | putfield i =>
    intro ad H locs ls hag hmz hn0 hM4 hu hL hP hD hS
    have hd : decode cc pc = .ok (.putfield i, 3) := mjr1 hrow
    obtain ⟨w, a, S', rfl, h⟩ := mjtop_inv h
    obtain ⟨⟨ci, k, tk⟩, hq, h⟩ := mjo_inv h
    obtain ⟨fs, hm, h⟩ := mjO_inv h
    obtain ⟨hkl, h⟩ := mjb_inv h
    have hkl2 : k < (fs.map (mjv ad)).length := by rw [List.length_map]; exact Nat.le_of_ble_eq_true hkl
    obtain ⟨C, T, N, ty, hc, hk, hin, hty, hnm, hlink, hkind⟩ := hfld i ci k tk hq
    have put : ∀ (x : Value), w = x → (T k).2.2.2 = false → narrow (ty k) (mjv ad x) = mjv ad x → fits (ty k) (mjv ad x) = true → nx (pc + 3) L S' (M.set a (.inr (ci, fs.set k x))) u → W p l e R s m args below meth c H locs u.1 u.2 Q (F0 m pc ls ((w :: .ref a :: S').map (mjv ad))) := by
      intro x hwx hf hnar hfit h
      subst hwx
      rcases hlink with hlink | ⟨host, hlink⟩
      · exact va_put (D := D) (ci := ci) (v := mjv ad w) hx hb hts hin ty hty hnm hown hK.1 hP hD hS a (mjw_at hm) hc k hk (hts _ hlink) (fun _ z => z) hf (hty k hk) hnar hfit hkl2 hd (fun H1 locs1 hP1 hD1 hS1 => hnx _ _ _ _ _ h ad H1 locs1 ls hag hmz (by rw [List.length_set]; exact hn0) (by rw [List.length_set]; exact hM4) hu hL (by rw [mjw_setO]; exact hP1) (by rw [mjw_setO]; exact hD1) hS1)
      · exact va_putN (D := D) (ci := ci) (v := mjv ad w) hx hb hts hin ty hty hnm hown hK.1 hP hD hS a (mjw_at hm) hc k hk (va_Nw.use rfl (hK.2.1 _ hlink)) (fun _ z => z) hf (hty k hk) hnar hfit hkl2 hd (fun H1 locs1 hP1 hD1 hS1 => hnx _ _ _ _ _ h ad H1 locs1 ls hag hmz (by rw [List.length_set]; exact hn0) (by rw [List.length_set]; exact hM4) hu hL (by rw [mjw_setO]; exact hP1) (by rw [mjw_setO]; exact hD1) hS1)
    match tk, h, hkind with
    | 0, h, hkind =>
      obtain ⟨x, S2, e1, hgo⟩ := mji_inv h
      cases e1
      exact put (.int x) rfl hkind.2 (by rw [hkind.1]; rfl) (by rw [hkind.1]; rfl) hgo
    | 1, h, hkind =>
      obtain ⟨x, S2, e1, hx01, hgo⟩ := mji_inv h
      cases e1
      exact put (.int x) rfl hkind.2 (by rw [hkind.1]; rcases hx01 with rfl | rfl <;> rfl) (by rw [hkind.1]; rcases hx01 with rfl | rfl <;> rfl) hgo
    | 2, h, hkind =>
      obtain ⟨x, S2, e1, hgo⟩ := mjr_inv h
      cases e1
      exact put (.ref x) rfl hkind.2 (by rcases hkind.1 with ⟨z, hz⟩ | ⟨z, hz⟩ <;> (rw [hz]; rfl)) (by rcases hkind.1 with ⟨z, hz⟩ | ⟨z, hz⟩ <;> (rw [hz]; rfl)) hgo
    | 3, h, hkind =>
      obtain ⟨hi3, h⟩ := mjb_inv h
      obtain ⟨x, S2, e1, hgo⟩ := mjr_inv h
      cases e1
      exact va_putF (D := D) (ci := ci) (v := mjv ad (.ref x)) hx hb hts hin ty hty hnm hown hK.1 hP hD hS a (mjw_at hm) hc k hk (hts _ hkind.2.2.2) (fun _ z => z) hkind.2.1 (hini hi3) hkind.2.2.1 (hty k hk) (by rcases hkind.1 with ⟨z, hz⟩ | ⟨z, hz⟩ <;> (rw [hz]; rfl)) (by rcases hkind.1 with ⟨z, hz⟩ | ⟨z, hz⟩ <;> (rw [hz]; rfl)) hkl2 hd (fun H1 locs1 hP1 hD1 hS1 => hnx _ _ _ _ _ hgo ad H1 locs1 ls hag hmz (by rw [List.length_set]; exact hn0) (by rw [List.length_set]; exact hM4) hu hL (by rw [mjw_setO]; exact hP1) (by rw [mjw_setO]; exact hD1) hS1)
    | k' + 4, h, _ => exact h.elim
  | arraylength =>
    intro ad H locs ls hag hmz hn0 hM4 hu hL hP hD hS
    have hd : decode cc pc = .ok (.arraylength, 1) := mjr1 hrow
    have h0 : mjr S (fun a S' => bif Nat.beq a 4095 then mjo Z fun z => nx (pc + 1) L (.int (nI z.1) :: S') M u
      else mjA 0 M[a]? fun n _ => nx (pc + 1) L (.int (nI n) :: S') M u) := h
    obtain ⟨a, S', rfl, h1⟩ := mjr_inv h0
    by_cases ha : Nat.beq a 4095 = true
    · rw [ha] at h1
      obtain ⟨⟨n, f⟩, hz, h⟩ := mjo_inv h1
      obtain ⟨b, hb1, hX, hbl, hbA⟩ := hZ n f hz
      have hab : ad a = b := by rw [Nat.eq_of_beq_eq_true ha, hag 4095 (Or.inr (by omega))]; exact hb1
      subst hab
      exact va_slen hx hb hX hbl hbA hS hd (hnx _ _ _ _ _ h ad H locs ls hag hmz hn0 hM4 hu hL hP hD hS)
    · rw [Bool.not_eq_true] at ha
      rw [ha] at h1
      obtain ⟨n, f, hm, h⟩ := mjA_inv h1
      exact va_alen hx hb hK.1 hP a 0 (mjw_at hm) rfl rfl hd (hnx _ _ _ _ _ h ad H locs ls hag hmz hn0 hM4 hu hL hP hD hS)
  | iaload =>
    intro ad H locs ls hag hmz hn0 hM4 hu hL hP hD hS
    have hd : decode cc pc = .ok (.iaload, 1) := mjr1 hrow
    have h0 : mjir S (fun i a S' => bif Nat.beq a 4095 then mjo Z fun z => mjix i z.1 fun j => nx (pc + 1) L (.int (z.2 j) :: S') M u
      else mjA 0 M[a]? fun n f => mjix i n fun j => nx (pc + 1) L (.int (f j) :: S') M u) := h
    obtain ⟨i, a, S', rfl, h1⟩ := mjir_inv h0
    by_cases ha : Nat.beq a 4095 = true
    · rw [ha] at h1
      obtain ⟨⟨n, f⟩, hz, h⟩ := mjo_inv h1
      obtain ⟨j, rfl, ⟨hj, hn31⟩, h⟩ := h
      obtain ⟨b, hb1, hX, hbl, hbA⟩ := hZ n f hz
      have hab : ad a = b := by rw [Nat.eq_of_beq_eq_true ha, hag 4095 (Or.inr (by omega))]; exact hb1
      subst hab
      refine va_sld hx hb hX hbl hbA hS (vp_in_nI hj hn31) hd ?_
      rw [nI_clamp (by omega : j < 2 ^ 31)]
      exact hnx _ _ _ _ _ h ad H locs ls hag hmz hn0 hM4 hu hL hP hD hS
    · rw [Bool.not_eq_true] at ha
      rw [ha] at h1
      obtain ⟨n, f, hm, h⟩ := mjA_inv h1
      obtain ⟨j, rfl, ⟨hj, hn31⟩, h⟩ := h
      refine va_iald hx hb hK.1 hP a 0 (mjw_at hm) rfl (vp_in_nI hj hn31) hd ?_
      rw [nI_clamp (by omega : j < 2 ^ 31)]
      exact hnx _ _ _ _ _ h ad H locs ls hag hmz hn0 hM4 hu hL hP hD hS
  | caload =>
    intro ad H locs ls hag hmz hn0 hM4 hu hL hP hD hS
    have hd : decode cc pc = .ok (.caload, 1) := mjr1 hrow
    obtain ⟨i, a, S', rfl, h⟩ := mjir_inv h
    obtain ⟨n, f, hm, h⟩ := mjA_inv h
    obtain ⟨j, rfl, ⟨hj, hn31⟩, h⟩ := h
    refine va_cald hx hb hK.1 hP a 1 (mjw_at hm) rfl (vp_in_nI hj hn31) hd ?_
    rw [nI_clamp (by omega : j < 2 ^ 31)]
    exact hnx _ _ _ _ _ h ad H locs ls hag hmz hn0 hM4 hu hL hP hD hS
  | aaload =>
    intro ad H locs ls hag hmz hn0 hM4 hu hL hP hD hS
    have hd : decode cc pc = .ok (.aaload, 1) := mjr1 hrow
    obtain ⟨i, a, S', rfl, h⟩ := mjir_inv h
    obtain ⟨n, f, hm, h⟩ := mjQ_inv h
    obtain ⟨j, rfl, ⟨hj, hn31⟩, r, hr, h⟩ := h
    refine va_aldq hx hb hK.1 hP a 2 (mjw_at hm) rfl (vp_in_nI hj hn31) hd ?_
    rw [nI_clamp (by omega : j < 2 ^ 31), show mjcut ad n f j = some (ad r) by unfold mjcut; rw [if_pos hj, hr]; rfl]
    exact hnx _ _ _ _ _ h ad H locs ls hag hmz hn0 hM4 hu hL hP hD hS
  | iastore =>
    intro ad H locs ls hag hmz hn0 hM4 hu hL hP hD hS
    have hd : decode cc pc = .ok (.iastore, 1) := mjr1 hrow
    obtain ⟨x, i, a, S', rfl, h⟩ := mjiir_inv h
    obtain ⟨n, f, hm, h⟩ := mjA_inv h
    obtain ⟨j, rfl, ⟨hj, hn31⟩, h⟩ := h
    exact va_iast hx hb hK.1 hP hD hS a 0 (mjw_at hm) rfl (vp_in_nI hj hn31) hd (fun H1 locs1 hP1 hD1 hS1 => hnx _ _ _ _ _ h ad H1 locs1 ls hag hmz (by rw [List.length_set]; exact hn0) (by rw [List.length_set]; exact hM4) hu hL (by rw [mjw_set]; rw [nI_clamp (by omega : j < 2 ^ 31)] at hP1; exact hP1) (by rw [mjw_set]; rw [nI_clamp (by omega : j < 2 ^ 31)] at hD1; exact hD1) hS1)
  | castore =>
    intro ad H locs ls hag hmz hn0 hM4 hu hL hP hD hS
    have hd : decode cc pc = .ok (.castore, 1) := mjr1 hrow
    obtain ⟨x, i, a, S', rfl, h⟩ := mjiir_inv h
    obtain ⟨n, f, hm, h⟩ := mjA_inv h
    obtain ⟨j, rfl, ⟨hj, hn31⟩, h⟩ := h
    exact va_cast hx hb hK.1 hP hD hS a 1 (mjw_at hm) rfl (vp_in_nI hj hn31) hd (fun H1 locs1 hP1 hD1 hS1 => hnx _ _ _ _ _ h ad H1 locs1 ls hag hmz (by rw [List.length_set]; exact hn0) (by rw [List.length_set]; exact hM4) hu hL (by rw [mjw_set]; rw [nI_clamp (by omega : j < 2 ^ 31)] at hP1; exact hP1) (by rw [mjw_set]; rw [nI_clamp (by omega : j < 2 ^ 31)] at hD1; exact hD1) hS1)
  | aastore =>
    intro ad H locs ls hag hmz hn0 hM4 hu hL hP hD hS
    have hd : decode cc pc = .ok (.aastore, 1) := mjr1 hrow
    obtain ⟨x, i, a, S', rfl, h⟩ := mjrir_inv h
    obtain ⟨n, f, hm, h⟩ := mjQ_inv h
    obtain ⟨fs, hmx, h⟩ := mjO_inv h
    obtain ⟨j, rfl, ⟨hj, hn31⟩, h⟩ := h
    have hcut : va_up (mjcut ad n f) j (some (ad x)) = mjcut ad n (va_up f j (some x)) := by
      funext k
      unfold mjcut va_up
      by_cases hkj : k = j
      · subst hkj
        simp [hj]
      · simp [hkj]
    have hset : mjw tc ad (M.set a (.inl (2, (n, .inr (.inr (.inr (.inr (va_up f j (some x)))))))))  = (mjw tc ad M).set a (ad a, .inl (tc 2, (n, .inr (.inr (.inr (.inr (va_up (mjcut ad n f) j (some (ad x)))))))))  := by
      rw [mjw_set, hcut]
      rfl
    refine va_astq hx hb hK.1 hP hD hS a 2 x 3 (mjw_at hm) rfl (mjw_at hmx) rfl (vp_in_nI hj hn31) hd (fun H1 locs1 hP1 hD1 hS1 => ?_)
    rw [nI_clamp (by omega : j < 2 ^ 31)] at hP1 hD1
    exact hnx _ _ _ _ _ h ad H1 locs1 ls hag hmz (by rw [List.length_set]; exact hn0) (by rw [List.length_set]; exact hM4) hu hL (by rw [hset]; exact hP1) (by rw [hset]; exact hD1) hS1
  | new i =>
    intro ad H locs ls hag hmz hn0 hM4 hu hL hP hD hS
    have hd : decode cc pc = .ok (.new i, 3) := mjr1 hrow
    obtain ⟨⟨ci, fs⟩, hq, h⟩ := mjo_inv h
    obtain ⟨hroom, h⟩ := mjb_inv h
    simp only [mjfr, Bool.and_eq_true] at hroom
    obtain ⟨⟨⟨⟨⟨hf1, hf2⟩, hf3⟩, hlen⟩, hu1⟩, hu2⟩ := hroom
    have hlen := Nat.le_of_ble_eq_true hlen
    have hu1 := Nat.le_of_ble_eq_true hu1
    have hu2 := Nat.le_of_ble_eq_true hu2
    rw [hmc] at hu1
    rw [hms] at hu2
    have hold : ∀ q i, mjPf M.length i = true → va_up ad M.length q i = ad i := fun q i hi => mjup_pf (by omega) i hi
    obtain ⟨C, T, N, ty, hc, hin, hty, q1, q2, q3, q4, q5, q6⟩ := hnew i ci fs hq
    subst q4
    refine va_new (ci := ci) (fs := fs) hx hb hts hin ty hty hown (hts _ q1) (hts _ q2) (hts _ q3) hK.1 hP hD hS hA hc q5 (by omega) (by omega) hd (fun q H1 hP1 hD1 hS1 => ?_)
    have hw := mjfree_new (ad := ad) (q := q) (x := .inr (ci, fs)) (tc := tc) hf3 (by omega) (by show Sum.inr (ci, fs.map _) = Sum.inr (ci, fs.map _); rw [mjplain_map _ q6, mjplain_map _ q6])
    have hx2 : mje tc ad (.inr (ci, fs)) = .inr (ci, fs) := by show Sum.inr (ci, fs.map _) = _; rw [mjplain_map _ q6]
    rw [hx2] at hw
    rw [← hw] at hP1 hD1
    have hst : (Value.ref q :: S.map (mjv ad)) = (Value.ref M.length :: S).map (mjv (va_up ad M.length q)) := by
      rw [List.map_cons, mjvs_congr (hold q) hf2]
      simp [mjv, va_up]
    rw [hst]
    exact hnx _ _ _ _ _ h (va_up ad M.length q) H1 locs ls (fun i hi => by rw [hold q i (mjPf_iff.mpr (by omega)), hag i hi]) (fun z => absurd z (by omega)) (by rw [List.length_append]; omega) (by rw [List.length_append]; exact hlen) ⟨hu1, hu2⟩ (mjlv_congr hL (mjql_congr (hold q) hf1)) hP1 hD1 hS1
  | newarray ty =>
    intro ad H locs ls hag hmz hn0 hM4 hu hL hP hD hS
    have hd : decode cc pc = .ok (.newarray ty, 2) := mjr1 hrow
    obtain ⟨i, S', rfl, h⟩ := mji_inv h
    cases ty with
    | int =>
      obtain ⟨j, rfl, ⟨hj, -⟩, h⟩ := h
      obtain ⟨hroom, h⟩ := mjb_inv h
      simp only [mjfr, Bool.and_eq_true] at hroom
      obtain ⟨⟨⟨⟨⟨hf1, hf2⟩, hf3⟩, hlen⟩, hu1⟩, hu2⟩ := hroom
      have hlen := Nat.le_of_ble_eq_true hlen
      have hu1 := Nat.le_of_ble_eq_true hu1
      have hu2 := Nat.le_of_ble_eq_true hu2
      rw [hmc] at hu1
      rw [hms] at hu2
      have hold : ∀ q i, mjPf M.length i = true → va_up ad M.length q i = ad i := fun q i hi => mjup_pf (by omega) i hi
      have hmcp : 0 < G.2.2.2.2.2.2.2.2.1 := by rw [hmc]; omega
      refine va_newa (ty := .int) (a0 := (j, .inl (fun _ => 0))) (N' := j) hx hb (atype := .int) (hts _ (harr hmcp).1) rfl hK.1 hP hD hS hA (fun cA => rfl) (nI_pos (by omega : j < 2 ^ 31)) (nI_clamp (by omega : j < 2 ^ 31)) (by show j * _ ≤ _; simp [componentBytes]; omega) (by omega) (by omega) hd (fun q cA H1 hK1 hP1 hD1 hS1 => ?_)
      have hcA : cA = tc 0 := by
        have g1 := (hK1.2 3 (cA, .int) rfl).2
        have g2 := (hK1.2 0 (tc 0, .int) rfl).2
        exact Option.some.inj (g1.symm.trans g2)
      subst hcA
      have hw := mjfree_new (ad := ad) (q := q) (x := .inl (0, (j, .inl (fun _ => 0)))) (tc := tc) hf3 (by omega) rfl
      have hx2 : mje tc ad (.inl (0, (j, .inl (fun _ => 0)))) = .inl (tc 0, (j, .inl (fun _ => 0))) := rfl
      rw [hx2] at hw
      rw [← hw] at hP1 hD1
      have hst : (Value.ref q :: S'.map (mjv ad)) = (Value.ref M.length :: S').map (mjv (va_up ad M.length q)) := by
        rw [List.map_cons, mjvs_congr (hold q) hf2]
        simp [mjv, va_up]
      rw [hst]
      exact hnx _ _ _ _ _ h (va_up ad M.length q) H1 locs ls (fun i hi => by rw [hold q i (mjPf_iff.mpr (by omega)), hag i hi]) (fun z => absurd z (by omega)) (by rw [List.length_append]; omega) (by rw [List.length_append]; exact hlen) ⟨hu1, hu2⟩ (mjlv_congr hL (mjql_congr (hold q) hf1)) hP1 hD1 hS1
    | char =>
      obtain ⟨j, rfl, ⟨hj, -⟩, h⟩ := h
      obtain ⟨hroom, h⟩ := mjb_inv h
      simp only [mjfr, Bool.and_eq_true] at hroom
      obtain ⟨⟨⟨⟨⟨hf1, hf2⟩, hf3⟩, hlen⟩, hu1⟩, hu2⟩ := hroom
      have hlen := Nat.le_of_ble_eq_true hlen
      have hu1 := Nat.le_of_ble_eq_true hu1
      have hu2 := Nat.le_of_ble_eq_true hu2
      rw [hmc] at hu1
      rw [hms] at hu2
      have hold : ∀ q i, mjPf M.length i = true → va_up ad M.length q i = ad i := fun q i hi => mjup_pf (by omega) i hi
      have hmcp : 0 < G.2.2.2.2.2.2.2.2.1 := by rw [hmc]; omega
      refine va_newa (ty := .char) (a0 := (j, .inl (fun _ => 0))) (N' := j) hx hb (atype := .char) (hts _ (harr hmcp).2.1) rfl hK.1 hP hD hS hA (fun cA => rfl) (nI_pos (by omega : j < 2 ^ 31)) (nI_clamp (by omega : j < 2 ^ 31)) (by show j * _ ≤ _; simp [componentBytes]; omega) (by omega) (by omega) hd (fun q cA H1 hK1 hP1 hD1 hS1 => ?_)
      have hcA : cA = tc 1 := by
        have g1 := (hK1.2 3 (cA, .char) rfl).2
        have g2 := (hK1.2 1 (tc 1, .char) rfl).2
        exact Option.some.inj (g1.symm.trans g2)
      subst hcA
      have hw := mjfree_new (ad := ad) (q := q) (x := .inl (1, (j, .inl (fun _ => 0)))) (tc := tc) hf3 (by omega) rfl
      have hx2 : mje tc ad (.inl (1, (j, .inl (fun _ => 0)))) = .inl (tc 1, (j, .inl (fun _ => 0))) := rfl
      rw [hx2] at hw
      rw [← hw] at hP1 hD1
      have hst : (Value.ref q :: S'.map (mjv ad)) = (Value.ref M.length :: S').map (mjv (va_up ad M.length q)) := by
        rw [List.map_cons, mjvs_congr (hold q) hf2]
        simp [mjv, va_up]
      rw [hst]
      exact hnx _ _ _ _ _ h (va_up ad M.length q) H1 locs ls (fun i hi => by rw [hold q i (mjPf_iff.mpr (by omega)), hag i hi]) (fun z => absurd z (by omega)) (by rw [List.length_append]; omega) (by rw [List.length_append]; exact hlen) ⟨hu1, hu2⟩ (mjlv_congr hL (mjql_congr (hold q) hf1)) hP1 hD1 hS1
    | _ => exact h.elim
  | anewarray i =>
    intro ad H locs ls hag hmz hn0 hM4 hu hL hP hD hS
    have hd : decode cc pc = .ok (.anewarray i, 3) := mjr1 hrow
    obtain ⟨n, S', rfl, h⟩ := mji_inv h
    obtain ⟨j, rfl, ⟨hj, -⟩, h⟩ := h
    obtain ⟨hroom, h⟩ := mjb_inv h
    simp only [mjfr, Bool.and_eq_true] at hroom
    obtain ⟨⟨⟨⟨⟨hf1, hf2⟩, hf3⟩, hlen⟩, hu1⟩, hu2⟩ := hroom
    have hlen := Nat.le_of_ble_eq_true hlen
    have hu1 := Nat.le_of_ble_eq_true hu1
    have hu2 := Nat.le_of_ble_eq_true hu2
    rw [hmc] at hu1
    rw [hms] at hu2
    have hold : ∀ q i, mjPf M.length i = true → va_up ad M.length q i = ad i := fun q i hi => mjup_pf (by omega) i hi
    have hmcp : 0 < G.2.2.2.2.2.2.2.2.1 := by rw [hmc]; omega
    refine va_newq (C := RX4) (N' := j) hx hb hown (hts _ ((harr hmcp).2.2 pc _ hi i rfl)) hK.2.2 hK.1 hP hD hS hA (nI_pos (by omega : j < 2 ^ 31)) (nI_clamp (by omega : j < 2 ^ 31)) (by omega) (by omega) (by omega) hd (fun q cA H1 hK1 hP1 hD1 hS1 => ?_)
    have hcA : cA = tc 2 := by
      have g1 := (hK1.2 3 (cA, .object RX4) rfl).2
      have g2 := (hK1.2 2 (tc 2, .object RX4) rfl).2
      obtain ⟨kA, comp, -, -, -, g3⟩ := g1
      obtain ⟨kA', comp', -, -, -, g4⟩ := g2
      exact Option.some.inj (g3.symm.trans g4)
    subst hcA
    have hnone : ∀ f : Nat → Nat, mje tc f (.inl (2, (j, .inr (.inr (.inr (.inr (fun _ => none))))))) = .inl (tc 2, (j, .inr (.inr (.inr (.inr (fun _ => none)))))) := by
      intro f
      have : mjcut f j (fun _ => none) = (fun _ => none) := by
        funext k
        unfold mjcut
        split <;> rfl
      show Sum.inl (tc 2, j, _) = _
      rw [this]
    have hw := mjfree_new (ad := ad) (q := q) (x := .inl (2, (j, .inr (.inr (.inr (.inr (fun _ => none))))))) (tc := tc) hf3 (by omega) (by rw [hnone, hnone])
    rw [hnone] at hw
    rw [← hw] at hP1 hD1
    have hst : (Value.ref q :: S'.map (mjv ad)) = (Value.ref M.length :: S').map (mjv (va_up ad M.length q)) := by
      rw [List.map_cons, mjvs_congr (hold q) hf2]
      simp [mjv, va_up]
    rw [hst]
    exact hnx _ _ _ _ _ h (va_up ad M.length q) H1 locs ls (fun i hi => by rw [hold q i (mjPf_iff.mpr (by omega)), hag i hi]) (fun z => absurd z (by omega)) (by rw [List.length_append]; omega) (by rw [List.length_append]; exact hlen) ⟨hu1, hu2⟩ (mjlv_congr hL (mjql_congr (hold q) hf1)) hP1 hD1 hS1
  | ireturn =>
    intro ad H locs ls hag hmz hn0 hM4 hu hL hP hD hS
    have hd : decode cc pc = .ok (.ireturn, 1) := mjr1 hrow
    have h0 : mji S (fun x S' => mjno S' (mjrf G Rr x M u)) := h
    obtain ⟨x, S', rfl, h1⟩ := mji_inv h0
    obtain ⟨rfl, h2⟩ := mjno_inv h1
    unfold mjrf at h2
    split at h2
    · rename_i hrt
      exact hRet M (some (.int x)) u ad H locs ls pc .ireturn h2 hag hmz hu hP hD hS hd (hrp pc _ hi) (Or.inl ⟨x, .int, rfl, rfl, hrt, rfl⟩)
    · rename_i ty _ hrt
      exact hRet M (some (.int x)) u ad H locs ls pc .ireturn h2.2 hag hmz hu hP hD hS hd (hrp pc _ hi) (Or.inl ⟨x, ty, rfl, rfl, hrt, h2.1⟩)
    · exact h2.elim
  | dreturn =>
    intro ad H locs ls hag hmz hn0 hM4 hu hL hP hD hS
    have hd : decode cc pc = .ok (.dreturn, 1) := mjr1 hrow
    obtain ⟨x, S', rfl, h⟩ := mjd_inv h
    obtain ⟨rfl, h⟩ := mjno_inv h
    exact hRet M (some (.double x)) u ad H locs ls pc .dreturn h hag hmz hu hP hD hS hd (hrp pc _ hi) (Or.inr (Or.inl (Or.inl ⟨x, rfl, rfl⟩)))
  | areturn =>
    intro ad H locs ls hag hmz hn0 hM4 hu hL hP hD hS
    have hd : decode cc pc = .ok (.areturn, 1) := mjr1 hrow
    have h0 : mjrn S (fun x _ S' => mjno S' (Rr M (some x) u)) := h
    rcases mjrn_inv h0 with ⟨x, S', rfl, h1⟩ | ⟨S', rfl, h1⟩
    · obtain ⟨rfl, h2⟩ := mjno_inv h1
      exact hRet M (some (.ref x)) u ad H locs ls pc .areturn h2 hag hmz hu hP hD hS hd (hrp pc _ hi) (Or.inr (Or.inr (Or.inl ⟨rfl, Or.inl ⟨x, rfl⟩⟩)))
    · obtain ⟨rfl, h2⟩ := mjno_inv h1
      exact hRet M (some .null) u ad H locs ls pc .areturn h2 hag hmz hu hP hD hS hd (hrp pc _ hi) (Or.inr (Or.inr (Or.inl ⟨rfl, Or.inr rfl⟩)))
  | return_ =>
    intro ad H locs ls hag hmz hn0 hM4 hu hL hP hD hS
    have hd : decode cc pc = .ok (.return_, 1) := mjr1 hrow
    obtain ⟨rfl, h⟩ := mjno_inv h
    exact hRet M none u ad H locs ls pc .return_ h hag hmz hu hP hD hS hd (hrp pc _ hi) (Or.inr (Or.inr (Or.inr ⟨rfl, rfl⟩)))
  | _ => exact False.elim h
end MJS
