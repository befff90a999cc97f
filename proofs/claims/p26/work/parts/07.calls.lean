/-! mj: the calls -/
theorem mjcall_inv {G : mjG} {nx : Nat → mjL → List Value → mjM → Nat × Nat → Prop} {virt : Bool} {k vc na cm sm : Nat} {Sp : mjSp} {pc : Nat} {L : mjL} {S : List Value} {M : mjM} {u : Nat × Nat} (h : mjcall G nx virt (k, vc, na, cm, sm, Sp) pc L S M u) :
    (na ≤ S.length ∧ (S.take na).all mjone = true ∧ mjcat (S.drop na) ≤ 8 ∧ ((∀ a ∈ G.2.2.2.1 pc, a < M.length) ∧ (G.2.2.2.1 pc).Nodup) ∧ (G.2.2.2.1 pc).length ≤ 4000 ∧ u.1 + cm ≤ G.2.2.2.2.2.2.2.2.1 ∧ u.2 + sm ≤ G.2.2.2.2.2.2.2.2.2.1 ∧ (virt = true → mjrecv M vc (S.take na).reverse = true)) ∧
    ∃ P o r M1, Sp (mjext (G.2.2.2.1 pc) M) ((S.take na).reverse.map (mjv (mjri (G.2.2.2.1 pc)))) = (P, o, r) ∧ P ∧ mjres (G.2.2.2.1 pc) cm L (S.drop na) M r o = (true, M1) ∧ nx (pc + 3) L (r.toList.map (mjv (mjui (G.2.2.2.1 pc) M.length)) ++ S.drop na) M1 (u.1 + cm, u.2 + sm) := by
  unfold mjcall at h
  obtain ⟨hb, h⟩ := mjb_inv h
  simp only [Bool.and_eq_true] at hb
  obtain ⟨⟨⟨⟨⟨⟨⟨b1, b2⟩, b3⟩, b4⟩, b5⟩, b6⟩, b7⟩, b8⟩ := hb
  refine ⟨⟨Nat.le_of_ble_eq_true b1, b2, Nat.le_of_ble_eq_true b3, mjplaces b4, Nat.le_of_ble_eq_true b5, Nat.le_of_ble_eq_true b6, Nat.le_of_ble_eq_true b7, fun hv => ?_⟩, ?_⟩
  · rw [hv] at b8
    exact b8
  · rcases hq : Sp (mjext (G.2.2.2.1 pc) M) ((S.take na).reverse.map (mjv (mjri (G.2.2.2.1 pc)))) with ⟨P, o, r⟩
    rw [hq] at h
    obtain ⟨hP, h⟩ := h
    rcases hm : mjres (G.2.2.2.1 pc) cm L (S.drop na) M r o with ⟨ok, M1⟩
    simp only [hm] at h
    obtain ⟨hok, h⟩ := mjb_inv h
    subst hok
    exact ⟨P, o, r, M1, rfl, hP, hm, h⟩
theorem mjcallee_P {D : va_G} {tc : Nat → ClassId} {ad : Nat → Nat} {e : List Nat} {M : mjM} {H : Heap} (he : e.length ≤ 4000) (hl : ∀ a ∈ e, a < M.length) (hP : va_P D vwCl (mjw tc ad M) H) : va_P D vwCl (mjw tc (fun j => ad (mjui e M.length j)) (mjext e M)) H := by
  intro k q hq
  cases hj : e[k]? with
  | none =>
    have h2 : e.length ≤ k := by simpa using hj
    rw [List.getElem?_eq_none (by rw [mjw_len, mjext_len]; exact h2)] at hq
    cases hq
  | some i =>
    rw [mjext_at he hl hj] at hq
    exact hP i q hq
theorem mjcallee_as {ad : Nat → Nat} {e : List Nat} {n : Nat} (he : e.length ≤ 4000) (as : List Value) : (as.map (mjv (mjri e))).map (mjv (fun j => ad (mjui e n j))) = as.map (mjv ad) := by
  rw [List.map_map]
  refine List.map_congr_left (fun v _ => ?_)
  show mjv _ (mjv _ v) = _
  rw [mjv_comp]
  have h5 : (fun i => ad (mjui e n (mjri e i))) = ad := by
    funext k
    rw [mjui_ri e n k he]
  rw [h5]
theorem mjone_map (f : Nat → Nat) : ∀ {l : List Value}, l.all mjone = true → (l.map (mjv f)).all mjone = true
  | [], _ => rfl
  | v :: l, h => by
    simp only [List.all_cons, Bool.and_eq_true] at h
    rw [List.map_cons, List.all_cons, Bool.and_eq_true]
    exact ⟨by cases v <;> first | rfl | exact h.1, mjone_map f h.2⟩
theorem mjall_rev {l : List Value} (h : l.all mjone = true) : l.reverse.all mjone = true := by
  rw [List.all_reverse]
  exact h
theorem mjpre_blind {D : va_G} {tc : Nat → ClassId} {ad : Nat → Nat} {sz : Nat} {M : mjM} {as : List Value} : FrameBlind (mjPc D tc ad sz M as) := fun a U g mk q => ⟨q.1, q.2.1, q.2.2.1, mjK.same (u := U) (U := U.calling g mk a) rfl q.2.2.2.1, q.2.2.2.2⟩
section MJS
variable {p : Program} {l : Launch} {e : Env} {R : Room} {s : State} {m : MethodId} {args : Array Value} {below : List Frame} {meth : Method} {c : Code} {Q : State → Prop} {D : va_G} {tc : Nat → ClassId} {ad0 : Nat → Nat} {n0 mc ms nL : Nat} {A : Nat → Prop} {H0 : Heap}
theorem mjpre_of {ad : Nat → Nat} {M : mjM} {e0 : List Nat} {as : List Value} {H : Heap} {A : Nat → Prop} (hK : mjK D tc s) (he : e0.length ≤ 4000) (hpl : (∀ a ∈ e0, a < M.length) ∧ e0.Nodup) (hP : va_P D vwCl (mjw tc ad M) H) (hD : va_D A (mjw tc ad M)) :
    ∀ U : State, U.heap = H → s.WarmedH U.vm → mjPc D tc (fun j => ad (mjui e0 M.length j)) H.size (mjext e0 M) (as.map (mjv (mjri e0))) (as.map (mjv ad)).toArray U := by
  intro U hU hW
  refine ⟨by rw [mjcallee_as he], by rw [hU], by rw [hU]; exact mjcallee_P he hpl.1 hP, hK.warm hW, ?_⟩
  exact (hD.sub e0 (mjnd_va hpl.2) (mjext_sub he hpl.1)).weaken (fun _ _ _ _ => trivial)
/-- the semantic predicate behind a step -/
abbrev mjNx (p : Program) (l : Launch) (e : Env) (R : Room) (s : State) (m : MethodId) (args : Array Value) (below : List Frame) (meth : Method) (c : Code) (Q : State → Prop) (D : va_G) (tc : Nat → ClassId) (ad0 : Nat → Nat) (n0 mc ms : Nat) (A : Nat → Prop) (H0 : Heap) (nL : Nat) (nx : Nat → mjL → List Value → mjM → Nat × Nat → Prop) : Prop :=
  ∀ pc L S M u, nx pc L S M u → mjT p l e R s m args below meth c Q D tc ad0 n0 mc ms A H0 nL pc L S M u
theorem mjcallV {G : mjG} {nx : Nat → mjL → List Value → mjM → Nat × Nat → Prop} {cc : ByteArray} {own : String} {i vc na cm sm : Nat} {Sp : mjSp} {pc : Nat} {L : mjL} {S : List Value} {M : mjM} {u : Nat × Nat}
    (hx : p.tables.exec = Jvm.exec) (hb : c.code = cc) (hml : c.maxLocals = nL) (hown : s.vm.findClass own = some m.cls) (hts : ∀ w ∈ mjW, w.before args s = true) (hK : mjK D tc s) (hA : ∀ q, H0.size ≤ q → A q) (hR : mc ≤ R.cells ∧ ms ≤ R.slots) (hmc : G.2.2.2.2.2.2.2.2.1 = mc) (hms : G.2.2.2.2.2.2.2.2.2.1 = ms)
    (hnx : mjNx p l e R s m args below meth c Q D tc ad0 n0 mc ms A H0 nL nx) (hq : mjcallOK l R own (i, 0, vc, na, cm, sm, Sp)) (hd : decode cc pc = .ok (.invokevirtual i, 3)) (h : mjcall G nx true (0, vc, na, cm, sm, Sp) pc L S M u) : mjT p l e R s m args below meth c Q D tc ad0 n0 mc ms A H0 nL pc L S M u := by
  intro ad H locs ls hag hmz hn0 hM4 hu hL hP hD hS
  obtain ⟨⟨b1, b2, b3, b4, b5, b6, b7, b8⟩, P, o, r, M1, hsp, hPp, hres, hgo⟩ := mjcall_inv h
  obtain ⟨y, cc', maxL', ret', rm', hM, ⟨rfl, rfl⟩, hRm, hna, hna1, ⟨hy, hcode, hini⟩, hlk, hinst, hsel, hvc⟩ := hq
  have h8 := b8 rfl
  -- the receiver
  cases has : (S.take na).reverse with
  | nil => rw [has] at h8; cases h8
  | cons v as' =>
    rw [has] at h8
    cases v with
    | ref b =>
      cases hmb : M[b]? with
      | none => simp only [mjrecv, hmb] at h8; cases h8
      | some x =>
        cases x with
        | inl z => simp only [mjrecv, hmb] at h8; cases h8
        | inr z =>
          obtain ⟨ci, fs⟩ := z
          simp only [mjrecv, hmb] at h8
          have hci := Nat.eq_of_beq_eq_true h8
          subst hci
          have hstk : S = (as'.reverse ++ [.ref b]) ++ S.drop na := by
            have h1 : S.take na = as'.reverse ++ [.ref b] := by
              have := congrArg List.reverse has
              simpa using this
            rw [← h1, List.take_append_drop]
          have hlen : (S.take na).reverse.length = na := by simp; omega
          have hlen2 : as'.length = na - 1 := by
            rw [has] at hlen
            simp at hlen
            omega
          have hmet := hM D tc (fun j => ad (mjui (G.2.2.2.1 pc) M.length j)) H.size (mjext (G.2.2.2.1 pc) M) ((S.take na).reverse.map (mjv (mjri (G.2.2.2.1 pc)))) (by rw [mjext_len]; exact b5) (mjone_map _ (mjall_rev b2)) (by rw [List.length_map, hlen]; exact hna) (by rw [hsp]; exact hPp)
          rw [hsp] at hmet
          have hpre := mjpre_of (as := (S.take na).reverse) hK b5 b4 hP hD
          obtain ⟨qc, hqc, hqn⟩ : ∃ qc, vwCl[ci]? = some qc ∧ qc.1 = y.cls := by
            cases hz : vwCl[ci]? with
            | none => rw [hz] at hvc; cases hvc
            | some qc => rw [hz] at hvc; exact ⟨qc, rfl, Option.some.inj hvc⟩
          have hrec := va_recv hK.1 hP hqc (mjw_at (tc := tc) (ad := ad) hmb)
          rw [hqn] at hrec
          have hgood : GoodIn mjW (wsV own i y.cls y (.code y cc' maxL' ret' :: mjW)) := mjgood_l (by
            intro w hw
            simp only [List.mem_cons, List.not_mem_nil, or_false] at hw
            rcases hw with rfl | rfl | rfl | rfl
            · exact hlk
            · exact hinst
            · exact hsel
            · exact hini) (mjgood_ws hcode)
          have hrun := va_runV (As := as'.map (mjv ad)) (rest := (S.drop na).map (mjv ad)) (g := F0 m pc ls (S.map (mjv ad))) (cells := u.1) (slots := u.2) (locs := locs) (H := H) (below := below) (e := e) (meth := meth) ⟨hx, hb, hml, hown, hts⟩ hmet (cwV (na - 1) hts hgood rfl rfl rfl ⟨rfl, hy⟩ hRm) ⟨mjpre_blind, hrec, fun U hU hW => by
              have := hpre U hU hW
              rw [has] at this ⊢
              exact this⟩ rfl (by rw [List.length_map, hlen2]) (hL.2.1) (by
              show S.map (mjv ad) = _
              conv => lhs; rw [hstk]
              simp [mjv]) (lv_room (by rw [mjcat_sum]; exact b3)) hd ⟨by omega, by omega⟩
          exact mj_behind hrun hA b5 b4 hres (fun z => by omega) hag hn0 hM4 hL hP hD hS (fun ad1 H1 locs1 k1 k2 k3 k4 k5 k6 k7 k8 => hnx _ _ _ _ _ hgo ad1 H1 locs1 ls k1 (fun z => (k2 z).trans (hmz z)) k3 k4 ⟨by rw [← hmc]; exact b6, by rw [← hms]; exact b7⟩ k5 k6 k7 k8)
    | _ => cases h8
theorem mjcallS {G : mjG} {nx : Nat → mjL → List Value → mjM → Nat × Nat → Prop} {cc : ByteArray} {own : String} {i vc na cm sm : Nat} {Sp : mjSp} {pc : Nat} {L : mjL} {S : List Value} {M : mjM} {u : Nat × Nat}
    (hx : p.tables.exec = Jvm.exec) (hb : c.code = cc) (hml : c.maxLocals = nL) (hown : s.vm.findClass own = some m.cls) (hts : ∀ w ∈ mjW, w.before args s = true) (hK : mjK D tc s) (hA : ∀ q, H0.size ≤ q → A q) (hR : mc ≤ R.cells ∧ ms ≤ R.slots) (hmc : G.2.2.2.2.2.2.2.2.1 = mc) (hms : G.2.2.2.2.2.2.2.2.2.1 = ms)
    (hnx : mjNx p l e R s m args below meth c Q D tc ad0 n0 mc ms A H0 nL nx) (hq : mjcallOK l R own (i, 1, vc, na, cm, sm, Sp)) (hd : decode cc pc = .ok (.invokestatic i, 3)) (h : mjcall G nx false (1, vc, na, cm, sm, Sp) pc L S M u) : mjT p l e R s m args below meth c Q D tc ad0 n0 mc ms A H0 nL pc L S M u := by
  intro ad H locs ls hag hmz hn0 hM4 hu hL hP hD hS
  obtain ⟨⟨b1, b2, b3, b4, b5, b6, b7, -⟩, P, o, r, M1, hsp, hPp, hres, hgo⟩ := mjcall_inv h
  obtain ⟨y, cc', maxL', ret', rm', hM, ⟨rfl, rfl⟩, hRm, hna, ⟨hy, hcode, hini⟩, hlk, hst⟩ := hq
  have hlen : (S.take na).reverse.length = na := by simp; omega
  have hmet := hM D tc (fun j => ad (mjui (G.2.2.2.1 pc) M.length j)) H.size (mjext (G.2.2.2.1 pc) M) ((S.take na).reverse.map (mjv (mjri (G.2.2.2.1 pc)))) (by rw [mjext_len]; exact b5) (mjone_map _ (mjall_rev b2)) (by rw [List.length_map, hlen]; exact hna) (by rw [hsp]; exact hPp)
  rw [hsp] at hmet
  have hpre := mjpre_of (as := (S.take na).reverse) hK b5 b4 hP hD
  have hgood : GoodIn mjW (va_wsS own i y (.code y cc' maxL' ret' :: mjW)) := mjgood_l (by
    intro w hw
    simp only [List.mem_cons, List.not_mem_nil, or_false] at hw
    rcases hw with rfl | rfl | rfl
    · exact hlk
    · exact hst
    · exact hini) (mjgood_ws hcode)
  have hrun := va_runS (As := (S.take na).reverse.map (mjv ad)) (rest := (S.drop na).map (mjv ad)) (g := F0 m pc ls (S.map (mjv ad))) (cells := u.1) (slots := u.2) (locs := locs) (H := H) (below := below) (e := e) (meth := meth) ⟨hx, hb, hml, hown, hts⟩ hmet (va_cwS na hts hgood rfl rfl rfl hy hRm) ⟨mjpre_blind, hpre⟩ rfl (by rw [List.length_map, hlen]) (hL.2.1) (by
      show S.map (mjv ad) = _
      rw [← List.map_reverse, List.reverse_reverse, ← List.map_append, List.take_append_drop]) (lv_room (by rw [mjcat_sum]; exact b3)) hd ⟨by omega, by omega⟩
  exact mj_behind hrun hA b5 b4 hres (fun z => by omega) hag hn0 hM4 hL hP hD hS (fun ad1 H1 locs1 k1 k2 k3 k4 k5 k6 k7 k8 => hnx _ _ _ _ _ hgo ad1 H1 locs1 ls k1 (fun z => (k2 z).trans (hmz z)) k3 k4 ⟨by rw [← hmc]; exact b6, by rw [← hms]; exact b7⟩ k5 k6 k7 k8)
/-- the arguments of a constructor: the object first -/
theorem mjargs_ref {S : List Value} {na : Nat} (h1 : na ≤ S.length) (h2 : 1 ≤ na) {M : mjM} {vc : Nat} (h3 : mjrecv M vc (S.take na).reverse = true) : ∃ b as', (S.take na).reverse = .ref b :: as' ∧ as'.length = na - 1 ∧ S = (as'.reverse ++ [.ref b]) ++ S.drop na := by
  cases has : (S.take na).reverse with
  | nil => rw [has] at h3; cases h3
  | cons v as' =>
    rw [has] at h3
    have hlen : (S.take na).reverse.length = na := by simp; omega
    rw [has] at hlen
    have h4 : S.take na = as'.reverse ++ [v] := by
      have := congrArg List.reverse has
      simpa using this
    cases v with
    | ref b => exact ⟨b, as', rfl, by simp at hlen; omega, by rw [← h4, List.take_append_drop]⟩
    | _ => cases h3
theorem mjcallI {G : mjG} {nx : Nat → mjL → List Value → mjM → Nat × Nat → Prop} {cc : ByteArray} {own : String} {i vc na cm sm : Nat} {Sp : mjSp} {pc : Nat} {L : mjL} {S : List Value} {M : mjM} {u : Nat × Nat}
    (hx : p.tables.exec = Jvm.exec) (hb : c.code = cc) (hml : c.maxLocals = nL) (hown : s.vm.findClass own = some m.cls) (hts : ∀ w ∈ mjW, w.before args s = true) (hK : mjK D tc s) (hA : ∀ q, H0.size ≤ q → A q) (hR : mc ≤ R.cells ∧ ms ≤ R.slots) (hmc : G.2.2.2.2.2.2.2.2.1 = mc) (hms : G.2.2.2.2.2.2.2.2.2.1 = ms)
    (hnx : mjNx p l e R s m args below meth c Q D tc ad0 n0 mc ms A H0 nL nx) (hq : mjcallOK l R own (i, 2, vc, na, cm, sm, Sp)) (hd : decode cc pc = .ok (.invokespecial i, 3)) (h : mjcall G nx true (2, vc, na, cm, sm, Sp) pc L S M u) : mjT p l e R s m args below meth c Q D tc ad0 n0 mc ms A H0 nL pc L S M u := by
  intro ad H locs ls hag hmz hn0 hM4 hu hL hP hD hS
  obtain ⟨⟨b1, b2, b3, b4, b5, b6, b7, b8⟩, P, o, r, M1, hsp, hPp, hres, hgo⟩ := mjcall_inv h
  obtain ⟨y, cc', maxL', rm', hM, ⟨rfl, rfl⟩, hRm, hna, hna1, ⟨hy, hcode, hini⟩, hlk, hinst, hnm⟩ := hq
  obtain ⟨b, as', has, hlen2, hstk⟩ := mjargs_ref b1 hna1 (b8 rfl)
  have hlen : (S.take na).reverse.length = na := by simp; omega
  have hmet := hM D tc (fun j => ad (mjui (G.2.2.2.1 pc) M.length j)) H.size (mjext (G.2.2.2.1 pc) M) ((S.take na).reverse.map (mjv (mjri (G.2.2.2.1 pc)))) (by rw [mjext_len]; exact b5) (mjone_map _ (mjall_rev b2)) (by rw [List.length_map, hlen]; exact hna) (by rw [hsp]; exact hPp)
  rw [hsp] at hmet
  have hpre := mjpre_of (as := (S.take na).reverse) hK b5 b4 hP hD
  have hrun := va_runI (b := ad b) (As := as'.map (mjv ad)) (rest := (S.drop na).map (mjv ad)) (g := F0 m pc ls (S.map (mjv ad))) (cells := u.1) (slots := u.2) (locs := locs) (H := H) (below := below) (e := e) (meth := meth) ⟨hx, hb, hml, hown, hts⟩ hmet (cwI (na - 1) hts (mjgood_ws hcode) rfl rfl rfl (hts _ hini) (hts _ hlk) (hts _ hinst) hnm hy hRm) ⟨mjpre_blind, fun U hU hW => by
      have := hpre U hU hW
      rw [has] at this ⊢
      exact this⟩ rfl (by rw [List.length_map, hlen2]) (hL.2.1) (by
      show S.map (mjv ad) = _
      conv => lhs; rw [hstk]
      simp [mjv]) (lv_room (by rw [mjcat_sum]; exact b3)) hd ⟨by omega, by omega⟩
  exact mj_behind hrun hA b5 b4 hres (fun z => by omega) hag hn0 hM4 hL hP hD hS (fun ad1 H1 locs1 k1 k2 k3 k4 k5 k6 k7 k8 => hnx _ _ _ _ _ hgo ad1 H1 locs1 ls k1 (fun z => (k2 z).trans (hmz z)) k3 k4 ⟨by rw [← hmc]; exact b6, by rw [← hms]; exact b7⟩ k5 k6 k7 k8)
theorem mjcallIN {G : mjG} {nx : Nat → mjL → List Value → mjM → Nat × Nat → Prop} {cc : ByteArray} {own : String} {i vc na cm sm : Nat} {Sp : mjSp} {pc : Nat} {L : mjL} {S : List Value} {M : mjM} {u : Nat × Nat}
    (hx : p.tables.exec = Jvm.exec) (hb : c.code = cc) (hml : c.maxLocals = nL) (hown : s.vm.findClass own = some m.cls) (hts : ∀ w ∈ mjW, w.before args s = true) (hK : mjK D tc s) (hA : ∀ q, H0.size ≤ q → A q) (hR : mc ≤ R.cells ∧ ms ≤ R.slots) (hmc : G.2.2.2.2.2.2.2.2.1 = mc) (hms : G.2.2.2.2.2.2.2.2.2.1 = ms)
    (hnx : mjNx p l e R s m args below meth c Q D tc ad0 n0 mc ms A H0 nL nx) (hq : mjcallOK l R own (i, 5, vc, na, cm, sm, Sp)) (hd : decode cc pc = .ok (.invokespecial i, 3)) (h : mjcall G nx true (5, vc, na, cm, sm, Sp) pc L S M u) : mjT p l e R s m args below meth c Q D tc ad0 n0 mc ms A H0 nL pc L S M u := by
  intro ad H locs ls hag hmz hn0 hM4 hu hL hP hD hS
  obtain ⟨⟨b1, b2, b3, b4, b5, b6, b7, b8⟩, P, o, r, M1, hsp, hPp, hres, hgo⟩ := mjcall_inv h
  obtain ⟨y, cc', maxL', rm', hM, ⟨rfl, rfl⟩, hRm, hna, hna1, ⟨hy, hcode, hini⟩, hlk, hinst, hnm⟩ := hq
  obtain ⟨b, as', has, hlen2, hstk⟩ := mjargs_ref b1 hna1 (b8 rfl)
  have hlen : (S.take na).reverse.length = na := by simp; omega
  have hmet := hM D tc (fun j => ad (mjui (G.2.2.2.1 pc) M.length j)) H.size (mjext (G.2.2.2.1 pc) M) ((S.take na).reverse.map (mjv (mjri (G.2.2.2.1 pc)))) (by rw [mjext_len]; exact b5) (mjone_map _ (mjall_rev b2)) (by rw [List.length_map, hlen]; exact hna) (by rw [hsp]; exact hPp)
  rw [hsp] at hmet
  have hpre := mjpre_of (as := (S.take na).reverse) hK b5 b4 hP hD
  have hrun := va_runIN (b := ad b) (As := as'.map (mjv ad)) (rest := (S.drop na).map (mjv ad)) (g := F0 m pc ls (S.map (mjv ad))) (cells := u.1) (slots := u.2) (locs := locs) (H := H) (below := below) (e := e) (meth := meth) ⟨hx, hb, hml, hown, hts⟩ hmet ⟨va_cnB (na - 1) hts (mjgood_ws hcode) rfl rfl rfl (hK.2.1 _ hlk) (hts _ hini) hy hRm, hnm, hts _ hinst⟩ ⟨mjpre_blind, fun U hU hW => by
      have := hpre U hU hW
      rw [has] at this ⊢
      exact this⟩ rfl (by rw [List.length_map, hlen2]) (hL.2.1) (by
      show S.map (mjv ad) = _
      conv => lhs; rw [hstk]
      simp [mjv]) (lv_room (by rw [mjcat_sum]; exact b3)) hd ⟨by omega, by omega⟩
  exact mj_behind hrun hA b5 b4 hres (fun z => by omega) hag hn0 hM4 hL hP hD hS (fun ad1 H1 locs1 k1 k2 k3 k4 k5 k6 k7 k8 => hnx _ _ _ _ _ hgo ad1 H1 locs1 ls k1 (fun z => (k2 z).trans (hmz z)) k3 k4 ⟨by rw [← hmc]; exact b6, by rw [← hms]; exact b7⟩ k5 k6 k7 k8)
/-- a call that a relation tells -/
theorem mjcallR {G : mjG} {nx : Nat → mjL → List Value → mjM → Nat × Nat → Prop} {cc : ByteArray} {own : String} {i : Nat} {q : Nat × mjSr} {pc : Nat} {L : mjL} {S : List Value} {M : mjM} {u : Nat × Nat}
    (hx : p.tables.exec = Jvm.exec) (hb : c.code = cc) (hml : c.maxLocals = nL) (hown : s.vm.findClass own = some m.cls) (hts : ∀ w ∈ mjW, w.before args s = true) (hK : mjK D tc s) (hA : ∀ q, H0.size ≤ q → A q) (hR : mc ≤ R.cells ∧ ms ≤ R.slots) (hmc : G.2.2.2.2.2.2.2.2.1 = mc) (hms : G.2.2.2.2.2.2.2.2.2.1 = ms)
    (hnx : mjNx p l e R s m args below meth c Q D tc ad0 n0 mc ms A H0 nL nx) (hq : mjcallOKr l R own (i, q)) (hd : decode cc pc = .ok (.invokestatic i, 3)) (h : mjcallr G nx q pc L S M u) : mjT p l e R s m args below meth c Q D tc ad0 n0 mc ms A H0 nL pc L S M u := by
  intro ad H locs ls hag hmz hn0 hM4 hu hL hP hD hS
  obtain ⟨na, Sr⟩ := q
  unfold mjcallr at h
  obtain ⟨hb0, hPp, hgo⟩ := mjb_inv h
  simp only [Bool.and_eq_true] at hb0
  obtain ⟨⟨⟨⟨⟨⟨b1, b2⟩, b3⟩, b4⟩, b5⟩, b6⟩, b7⟩ := hb0
  have b1 := Nat.le_of_ble_eq_true b1
  have b3 := Nat.le_of_ble_eq_true b3
  have b4 := mjplaces b4
  have b5 := Nat.le_of_ble_eq_true b5
  have b6 := Nat.le_of_ble_eq_true b6
  have b7 := Nat.le_of_ble_eq_true b7
  obtain ⟨y, cc', maxL', ret', rm', hM, ⟨hrc, hrs⟩, hRm, hna, ⟨hy, hcode, hini⟩, hlk, hst⟩ := hq
  have hlen : (S.take na).reverse.length = na := by simp; omega
  have hmet := hM D tc (fun j => ad (mjui (G.2.2.2.1 pc) M.length j)) H.size (mjext (G.2.2.2.1 pc) M) ((S.take na).reverse.map (mjv (mjri (G.2.2.2.1 pc)))) (by rw [mjext_len]; exact b5) (mjone_map _ (mjall_rev b2)) (by rw [List.length_map, hlen]; exact hna) hPp
  have hpre := mjpre_of (as := (S.take na).reverse) hK b5 b4 hP hD
  have hgood : GoodIn mjW (va_wsS own i y (.code y cc' maxL' ret' :: mjW)) := mjgood_l (by
    intro w hw
    simp only [List.mem_cons, List.not_mem_nil, or_false] at hw
    rcases hw with rfl | rfl | rfl
    · exact hlk
    · exact hst
    · exact hini) (mjgood_ws hcode)
  have hrun := va_runS (As := (S.take na).reverse.map (mjv ad)) (rest := (S.drop na).map (mjv ad)) (g := F0 m pc ls (S.map (mjv ad))) (cells := u.1) (slots := u.2) (locs := locs) (H := H) (below := below) (e := e) (meth := meth) ⟨hx, hb, hml, hown, hts⟩ hmet (va_cwS na hts hgood rfl hrc hrs hy hRm) ⟨mjpre_blind, hpre⟩ rfl (by rw [List.length_map, hlen]) (hL.2.1) (by
      show S.map (mjv ad) = _
      rw [← List.map_reverse, List.reverse_reverse, ← List.map_append, List.take_append_drop]) (lv_room (by rw [mjcat_sum]; exact b3)) hd ⟨by omega, by omega⟩
  refine mj_behindR (a := ((S.take na).reverse.map (mjv ad)).toArray) (rest := S.drop na) (Post := fun o r => ∃ M' : mjM, o = some M' ∧ M'.length = (G.2.2.2.1 pc).length ∧ (Sr (mjext (G.2.2.2.1 pc) M) ((S.take na).reverse.map (mjv (mjri (G.2.2.2.1 pc))))).2 M' r) (cm := 0) (sm := 0) (mc := mc) ?_ hA b5 b4 (fun _ => rfl) hag hn0 hM4 hL hP hD hS ?_
  · intro T hT X
    obtain ⟨v, st₀, t, T', L', h0, X', hL', e1, e2, ⟨M', r, hl, hpost, q⟩, st⟩ := hrun T hT X
    exact ⟨v, st₀, t, T', L', h0, X', hL', e1, e2, ⟨some M', r, ⟨M', rfl, by rw [hl, mjext_len], hpost⟩, q⟩, st⟩
  · intro o r h
    obtain ⟨M', rfl, hl, hpost⟩ := h
    refine ⟨mjins (G.2.2.2.1 pc) M M', ?_, fun ad1 H1 locs1 k1 k2 k3 k4 k5 k6 k7 k8 => hnx _ _ _ _ _ (hgo M' r hl hpost) ad1 H1 locs1 ls k1 (fun z => (k2 z).trans (hmz z)) k3 k4 ⟨by rw [← hmc]; exact b6, by rw [← hms]; exact b7⟩ k5 k6 k7 k8⟩
    have e1 : Nat.beq M'.length (G.2.2.2.1 pc).length = true := by rw [hl]; exact Nat.beq_refl _
    simp [mjres, e1]
theorem mjpl_blind {D : va_G} {tc : Nat → ClassId} {sz b n : Nat} {f : Nat → Int32} {k : Int32} : FrameBlind (mjPl D tc sz b n f k) := fun a U g mk q => ⟨q.1, q.2.1, q.2.2.1, va_X.moved (u := U) (U := U.calling g mk a) (Vm.Alike.refl _) q.2.2.2.1, mjK.same (u := U) (U := U.calling g mk a) rfl q.2.2.2.2⟩
/-- the call of the script's reader -/
theorem mjcallL {G : mjG} {nx : Nat → mjL → List Value → mjM → Nat × Nat → Prop} {cc : ByteArray} {own : String} {i b n : Nat} {f : Nat → Int32} {k : Int32} {q : Nat × Nat × Nat × Nat × mjSp} {pc : Nat} {L : mjL} {S : List Value} {M : mjM} {u : Nat × Nat}
    (hx : p.tables.exec = Jvm.exec) (hb : c.code = cc) (hml : c.maxLocals = nL) (hown : s.vm.findClass own = some m.cls) (hts : ∀ w ∈ mjW, w.before args s = true) (hK : mjK D tc s) (hA : ∀ q, H0.size ≤ q → A q) (hR : mc ≤ R.cells ∧ ms ≤ R.slots)
    (hnx : mjNx p l e R s m args below meth c Q D tc ad0 n0 mc ms A H0 nL nx) (hq : mjcallOK l R own (i, 6, q)) (hd : decode cc pc = .ok (.invokestatic i, 3)) (hX : va_X b n f s H0) (hbl : b < H0.size) (hbA : ¬ A b) (hb0 : ad0 4095 = b) (hk : ¬ k < 0) (hn : n < 2147483648) (h8 : mjcat S ≤ 8) (h : nx (pc + 3) L (.int (lotV n f k) :: S) M u) : mjT p l e R s m args below meth c Q D tc ad0 n0 mc ms A H0 nL pc L (.int k :: .ref 4095 :: S) M u := by
  intro ad H locs ls hag hmz hn0 hM4 hu hL hP hD hS
  obtain ⟨y, cc', maxL', ret', rm', hM, ⟨hrc, hrs⟩, hRm, hna, ⟨hy, hcode, hini⟩, hlk, hst⟩ := hq
  have hmet := hM D tc (fun j => ad (mjui [] M.length j)) H.size b n f k hk hn
  have hgood : GoodIn mjW (va_wsS own i y (.code y cc' maxL' ret' :: mjW)) := mjgood_l (by
    intro w hw
    simp only [List.mem_cons, List.not_mem_nil, or_false] at hw
    rcases hw with rfl | rfl | rfl
    · exact hlk
    · exact hst
    · exact hini) (mjgood_ws hcode)
  have had : ad 4095 = b := (hag 4095 (Or.inr (by decide))).trans hb0
  have hHb : H[b]? = H0[b]? := hS.2.1 b hbl hbA
  have hpre : ∀ U : State, U.heap = H → s.WarmedH U.vm → mjPl D tc H.size b n f k #[.ref b, .int k] U := by
    intro U hU hW
    refine ⟨rfl, by rw [hU], Nat.lt_of_lt_of_le hbl hS.1, ?_, hK.warm hW⟩
    rw [hU]
    exact va_X.moved hW.alike (va_X.kept hX hHb)
  have hrun := va_runS (As := [.ref b, .int k]) (rest := S.map (mjv ad)) (g := F0 m pc ls ((.int k :: .ref 4095 :: S).map (mjv ad))) (cells := u.1) (slots := u.2) (locs := locs) (H := H) (below := below) (e := e) (meth := meth) ⟨hx, hb, hml, hown, hts⟩ hmet (va_cwS 2 hts hgood rfl hrc hrs hy hRm) ⟨mjpl_blind, hpre⟩ rfl rfl (hL.2.1) (by
      show .int k :: .ref (ad 4095) :: S.map (mjv ad) = _
      rw [had]
      rfl) (lv_room (by rw [mjcat_sum]; exact h8)) hd ⟨by omega, by omega⟩
  have hrun2 : va_Run p l e R s m args below meth c H locs u.1 u.2 0 0 (F0 m pc ls ((.int k :: .ref 4095 :: S).map (mjv ad))) (S.map (mjv ad)) (mjQc D tc (fun j => ad (mjui [] M.length j)) H.size 0 (mjext [] M) ((none : Option mjM).getD (mjext [] M)) (some (.int (lotV n f k))) [.ref b, .int k].toArray) (va_A (mjw tc (fun j => ad (mjui [] M.length j)) (mjext [] M)) H.size) := hrun
  exact mj_behind hrun2 hA (Nat.zero_le _) ⟨fun _ h => absurd h List.not_mem_nil, List.nodup_nil⟩ rfl (fun _ => rfl) hag hn0 hM4 hL hP hD hS (fun ad1 H1 locs1 k1 k2 k3 k4 k5 k6 k7 k8 => hnx _ _ _ _ _ h ad1 H1 locs1 ls k1 (fun z => (k2 z).trans (hmz z)) k3 k4 ⟨hu.1, hu.2⟩ k5 k6 k7 k8)
end MJS
