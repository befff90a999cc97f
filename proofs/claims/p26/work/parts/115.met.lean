/-! mj: what the small machine proves, the machine does -/
section MJM
variable {p : Program} {l : Launch} {e : Env} {R : Room} {s : State} {m : MethodId} {args : Array Value} {below : List Frame} {meth : Method} {c : Code} {Q : State → Prop} {D : va_G} {tc : Nat → ClassId} {ad0 : Nat → Nat} {n0 mc ms nL : Nat} {A : Nat → Prop} {H0 : Heap}
theorem mj_sound {G : mjG} {Z : Option (Nat × (Nat → Int32))} {Rr : mjM → Option Value → Nat × Nat → Prop} {cc : ByteArray} {own : String} {rp : Instr → Bool}
    (hx : p.tables.exec = Jvm.exec) (hb : c.code = cc) (hml : c.maxLocals = nL) (hown : s.vm.findClass own = some m.cls) (hts : ∀ w ∈ mjW, w.before args s = true) (hK : mjK D tc s) (hA : ∀ q, H0.size ≤ q → A q) (hmc : G.2.2.2.2.2.2.2.2.1 = mc) (hms : G.2.2.2.2.2.2.2.2.2.1 = ms)
    (hG : mjG_ok l R cc own G meth nL) (hZ : ∀ n f, Z = some (n, f) → ∃ b, ad0 4095 = b ∧ va_X b n f s H0 ∧ b < H0.size ∧ ¬ A b) (hRet : mjRet p l e R s m args below meth c Q D tc ad0 n0 mc ms A H0 cc G.2.2.2.2.2.2.2.1 rp Rr) (hrp : ∀ pc row, G.1 pc = some row → rp row.1 = true) :
    mjC G Z Rr (mjT p l e R s m args below meth c Q D tc ad0 n0 mc ms A H0 nL) := by
  refine ⟨fun cut n => ?_, fun bs pc L S M u h ad H locs ls hag hmz hn0 hM4 hu hL hP hD hS => h ad H locs ls hag hmz hn0 hM4 hu (mjlv_mask bs hL) hP hD hS⟩
  induction n with
  | zero => exact fun pc L S M u h => h
  | succ n ih =>
    intro pc L S M u h
    cases hi : G.1 pc with
    | none =>
      simp only [mj, hi] at h
    | some row =>
      obtain ⟨ins, len, v, t⟩ := row
      simp only [mj, hi] at h
      refine mjs_sound hx hb hml hown hts hK hA hmc hms hG hZ hRet hrp (fun pc' L' S' M' u' h' => ?_) (hG.1 pc _ hi) hi h
      cases hc : cut pc' with
      | true => rw [hc] at h'; exact h'
      | false => rw [hc] at h'; exact ih pc' L' S' M' u' h'
end MJM
theorem mjargs_entry {ad : Nat → Nat} : ∀ (as : List Value) (i : Nat), as.all mjone = true → lv_args i (as.map (mjv ad)) = (as.mapIdx (fun k v => (i + k, mjv ad v)))
  | [], i, _ => rfl
  | v :: as, i, h => by
    simp only [List.all_cons, Bool.and_eq_true] at h
    have hc : ¬ (mjv ad v).category = 2 := by
      rw [mjv_cat]
      have h1 := h.1
      cases v <;> first | (intro z; cases z; done) | cases h1
    rw [List.map_cons, List.mapIdx_cons]
    show (i, mjv ad v) :: lv_args _ _ = _
    rw [if_neg hc, mjargs_entry as (i + 1) h.2]
    congr 1
    apply List.mapIdx_eq_mapIdx_iff.mpr
    intro k hk
    rw [show i + 1 + k = i + (k + 1) by omega]
theorem mjslots {ad : Nat → Nat} : ∀ (as : List Value), as.all mjone = true → (lg_sl (as.map (mjv ad))).length = as.length
  | [], _ => rfl
  | v :: as, h => by
    simp only [List.all_cons, Bool.and_eq_true] at h
    have hc : ¬ (mjv ad v).category = 2 := by
      rw [mjv_cat]
      have h1 := h.1
      cases v <;> first | (intro z; cases z; done) | cases h1
    have ih := mjslots (ad := ad) as h.2
    unfold lg_sl at ih ⊢
    rw [List.map_cons, List.flatMap_cons, if_neg hc, List.length_append, ih]
    simp
    omega
/-- the tables with other hints -/
def mjh (G : mjG) (hn : Nat → List Nat) : mjG := (G.1, G.2.1, G.2.2.1, hn, G.2.2.2.2)
/-- a method does what is said of it; the hints may vary -/
def mjOKh (G : mjG) (nL : Nat) (Sp : mjSp) : Prop := ∀ (M : mjM) (as : List Value), (Sp M as).1 → ∀ T, (∀ hn, mjC (mjh G hn) none (fun M' r _ => M' = (Sp M as).2.1.getD M ∧ r = (Sp M as).2.2) T) → T 0 (as.map some ++ List.replicate (nL - as.length) none) [] M (0, 0)
theorem mjOK.h {G : mjG} {nL : Nat} {Sp : mjSp} (h : mjOK G nL Sp) : mjOKh G nL Sp := fun M as hP T hT => h M as hP T (hT G.2.2.2.1)
theorem mjMet_of {l : Launch} {y : MethodName} {ws ws' : List Cond} {rm : Room} {Pc : Array Value → State → Prop} {Qc : Array Value → State → Outcome → State → Prop} {mc ms : Nat} {free : Addr → Prop} {cc : ByteArray} {maxL : Nat} {ret : Option FieldType}
    (hy : plainFor y = true) (hw : ws = Cond.code y cc maxL ret :: ws')
    (body : ∀ p e s m args below meth c s₁, BodyLoose p l y (headSpec ws rm) cc maxL ret e s m args below meth c s₁ → c.maxLocals = maxL → Pc args s →
      W p l e (headSpec ws rm).room s m args below meth c s.heap [] 0 0 (MQ below Qc args s mc ms free) (entryFrame m args maxL)) : Met l y ws rm Pc Qc mc ms free := by
  refine MetFree.of_bodySF (code := cc) (maxLocals := maxL) (ret := ret) hy ?_ ?_
  · intro args s m h hn
    obtain ⟨meth, c, h1, h2, h3, h4, h5, h6, -, -⟩ := Cond.code_spec hn (atoms_spec (ws := ws) h _ (by rw [hw]; exact List.mem_cons_self))
    exact ⟨meth, c, h1, h2, h3, h4, h5, h6⟩
  · intro p e s m args below meth c s₁ B hml hP _
    have hh0 : s₁.heap = s.heap := by rw [B.state]; rfl
    obtain ⟨t, a1, o, b1, b2, b3⟩ := body p e s m args below meth c s₁ B hml hP s₁ hh0 (Stand.of_body B)
    exact ⟨t, o, a1, b1, b2, ⟨b3.1, b3.2⟩⟩
theorem mjCT_ofh {l : Launch} {y : MethodName} {cc : ByteArray} {maxL : Nat} {ret : Option FieldType} {rm : Room} {Sp : mjSp} {G : mjG} {own : String} (hy : plainFor y = true) (hcls : y.cls = own) (hOK : mjOKh G maxL Sp)
    (hG : ∀ meth : Method, meth.name = y.name → mjG_ok l rm cc own G meth maxL) (hmc : G.2.2.2.2.2.2.2.2.1 = rm.cells) (hms : G.2.2.2.2.2.2.2.2.2.1 = rm.slots) (hrt : G.2.2.2.2.2.2.2.1 = ret) (hrp : ∀ pc row, G.1 pc = some row → mjrp ret row.1 = true) : mjCT l y cc maxL ret rm Sp := by
  intro D tc ad sz M as hM4 hone hlen hP
  refine mjMet_of (cc := cc) (maxL := maxL) (ret := ret) hy rfl ?_
  intro p e s m args below meth c s₁ B hml hv
  obtain ⟨rfl, hsz, hPw, hK, hD0⟩ := hv
  have hx := B.exec
  have hb := B.bytes
  have hr := B.returns
  have hts0 := atoms_spec (ws := .code y cc maxL ret :: mjW) B.pre
  have hts : ∀ w ∈ mjW, w.before (as.map (mjv ad)).toArray s = true := fun w h => hts0 w (List.mem_cons_of_mem _ h)
  have hown : s.vm.findClass own = some m.cls := by rw [← hcls]; exact findClass_of_methodNamed B.named
  have hlocks := B.notSynchronized
  have hin : meth.name = y.name := (name_of_methodNamed B.named B.method).1
  subst hsz
  have hD := hD0.self (sz := s.heap.size)
  have hA : ∀ q : Nat, s.heap.size ≤ q → va_A (mjw tc ad M) s.heap.size q := fun q h => Or.inr h
  have hS : va_S (va_A (mjw tc ad M) s.heap.size) s.heap s.heap [] := va_S.rf
  have hsl := mjslots (ad := ad) as hone
  have hl := lv_entry (as.map (mjv ad)) (n := maxL) (by rw [hsl]; exact hlen)
  rw [lg_entry_eq]
  generalize (lg_sl (as.map (mjv ad)) ++ List.replicate (maxL - (lg_sl (as.map (mjv ad))).length) Slot.unset).toArray = ls at hl ⊢
  have hL : mjlv ad ls maxL (as.map some ++ List.replicate (maxL - as.length) none) := by
    refine ⟨by simp; omega, hl.1, hl.2.1, fun q hq => ?_⟩
    obtain ⟨v, hv, e1⟩ := mjpr_mem.mp hq
    rw [mjlg_some] at hv
    refine hl.2.2 q ?_
    rw [mjargs_entry as 0 hone]
    by_cases hqi : q.1 < as.length
    · rw [List.getElem?_append_left (by simpa using hqi), List.getElem?_map] at hv
      cases hz : as[q.1]? with
      | none => rw [hz] at hv; cases hv
      | some w =>
        rw [hz] at hv
        cases hv
        refine List.mem_of_getElem? (i := q.1) ?_
        rw [List.getElem?_mapIdx, hz]
        show some (0 + q.1, mjv ad _) = some q
        rw [Nat.zero_add, ← e1]
    · rw [List.getElem?_append_right (by simpa using hqi), List.getElem?_replicate] at hv
      split at hv <;> cases hv
  have hRet : mjRet p l e rm s m (as.map (mjv ad)).toArray below meth c (MQ below (mjQc D tc ad s.heap.size rm.cells M ((Sp M as).2.1.getD M) (Sp M as).2.2) (as.map (mjv ad)).toArray s rm.cells rm.slots (va_A (mjw tc ad M) s.heap.size)) D tc ad M.length rm.cells rm.slots (va_A (mjw tc ad M) s.heap.size) s.heap cc G.2.2.2.2.2.2.2.1 (mjrp ret) (fun M' r _ => M' = (Sp M as).2.1.getD M ∧ r = (Sp M as).2.2) := by
    intro M' o u ad' H locs ls' pc ins hR hag hmz hu hP1 hD1 hS1 hd hrpi hcase
    refine W.widen hu.1 hu.2 ?_
    have fin : ∀ t : State, t.heap = H → mjQc D tc ad s.heap.size rm.cells M ((Sp M as).2.1.getD M) (Sp M as).2.2 (as.map (mjv ad)).toArray s (.returned (o.map (mjv ad'))) t := by
      intro t ht
      refine ⟨⟨ad', hag, hmz, by rw [hR.2], ?_, ?_⟩, hS1.F ht⟩
      · rw [← hR.1, ht]; exact hP1
      · rw [← hR.1]; exact hD1
    rcases hcase with ⟨x, ty, rfl, rfl, h1, h2⟩ | (⟨x, rfl, rfl⟩ | ⟨x, rfl, rfl⟩) | ⟨rfl, h1⟩ | ⟨rfl, rfl⟩
    · exact W.zret (ty := ty) hx hb (by rw [hr, ← hrt]; exact h1) h2 (fun t ht _ => fin t ht) hS1.2.2 hd
    · exact W.dret hx hb (by rw [hr]; exact of_decide_eq_true hrpi) (fun t ht _ => fin t ht) hS1.2.2 hd
    · exact W.lret hx hb (by rw [hr]; exact of_decide_eq_true hrpi) (fun t ht _ => fin t ht) hS1.2.2 hd
    · have hrt2 : ∃ rt, ret = some rt ∧ ((∃ n, rt = .object n) ∨ ∃ t, rt = .array t) := by
        unfold mjrp at hrpi
        simp only at hrpi
        split at hrpi
        · exact ⟨_, rfl, Or.inl ⟨_, rfl⟩⟩
        · exact ⟨_, rfl, Or.inr ⟨_, rfl⟩⟩
        · cases hrpi
      obtain ⟨rt, g1, g2⟩ := hrt2
      rcases h1 with ⟨x, rfl⟩ | rfl
      · exact W.aret (rt := rt) hx hb (by rw [hr]; exact g1) g2 (Or.inr ⟨_, rfl⟩) (fun t ht _ => fin t ht) hS1.2.2 hd
      · exact W.aret (rt := rt) hx hb (by rw [hr]; exact g1) g2 (Or.inl rfl) (fun t ht _ => fin t ht) hS1.2.2 hd
    · exact W.vret hx hb (by rw [hr]; exact of_decide_eq_true hrpi) (fun t ht _ => fin t ht) hS1.2.2 hd
  have hC : ∀ hn, mjC (mjh G hn) none (fun M' r _ => M' = (Sp M as).2.1.getD M ∧ r = (Sp M as).2.2) (mjT p l e rm s m (as.map (mjv ad)).toArray below meth c (MQ below (mjQc D tc ad s.heap.size rm.cells M ((Sp M as).2.1.getD M) (Sp M as).2.2) (as.map (mjv ad)).toArray s rm.cells rm.slots (va_A (mjw tc ad M) s.heap.size)) D tc ad M.length rm.cells rm.slots (va_A (mjw tc ad M) s.heap.size) s.heap maxL) := fun hn => mj_sound (G := mjh G hn) (R := rm) hx hb hml hown hts hK hA hmc hms (hG meth hin) (Z := none) (fun n f z => by cases z) hRet hrp
  exact hOK M as hP _ hC ad s.heap [] ls (fun _ _ => rfl) (fun _ => rfl) (Nat.le_refl _) hM4 ⟨Nat.zero_le _, Nat.zero_le _⟩ hL hPw hD hS

theorem mjCT_of {l : Launch} {y : MethodName} {cc : ByteArray} {maxL : Nat} {ret : Option FieldType} {rm : Room} {Sp : mjSp} {G : mjG} {own : String} (hy : plainFor y = true) (hcls : y.cls = own) (hOK : mjOK G maxL Sp)
    (hG : ∀ meth : Method, meth.name = y.name → mjG_ok l rm cc own G meth maxL) (hmc : G.2.2.2.2.2.2.2.2.1 = rm.cells) (hms : G.2.2.2.2.2.2.2.2.2.1 = rm.slots) (hrt : G.2.2.2.2.2.2.2.1 = ret) (hrp : ∀ pc row, G.1 pc = some row → mjrp ret row.1 = true) : mjCT l y cc maxL ret rm Sp := mjCT_ofh hy hcls hOK.h hG hmc hms hrt hrp
theorem mjCTr_of {l : Launch} {y : MethodName} {cc : ByteArray} {maxL : Nat} {ret : Option FieldType} {rm : Room} {Sr : mjSr} {G : mjG} {own : String} (hy : plainFor y = true) (hcls : y.cls = own) (hOK : mjOKr G maxL Sr)
    (hG : ∀ meth : Method, meth.name = y.name → mjG_ok l rm cc own G meth maxL) (hmc : G.2.2.2.2.2.2.2.2.1 = 0) (hms : G.2.2.2.2.2.2.2.2.2.1 = 0) (hrt : G.2.2.2.2.2.2.2.1 = ret) (hrp : ∀ pc row, G.1 pc = some row → mjrp ret row.1 = true) : mjCTr l y cc maxL ret rm Sr := by
  intro D tc ad sz M as hM4 hone hlen hP
  refine mjMet_of (cc := cc) (maxL := maxL) (ret := ret) hy rfl ?_
  intro p e s m args below meth c s₁ B hml hv
  obtain ⟨rfl, hsz, hPw, hK, hD0⟩ := hv
  have hx := B.exec
  have hb := B.bytes
  have hr := B.returns
  have hts0 := atoms_spec (ws := .code y cc maxL ret :: mjW) B.pre
  have hts : ∀ w ∈ mjW, w.before (as.map (mjv ad)).toArray s = true := fun w h => hts0 w (List.mem_cons_of_mem _ h)
  have hown : s.vm.findClass own = some m.cls := by rw [← hcls]; exact findClass_of_methodNamed B.named
  have hlocks := B.notSynchronized
  have hin : meth.name = y.name := (name_of_methodNamed B.named B.method).1
  subst hsz
  have hD := hD0.self (sz := s.heap.size)
  have hA : ∀ q : Nat, s.heap.size ≤ q → va_A (mjw tc ad M) s.heap.size q := fun q h => Or.inr h
  have hS : va_S (va_A (mjw tc ad M) s.heap.size) s.heap s.heap [] := va_S.rf
  have hsl := mjslots (ad := ad) as hone
  have hl := lv_entry (as.map (mjv ad)) (n := maxL) (by rw [hsl]; exact hlen)
  rw [lg_entry_eq]
  generalize (lg_sl (as.map (mjv ad)) ++ List.replicate (maxL - (lg_sl (as.map (mjv ad))).length) Slot.unset).toArray = ls at hl ⊢
  have hL : mjlv ad ls maxL (as.map some ++ List.replicate (maxL - as.length) none) := by
    refine ⟨by simp; omega, hl.1, hl.2.1, fun q hq => ?_⟩
    obtain ⟨v, hv, e1⟩ := mjpr_mem.mp hq
    rw [mjlg_some] at hv
    refine hl.2.2 q ?_
    rw [mjargs_entry as 0 hone]
    by_cases hqi : q.1 < as.length
    · rw [List.getElem?_append_left (by simpa using hqi), List.getElem?_map] at hv
      cases hz : as[q.1]? with
      | none => rw [hz] at hv; cases hv
      | some w =>
        rw [hz] at hv
        cases hv
        refine List.mem_of_getElem? (i := q.1) ?_
        rw [List.getElem?_mapIdx, hz]
        show some (0 + q.1, mjv ad _) = some q
        rw [Nat.zero_add, ← e1]
    · rw [List.getElem?_append_right (by simpa using hqi), List.getElem?_replicate] at hv
      split at hv <;> cases hv
  have hRet : mjRet p l e rm s m (as.map (mjv ad)).toArray below meth c (MQ below (mjQr D tc ad s.heap.size M (Sr M as).2) (as.map (mjv ad)).toArray s 0 0 (va_A (mjw tc ad M) s.heap.size)) D tc ad M.length 0 0 (va_A (mjw tc ad M) s.heap.size) s.heap cc G.2.2.2.2.2.2.2.1 (mjrp ret) (fun M' r _ => M'.length = M.length ∧ (Sr M as).2 M' r) := by
    intro M' o u ad' H locs ls' pc ins hR hag hmz hu hP1 hD1 hS1 hd hrpi hcase
    refine W.widen hu.1 hu.2 ?_
    have fin : ∀ t : State, t.heap = H → mjQr D tc ad s.heap.size M (Sr M as).2 (as.map (mjv ad)).toArray s (.returned (o.map (mjv ad'))) t := by
      intro t ht
      refine ⟨M', o, hR.1, hR.2, ⟨ad', hag, hmz, rfl, ?_, ?_⟩, hS1.F ht⟩
      · rw [ht]; exact hP1
      · exact hD1
    rcases hcase with ⟨x, ty, rfl, rfl, h1, h2⟩ | (⟨x, rfl, rfl⟩ | ⟨x, rfl, rfl⟩) | ⟨rfl, h1⟩ | ⟨rfl, rfl⟩
    · exact W.zret (ty := ty) hx hb (by rw [hr, ← hrt]; exact h1) h2 (fun t ht _ => fin t ht) hS1.2.2 hd
    · exact W.dret hx hb (by rw [hr]; exact of_decide_eq_true hrpi) (fun t ht _ => fin t ht) hS1.2.2 hd
    · exact W.lret hx hb (by rw [hr]; exact of_decide_eq_true hrpi) (fun t ht _ => fin t ht) hS1.2.2 hd
    · have hrt2 : ∃ rt, ret = some rt ∧ ((∃ n, rt = .object n) ∨ ∃ t, rt = .array t) := by
        unfold mjrp at hrpi
        simp only at hrpi
        split at hrpi
        · exact ⟨_, rfl, Or.inl ⟨_, rfl⟩⟩
        · exact ⟨_, rfl, Or.inr ⟨_, rfl⟩⟩
        · cases hrpi
      obtain ⟨rt, g1, g2⟩ := hrt2
      rcases h1 with ⟨x, rfl⟩ | rfl
      · exact W.aret (rt := rt) hx hb (by rw [hr]; exact g1) g2 (Or.inr ⟨_, rfl⟩) (fun t ht _ => fin t ht) hS1.2.2 hd
      · exact W.aret (rt := rt) hx hb (by rw [hr]; exact g1) g2 (Or.inl rfl) (fun t ht _ => fin t ht) hS1.2.2 hd
    · exact W.vret hx hb (by rw [hr]; exact of_decide_eq_true hrpi) (fun t ht _ => fin t ht) hS1.2.2 hd
  have hC : mjC G none (fun M' r _ => M'.length = M.length ∧ (Sr M as).2 M' r) (mjT p l e rm s m (as.map (mjv ad)).toArray below meth c (MQ below (mjQr D tc ad s.heap.size M (Sr M as).2) (as.map (mjv ad)).toArray s 0 0 (va_A (mjw tc ad M) s.heap.size)) D tc ad M.length 0 0 (va_A (mjw tc ad M) s.heap.size) s.heap maxL) := mj_sound (G := G) (R := rm) hx hb hml hown hts hK hA hmc hms (hG meth hin) (Z := none) (fun n f z => by cases z) hRet hrp
  exact hOK M as hP _ hC ad s.heap [] ls (fun _ _ => rfl) (fun _ => rfl) (Nat.le_refl _) hM4 ⟨Nat.zero_le _, Nat.zero_le _⟩ hL hPw hD hS

/-- the script's reader: its contract out of the machine's walk of it -/
theorem mjLot_of {l : Launch} {y : MethodName} {cc : ByteArray} {ret : Option FieldType} {rm : Room} {G : mjG} {own : String} (hy : plainFor y = true) (hcls : y.cls = own)
    (hOK : ∀ (n : Nat) (f : Nat → Int32) (k : Int32), ¬ k < 0 → n < 2147483648 → ∀ T, mjC G (some (n, f)) (fun M' r _ => M' = [] ∧ r = some (.int (lotV n f k))) T → T 0 [some (.ref 4095), some (.int k)] [] [] (0, 0))
    (hG : ∀ meth : Method, meth.name = y.name → mjG_ok l rm cc own G meth 2) (hmc : G.2.2.2.2.2.2.2.2.1 = 0) (hms : G.2.2.2.2.2.2.2.2.2.1 = 0) (hrt : G.2.2.2.2.2.2.2.1 = ret) (hrp : ∀ pc row, G.1 pc = some row → mjrp ret row.1 = true) : mjLot l y cc 2 ret rm := by
  intro D tc ad2 sz b n f k hk hn
  refine mjMet_of (cc := cc) (maxL := 2) (ret := ret) hy rfl ?_
  intro p e s m args below meth c s₁ B hml hv
  obtain ⟨rfl, hsz, hbs, hX, hK⟩ := hv
  have hx := B.exec
  have hb := B.bytes
  have hr := B.returns
  have hts0 := atoms_spec (ws := .code y cc 2 ret :: mjW) B.pre
  have hts : ∀ w ∈ mjW, w.before [Value.ref b, .int k].toArray s = true := fun w h => hts0 w (List.mem_cons_of_mem _ h)
  have hown : s.vm.findClass own = some m.cls := by rw [← hcls]; exact findClass_of_methodNamed B.named
  have hlocks := B.notSynchronized
  have hin : meth.name = y.name := (name_of_methodNamed B.named B.method).1
  subst hsz
  have hA : ∀ q : Nat, s.heap.size ≤ q → va_A (mjw tc ad2 []) s.heap.size q := fun q h => Or.inr h
  have hbA : ¬ va_A (mjw tc ad2 []) s.heap.size b := by
    rintro (⟨k, e, h⟩ | h)
    · cases h
    · omega
  have hS : va_S (va_A (mjw tc ad2 []) s.heap.size) s.heap s.heap [] := va_S.rf
  have hl := lv_entry [Value.ref b, .int k] (n := 2) (Nat.le_refl 2)
  have hP0 : ∀ (ad : Nat → Nat) (H : Heap), va_P D vwCl (mjw tc ad []) H := by
    intro ad H i q h
    simp [mjw] at h
  have hD0 : ∀ (ad : Nat → Nat) (A : Nat → Prop), va_D A (mjw tc ad []) := by
    intro ad A
    refine ⟨?_, ?_⟩
    · intro i j p q h
      simp [mjw] at h
    · intro i q h
      simp [mjw] at h
  rw [lg_entry_eq]
  generalize (lg_sl [Value.ref b, .int k] ++ List.replicate (2 - (lg_sl [Value.ref b, .int k]).length) Slot.unset).toArray = ls at hl ⊢
  have hL : mjlv (fun i => if i = 4095 then b else ad2 i) ls 2 [some (.ref 4095), some (.int k)] := ⟨rfl, hl⟩
  have hRet : mjRet p l e rm s m [Value.ref b, .int k].toArray below meth c (MQ below (mjQc D tc ad2 s.heap.size 0 [] [] (some (.int (lotV n f k)))) [Value.ref b, .int k].toArray s 0 0 (va_A (mjw tc ad2 []) s.heap.size)) D tc (fun i => if i = 4095 then b else ad2 i) 0 0 0 (va_A (mjw tc ad2 []) s.heap.size) s.heap cc G.2.2.2.2.2.2.2.1 (mjrp ret) (fun M' r _ => M' = [] ∧ r = some (.int (lotV n f k))) := by
    intro M' o u ad' H locs ls' pc ins hR hag hmz hu hP1 hD1 hS1 hd hrpi hcase
    refine W.widen hu.1 hu.2 ?_
    obtain ⟨rfl, rfl⟩ := hR
    have fin : ∀ t : State, t.heap = H → mjQc D tc ad2 s.heap.size 0 [] [] (some (.int (lotV n f k))) [Value.ref b, .int k].toArray s (.returned (some (.int (lotV n f k)))) t := by
      intro t ht
      exact ⟨⟨ad2, fun _ _ => rfl, fun _ => rfl, rfl, hP0 _ _, hD0 _ _⟩, hS1.F ht⟩
    rcases hcase with ⟨x, ty, rfl, hx1, h1, h2⟩ | (⟨x, rfl, hx1⟩ | ⟨x, rfl, hx1⟩) | ⟨rfl, h1⟩ | ⟨rfl, hx1⟩
    · cases hx1
      exact W.zret (ty := ty) hx hb (by rw [hr, ← hrt]; exact h1) h2 (fun t ht _ => fin t ht) hS1.2.2 hd
    · cases hx1
    · cases hx1
    · rcases h1 with ⟨x, h1⟩ | h1 <;> cases h1
    · cases hx1
  have hC : mjC G (some (n, f)) (fun M' r _ => M' = [] ∧ r = some (.int (lotV n f k))) (mjT p l e rm s m [Value.ref b, .int k].toArray below meth c (MQ below (mjQc D tc ad2 s.heap.size 0 [] [] (some (.int (lotV n f k)))) [Value.ref b, .int k].toArray s 0 0 (va_A (mjw tc ad2 []) s.heap.size)) D tc (fun i => if i = 4095 then b else ad2 i) 0 0 0 (va_A (mjw tc ad2 []) s.heap.size) s.heap 2) := mj_sound (G := G) (R := rm) hx hb hml hown hts hK hA hmc hms (hG meth hin) (Z := some (n, f)) (fun n' f' z => by
      cases z
      exact ⟨b, if_pos rfl, hX, hbs, hbA⟩) hRet hrp
  exact hOK n f k hk hn _ hC (fun i => if i = 4095 then b else ad2 i) s.heap [] ls (fun _ _ => rfl) (fun _ => rfl) (Nat.le_refl _) (Nat.zero_le _) ⟨Nat.zero_le _, Nat.zero_le _⟩ hL (hP0 _ _) (hD0 _ _) hS
