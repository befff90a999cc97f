/-! mj: each step is a step of the machine -/
theorem mjw_setO (tc : Nat → ClassId) (ad : Nat → Nat) (M : mjM) (a c k : Nat) (fs : List Value) (x : Value) : mjw tc ad (M.set a (.inr (c, fs.set k x))) = (mjw tc ad M).set a (ad a, .inr (c, (fs.map (mjv ad)).set k (mjv ad x))) := by
  rw [mjw_set]
  show (mjw tc ad M).set a (ad a, .inr (c, (fs.set k x).map (mjv ad))) = _
  rw [List.map_set]
theorem mjup_pf {ad : Nat → Nat} {n q : Nat} (hn : n < 4000) : ∀ i, mjPf n i = true → va_up ad n q i = ad i := by
  intro i h
  rw [mjPf_iff] at h
  unfold va_up
  rw [if_neg (by omega)]
def mjT (p : Program) (l : Launch) (e : Env) (R : Room) (s : State) (m : MethodId) (args : Array Value) (below : List Frame) (meth : Method) (c : Code) (Q : State → Prop) (D : va_G) (tc : Nat → ClassId) (ad0 : Nat → Nat) (n0 mc ms : Nat) (A : Nat → Prop) (H0 : Heap) (nL : Nat) : Nat → mjL → List Value → mjM → Nat × Nat → Prop := fun pc L S M u =>
  ∀ (ad : Nat → Nat) (H : Heap) (locs : List Loc) (ls : Array Slot), (∀ i, (i < n0 ∨ 4000 < i) → ad i = ad0 i) → (mc = 0 → ad = ad0) → n0 ≤ M.length → M.length ≤ 4000 → (u.1 ≤ mc ∧ u.2 ≤ ms) → mjlv ad ls nL L → va_P D vwCl (mjw tc ad M) H → va_D A (mjw tc ad M) → va_S A H0 H locs → W p l e R s m args below meth c H locs u.1 u.2 Q (F0 m pc ls (S.map (mjv ad)))
def mjfldOK (own : String) (i ci k tk : Nat) : Prop := ∃ (C : String) (T : u_T) (N : Nat) (ty : Nat → FieldType), vwCl[ci]? = some (C, T, N) ∧ k < N ∧ (∀ w ∈ u_ws C T N, w ∈ mjW) ∧ (∀ k, k < N → parseFieldDescriptor (T k).2.2.1 = some (ty k)) ∧ (∀ a, a < N → ∀ b, b < N → a ≠ b → (T a).2.1 ≠ (T b).2.1) ∧
  ((Cond.fieldLink own i (T k).1 (T k).2.1 (T k).2.2.1 ∈ mjW) ∨ (∃ host, Cond.fieldLinkNest own i (T k).1 (T k).2.1 (T k).2.2.1 host ∈ mjN)) ∧
  (match tk with
   | 0 => ty k = .int ∧ (T k).2.2.2 = false
   | 1 => ty k = .boolean ∧ (T k).2.2.2 = false
   | 2 => ((∃ n, ty k = .object n) ∨ ∃ t, ty k = .array t) ∧ (T k).2.2.2 = false
   | 3 => ((∃ n, ty k = .object n) ∨ ∃ t, ty k = .array t) ∧ (T k).2.2.2 = true ∧ (T k).1 = own ∧ Cond.fieldLink own i (T k).1 (T k).2.1 (T k).2.2.1 ∈ mjW
   | _ => True)
def mjplain (v : Value) : Bool := match v with
  | .ref _ => false
  | _ => true
theorem mjplain_map (ad : Nat → Nat) : ∀ {fs : List Value}, fs.all mjplain = true → fs.map (mjv ad) = fs
  | [], _ => rfl
  | v :: fs, h => by
    simp only [List.all_cons, Bool.and_eq_true] at h
    rw [List.map_cons, mjplain_map ad h.2]
    cases v <;> first | rfl | cases h.1
def mjnewOK (own : String) (i ci : Nat) (fs : List Value) : Prop := ∃ (C : String) (T : u_T) (N : Nat) (ty : Nat → FieldType), vwCl[ci]? = some (C, T, N) ∧ (∀ w ∈ u_ws C T N, w ∈ mjW) ∧ (∀ k, k < N → parseFieldDescriptor (T k).2.2.1 = some (ty k)) ∧ Cond.classLink own i C ∈ mjW ∧ Cond.instantiable C N ∈ mjW ∧ Cond.initialized C ∈ mjW ∧ fs.length = N ∧ (∀ j, j < N → defaultValue (ty j) = vp_V fs j) ∧ fs.all mjplain = true
/-- what is known of a callee's name -/
def mjnameOK (y : MethodName) (cc : ByteArray) (maxL : Nat) (ret : Option FieldType) (n : Nat) : Prop := (y.cls ≠ "java/lang/invoke/MethodHandle" ∧ y.cls ≠ "java/lang/invoke/VarHandle" ∧ (parseMethodDescriptor y.desc).map (fun d => d.parameters.length) = some n) ∧ Cond.code y cc maxL ret ∈ mjW ∧ Cond.initialized y.cls ∈ mjW
/-- a contract that a relation tells -/
def mjQr (D : va_G) (tc : Nat → ClassId) (ad : Nat → Nat) (sz : Nat) (M : mjM) (Post : mjM → Option Value → Prop) : Array Value → State → Outcome → State → Prop :=
  fun a st oc t => ∃ (M' : mjM) (r : Option Value), M'.length = M.length ∧ Post M' r ∧ mjQc D tc ad sz 0 M M' r a st oc t
def mjCTr (l : Launch) (y : MethodName) (cc : ByteArray) (maxL : Nat) (ret : Option FieldType) (rm : Room) (Sr : mjSr) : Prop :=
  ∀ (D : va_G) (tc : Nat → ClassId) (ad : Nat → Nat) (sz : Nat) (M : mjM) (as : List Value), M.length ≤ 4000 → as.all mjone = true → as.length ≤ maxL → (Sr M as).1 →
    Met l y (.code y cc maxL ret :: mjW) rm (mjPc D tc ad sz M as) (mjQr D tc ad sz M (Sr M as).2) 0 0 (va_A (mjw tc ad M) sz)
/-- the contract of the script's reader -/
abbrev mjPl (D : va_G) (tc : Nat → ClassId) (sz b n : Nat) (f : Nat → Int32) (k : Int32) : Array Value → State → Prop := va_Pc [.ref b, .int k] (fun U => U.heap.size = sz ∧ b < sz ∧ va_X b n f U U.heap ∧ mjK D tc U)
def mjLot (l : Launch) (y : MethodName) (cc : ByteArray) (maxL : Nat) (ret : Option FieldType) (rm : Room) : Prop :=
  ∀ (D : va_G) (tc : Nat → ClassId) (ad2 : Nat → Nat) (sz b n : Nat) (f : Nat → Int32) (k : Int32), ¬ k < 0 → n < 2147483648 →
    Met l y (.code y cc maxL ret :: mjW) rm (mjPl D tc sz b n f k) (mjQc D tc ad2 sz 0 [] [] (some (.int (lotV n f k)))) 0 0 (va_A (mjw tc ad2 []) sz)
def mjcallOK (l : Launch) (R : Room) (own : String) (q : mjX) : Prop := match q with
  | (i, 0, vc, na, cm, sm, Sp) => ∃ (y : MethodName) (cc : ByteArray) (maxL : Nat) (ret : Option FieldType) (rm : Room), mjCT l y cc maxL ret rm Sp ∧ (rm.cells = cm ∧ rm.slots = sm) ∧ (rm.frames + 1 ≤ R.frames ∧ 8 + (maxL + 11) + rm.locals ≤ R.locals) ∧ na ≤ maxL ∧ 1 ≤ na ∧ mjnameOK y cc maxL ret (na - 1) ∧ Cond.methodLink own i y ∈ mjW ∧ Cond.instanceMethod y ∈ mjW ∧ Cond.selects y.cls y y ∈ mjW ∧ (vwCl[vc]?).map (fun r => r.1) = some y.cls
  | (i, 1, _, na, cm, sm, Sp) => ∃ (y : MethodName) (cc : ByteArray) (maxL : Nat) (ret : Option FieldType) (rm : Room), mjCT l y cc maxL ret rm Sp ∧ (rm.cells = cm ∧ rm.slots = sm) ∧ (rm.frames + 1 ≤ R.frames ∧ 8 + (maxL + 11) + rm.locals ≤ R.locals) ∧ na ≤ maxL ∧ mjnameOK y cc maxL ret na ∧ Cond.methodLink own i y ∈ mjW ∧ Cond.static y ∈ mjW
  | (i, 2, _, na, cm, sm, Sp) => ∃ (y : MethodName) (cc : ByteArray) (maxL : Nat) (rm : Room), mjCT l y cc maxL none rm Sp ∧ (rm.cells = cm ∧ rm.slots = sm) ∧ (rm.frames + 1 ≤ R.frames ∧ 8 + (maxL + 11) + rm.locals ≤ R.locals) ∧ na ≤ maxL ∧ 1 ≤ na ∧ mjnameOK y cc maxL none (na - 1) ∧ Cond.methodLink own i y ∈ mjW ∧ Cond.instanceMethod y ∈ mjW ∧ y.name = "<init>"
  | (i, 3, _) => Cond.methodLink own i Lib.objectInit ∈ mjW ∧ Cond.instanceMethod Lib.objectInit ∈ mjW ∧ Cond.code Lib.objectInit ⟨#[0xb1]⟩ 1 none ∈ mjW ∧ 1 ≤ R.frames ∧ 20 ≤ R.locals
  | (i, 4, _) => Cond.methodLink own i arraycopyName ∈ mjW ∧ Cond.native arraycopyName ∈ mjW ∧ Cond.static arraycopyName ∈ mjW ∧ Cond.initialized "java/lang/System" ∈ mjW ∧ 1 ≤ R.frames ∧ 8 + (nativeFrameWords "java/lang/System" "arraycopy" 5 + 11) ≤ R.locals
  | (i, 5, _, na, cm, sm, Sp) => ∃ (y : MethodName) (cc : ByteArray) (maxL : Nat) (rm : Room), mjCT l y cc maxL none rm Sp ∧ (rm.cells = cm ∧ rm.slots = sm) ∧ (rm.frames + 1 ≤ R.frames ∧ 8 + (maxL + 11) + rm.locals ≤ R.locals) ∧ na ≤ maxL ∧ 1 ≤ na ∧ mjnameOK y cc maxL none (na - 1) ∧ Cond.methodLinkNest own i y RX6 ∈ mjN ∧ Cond.instanceMethod y ∈ mjW ∧ y.name = "<init>"
  | (i, 6, _) => ∃ (y : MethodName) (cc : ByteArray) (maxL : Nat) (ret : Option FieldType) (rm : Room), mjLot l y cc maxL ret rm ∧ (rm.cells = 0 ∧ rm.slots = 0) ∧ (rm.frames + 1 ≤ R.frames ∧ 8 + (maxL + 11) + rm.locals ≤ R.locals) ∧ 2 ≤ maxL ∧ mjnameOK y cc maxL ret 2 ∧ Cond.methodLink own i y ∈ mjW ∧ Cond.static y ∈ mjW
  | _ => False
def mjcallOKr (l : Launch) (R : Room) (own : String) (q : Nat × Nat × mjSr) : Prop := ∃ (y : MethodName) (cc : ByteArray) (maxL : Nat) (ret : Option FieldType) (rm : Room), mjCTr l y cc maxL ret rm q.2.2 ∧ (rm.cells = 0 ∧ rm.slots = 0) ∧ (rm.frames + 1 ≤ R.frames ∧ 8 + (maxL + 11) + rm.locals ≤ R.locals) ∧ q.2.1 ≤ maxL ∧ mjnameOK y cc maxL ret q.2.1 ∧ Cond.methodLink own q.1 y ∈ mjW ∧ Cond.static y ∈ mjW
theorem mjgood_ws {y : MethodName} {cc : ByteArray} {maxL : Nat} {ret : Option FieldType} (h : Cond.code y cc maxL ret ∈ mjW) : GoodIn mjW (.code y cc maxL ret :: mjW) := by
  intro w hw
  rcases List.mem_cons.mp hw with rfl | hw
  · exact ⟨h, good_of_word (mjW_good _ h)⟩
  · exact ⟨hw, good_of_word (mjW_good _ hw)⟩
theorem mjgood_l {a b : List Cond} (ha : ∀ w ∈ a, w ∈ mjW) (hb : GoodIn mjW b) : GoodIn mjW (a ++ b) := by
  intro w hw
  rcases List.mem_append.mp hw with hw | hw
  · exact ⟨ha w hw, good_of_word (mjW_good _ (ha w hw))⟩
  · exact hb w hw
section MJS
variable {p : Program} {l : Launch} {e : Env} {R : Room} {s : State} {m : MethodId} {args : Array Value} {below : List Frame} {meth : Method} {c : Code} {Q : State → Prop} {D : va_G} {tc : Nat → ClassId} {ad0 : Nat → Nat} {n0 mc ms nL : Nat} {A : Nat → Prop} {H0 : Heap}
/-- behind a call -/
theorem mj_behindR {ad : Nat → Nat} {M : mjM} {e0 : List Nat} {cm sm pc : Nat} {ls : Array Slot} {L : mjL} {st0 rest : List Value} {H : Heap} {locs : List Loc} {cells slots : Nat} {a : Array Value} {Post : Option mjM → Option Value → Prop}
    (hr : va_Run p l e R s m args below meth c H locs cells slots cm sm (F0 m pc ls st0) (rest.map (mjv ad)) (fun st oc t => ∃ (o : Option mjM) (r : Option Value), Post o r ∧ mjQc D tc (fun j => ad (mjui e0 M.length j)) H.size cm (mjext e0 M) (o.getD (mjext e0 M)) r a st oc t) (va_A (mjw tc (fun j => ad (mjui e0 M.length j)) (mjext e0 M)) H.size))
    (hA : ∀ q, H0.size ≤ q → A q) (he : e0.length ≤ 4000) (hpl : (∀ a ∈ e0, a < M.length) ∧ e0.Nodup) (hmz : mc = 0 → cm = 0)
    (hag : ∀ i, (i < n0 ∨ 4000 < i) → ad i = ad0 i) (hn0 : n0 ≤ M.length) (hM4 : M.length ≤ 4000) (hL : mjlv ad ls nL L) (hP : va_P D vwCl (mjw tc ad M) H) (hD : va_D A (mjw tc ad M)) (hS : va_S A H0 H locs)
    (hres : ∀ (o : Option mjM) (r : Option Value), Post o r → ∃ M1 : mjM, mjres e0 cm L rest M r o = (true, M1) ∧ ∀ (ad1 : Nat → Nat) (H1 : Heap) (locs1 : List Loc), (∀ i, (i < n0 ∨ 4000 < i) → ad1 i = ad0 i) → (mc = 0 → ad1 = ad) → n0 ≤ M1.length → M1.length ≤ 4000 → mjlv ad1 ls nL L → va_P D vwCl (mjw tc ad1 M1) H1 → va_D A (mjw tc ad1 M1) → va_S A H0 H1 locs1 → W p l e R s m args below meth c H1 locs1 (cells + cm) (slots + sm) Q (F0 m (pc + 3) ls ((r.toList.map (mjv (mjui e0 M.length)) ++ rest).map (mjv ad1)))) : W p l e R s m args below meth c H locs cells slots Q (F0 m pc ls st0) := by
  have hF := va_free (wc := mjw tc (fun j => ad (mjui e0 M.length j)) (mjext e0 M)) hD hS hA e0 (mjext_sub he hpl.1)
  intro T hT X
  obtain ⟨v, st₀, t, T', L', h0, X', hL', e1, e2, ⟨o, r, hpost, ⟨ad', ha1, ha2, hv, hP1, hD1⟩, hz, hk⟩, st⟩ := hr T hT X
  obtain ⟨M1, hres, kk⟩ := hres o r hpost
  have hv : v = r.map (mjv ad') := by cases hv; rfl
  subst hv
  rw [h0] at hz hk
  have hS1 : va_S A H0 T'.heap (locs ++ L') := ⟨Nat.le_trans hS.1 (by rw [e1]; exact hz), fun q h1 h2 => by rw [e1, hk q (Nat.lt_of_lt_of_le h1 hS.1) (fun z => h2 (hF q z))]; exact hS.2.1 q h1 h2, fun q hq => by
      rcases List.mem_append.mp hq with h | h
      · exact hS.2.2 q h
      · exact hF _ (hL' q h)⟩
  rw [← e1] at hP1 hk
  rw [mjext_len] at ha1
  -- the new addresses, and the world
  have main : ∃ ad1 : Nat → Nat, (∀ i, (i < n0 ∨ 4000 < i) → ad1 i = ad0 i) ∧ (mc = 0 → ad1 = ad) ∧ n0 ≤ M1.length ∧ M1.length ≤ 4000 ∧ mjlv ad1 ls nL L ∧ va_P D vwCl (mjw tc ad1 M1) T'.heap ∧ va_D A (mjw tc ad1 M1) ∧ (r.toList.map (mjv (mjui e0 M.length)) ++ rest).map (mjv ad1) = (r.map (mjv ad')).toList ++ rest.map (mjv ad) := by
    have hval0 : ad' = (fun j => ad (mjui e0 M.length j)) → (r.toList.map (mjv (mjui e0 M.length)) ++ rest).map (mjv ad) = (r.map (mjv ad')).toList ++ rest.map (mjv ad) := by
      intro hz
      rw [List.map_append]
      congr 1
      cases r with
      | none => rfl
      | some w =>
        show [mjv ad (mjv (mjui e0 M.length) w)] = [mjv ad' w]
        rw [mjv_comp, hz]
    -- a call that makes nothing, and gives its cells back
    have same : cm = 0 → ∀ M' : mjM, M'.length = e0.length → va_P D vwCl (mjw tc ad' M') T'.heap → va_D (va_A (mjw tc (fun j => ad (mjui e0 M.length j)) (mjext e0 M)) H.size) (mjw tc ad' M') → va_P D vwCl (mjw tc ad (mjins e0 M M')) T'.heap ∧ va_D A (mjw tc ad (mjins e0 M M')) := by
      intro hc M' hM' hP1 hD1
      have hz := ha2 hc
      refine mj_world (ad' := ad') he hpl.1 hpl.2 hP hD hk hF hP1 hD1 (by omega) (fun _ _ => rfl) (fun _ _ => rfl) (fun x _ => ?_) (fun k hk => by omega) (fun j _ => by rw [hz])
      rw [mje_comp, hz]
    have lenins : ∀ M' : mjM, e0.length ≤ M'.length → (mjins e0 M M').length = M.length + (M'.length - e0.length) := by
      intro M' h
      unfold mjins
      rw [List.length_append, mjput_len, List.length_map, List.length_drop]
    cases o with
    | none =>
      obtain ⟨h1, h2⟩ := Prod.mk.inj hres
      have hc := Nat.eq_of_beq_eq_true h1
      subst h2
      have hz := ha2 hc
      -- nothing changed: each cell is as before
      obtain ⟨hp, hd⟩ := same hc (mjext e0 M) (mjext_len _ _) hP1 hD1
      have hins : mjw tc ad (mjins e0 M (mjext e0 M)) = mjw tc ad M := by
        apply List.ext_getElem?
        intro i
        have hl2 := lenins (mjext e0 M) (by rw [mjext_len]; exact Nat.le_refl _)
        rw [mjext_len] at hl2
        by_cases hi : i < M.length
        · obtain ⟨x, hx⟩ : ∃ x, M[i]? = some x := ⟨_, List.getElem?_eq_getElem hi⟩
          rw [mjw_at hx]
          by_cases hie : i ∈ e0
          · obtain ⟨j, hj⟩ := List.getElem?_of_mem hie
            have h3 : (mjext e0 M)[j]? = some (mjc (mjri e0) x) := by
              unfold mjext
              rw [List.getElem?_map, hj]
              simp [List.getD, hx]
            have h4 : (mjins e0 M (mjext e0 M))[i]? = some (mjc (mjui e0 M.length) (mjc (mjri e0) x)) := by
              unfold mjins
              rw [List.getElem?_append_left (by rw [mjput_len]; exact hi)]
              exact mjput_in e0 _ M i j _ hpl.2 hpl.1 hj (by rw [List.getElem?_map, h3]; rfl)
            rw [mjw_at h4, mje_comp, mje_comp]
            have h5 : (fun i => ad (mjui e0 M.length (mjri e0 i))) = ad := by
              funext k
              rw [mjui_ri e0 M.length k he]
            rw [h5]
          · have h4 : (mjins e0 M (mjext e0 M))[i]? = some x := by
              unfold mjins
              rw [List.getElem?_append_left (by rw [mjput_len]; exact hi), mjput_out e0 _ M i hie]
              exact hx
            rw [mjw_at h4]
        · rw [List.getElem?_eq_none (by rw [mjw_len]; omega), List.getElem?_eq_none (by rw [mjw_len]; omega)]
      rw [hins] at hp hd
      exact ⟨ad, hag, fun _ => rfl, hn0, hM4, hL, hp, hd, hval0 hz⟩
    | some M' =>
      obtain ⟨h1, h2⟩ := Prod.mk.inj hres
      subst h2
      rcases Bool.or_eq_true_iff.mp h1 with h1 | h1
      · rw [Bool.and_eq_true] at h1
        have hc := Nat.eq_of_beq_eq_true h1.1
        have hlen := Nat.eq_of_beq_eq_true h1.2
        have hz := ha2 hc
        obtain ⟨hp, hd⟩ := same hc M' hlen hP1 hD1
        have hl2 := lenins M' (by omega)
        exact ⟨ad, hag, fun _ => rfl, by omega, by omega, hL, hp, hd, hval0 hz⟩
      · simp only [mjnew, mjfr, Bool.and_eq_true] at h1
        obtain ⟨hcm, ⟨⟨⟨⟨⟨hf1, hf2⟩, hf3⟩, hf4⟩, hf5⟩, hf6⟩, hf7⟩ := h1
        have hf6 := Nat.le_of_ble_eq_true hf6
        have hf7 := Nat.le_of_ble_eq_true hf7
        have hl2 := lenins M' hf6
        have hmc : ¬ mc = 0 := by
          intro z
          rw [hmz z] at hcm
          cases hcm
        obtain ⟨ad1, had1⟩ : ∃ ad1 : Nat → Nat, ad1 = fun i => if i < M.length ∨ 4000 < i then ad i else ad' (i - M.length + e0.length) := ⟨_, rfl⟩
        have hold : ∀ i, mjPf M.length i = true → ad1 i = ad i := by
          intro i hi
          rw [mjPf_iff] at hi
          rw [had1]
          exact if_pos hi
        have hnew : ∀ j, mjPb M'.length j = true → ad1 (mjui e0 M.length j) = ad' j := by
          intro j hj
          rw [mjPb_iff] at hj
          by_cases hje : j < e0.length
          · rw [hold _ (mjPf_iff.mpr (Or.inl ?_)), ha1 j (Or.inl hje)]
            rw [mjui_lt hje]
            exact hpl.1 _ (by simp [List.getD, hje])
          · rw [mjui_mid (by omega) (by omega), had1]
            show (if _ then _ else _) = _
            rw [if_neg (by omega)]
            congr 1
            omega
        obtain ⟨hp, hd⟩ := mj_world (ad1 := ad1) he hpl.1 hpl.2 hP hD hk hF hP1 hD1 hf6 (fun i hi => hold i (mjPf_iff.mpr (Or.inl hi))) (fun x hx => mje_congr hold tc (List.all_eq_true.mp hf3 x hx)) (fun x hx => by
            rw [mje_comp]
            exact mje_congr hnew tc (List.all_eq_true.mp hf4 x hx)) (fun k hk => by
            have hk : e0.length + k < M'.length := hk
            rw [had1]
            show (if _ then _ else _) = _
            rw [if_neg (by omega)]
            congr 1
            omega) (fun j hj => ha1 j (Or.inl hj))
        refine ⟨ad1, fun i hi => ?_, fun z => absurd z hmc, by omega, by omega, mjlv_congr hL (mjql_congr hold hf1), hp, hd, ?_⟩
        · rw [hold i (mjPf_iff.mpr (by omega)), hag i hi]
        · rw [List.map_append, mjvs_congr hold hf2]
          congr 1
          cases r with
          | none => rfl
          | some w =>
            show [mjv ad1 (mjv (mjui e0 M.length) w)] = [mjv ad' w]
            rw [mjv_comp]
            simp only [Option.toList, List.all_cons, List.all_nil, Bool.and_true] at hf5
            rw [mjv_congr hnew hf5]
  obtain ⟨ad1, k1, k2, k3, k4, k5, k6, k7, k8⟩ := main
  obtain ⟨t2, a1, b1⟩ := kk ad1 T'.heap (locs ++ L') k1 k2 k3 k4 k5 k6 k7 hS1 T' rfl X'
  rw [k8] at a1
  exact ⟨t2, st t2 a1, b1⟩
theorem mj_behind {ad : Nat → Nat} {M : mjM} {e0 : List Nat} {cm sm pc : Nat} {ls : Array Slot} {L : mjL} {st0 rest : List Value} {H : Heap} {locs : List Loc} {cells slots : Nat} {r : Option Value} {o : Option mjM} {M1 : mjM} {a : Array Value}
    (hr : va_Run p l e R s m args below meth c H locs cells slots cm sm (F0 m pc ls st0) (rest.map (mjv ad)) (mjQc D tc (fun j => ad (mjui e0 M.length j)) H.size cm (mjext e0 M) (o.getD (mjext e0 M)) r a) (va_A (mjw tc (fun j => ad (mjui e0 M.length j)) (mjext e0 M)) H.size))
    (hA : ∀ q, H0.size ≤ q → A q) (he : e0.length ≤ 4000) (hpl : (∀ a ∈ e0, a < M.length) ∧ e0.Nodup) (hres : mjres e0 cm L rest M r o = (true, M1)) (hmz : mc = 0 → cm = 0)
    (hag : ∀ i, (i < n0 ∨ 4000 < i) → ad i = ad0 i) (hn0 : n0 ≤ M.length) (hM4 : M.length ≤ 4000) (hL : mjlv ad ls nL L) (hP : va_P D vwCl (mjw tc ad M) H) (hD : va_D A (mjw tc ad M)) (hS : va_S A H0 H locs)
    (kk : ∀ (ad1 : Nat → Nat) (H1 : Heap) (locs1 : List Loc), (∀ i, (i < n0 ∨ 4000 < i) → ad1 i = ad0 i) → (mc = 0 → ad1 = ad) → n0 ≤ M1.length → M1.length ≤ 4000 → mjlv ad1 ls nL L → va_P D vwCl (mjw tc ad1 M1) H1 → va_D A (mjw tc ad1 M1) → va_S A H0 H1 locs1 → W p l e R s m args below meth c H1 locs1 (cells + cm) (slots + sm) Q (F0 m (pc + 3) ls ((r.toList.map (mjv (mjui e0 M.length)) ++ rest).map (mjv ad1)))) : W p l e R s m args below meth c H locs cells slots Q (F0 m pc ls st0) := by
  refine mj_behindR (a := a) (rest := rest) (sm := sm) (Post := fun o' r' => o' = o ∧ r' = r) ?_ hA he hpl hmz hag hn0 hM4 hL hP hD hS ?_
  · intro T hT X
    obtain ⟨v, st₀, t, T', L', h0, X', hL', e1, e2, q, st⟩ := hr T hT X
    exact ⟨v, st₀, t, T', L', h0, X', hL', e1, e2, ⟨o, r, ⟨rfl, rfl⟩, q⟩, st⟩
  · intro o' r' h
    obtain ⟨rfl, rfl⟩ := h
    exact ⟨M1, hres, kk⟩
end MJS
