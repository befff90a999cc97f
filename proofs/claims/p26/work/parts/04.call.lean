/-! mj: the cells of a call, and what is there behind it -/
def mjN : List Cond := [.fieldLinkNest RX6 178 RX4 "furnace" "I" RX6, .fieldLinkNest RX6 70 RX4 "aim" "I" RX6, .fieldLinkNest RX6 74 RX4 "rate" "I" RX6, .fieldLinkNest RX6 110 RX4 "lead" "I" RX6, .fieldLinkNest RX6 113 RX4 "rim" "I" RX6, .fieldLinkNest RX6 181 RX4 "minutes" "I" RX6, .fieldLinkNest RX6 184 RX4 "loss" "I" RX6, .fieldLinkNest RX6 202 RX4 "flames" "I" RX6, .fieldLinkNest RX6 205 RX2 "size" "I" RX6, .fieldLinkNest RX6 120 RX3 "length" "I" RX6, .fieldLinkNest RX6 126 RX3 "segments" "I" RX6, .fieldLinkNest RX6 221 RX0 "cracks" "I" RX6, .fieldLinkNest RX6 224 RX0 "firstCrack" "I" RX6, .fieldLinkNest RX6 227 RX0 "greatestStress" "I" RX6, .methodLinkNest RX6 35 yX3_init RX6, .methodLinkNest RX6 42 yX5_init RX6, .methodLinkNest RX6 49 yX0_init RX6]
def mjnest (w : Cond) : Bool := match w with
  | .fieldLinkNest .. => true
  | .methodLinkNest .. => true
  | _ => false
theorem mjnest_warm {w : Cond} (h : mjnest w = true) {s U : State} (hW : s.WarmedH U.vm) (hz : va_Nw w s) : va_Nw w U := by
  cases w <;> first | exact va_Nw.warmF hW hz | exact va_Nw.warmM hW hz | cases h
theorem mjnest_tab {w : Cond} (h : mjnest w = true) : w.onTables = true := by
  cases w <;> first | rfl | cases h
theorem mjN_ok : ∀ w ∈ mjN, mjnest w = true := by
  intro w h
  have h1 : mjN.all mjnest = true := rfl
  exact List.all_eq_true.mp h1 w h
def mjK (D : va_G) (tc : Nat → ClassId) (U : State) : Prop := va_K D vwCl (mjt tc) U ∧ (∀ w ∈ mjN, va_Nw w U) ∧ va_AO RX4 U
theorem mjK.warm {D : va_G} {tc : Nat → ClassId} {s U : State} (hW : s.WarmedH U.vm) (h : mjK D tc s) : mjK D tc U := ⟨va_K.moved hW.alike h.1, fun w hw => mjnest_warm (mjN_ok w hw) hW (h.2.1 w hw), va_AO.moved hW.alike h.2.2⟩
theorem mjK.same {D : va_G} {tc : Nat → ClassId} {u U : State} (hv : u.vm = U.vm) (h : mjK D tc u) : mjK D tc U := ⟨va_K.moved (by rw [hv]; exact Vm.Alike.refl _) h.1, fun w hw => va_Nw.same (mjnest_tab (mjN_ok w hw)) hv (h.2.1 w hw), va_AO.moved (by rw [hv]; exact Vm.Alike.refl _) h.2.2⟩
/-- the start and the end of a method, in the machine's words -/
abbrev mjPc (D : va_G) (tc : Nat → ClassId) (ad : Nat → Nat) (sz : Nat) (M : mjM) (as : List Value) : Array Value → State → Prop := va_Pc (as.map (mjv ad)) (fun U => U.heap.size = sz ∧ va_P D vwCl (mjw tc ad M) U.heap ∧ mjK D tc U ∧ va_D (fun _ => True) (mjw tc ad M))
abbrev mjQc (D : va_G) (tc : Nat → ClassId) (ad : Nat → Nat) (sz mc : Nat) (M M' : mjM) (r : Option Value) : Array Value → State → Outcome → State → Prop :=
  fun _ st oc t => (∃ ad' : Nat → Nat, (∀ j, (j < M.length ∨ 4000 < j) → ad' j = ad j) ∧ (mc = 0 → ad' = ad) ∧ oc = .returned (r.map (mjv ad')) ∧ va_P D vwCl (mjw tc ad' M') t.heap ∧ va_D (va_A (mjw tc ad M) sz) (mjw tc ad' M')) ∧ va_F (va_A (mjw tc ad M) sz) st t
/-- A CONTRACT: from every start at which the machine's words hold, the method does what Sp says -/
def mjCT (l : Launch) (y : MethodName) (cc : ByteArray) (maxL : Nat) (ret : Option FieldType) (rm : Room) (Sp : mjSp) : Prop :=
  ∀ (D : va_G) (tc : Nat → ClassId) (ad : Nat → Nat) (sz : Nat) (M : mjM) (as : List Value), M.length ≤ 4000 → as.all mjone = true → as.length ≤ maxL → (Sp M as).1 →
    Met l y (.code y cc maxL ret :: mjW) rm (mjPc D tc ad sz M as) (mjQc D tc ad sz rm.cells M ((Sp M as).2.1.getD M) (Sp M as).2.2) rm.cells rm.slots (va_A (mjw tc ad M) sz)
theorem mjext_at {tc : Nat → ClassId} {ad : Nat → Nat} {e : List Nat} {M : mjM} (he : e.length ≤ 4000) (hl : ∀ a ∈ e, a < M.length) {j i : Nat} (hj : e[j]? = some i) : (mjw tc (fun j => ad (mjui e M.length j)) (mjext e M))[j]? = (mjw tc ad M)[i]? := by
  have hi : i < M.length := hl i (List.mem_of_getElem? hj)
  have hjl : j < e.length := (List.getElem?_eq_some_iff.mp hj).1
  obtain ⟨x, hx⟩ : ∃ x, M[i]? = some x := ⟨_, List.getElem?_eq_getElem hi⟩
  rw [mjw_get, mjw_at hx]
  have h1 : (mjext e M)[j]? = some (mjc (mjri e) x) := by
    unfold mjext
    rw [List.getElem?_map, hj]
    simp [List.getD, hx]
  rw [h1]
  show some (ad (mjui e M.length j), mje tc _ (mjc (mjri e) x)) = some (ad i, mje tc ad x)
  rw [mje_comp, mjui_lt hjl]
  have h2 : (fun i => ad (mjui e M.length (mjri e i))) = ad := by
    funext k
    rw [mjui_ri e M.length k he]
  rw [h2]
  simp [List.getD, hj]
theorem mjext_len (e : List Nat) (M : mjM) : (mjext e M).length = e.length := by simp [mjext]
theorem mjext_sub {tc : Nat → ClassId} {ad : Nat → Nat} {e : List Nat} {M : mjM} (he : e.length ≤ 4000) (hl : ∀ a ∈ e, a < M.length) : e.map (fun i => (mjw tc ad M)[i]?) = (mjw tc (fun j => ad (mjui e M.length j)) (mjext e M)).map some := by
  apply List.ext_getElem?
  intro j
  rw [List.getElem?_map, List.getElem?_map]
  cases hj : e[j]? with
  | none =>
    have h1 : e.length ≤ j := by simpa using hj
    have h2 : (mjw tc (fun j => ad (mjui e M.length j)) (mjext e M))[j]? = none := by
      rw [mjw_get]
      have : (mjext e M)[j]? = none := by simp [mjext_len, h1]
      rw [this]
      rfl
    rw [h2]
    rfl
  | some i =>
    rw [mjext_at he hl hj]
    obtain ⟨x, hx⟩ : ∃ x, M[i]? = some x := ⟨_, List.getElem?_eq_getElem (hl i (List.mem_of_getElem? hj))⟩
    rw [mjw_at hx]
    show some ((mjw tc ad M)[i]?) = _
    rw [mjw_at hx]
    rfl
theorem mjnd_va : ∀ {e : List Nat}, e.Nodup → va_nd e = true
  | [], _ => rfl
  | a :: l, h => by
    obtain ⟨h1, h2⟩ := List.nodup_cons.mp h
    simp [va_nd, h1, mjnd_va h2]
theorem mjw_len (tc : Nat → ClassId) (ad : Nat → Nat) (M : mjM) : (mjw tc ad M).length = M.length := by simp [mjw]
/-- the world behind a call -/
theorem mj_world {D : va_G} {tc : Nat → ClassId} {ad ad' ad1 : Nat → Nat} {A : Nat → Prop} {M M' : mjM} {e : List Nat} {H H1 : Heap} (he : e.length ≤ 4000) (hl : ∀ a ∈ e, a < M.length) (hn : e.Nodup) (hP : va_P D vwCl (mjw tc ad M) H) (hD : va_D A (mjw tc ad M))
    (hk : ∀ q : Nat, q < H.size → ¬ va_A (mjw tc (fun j => ad (mjui e M.length j)) (mjext e M)) H.size q → H1[q]? = H[q]?) (hF : ∀ q, va_A (mjw tc (fun j => ad (mjui e M.length j)) (mjext e M)) H.size q → A q)
    (hP1 : va_P D vwCl (mjw tc ad' M') H1) (hD1 : va_D (va_A (mjw tc (fun j => ad (mjui e M.length j)) (mjext e M)) H.size) (mjw tc ad' M')) (hle : e.length ≤ M'.length)
    (h1 : ∀ i, i < M.length → ad1 i = ad i) (hA1 : ∀ x ∈ M, mje tc ad1 x = mje tc ad x) (hB1 : ∀ x ∈ M', mje tc ad1 (mjc (mjui e M.length) x) = mje tc ad' x) (hC : ∀ k, e.length + k < M'.length → ad1 (M.length + k) = ad' (e.length + k)) (hE : ∀ j, j < e.length → ad' j = ad (mjui e M.length j)) :
    va_P D vwCl (mjw tc ad1 (mjins e M M')) H1 ∧ va_D A (mjw tc ad1 (mjins e M M')) := by
  have hml : (mjput e (M'.map (mjc (mjui e M.length))) M).length = M.length := mjput_len _ _ _
  -- what stands at a place
  have key : ∀ (i : Nat) (q : Nat × va_E), (mjw tc ad1 (mjins e M M'))[i]? = some q → (i < M.length ∧ i ∉ e ∧ (mjw tc ad M)[i]? = some q) ∨ (∃ j : Nat, i < M.length ∧ e[j]? = some i ∧ (mjw tc ad' M')[j]? = some q) ∨ (∃ k : Nat, i = M.length + k ∧ (mjw tc ad' M')[e.length + k]? = some q) := by
    intro i q hq
    obtain ⟨x, hx, rfl⟩ := mjw_inv hq
    unfold mjins at hx
    by_cases hi : i < M.length
    · rw [List.getElem?_append_left (by rw [hml]; exact hi)] at hx
      by_cases hie : i ∈ e
      · obtain ⟨j, hj⟩ := List.getElem?_of_mem hie
        have hjl : j < e.length := (List.getElem?_eq_some_iff.mp hj).1
        obtain ⟨y, hy⟩ : ∃ y, M'[j]? = some y := ⟨_, List.getElem?_eq_getElem (Nat.lt_of_lt_of_le hjl hle)⟩
        rw [mjput_in e _ M i j (mjc (mjui e M.length) y) hn hl hj (by rw [List.getElem?_map, hy]; rfl)] at hx
        cases hx
        refine Or.inr (Or.inl ⟨j, hi, hj, ?_⟩)
        rw [mjw_at hy, hB1 y (List.mem_of_getElem? hy), h1 i hi, hE j hjl, mjui_lt hjl]
        simp [List.getD, hj]
      · rw [mjput_out e _ M i hie] at hx
        refine Or.inl ⟨hi, hie, ?_⟩
        rw [mjw_at hx, h1 i hi, hA1 x (List.mem_of_getElem? hx)]
    · rw [List.getElem?_append_right (by rw [hml]; omega), hml, List.getElem?_map, List.getElem?_drop] at hx
      cases hy : M'[e.length + (i - M.length)]? with
      | none => rw [hy] at hx; cases hx
      | some y =>
        rw [hy] at hx
        cases hx
        refine Or.inr (Or.inr ⟨i - M.length, by omega, ?_⟩)
        rw [mjw_at hy, hB1 y (List.mem_of_getElem? hy)]
        have := hC (i - M.length) (List.getElem?_eq_some_iff.mp hy).1
        rw [← this, show M.length + (i - M.length) = i by omega]
  have inwc : ∀ (j i : Nat) (y : va_E), e[j]? = some i → ∃ ee, (mjw tc (fun j => ad (mjui e M.length j)) (mjext e M))[j]? = some (ad i, ee) := by
    intro j i y hj
    rw [mjext_at he hl hj]
    obtain ⟨x, hx⟩ : ∃ x, M[i]? = some x := ⟨_, List.getElem?_eq_getElem (hl i (List.mem_of_getElem? hj))⟩
    exact ⟨_, mjw_at hx⟩
  have wcof : ∀ (k : Nat) (a : Nat) (ee : va_E), (mjw tc (fun j => ad (mjui e M.length j)) (mjext e M))[k]? = some (a, ee) → ∃ i : Nat, e[k]? = some i ∧ (mjw tc ad M)[i]? = some (a, ee) := by
    intro k a ee h
    cases hj : e[k]? with
    | none =>
      have h2 : e.length ≤ k := by simpa using hj
      have h3 : (mjw tc (fun j => ad (mjui e M.length j)) (mjext e M)).length ≤ k := by rw [mjw_len, mjext_len]; exact h2
      rw [List.getElem?_eq_none h3] at h
      cases h
    | some i =>
      rw [mjext_at he hl hj] at h
      exact ⟨i, rfl, h⟩
  have apart : ∀ (i : Nat) (q : Nat × va_E), i ∉ e → (mjw tc ad M)[i]? = some q → q.1 < H.size ∧ ¬ va_A (mjw tc (fun j => ad (mjui e M.length j)) (mjext e M)) H.size q.1 := by
    intro i q hi hq
    have hlt := (hP i q hq).lt
    refine ⟨hlt, fun hz => ?_⟩
    rcases hz with ⟨k, ee, hz⟩ | hz
    · obtain ⟨i', hi1, hi2⟩ := wcof k q.1 ee hz
      have := hD.1 i i' q (q.1, ee) hq hi2 rfl
      subst this
      exact hi (List.mem_of_getElem? hi1)
    · omega
  -- a new cell lies nowhere among the old ones
  have newold : ∀ (i k : Nat) (q q' : Nat × va_E), i < M.length → (mjw tc ad M)[i]? = some q → (mjw tc ad' M')[e.length + k]? = some q' → q.1 ≠ q'.1 := by
    intro i k q q' hi hq hq' hz
    have h2 := hD1.2 _ q' hq'
    rcases h2 with ⟨k2, ee, h2⟩ | h2
    · obtain ⟨i', hi1, hi2⟩ := wcof k2 q'.1 ee h2
      have hk2 : k2 < e.length := (List.getElem?_eq_some_iff.mp hi1).1
      obtain ⟨y, hy⟩ : ∃ y, M'[k2]? = some y := ⟨_, List.getElem?_eq_getElem (Nat.lt_of_lt_of_le hk2 hle)⟩
      have h3 := mjw_at (tc := tc) (ad := ad') hy
      obtain ⟨z, hz2, hz3⟩ := mjw_inv hi2
      have h4 : ad' k2 = q'.1 := by
        rw [hE k2 hk2, mjui_lt hk2]
        have : q'.1 = ad i' := congrArg Prod.fst hz3
        rw [this]
        simp [List.getD, hi1]
      have := hD1.1 k2 (e.length + k) _ q' h3 hq' h4
      omega
    · have := (hP i q hq).lt
      omega
  refine ⟨fun i q hq => ?_, fun i j p q hp hq hpq => ?_, fun i q hq => ?_⟩
  · rcases key i q hq with ⟨hi, hie, h⟩ | ⟨j, hi, hj, h⟩ | ⟨k, hi, h⟩
    · obtain ⟨a1, a2⟩ := apart i q hie h
      exact (hP i q h).kept (hk q.1 a1 a2)
    · exact hP1 j q h
    · exact hP1 _ q h
  · -- old ones by the caller's, new ones by the callee's
    have old : ∀ (i : Nat) (q : Nat × va_E), (mjw tc ad1 (mjins e M M'))[i]? = some q → i < M.length → ∃ q', (mjw tc ad M)[i]? = some q' ∧ q'.1 = q.1 := by
      intro i q hq hi
      obtain ⟨x, hx, rfl⟩ := mjw_inv hq
      obtain ⟨y, hy⟩ : ∃ y, M[i]? = some y := ⟨_, List.getElem?_eq_getElem hi⟩
      exact ⟨_, mjw_at hy, (h1 i hi).symm⟩
    have new : ∀ (i : Nat) (q : Nat × va_E), (mjw tc ad1 (mjins e M M'))[i]? = some q → ¬ i < M.length → ∃ k : Nat, i = M.length + k ∧ (mjw tc ad' M')[e.length + k]? = some q := by
      intro i q hq hi
      rcases key i q hq with ⟨h, -⟩ | ⟨j, h, -⟩ | h
      · exact absurd h hi
      · exact absurd h hi
      · exact h
    by_cases hi : i < M.length <;> by_cases hj : j < M.length
    · obtain ⟨p', hp1, hp2⟩ := old i p hp hi
      obtain ⟨q', hq1, hq2⟩ := old j q hq hj
      exact hD.1 i j p' q' hp1 hq1 (by rw [hp2, hq2]; exact hpq)
    · obtain ⟨p', hp1, hp2⟩ := old i p hp hi
      obtain ⟨k, hk1, hk2⟩ := new j q hq hj
      exact absurd (hp2.trans hpq) (newold i k p' q hi hp1 hk2)
    · obtain ⟨q', hq1, hq2⟩ := old j q hq hj
      obtain ⟨k, hk1, hk2⟩ := new i p hp hi
      exact absurd (hq2.trans hpq.symm) (newold j k q' p hj hq1 hk2)
    · obtain ⟨k, hk1, hk2⟩ := new i p hp hi
      obtain ⟨k', hk3, hk4⟩ := new j q hq hj
      have := hD1.1 _ _ p q hk2 hk4 hpq
      omega
  · rcases key i q hq with ⟨hi, hie, h⟩ | ⟨j, hi, hj, h⟩ | ⟨k, hi, h⟩
    · exact hD.2 i q h
    · exact hF _ (hD1.2 j q h)
    · exact hF _ (hD1.2 _ q h)
