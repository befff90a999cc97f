/-! mj: what the steps rest on -/
theorem mjv_cat (ad : Nat → Nat) (v : Value) : (mjv ad v).category = v.category := by cases v <;> rfl
theorem mjlg_some {L : mjL} {i : Nat} {v : Value} : mjlg L i = some v ↔ L[i]? = some (some v) := by
  constructor
  · intro h
    unfold mjlg at h
    split at h
    · rename_i w hw
      cases h
      exact hw
    · cases h
  · intro h
    unfold mjlg
    rw [h]
theorem mjlp_len (L : mjL) (i : Nat) (v : Value) : (mjlp L i v).length = L.length := by
  unfold mjlp
  split
  · simp
  · split <;> simp
theorem mjlp_get {L : mjL} {i k : Nat} {v w : Value} (h : mjlg (mjlp L i v) k = some w) : (k = i ∧ w = v) ∨ (k ≠ i ∧ mjlg L k = some w ∧ ¬ (k + 1 = i ∧ w.category = 2)) := by
  rw [mjlg_some] at h
  by_cases hk : k = i
  · subst hk
    left
    refine ⟨rfl, ?_⟩
    unfold mjlp at h
    split at h
    · simp [List.getElem?_set] at h
      exact h.2.symm
    · split at h <;> (simp [List.getElem?_set] at h; exact h.2.symm)
  · right
    refine ⟨hk, ?_⟩
    rw [mjlg_some]
    unfold mjlp at h
    split at h
    · rw [List.getElem?_set_ne (by omega)] at h
      exact ⟨h, fun q => by omega⟩
    · rename_i j
      split at h
      · by_cases hj : j = k
        · subst hj
          rw [List.getElem?_set_ne (by omega)] at h
          simp [List.getElem?_set] at h
        · rw [List.getElem?_set_ne (by omega), List.getElem?_set_ne hj] at h
          exact ⟨h, fun q => hj (by omega)⟩
      · by_cases hj : j = k
        · subst hj
          rw [List.getElem?_set_ne (by omega)] at h
          simp [List.getElem?_set] at h
        · rw [List.getElem?_set_ne (by omega), List.getElem?_set_ne hj] at h
          exact ⟨h, fun q => hj (by omega)⟩
      · rename_i n1 n2
        rw [List.getElem?_set_ne (by omega)] at h
        refine ⟨h, fun q => ?_⟩
        have e : k = j := by omega
        subst e
        cases w with
        | double b => exact n1 b h
        | long b => exact n2 b h
        | _ => exact absurd q.2 (by simp [Value.category])
def mjpr (ad : Nat → Nat) (L : mjL) : List (Nat × Value) := (List.range L.length).filterMap (fun i => (mjlg L i).map (fun v => (i, mjv ad v)))
theorem mjpr_mem {ad : Nat → Nat} {L : mjL} {q : Nat × Value} : q ∈ mjpr ad L ↔ ∃ v, mjlg L q.1 = some v ∧ q.2 = mjv ad v := by
  unfold mjpr
  rw [List.mem_filterMap]
  constructor
  · rintro ⟨i, -, h⟩
    cases hg : mjlg L i with
    | none => rw [hg] at h; cases h
    | some v => rw [hg] at h; cases h; exact ⟨v, hg, rfl⟩
  · rintro ⟨v, h, h2⟩
    refine ⟨q.1, List.mem_range.mpr ?_, ?_⟩
    · rw [mjlg_some] at h
      exact (List.getElem?_eq_some_iff.mp h).1
    · rw [h]
      show some (q.1, mjv ad v) = some q
      rw [← h2]
def mjlv (ad : Nat → Nat) (ls : Array Slot) (nL : Nat) (L : mjL) : Prop := L.length = nL ∧ lv_has ls nL (mjpr ad L)
theorem mjlv_get {ad : Nat → Nat} {ls : Array Slot} {nL : Nat} {L : mjL} (h : mjlv ad ls nL L) {i : Nat} {v : Value} (hg : mjlg L i = some v) : ls[i]? = some (.val (mjv ad v)) := h.2.2.2 (i, mjv ad v) (mjpr_mem.mpr ⟨v, hg, rfl⟩)
theorem mjlv_put {ad : Nat → Nat} {ls ls' : Array Slot} {nL i : Nat} {L : mjL} {v : Value} (h : mjlv ad ls nL L) (h' : lv_has ls' nL ((i, mjv ad v) :: (mjpr ad L).filter (fun q => !(q.1 == i) && !(q.1 + 1 == i && q.2.category == 2)))) : mjlv ad ls' nL (mjlp L i v) := by
  refine ⟨(mjlp_len _ _ _).trans h.1, h'.1, h'.2.1, fun q hq => h'.2.2 q ?_⟩
  obtain ⟨w, hw, e⟩ := mjpr_mem.mp hq
  rcases mjlp_get hw with ⟨h1, h2⟩ | ⟨h1, h2, h3⟩
  · exact List.mem_cons.mpr (Or.inl (Prod.ext h1 (by rw [e, h2])))
  · refine List.mem_cons.mpr (Or.inr (List.mem_filter.mpr ⟨mjpr_mem.mpr ⟨w, h2, e⟩, ?_⟩))
    have c : q.2.category = w.category := by rw [e, mjv_cat]
    simp only [Bool.and_eq_true, Bool.not_eq_true', beq_eq_false_iff_ne, ne_eq, Bool.and_eq_false_iff, h1, c, not_false_eq_true, true_and]
    by_cases z : q.1 + 1 = i
    · exact Or.inr (fun z2 => h3 ⟨z, z2⟩)
    · exact Or.inl z
theorem mjlv_put2 {ad : Nat → Nat} {ls ls' : Array Slot} {nL i : Nat} {L : mjL} {v : Value} (h : mjlv ad ls nL L) (h' : lv_has ls' nL ((i, mjv ad v) :: (mjpr ad L).filter (fun q => !(q.1 == i) && (!(q.1 == i + 1) && !(q.1 + 1 == i && q.2.category == 2))))) : mjlv ad ls' nL ((mjlp L i v).set (i + 1) none) := by
  refine ⟨by rw [List.length_set]; exact (mjlp_len _ _ _).trans h.1, h'.1, h'.2.1, fun q hq => h'.2.2 q ?_⟩
  obtain ⟨w, hw, e⟩ := mjpr_mem.mp hq
  have hne : q.1 ≠ i + 1 := by
    intro z
    rw [mjlg_some, z] at hw
    simp [List.getElem?_set] at hw
  have hw2 : mjlg (mjlp L i v) q.1 = some w := by
    rw [mjlg_some] at hw ⊢
    rw [List.getElem?_set_ne (fun z => hne z.symm)] at hw
    exact hw
  rcases mjlp_get hw2 with ⟨h1, h2⟩ | ⟨h1, h2, h3⟩
  · exact List.mem_cons.mpr (Or.inl (Prod.ext h1 (by rw [e, h2])))
  · refine List.mem_cons.mpr (Or.inr (List.mem_filter.mpr ⟨mjpr_mem.mpr ⟨w, h2, e⟩, ?_⟩))
    have c : q.2.category = w.category := by rw [e, mjv_cat]
    simp only [Bool.and_eq_true, Bool.not_eq_true', beq_eq_false_iff_ne, ne_eq, Bool.and_eq_false_iff, h1, hne, c, not_false_eq_true, true_and]
    by_cases z : q.1 + 1 = i
    · exact Or.inr (fun z2 => h3 ⟨z, z2⟩)
    · exact Or.inl z
theorem mjmask_get : ∀ (bs : List Bool) (L : mjL) (k : Nat) (v : Value), mjlg (mjmask bs L) k = some v → mjlg L k = some v
  | [], L, k, v, h => by
    cases L <;> exact h
  | b :: bs, [], k, v, h => by
    rw [mjlg_some] at h
    simp [mjmask] at h
  | b :: bs, x :: L, k, v, h => by
    rw [mjlg_some] at h ⊢
    cases k with
    | zero =>
      cases b with
      | true => exact h
      | false => simp [mjmask] at h
    | succ k =>
      simp only [mjmask, List.getElem?_cons_succ] at h ⊢
      exact mjlg_some.mp (mjmask_get bs L k v (mjlg_some.mpr h))
theorem mjmask_len : ∀ (bs : List Bool) (L : mjL), (mjmask bs L).length = L.length
  | [], L => by cases L <;> rfl
  | b :: bs, [] => rfl
  | b :: bs, x :: L => by simp [mjmask, mjmask_len bs L]
theorem mjlv_mask {ad : Nat → Nat} {ls : Array Slot} {nL : Nat} {L : mjL} (bs : List Bool) (h : mjlv ad ls nL L) : mjlv ad ls nL (mjmask bs L) := by
  refine ⟨(mjmask_len _ _).trans h.1, h.2.1, h.2.2.1, fun q hq => ?_⟩
  obtain ⟨w, hw, e⟩ := mjpr_mem.mp hq
  rw [e]
  exact mjlv_get h (mjmask_get _ _ _ _ hw)
theorem mjlv_congr {ad ad' : Nat → Nat} {ls : Array Slot} {nL : Nat} {L : mjL} (h : mjlv ad ls nL L) (hc : ∀ i v, mjlg L i = some v → mjv ad' v = mjv ad v) : mjlv ad' ls nL L := by
  refine ⟨h.1, h.2.1, h.2.2.1, fun q hq => ?_⟩
  obtain ⟨w, hw, e⟩ := mjpr_mem.mp hq
  rw [e, hc _ _ hw]
  exact mjlv_get h hw
-- cells
theorem mjw_get (tc : Nat → ClassId) (ad : Nat → Nat) (M : mjM) (i : Nat) : (mjw tc ad M)[i]? = (M[i]?).map (fun e => (ad i, mje tc ad e)) := by
  unfold mjw
  rw [List.getElem?_mapIdx]
theorem mjw_at {tc : Nat → ClassId} {ad : Nat → Nat} {M : mjM} {i : Nat} {e : va_E} (h : M[i]? = some e) : (mjw tc ad M)[i]? = some (ad i, mje tc ad e) := by
  rw [mjw_get, h]
  rfl
theorem mjw_inv {tc : Nat → ClassId} {ad : Nat → Nat} {M : mjM} {i : Nat} {q : Nat × va_E} (h : (mjw tc ad M)[i]? = some q) : ∃ e, M[i]? = some e ∧ q = (ad i, mje tc ad e) := by
  rw [mjw_get] at h
  cases hm : M[i]? with
  | none => rw [hm] at h; cases h
  | some e => rw [hm] at h; cases h; exact ⟨e, rfl, rfl⟩
theorem mjw_set (tc : Nat → ClassId) (ad : Nat → Nat) (M : mjM) (a : Nat) (x : va_E) : mjw tc ad (M.set a x) = (mjw tc ad M).set a (ad a, mje tc ad x) := by
  unfold mjw
  rw [List.mapIdx_set]
theorem mjw_app (tc : Nat → ClassId) (ad : Nat → Nat) (M : mjM) (x : va_E) : mjw tc ad (M ++ [x]) = mjw tc ad M ++ [(ad M.length, mje tc ad x)] := by
  unfold mjw
  rw [List.mapIdx_append]
  simp
theorem mjv_congr {P : Nat → Bool} {f g : Nat → Nat} (h : ∀ i, P i = true → f i = g i) {v : Value} (hv : mjqv P v = true) : mjv f v = mjv g v := by
  cases v <;> first | rfl | exact congrArg Value.ref (h _ hv)
theorem mjvs_congr {P : Nat → Bool} {f g : Nat → Nat} (h : ∀ i, P i = true → f i = g i) {l : List Value} (hv : l.all (mjqv P) = true) : l.map (mjv f) = l.map (mjv g) := by
  refine List.map_congr_left (fun v hm => mjv_congr h (List.all_eq_true.mp hv v hm))
theorem mjv_comp (f g : Nat → Nat) (v : Value) : mjv f (mjv g v) = mjv (fun i => f (g i)) v := by cases v <;> rfl
theorem mjcut_comp (f g : Nat → Nat) (n : Nat) (h : Nat → Option Nat) : mjcut f n (mjcut g n h) = mjcut (fun i => f (g i)) n h := by
  funext k
  unfold mjcut
  by_cases hk : k < n
  · simp only [hk, if_true, Option.map_map]
    rfl
  · simp only [hk, if_false]
theorem mja_comp (f g : Nat → Nat) (x : vp_A) : mja f (mja g x) = mja (fun i => f (g i)) x := by
  obtain ⟨n, a | a | a | a | a⟩ := x
  · rfl
  · rfl
  · rfl
  · rfl
  · show (n, _) = (n, _)
    rw [mjcut_comp]
theorem mje_comp (tc : Nat → ClassId) (f g : Nat → Nat) (e : va_E) : mje tc f (mjc g e) = mje tc (fun i => f (g i)) e := by
  rcases e with ⟨k, x⟩ | ⟨c, fs⟩
  · show Sum.inl (tc k, mja f (mja g x)) = Sum.inl (tc k, mja _ x)
    rw [mja_comp]
  · show Sum.inr (c, (fs.map (mjv g)).map (mjv f)) = Sum.inr (c, fs.map (mjv _))
    rw [List.map_map]
    exact congrArg (fun z => Sum.inr (c, z)) (List.map_congr_left fun v _ => mjv_comp f g v)
theorem mjcut_congr {P : Nat → Bool} {f g : Nat → Nat} (h : ∀ i, P i = true → f i = g i) {n : Nat} {a : Nat → Option Nat} (hv : (List.range n).all (fun j => match a j with
    | some i => P i
    | none => true) = true) : mjcut f n a = mjcut g n a := by
  funext k
  unfold mjcut
  by_cases hk : k < n
  · simp only [hk, if_true]
    have h1 := List.all_eq_true.mp hv k (List.mem_range.mpr hk)
    cases ha : a k with
    | none => rfl
    | some i => rw [ha] at h1; exact congrArg some (h i h1)
  · simp only [hk, if_false]
theorem mje_congr {P : Nat → Bool} {f g : Nat → Nat} (h : ∀ i, P i = true → f i = g i) (tc : Nat → ClassId) {e : va_E} (hv : mjqc P e = true) : mje tc f e = mje tc g e := by
  rcases e with ⟨k, n, a | a | a | a | a⟩ | ⟨c, fs⟩
  · rfl
  · rfl
  · rfl
  · rfl
  · show Sum.inl (tc k, n, _) = Sum.inl (tc k, n, _)
    rw [mjcut_congr h hv]
  · show Sum.inr (c, fs.map _) = Sum.inr (c, fs.map _)
    rw [mjvs_congr h hv]
theorem mjw_congr {f g : Nat → Nat} (tc : Nat → ClassId) {M : mjM} (h : ∀ i, mjPf M.length i = true → f i = g i) (hM : M.all (mjqc (mjPf M.length)) = true) : mjw tc f M = mjw tc g M := by
  apply List.ext_getElem?
  intro i
  rw [mjw_get, mjw_get]
  cases hm : M[i]? with
  | none => rfl
  | some e =>
    have hl := (List.getElem?_eq_some_iff.mp hm).1
    have h1 : f i = g i := h i (by simp [mjPf]; omega)
    have h2 : mje tc f e = mje tc g e := mje_congr h tc (List.all_eq_true.mp hM e (List.mem_of_getElem? hm))
    show some (f i, mje tc f e) = some (g i, mje tc g e)
    rw [h1, h2]
theorem mjql_congr {P : Nat → Bool} {f g : Nat → Nat} (h : ∀ i, P i = true → f i = g i) {L : mjL} (hL : mjql P L = true) : ∀ i v, mjlg L i = some v → mjv f v = mjv g v := by
  intro i v hg
  rw [mjlg_some] at hg
  exact mjv_congr h (List.all_eq_true.mp hL (some v) (List.mem_of_getElem? hg))
theorem mjPf_iff {n i : Nat} : mjPf n i = true ↔ (i < n ∨ 4000 < i) := by
  simp [mjPf]
  omega
theorem mjPb_iff {n i : Nat} : mjPb n i = true ↔ i < n := by
  simp [mjPb]
  omega
-- places
theorem mjpos_some : ∀ {e : List Nat} {i j : Nat}, mjpos e i = some j → e[j]? = some i
  | [], i, j, h => by cases h
  | a :: l, i, j, h => by
    unfold mjpos at h
    by_cases z : Nat.beq a i = true
    · rw [z] at h
      cases h
      rw [Nat.eq_of_beq_eq_true z]
      rfl
    · rw [Bool.not_eq_true] at z
      rw [z] at h
      simp only [cond_false] at h
      split at h
      · rename_i j' hj
        cases h
        rw [List.getElem?_cons_succ]
        exact mjpos_some hj
      · cases h
theorem mjui_ri (e : List Nat) (n i : Nat) (he : e.length ≤ 4000) : mjui e n (mjri e i) = i := by
  unfold mjri
  split
  · rename_i j hj
    have h1 := mjpos_some hj
    have h2 := (List.getElem?_eq_some_iff.mp h1).1
    unfold mjui
    rw [show Nat.ble (j + 1) e.length = true from Nat.ble_eq_true_of_le h2]
    simp [List.getD, h1]
  · unfold mjui
    rw [show Nat.ble (4096 + i + 1) e.length = false from by
      cases hb : Nat.ble (4096 + i + 1) e.length with
      | false => rfl
      | true => have := Nat.le_of_ble_eq_true hb; omega,
      show Nat.ble (4096 + i + 1) 4096 = false from by
      cases hb : Nat.ble (4096 + i + 1) 4096 with
      | false => rfl
      | true => have := Nat.le_of_ble_eq_true hb; omega]
    simp
theorem mjui_lt {e : List Nat} {n j : Nat} (h : j < e.length) : mjui e n j = e.getD j 0 := by
  unfold mjui
  rw [show Nat.ble (j + 1) e.length = true from Nat.ble_eq_true_of_le h]
  rfl
theorem mjui_mid {e : List Nat} {n j : Nat} (h : e.length ≤ j) (h2 : j < 4096) : mjui e n j = n + (j - e.length) := by
  unfold mjui
  rw [show Nat.ble (j + 1) e.length = false from by
      cases hb : Nat.ble (j + 1) e.length with
      | false => rfl
      | true => have := Nat.le_of_ble_eq_true hb; omega,
      show Nat.ble (j + 1) 4096 = true from Nat.ble_eq_true_of_le h2]
  rfl
theorem mjinc_lt : ∀ {e : List Nat} {n : Nat}, mjinc e n = true → ∀ a ∈ e, a < n
  | [], n, h => fun a ha => by cases ha
  | [a], n, h => fun b hb => by
    rw [List.mem_singleton.mp hb]
    exact Nat.le_of_ble_eq_true h
  | a :: b :: l, n, h => fun x hx => by
    simp only [mjinc, Bool.and_eq_true] at h
    have h1 := mjinc_lt h.2
    rcases List.mem_cons.mp hx with rfl | hx
    · have h2 := h1 b List.mem_cons_self
      have h3 := Nat.le_of_ble_eq_true h.1
      omega
    · exact h1 x hx
theorem mjinc_gt : ∀ {e : List Nat} {n a : Nat}, mjinc (a :: e) n = true → ∀ b ∈ e, a < b
  | [], n, a, h => fun b hb => by cases hb
  | b :: l, n, a, h => fun x hx => by
    simp only [mjinc, Bool.and_eq_true] at h
    have h3 := Nat.le_of_ble_eq_true h.1
    rcases List.mem_cons.mp hx with rfl | hx
    · exact h3
    · have h4 := mjinc_gt h.2 x hx
      omega
theorem mjinc_nodup : ∀ {e : List Nat} {n : Nat}, mjinc e n = true → e.Nodup
  | [], n, h => List.nodup_nil
  | a :: l, n, h => by
    refine List.nodup_cons.mpr ⟨fun ha => ?_, ?_⟩
    · have := mjinc_gt h a ha
      omega
    · cases l with
      | nil => exact List.nodup_nil
      | cons b l =>
        simp only [mjinc, Bool.and_eq_true] at h
        exact mjinc_nodup h.2
theorem mjnd_lt : ∀ {e : List Nat} {n : Nat}, mjnd e n = true → ∀ a ∈ e, a < n
  | [], n, h => fun a ha => by cases ha
  | a :: l, n, h => fun x hx => by
    simp only [mjnd, Bool.and_eq_true] at h
    rcases List.mem_cons.mp hx with rfl | hx
    · exact Nat.le_of_ble_eq_true h.1.1
    · exact mjnd_lt h.2 x hx
theorem mjnd_nodup : ∀ {e : List Nat} {n : Nat}, mjnd e n = true → e.Nodup
  | [], n, h => List.nodup_nil
  | a :: l, n, h => by
    simp only [mjnd, Bool.and_eq_true] at h
    refine List.nodup_cons.mpr ⟨fun ha => ?_, mjnd_nodup h.2⟩
    have h1 := List.all_eq_true.mp h.1.2 a ha
    rw [show Nat.beq a a = true from Nat.beq_refl a] at h1
    cases h1
theorem mjplaces {e : List Nat} {n : Nat} (h : (mjinc e n || mjnd e n) = true) : (∀ a ∈ e, a < n) ∧ e.Nodup := by
  rcases Bool.or_eq_true_iff.mp h with h | h
  · exact ⟨mjinc_lt h, mjinc_nodup h⟩
  · exact ⟨mjnd_lt h, mjnd_nodup h⟩
theorem mjmapi_get (f : Nat → va_E → va_E) : ∀ (M : mjM) (k i : Nat), (mjmapi f k M)[i]? = (M[i]?).map (f (k + i))
  | [], k, i => rfl
  | x :: l, k, i => by
    cases i with
    | zero => rfl
    | succ i =>
      show (mjmapi f (k + 1) l)[i]? = _
      rw [mjmapi_get f l (k + 1) i, List.getElem?_cons_succ, show k + 1 + i = k + (i + 1) by omega]
theorem mjmapi_len (f : Nat → va_E → va_E) : ∀ (M : mjM) (k : Nat), (mjmapi f k M).length = M.length
  | [], k => rfl
  | x :: l, k => by
    show (mjmapi f (k + 1) l).length + 1 = _
    rw [mjmapi_len f l (k + 1)]
    rfl
theorem mjpos_none : ∀ {e : List Nat} {i : Nat}, i ∉ e → mjpos e i = none
  | [], i, h => rfl
  | a :: l, i, h => by
    unfold mjpos
    have h1 : Nat.beq a i = false := by
      cases hb : Nat.beq a i with
      | false => rfl
      | true => exact absurd (by rw [Nat.eq_of_beq_eq_true hb]; exact List.mem_cons_self) h
    rw [h1, mjpos_none (fun z => h (List.mem_cons_of_mem _ z))]
    rfl
theorem mjpos_at : ∀ {e : List Nat} {i j : Nat}, e.Nodup → e[j]? = some i → mjpos e i = some j := by
  intro e i j hn hj
  cases hp : mjpos e i with
  | none =>
    exfalso
    have hm := List.mem_of_getElem? hj
    clear hn hj
    induction e with
    | nil => cases hm
    | cons a l ih =>
      unfold mjpos at hp
      cases hb : Nat.beq a i with
      | true => rw [hb] at hp; cases hp
      | false =>
        rw [hb] at hp
        simp only [cond_false] at hp
        rcases List.mem_cons.mp hm with rfl | hm
        · rw [Nat.beq_refl] at hb; cases hb
        · cases hq : mjpos l i with
          | none => exact ih hq hm
          | some j => rw [hq] at hp; cases hp
  | some k =>
    have hk := mjpos_some hp
    have hkl := (List.getElem?_eq_some_iff.mp hk).1
    have hjl := (List.getElem?_eq_some_iff.mp hj).1
    congr 1
    exact (List.getElem?_inj hkl hn).mp (hk.trans hj.symm)
theorem mjput_len (e : List Nat) (X M : mjM) : (mjput e X M).length = M.length := mjmapi_len _ _ _
theorem mjput_out (e : List Nat) (X M : mjM) (i : Nat) (h : i ∉ e) : (mjput e X M)[i]? = M[i]? := by
  unfold mjput
  rw [mjmapi_get, Nat.zero_add, mjpos_none h]
  simp
theorem mjput_in (e : List Nat) (X M : mjM) (i j : Nat) (x : va_E) (hn : e.Nodup) (hl : ∀ a ∈ e, a < M.length) (he : e[j]? = some i) (hx : X[j]? = some x) : (mjput e X M)[i]? = some x := by
  unfold mjput
  have hi : i < M.length := hl i (List.mem_of_getElem? he)
  rw [mjmapi_get, Nat.zero_add, mjpos_at hn he, List.getElem?_eq_getElem hi]
  simp [hx]
