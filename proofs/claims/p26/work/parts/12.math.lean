/-! reading cells; the arithmetic of the grid -/
def S_none : mjSp := fun _ _ => (False, none, none)
def rA (M : mjM) (i : Nat) : Nat → Int32 := match M[i]? with
  | some (.inl (_, (_, .inl f))) => f
  | _ => fun _ => 0
def rF (M : mjM) (i k : Nat) : Int32 := match M[i]? with
  | some (.inr (_, fs)) => (match fs[k]? with
    | some (.int x) => x
    | _ => 0)
  | _ => 0
def aI (as : List Value) (k : Nat) : Int32 := match as[k]? with
  | some (.int x) => x
  | _ => 0
def aR (as : List Value) (k : Nat) : Nat := match as[k]? with
  | some (.ref x) => x
  | _ => 0
/-- a value under seal: nothing unfolds it -/
noncomputable def kseal {α : Type} (a : α) : α := Classical.choose (⟨a, rfl⟩ : ∃ b, b = a)
theorem kseal_eq {α : Type} (a : α) : kseal a = a := Classical.choose_spec (⟨a, rfl⟩ : ∃ b, b = a)
theorem ksi {x v : Int32} (h : x = v) : (some (Value.int x)) = some (Value.int (kseal v)) := by rw [kseal_eq, h]
theorem mjsi {a b : Int32} (h : a = b) : (some (Value.int a)) = some (Value.int b) := by rw [h]
def bI (b : Bool) : Int32 := bif b then 1 else 0
theorem bI_0 {b : Bool} : bI b = 0 ↔ b = false := by cases b <;> decide
theorem mjix_of {x N : Int32} {n : Nat} {F : Nat → Prop} (h0 : ¬ x < 0) (h1 : ¬ N ≤ x) (hN : N = nI n) (hn : n < 2147483648) (k : F x.toNatClampNeg) : mjix x n F := by
  obtain ⟨j, hj, rfl⟩ := nI_of h0
  rw [nI_clamp hj] at k
  refine ⟨j, rfl, ⟨?_, hn⟩, k⟩
  rw [hN] at h1
  rcases Nat.lt_or_ge j n with q | q
  · exact q
  · exact absurd (nI_le q (by omega)) h1
theorem mjix_n {j n : Nat} {F : Nat → Prop} (h : j < n) (hn : n < 2147483648) (k : F j) : mjix (nI j) n F := ⟨j, rfl, ⟨h, hn⟩, k⟩
theorem mjix_e {x : Int32} {n : Nat} {F : Nat → Prop} (j : Nat) (e : x = nI j) (h : j < n) (hn : n < 2147483648) (k : F j) : mjix x n F := ⟨j, e, ⟨h, hn⟩, k⟩
theorem mjloop (N : Nat) (st : Nat → Prop) (h : ∀ i, i < N → st (i + 1) → st i) (hN : st N) : ∀ i, i ≤ N → st i := by
  have key : ∀ d i, i + d = N → st i := by
    intro d
    induction d with
    | zero => intro i hi; rw [show i = N by omega]; exact hN
    | succ d ih => intro i hi; exact h i (by omega) (ih (i + 1) (by omega))
  intro i hi
  exact key (N - i) i (by omega)
theorem mjloop0 (N : Nat) (st : Nat → Prop) (h : ∀ i, i < N → st (i + 1) → st i) (hN : st N) : st 0 := mjloop N st h hN 0 (Nat.zero_le N)
-- the grid, on the machine's numbers
def gIsCell (c : Int32) : Int32 := if c < 0 then 0 else if 36 ≤ c then 0 else 1
def gIsJoint (c : Int32) : Int32 := if c < 0 then 0 else if 60 ≤ c then 0 else 1
def gFirst (j : Int32) : Int32 := if j < 30 then 6 * (j / 5) + (j - j / 5 * 5) else j - 30
def gSecond (j : Int32) : Int32 := if j < 30 then 6 * (j / 5) + (j - j / 5 * 5) + 1 else j - 30 + 6
def gOther (j c : Int32) : Int32 := if gFirst j = c then gSecond j else gFirst j
def gJointAt (c d : Int32) : Int32 :=
  if d = 0 then (if c - c / 6 * 6 ≤ 0 then -1 else 5 * (c / 6) + (c - c / 6 * 6) - 1)
  else if d = 1 then (if 5 ≤ c - c / 6 * 6 then -1 else 5 * (c / 6) + (c - c / 6 * 6))
  else if d = 2 then (if c / 6 ≤ 0 then -1 else 30 + c - 6)
  else if 5 ≤ c / 6 then -1 else 30 + c
def gRim (c : Int32) : Int32 := (if c / 6 = 0 then 1 else if c / 6 = 5 then 1 else 0) + (if c - c / 6 * 6 = 0 then 1 else if c - c / 6 * 6 = 5 then 1 else 0)
def gIsEnd (c j : Int32) : Int32 := if gFirst j = c then 1 else if gSecond j = c then 1 else 0
def gTouch (j o : Int32) : Int32 := if j = o then 0 else if gIsEnd (gFirst j) o = 0 then (if gIsEnd (gSecond j) o = 0 then 0 else 1) else 1
def gAbs (x : Int32) : Int32 := if 0 ≤ x then x else -x
def gMax (x y : Int32) : Int32 := if x < y then y else x
def gMin (x y : Int32) : Int32 := if y < x then y else x
def gOut (v a b : Int32) : Int32 := if v < a then 1 else if v ≤ b then 0 else 1
/-- an array's number at a place, 0 outside -/
def gAt (n : Int32) (f : Nat → Int32) (j : Int32) : Int32 := if j < 0 then 0 else if n ≤ j then 0 else f j.toNatClampNeg
theorem pn_X0 : plainName RX0 = true := by decide +kernel
theorem pn_X1 : plainName RX1 = true := by decide +kernel
theorem pn_X2 : plainName RX2 = true := by decide +kernel
theorem pn_X3 : plainName RX3 = true := by decide +kernel
theorem pn_X4 : plainName RX4 = true := by decide +kernel
theorem pn_X5 : plainName RX5 = true := by decide +kernel
theorem pn_X6 : plainName RX6 = true := by decide +kernel
theorem pn_L : plainName RL = true := by decide +kernel
theorem pf_J9_abs_0f7a4 : plainFor yJ9_abs_0f7a4 = true := by decide +kernel
theorem pf_J9_max_7cf53 : plainFor yJ9_max_7cf53 = true := by decide +kernel
theorem pf_J9_min_7cf53 : plainFor yJ9_min_7cf53 = true := by decide +kernel
theorem pf_J7_fill_53178 : plainFor yJ7_fill_53178 = true := by decide +kernel
/-! constants of the law -/
def mjcons : List (Nat × Value) → Nat → Option Value
  | [], _ => none
  | q :: l, i => bif Nat.beq q.1 i then some q.2 else mjcons l i
theorem mjcons_ok {own : String} : ∀ {l : List (Nat × Value)}, (∀ q ∈ l, mjconOK own q.1 q.2) → ∀ i x, mjcons l i = some x → mjconOK own i x
  | [], _, i, x, h => by cases h
  | q :: l, hl, i, x, h => by
    unfold mjcons at h
    by_cases z : Nat.beq q.1 i = true
    · rw [z] at h
      have h0 := hl q List.mem_cons_self
      have h1 : q.2 = x := Option.some.inj h
      rw [Nat.eq_of_beq_eq_true z] at h0
      rw [h1] at h0
      exact h0
    · rw [Bool.not_eq_true] at z
      rw [z] at h
      exact mjcons_ok (fun q' hq' => hl q' (List.mem_cons_of_mem _ hq')) i x h
def CN_L : List (Nat × Value) := [(7, .int (-1209997971)), (8, .int 2147483647), (9, .long 383), (11, .long 31), (26, .int 1000000)]
theorem CN_L_ok : ∀ q ∈ CN_L, mjconOK RL q.1 q.2 := List.forall_mem_cons.mpr ⟨ck_L_7, List.forall_mem_cons.mpr ⟨ck_L_8, List.forall_mem_cons.mpr ⟨ck_L_9, List.forall_mem_cons.mpr ⟨ck_L_11, List.forall_mem_cons.mpr ⟨ck_L_26, fun _ h => absurd h List.not_mem_nil⟩⟩⟩⟩⟩
