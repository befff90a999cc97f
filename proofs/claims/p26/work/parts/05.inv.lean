/-! mj: what a step says, taken apart -/
theorem mji_inv {S : List Value} {F : Int32 → List Value → Prop} (h : mji S F) : ∃ x S', S = .int x :: S' ∧ F x S' := by
  unfold mji at h
  split at h
  · exact ⟨_, _, rfl, h⟩
  · exact h.elim
theorem mjii_inv {S : List Value} {F : Int32 → Int32 → List Value → Prop} (h : mjii S F) : ∃ y x S', S = .int y :: .int x :: S' ∧ F y x S' := by
  unfold mjii at h
  split at h
  · exact ⟨_, _, _, rfl, h⟩
  · exact h.elim
theorem mjd_inv {S : List Value} {F : UInt64 → List Value → Prop} (h : mjd S F) : ∃ x S', S = .double x :: S' ∧ F x S' := by
  unfold mjd at h
  split at h
  · exact ⟨_, _, rfl, h⟩
  · exact h.elim
theorem mjdd_inv {S : List Value} {F : UInt64 → UInt64 → List Value → Prop} (h : mjdd S F) : ∃ y x S', S = .double y :: .double x :: S' ∧ F y x S' := by
  unfold mjdd at h
  split at h
  · exact ⟨_, _, _, rfl, h⟩
  · exact h.elim
theorem mjl_inv {S : List Value} {F : Int64 → List Value → Prop} (h : mjl S F) : ∃ x S', S = .long x :: S' ∧ F x S' := by
  unfold mjl at h
  split at h
  · exact ⟨_, _, rfl, h⟩
  · exact h.elim
theorem mjll_inv {S : List Value} {F : Int64 → Int64 → List Value → Prop} (h : mjll S F) : ∃ y x S', S = .long y :: .long x :: S' ∧ F y x S' := by
  unfold mjll at h
  split at h
  · exact ⟨_, _, _, rfl, h⟩
  · exact h.elim
theorem mjr_inv {S : List Value} {F : Nat → List Value → Prop} (h : mjr S F) : ∃ x S', S = .ref x :: S' ∧ F x S' := by
  unfold mjr at h
  split at h
  · exact ⟨_, _, rfl, h⟩
  · exact h.elim
theorem mjrn_inv {S : List Value} {F : Value → Bool → List Value → Prop} (h : mjrn S F) : (∃ a S', S = .ref a :: S' ∧ F (.ref a) true S') ∨ (∃ S', S = .null :: S' ∧ F .null false S') := by
  unfold mjrn at h
  split at h
  · exact Or.inl ⟨_, _, rfl, h⟩
  · exact Or.inr ⟨_, rfl, h⟩
  · exact h.elim
theorem mjan_inv {S : List Value} {F : Value → List Value → Prop} (h : mjan S F) : ∃ x S', S = x :: S' ∧ x.category = 1 ∧ F x S' := by
  unfold mjan at h
  split at h
  · exact ⟨_, _, rfl, rfl, h⟩
  · exact ⟨_, _, rfl, rfl, h⟩
  · exact h.elim
theorem mjtol {α : Type} {o : Option α} {a : α} {l : List α} (h : o.toList = a :: l) : o = some a := by
  cases o with
  | none => cases h
  | some x => cases h; rfl
theorem mjir_inv {S : List Value} {F : Int32 → Nat → List Value → Prop} (h : mjir S F) : ∃ i a S', S = .int i :: .ref a :: S' ∧ F i a S' := by
  unfold mjir at h
  split at h
  · exact ⟨_, _, _, rfl, h⟩
  · exact h.elim
theorem mjiir_inv {S : List Value} {F : Int32 → Int32 → Nat → List Value → Prop} (h : mjiir S F) : ∃ x i a S', S = .int x :: .int i :: .ref a :: S' ∧ F x i a S' := by
  unfold mjiir at h
  split at h
  · exact ⟨_, _, _, _, rfl, h⟩
  · exact h.elim
theorem mjrir_inv {S : List Value} {F : Nat → Int32 → Nat → List Value → Prop} (h : mjrir S F) : ∃ x i a S', S = .ref x :: .int i :: .ref a :: S' ∧ F x i a S' := by
  unfold mjrir at h
  split at h
  · exact ⟨_, _, _, _, rfl, h⟩
  · exact h.elim
theorem mjiriri_inv {S : List Value} {F : Int32 → Int32 → Nat → Int32 → Nat → List Value → Prop} (h : mjiriri S F) : ∃ n dp a1 sp a0 S', S = .int n :: .int dp :: .ref a1 :: .int sp :: .ref a0 :: S' ∧ F n dp a1 sp a0 S' := by
  unfold mjiriri at h
  split at h
  · exact ⟨_, _, _, _, _, _, rfl, h⟩
  · exact h.elim
theorem mjtop_inv {S : List Value} {F : Value → Nat → List Value → Prop} (h : mjtop S F) : ∃ w a S', S = w :: .ref a :: S' ∧ F w a S' := by
  unfold mjtop at h
  split at h
  · exact ⟨_, _, _, rfl, h⟩
  · exact h.elim
theorem mjb_inv {b : Bool} {F : Prop} (h : mjb b F) : b = true ∧ F := by
  cases b
  · exact h.elim
  · exact ⟨rfl, h⟩
theorem mjbif {b : Bool} {F : Prop} (h : bif b then F else False) : b = true ∧ F := by
  cases b
  · exact h.elim
  · exact ⟨rfl, h⟩
theorem mjA_inv {k : Nat} {o : Option va_E} {F : Nat → (Nat → Int32) → Prop} (h : mjA k o F) : ∃ n f, o = some (.inl (k, (n, .inl f))) ∧ F n f := by
  unfold mjA at h
  split at h
  · obtain ⟨h1, h2⟩ := mjbif h
    rw [← Nat.eq_of_beq_eq_true h1]
    exact ⟨_, _, rfl, h2⟩
  · exact h.elim
theorem mjQ_inv {o : Option va_E} {F : Nat → (Nat → Option Nat) → Prop} (h : mjQ o F) : ∃ n f, o = some (.inl (2, (n, .inr (.inr (.inr (.inr f)))))) ∧ F n f := by
  unfold mjQ at h
  split at h
  · obtain ⟨h1, h2⟩ := mjbif h
    rw [← Nat.eq_of_beq_eq_true h1]
    exact ⟨_, _, rfl, h2⟩
  · exact h.elim
theorem mjO_inv {k : Nat} {o : Option va_E} {F : List Value → Prop} (h : mjO k o F) : ∃ fs, o = some (.inr (k, fs)) ∧ F fs := by
  unfold mjO at h
  split at h
  · obtain ⟨h1, h2⟩ := mjbif h
    rw [← Nat.eq_of_beq_eq_true h1]
    exact ⟨_, rfl, h2⟩
  · exact h.elim
theorem mjo_inv {α : Type} {o : Option α} {F : α → Prop} (h : mjo o F) : ∃ x, o = some x ∧ F x := by
  unfold mjo at h
  split at h
  · exact ⟨_, rfl, h⟩
  · exact h.elim
theorem mjno_inv {S : List Value} {F : Prop} (h : mjno S F) : S = [] ∧ F := by
  unfold mjno at h
  split at h
  · exact ⟨rfl, h⟩
  · exact h.elim
theorem mjfind_mem : ∀ {l : List mjX} {i : Nat} {q}, mjfind l i = some q → (i, q) ∈ l
  | [], i, q, h => by cases h
  | a :: l, i, q, h => by
    unfold mjfind at h
    by_cases z : Nat.beq a.1 i = true
    · rw [z] at h
      cases h
      rw [← Nat.eq_of_beq_eq_true z]
      exact List.mem_cons_self
    · rw [Bool.not_eq_true] at z
      rw [z] at h
      exact List.mem_cons_of_mem _ (mjfind_mem h)
theorem mjsw_inv {x : Int32} {d : Nat} {go : Nat → Prop} : ∀ {l : List (Int32 × Nat)}, mjsw x d go l → (∃ (i : Nat) (k : Int32) (t : Nat), l[i]? = some (k, t) ∧ (∀ j : Nat, j < i → ∀ q, l[j]? = some q → ¬ x = q.1) ∧ x = k ∧ go t) ∨ ((∀ q ∈ l, ¬ x = q.1) ∧ go d)
  | [], h => Or.inr ⟨(fun q hq => absurd hq List.not_mem_nil), h⟩
  | (k, t) :: l, h => by
    by_cases hx : x = k
    · exact Or.inl ⟨0, k, t, rfl, fun j hj => absurd hj (Nat.not_lt_zero j), hx, h.1 hx⟩
    · rcases mjsw_inv (h.2 hx) with ⟨i, k', t', h1, h2, h3, h4⟩ | ⟨h1, h2⟩
      · refine Or.inl ⟨i + 1, k', t', h1, fun j hj q hq => ?_, h3, h4⟩
        cases j with
        | zero =>
          rw [List.getElem?_cons_zero] at hq
          cases hq
          exact hx
        | succ j =>
          rw [List.getElem?_cons_succ] at hq
          exact h2 j (by omega) q hq
      · refine Or.inr ⟨fun q hq => ?_, h2⟩
        rcases List.mem_cons.mp hq with rfl | hq
        · exact hx
        · exact h1 q hq
theorem mjcat_sum (ad : Nat → Nat) : ∀ l : List Value, ((l.map (mjv ad)).map fun v => v.category).sum = mjcat l
  | [] => rfl
  | v :: l => by
    have h := mjcat_sum ad l
    rw [List.map_cons, List.map_cons, List.sum_cons, h, mjv_cat]
    cases v <;> exact Nat.add_comm _ _
-- rows of the code table
def mjlen (i : Instr) : Nat := match i with
  | .bipush _ => 2
  | .iload _ => 2
  | .ldc _ => 2
  | .lload _ => 2
  | .lstore _ => 2
  | .aload _ => 2
  | .dload _ => 2
  | .istore _ => 2
  | .astore _ => 2
  | .dstore _ => 2
  | .newarray _ => 2
  | .sipush _ => 3
  | .iinc _ _ => 3
  | .goto _ => 3
  | .ifCond _ _ => 3
  | .if_icmp _ _ => 3
  | .ifnull _ => 3
  | .ifnonnull _ => 3
  | .getfield _ => 3
  | .putfield _ => 3
  | .new _ => 3
  | .anewarray _ => 3
  | .invokevirtual _ => 3
  | .invokestatic _ => 3
  | .invokespecial _ => 3
  | .ldc2_w _ => 3
  | _ => 1
def mjrow (Y : Nat → List (Int32 × Nat)) (cc : ByteArray) (pc : Nat) (row : mjI) : Bool :=
  decide (decode cc pc = .ok (row.1, row.2.1)) && (match row.1 with
    | .iconst n => decide (row.2.1 = 1) && decide (Int32.ofInt n = row.2.2.1)
    | .bipush n => decide (row.2.1 = 2) && decide ((Int8.ofInt n).toInt32 = row.2.2.1)
    | .sipush n => decide (row.2.1 = 3) && decide ((Int16.ofInt n).toInt32 = row.2.2.1)
    | .iinc _ n => decide (row.2.1 = 3) && decide (Int32.ofInt n = row.2.2.1)
    | .goto o => decide (row.2.1 = 3) && decide ((pc : Int) + o = (row.2.2.2 : Int))
    | .ifCond _ o => decide (row.2.1 = 3) && decide ((pc : Int) + o = (row.2.2.2 : Int))
    | .if_icmp _ o => decide (row.2.1 = 3) && decide ((pc : Int) + o = (row.2.2.2 : Int))
    | .ifnull o => decide (row.2.1 = 3) && decide ((pc : Int) + o = (row.2.2.2 : Int))
    | .ifnonnull o => decide (row.2.1 = 3) && decide ((pc : Int) + o = (row.2.2.2 : Int))
    | .tableswitch d lo hi os => decide ((pc : Int) + d = (row.2.2.2 : Int)) && decide (-1000 ≤ lo ∧ hi ≤ 1000 ∧ hi = lo + (os.size : Int) - 1 ∧ os.size < 1000) && decide ((Y pc).length = os.size) && (List.range os.size).all (fun i => match (Y pc)[i]?, os[i]? with
      | some (k, t), some o => decide (k.toInt = lo + (i : Int)) && decide ((pc : Int) + o = (t : Int))
      | _, _ => false)
    | .lookupswitch d ps => decide ((pc : Int) + d = (row.2.2.2 : Int)) && (ps.toList.zip (ps.toList.drop 1)).all (fun (a, next) => a.1 < next.1) && decide ((Y pc).length = ps.toList.length) && (List.range ps.toList.length).all (fun i => match (Y pc)[i]?, ps.toList[i]? with
      | some (k, t), some (a, o) => decide (k.toInt = a) && decide ((pc : Int) + o = (t : Int))
      | _, _ => false)
    | i => decide (row.2.1 = mjlen i))
theorem mjlook : ∀ {l : List (Int × Int)} {d k : Int} {i : Nat} {a o : Int}, l[i]? = some (a, o) → (∀ j : Nat, j < i → ∀ q, l[j]? = some q → ¬ q.1 = k) → a = k → Op.lookupswitch.offset l d k = o
  | [], d, k, i, a, o, h, _, _ => by simp at h
  | (b, z) :: l, d, k, i, a, o, h, hb, ha => by
    rw [Op.lookupswitch.offset_cons]
    cases i with
    | zero =>
      rw [List.getElem?_cons_zero] at h
      cases h
      rw [if_pos ha]
    | succ i =>
      rw [List.getElem?_cons_succ] at h
      rw [if_neg (hb 0 (by omega) (b, z) rfl)]
      exact mjlook h (fun j hj q hq => hb (j + 1) (by omega) q (by rw [List.getElem?_cons_succ]; exact hq)) ha
theorem mjlook_none : ∀ {l : List (Int × Int)} {d k : Int}, (∀ q ∈ l, ¬ q.1 = k) → Op.lookupswitch.offset l d k = d
  | [], d, k, _ => rfl
  | (b, z) :: l, d, k, h => by
    rw [Op.lookupswitch.offset_cons, if_neg (h (b, z) List.mem_cons_self)]
    exact mjlook_none (fun q hq => h q (List.mem_cons_of_mem _ hq))
theorem mjr1 {cc : ByteArray} {pc len k : Nat} {i : Instr} (h : (decide (decode cc pc = .ok (i, len)) && decide (len = k)) = true) : decode cc pc = .ok (i, k) := by
  simp only [Bool.and_eq_true, decide_eq_true_eq] at h
  rw [← h.2]
  exact h.1
theorem mjr2 {cc : ByteArray} {pc len k : Nat} {i : Instr} {B : Prop} [Decidable B] (h : (decide (decode cc pc = .ok (i, len)) && (decide (len = k) && decide B)) = true) : decode cc pc = .ok (i, k) ∧ B := by
  simp only [Bool.and_eq_true, decide_eq_true_eq] at h
  rw [← h.2.1]
  exact ⟨h.1, h.2.2⟩
