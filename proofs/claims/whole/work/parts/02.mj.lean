/-! mj: a small machine. Its states: pc, locals (by number; none: unknown), stack, cells (a reference is the cell's place; from 4096 on: a cell of somebody else's), room used. 'mj' says by steps of computation that a run comes to states with T, or ends with R. -/
abbrev mjL : Type := List (Option Value)
abbrev mjM : Type := List va_E
abbrev mjSp : Type := mjM → List Value → Prop × Option mjM × Option Value
abbrev mjI : Type := Instr × Nat × Int32 × Nat
/-- index, kind (0 virtual, 1 static, 2 constructor, 3 Object(), 4 arraycopy, 5 a nest mate's constructor), arguments, cells, slots, what it does -/
abbrev mjX : Type := Nat × Nat × Nat × Nat × Nat × mjSp
/-- code; fields: (class, place, kind); calls; which cells go to a call; switches; classes made; long constants; what it returns; room -/
abbrev mjG : Type := (Nat → Option mjI) × (Nat → Option (Nat × Nat × Nat)) × List mjX × (Nat → List Nat) × (Nat → List (Int32 × Nat)) × (Nat → Option (Nat × List Value)) × (Nat → Option UInt64) × Option FieldType × Nat × Nat
def mjlg (L : mjL) (i : Nat) : Option Value := match L[i]? with
  | some (some v) => some v
  | _ => none
def mjlp (L : mjL) (i : Nat) (v : Value) : mjL := match i with
  | 0 => L.set 0 (some v)
  | j + 1 => match L[j]? with
    | some (some (.double _)) => (L.set j none).set (j + 1) (some v)
    | some (some (.long _)) => (L.set j none).set (j + 1) (some v)
    | _ => L.set (j + 1) (some v)
def mjmask : List Bool → mjL → mjL
  | b :: bs, x :: L => (bif b then x else none) :: mjmask bs L
  | [], L => L
  | _ :: _, [] => []
def mjv (ad : Nat → Nat) (v : Value) : Value := match v with
  | .ref i => .ref (ad i)
  | w => w
def mjcut (ad : Nat → Nat) (n : Nat) (f : Nat → Option Nat) : Nat → Option Nat := fun k => if k < n then (f k).map ad else none
def mja (ad : Nat → Nat) (x : vp_A) : vp_A := match x with
  | (n, .inr (.inr (.inr (.inr f)))) => (n, .inr (.inr (.inr (.inr (mjcut ad n f)))))
  | y => y
def mjc (ad : Nat → Nat) (e : va_E) : va_E := match e with
  | .inl (k, x) => .inl (k, mja ad x)
  | .inr (c, fs) => .inr (c, fs.map (mjv ad))
def mje (tc : Nat → ClassId) (ad : Nat → Nat) (e : va_E) : va_E := match e with
  | .inl (k, x) => .inl (tc k, mja ad x)
  | .inr (c, fs) => .inr (c, fs.map (mjv ad))
def mjw (tc : Nat → ClassId) (ad : Nat → Nat) (M : mjM) : va_W := M.mapIdx (fun i e => (ad i, mje tc ad e))
abbrev mjt (tc : Nat → ClassId) : List (ClassId × FieldType) := [(tc 0, .int), (tc 1, .char), (tc 2, .object RX4)]
/-- references of a value, of a cell: below n, or from 4001 on -/
def mjfv (n : Nat) (v : Value) : Bool := match v with
  | .ref i => Nat.ble (i + 1) n || Nat.ble 4001 i
  | _ => true
def mjfc (n : Nat) (e : va_E) : Bool := match e with
  | .inl (_, (k, .inr (.inr (.inr (.inr f))))) => (List.range k).all (fun j => match f j with
    | some i => Nat.ble (i + 1) n || Nat.ble 4001 i
    | none => true)
  | .inl _ => true
  | .inr (_, fs) => fs.all (mjfv n)
def mjfl (n : Nat) (L : mjL) : Bool := L.all (fun o => match o with
  | some v => mjfv n v
  | none => true)
/-- no value or cell speaks of a place that is not yet there -/
def mjfr (L : mjL) (S : List Value) (M : mjM) : Bool := mjfl M.length L && S.all (mjfv M.length) && M.all (mjfc M.length)
/-- the same, all below n -/
def mjbv (n : Nat) (v : Value) : Bool := match v with
  | .ref i => Nat.ble (i + 1) n
  | _ => true
def mjbc (n : Nat) (e : va_E) : Bool := match e with
  | .inl (_, (k, .inr (.inr (.inr (.inr f))))) => (List.range k).all (fun j => match f j with
    | some i => Nat.ble (i + 1) n
    | none => true)
  | .inl _ => true
  | .inr (_, fs) => fs.all (mjbv n)
def mjpos : List Nat → Nat → Option Nat
  | [], _ => none
  | a :: l, i => bif Nat.beq a i then some 0 else match mjpos l i with
    | some j => some (j + 1)
    | none => none
/-- a caller's place as a callee names it, and back -/
def mjri (e : List Nat) (i : Nat) : Nat := match mjpos e i with
  | some j => j
  | none => 4096 + i
def mjui (e : List Nat) (n j : Nat) : Nat := bif Nat.ble (j + 1) e.length then e.getD j 0 else bif Nat.ble (j + 1) 4096 then n + (j - e.length) else j - 4096
def mjext (e : List Nat) (M : mjM) : mjM := e.map (fun i => mjc (mjri e) (M.getD i (.inr (0, []))))
def mjput : List Nat → mjM → mjM → mjM
  | i :: e, x :: M', M => mjput e M' (M.set i x)
  | _, _, M => M
def mjins (e : List Nat) (M M' : mjM) : mjM := mjput e (M'.map (mjc (mjui e M.length))) M ++ (M'.drop e.length).map (mjc (mjui e M.length))
/-- the places are there, and each once -/
def mjinc : List Nat → Nat → Bool
  | [], _ => true
  | [a], n => Nat.ble (a + 1) n
  | a :: b :: l, n => Nat.ble (a + 1) b && mjinc (b :: l) n
def mjnd : List Nat → Nat → Bool
  | [], _ => true
  | a :: l, n => Nat.ble (a + 1) n && l.all (fun b => !(Nat.beq a b)) && mjnd l n
def mjfind : List mjX → Nat → Option (Nat × Nat × Nat × Nat × mjSp)
  | [], _ => none
  | q :: l, i => bif Nat.beq q.1 i then some q.2 else mjfind l i
def mjone (v : Value) : Bool := match v with
  | .double _ => false
  | .long _ => false
  | _ => true
def mjcat : List Value → Nat
  | [] => 0
  | .double _ :: l => mjcat l + 2
  | .long _ :: l => mjcat l + 2
  | _ :: l => mjcat l + 1
def mjsw (x : Int32) (d : Nat) (go : Nat → Prop) : List (Int32 × Nat) → Prop
  | [] => go d
  | (k, t) :: l => (x = k → go t) ∧ (¬ x = k → mjsw x d go l)
/-- what is there behind a call that makes cells -/
def mjnew (e : List Nat) (L : mjL) (S : List Value) (M M' : mjM) (r : Option Value) : Bool :=
  mjfr L S M && M'.all (mjbc M'.length) && r.toList.all (mjbv M'.length) && Nat.ble e.length M'.length && Nat.ble (M.length + M'.length) 4000
def mjcall (G : mjG) (nx : Nat → mjL → List Value → mjM → Nat × Nat → Prop) (virt : Bool) (q : Nat × Nat × Nat × Nat × mjSp) (pc : Nat) (L : mjL) (S : List Value) (M : mjM) (u : Nat × Nat) : Prop :=
  match q with
  | (k, na, cm, sm, Sp) =>
    bif Nat.ble na S.length && (S.take na).all mjone && Nat.ble (mjcat (S.drop na)) 8 && (mjinc (G.2.2.2.1 pc) M.length || mjnd (G.2.2.2.1 pc) M.length) && Nat.ble (G.2.2.2.1 pc).length 4000 && Nat.ble (u.1 + cm) G.2.2.2.2.2.2.2.2.1 && Nat.ble (u.2 + sm) G.2.2.2.2.2.2.2.2.2
        && (bif virt then (match (S.take na).reverse with
          | .ref b :: _ => (match M[b]? with
            | some (.inr _) => Nat.beq b ((G.2.2.2.1 pc).getD 0 5000)
            | _ => false)
          | _ => false) else true) then
      match Sp (mjext (G.2.2.2.1 pc) M) ((S.take na).reverse.map (mjv (mjri (G.2.2.2.1 pc)))) with
      | (P, none, r) => P ∧ (bif Nat.beq cm 0 then nx (pc + 3) L (r.toList.map (mjv (mjui (G.2.2.2.1 pc) M.length)) ++ S.drop na) M (u.1 + cm, u.2 + sm) else False)
      | (P, some M', r) => P ∧ (bif (Nat.beq cm 0 && Nat.beq M'.length (G.2.2.2.1 pc).length) || (!(Nat.beq cm 0) && mjnew (G.2.2.2.1 pc) L (S.drop na) M M' r) then nx (pc + 3) L (r.toList.map (mjv (mjui (G.2.2.2.1 pc) M.length)) ++ S.drop na) (mjins (G.2.2.2.1 pc) M M') (u.1 + cm, u.2 + sm) else False)
    else False
def mjcopy (nx : mjM → List Value → Prop) (S : List Value) (M : mjM) : Prop := match S with
  | .int n :: .int dp :: .ref a1 :: .int sp :: .ref a0 :: S' => match M[a0]?, M[a1]? with
    | some (.inl (0, (n0, .inl f))), some (.inl (0, (n1, .inl g))) => (¬ sp < 0 ∧ ¬ dp < 0 ∧ ¬ n < 0 ∧ sp.toNatClampNeg + n.toNatClampNeg ≤ n0 ∧ dp.toNatClampNeg + n.toNatClampNeg ≤ n1) ∧ (bif Nat.ble (mjcat S') 8 then nx (M.set a1 (.inl (0, (n1, .inl (va_cpy f g sp.toNatClampNeg dp.toNatClampNeg n.toNatClampNeg))))) S' else False)
    | _, _ => False
  | _ => False
def mjild (nx : mjL → List Value → mjM → Nat × Nat → Prop) (L : mjL) (i : Nat) (S : List Value) (M : mjM) (u : Nat × Nat) : Prop := match mjlg L i with
  | some (.int x) => nx L (.int x :: S) M u
  | _ => False
def mjald (nx : mjL → List Value → mjM → Nat × Nat → Prop) (L : mjL) (i : Nat) (S : List Value) (M : mjM) (u : Nat × Nat) : Prop := match mjlg L i with
  | some (.ref x) => nx L (.ref x :: S) M u
  | some .null => nx L (.null :: S) M u
  | _ => False
def mjdld (nx : mjL → List Value → mjM → Nat × Nat → Prop) (L : mjL) (i : Nat) (S : List Value) (M : mjM) (u : Nat × Nat) : Prop := match mjlg L i with
  | some (.double x) => nx L (.double x :: S) M u
  | _ => False
def mjist (nx : mjL → List Value → mjM → Nat × Nat → Prop) (L : mjL) (i : Nat) (S : List Value) (M : mjM) (u : Nat × Nat) : Prop := match S with
  | .int x :: S' => bif Nat.ble (i + 1) L.length then nx (mjlp L i (.int x)) S' M u else False
  | _ => False
def mjast (nx : mjL → List Value → mjM → Nat × Nat → Prop) (L : mjL) (i : Nat) (S : List Value) (M : mjM) (u : Nat × Nat) : Prop := match S with
  | .ref x :: S' => bif Nat.ble (i + 1) L.length then nx (mjlp L i (.ref x)) S' M u else False
  | .null :: S' => bif Nat.ble (i + 1) L.length then nx (mjlp L i .null) S' M u else False
  | _ => False
def mjdst (nx : mjL → List Value → mjM → Nat × Nat → Prop) (L : mjL) (i : Nat) (S : List Value) (M : mjM) (u : Nat × Nat) : Prop := match S with
  | .double x :: S' => bif Nat.ble (i + 2) L.length then nx ((mjlp L i (.double x)).set (i + 1) none) S' M u else False
  | _ => False
def mjs (G : mjG) (Z : Option (Nat × (Nat → Int32))) (R : mjM → Option Value → Nat × Nat → Prop) (nx : Nat → mjL → List Value → mjM → Nat × Nat → Prop) (ins : Instr) (len : Nat) (v : Int32) (t : Nat) (pc : Nat) (L : mjL) (S : List Value) (M : mjM) (u : Nat × Nat) : Prop :=
  match ins with
  | .iconst _ => nx (pc + 1) L (.int v :: S) M u
  | .bipush _ => nx (pc + 2) L (.int v :: S) M u
  | .sipush _ => nx (pc + 3) L (.int v :: S) M u
  | .iload i => mjild (nx (pc + 2)) L i S M u
  | .iload_n i => mjild (nx (pc + 1)) L i.val S M u
  | .aload i => mjald (nx (pc + 2)) L i S M u
  | .aload_n i => mjald (nx (pc + 1)) L i.val S M u
  | .dload i => mjdld (nx (pc + 2)) L i S M u
  | .dload_n i => mjdld (nx (pc + 1)) L i.val S M u
  | .istore i => mjist (nx (pc + 2)) L i S M u
  | .istore_n i => mjist (nx (pc + 1)) L i.val S M u
  | .astore i => mjast (nx (pc + 2)) L i S M u
  | .astore_n i => mjast (nx (pc + 1)) L i.val S M u
  | .dstore i => mjdst (nx (pc + 2)) L i S M u
  | .dstore_n i => mjdst (nx (pc + 1)) L i.val S M u
  | .iinc i _ => match mjlg L i with
    | some (.int x) => nx (pc + 3) (mjlp L i (.int (x + v))) S M u
    | _ => False
  | .iadd => match S with
    | .int y :: .int x :: S' => nx (pc + 1) L (.int (x + y) :: S') M u
    | _ => False
  | .isub => match S with
    | .int y :: .int x :: S' => nx (pc + 1) L (.int (x - y) :: S') M u
    | _ => False
  | .imul => match S with
    | .int y :: .int x :: S' => nx (pc + 1) L (.int (x * y) :: S') M u
    | _ => False
  | .iand => match S with
    | .int y :: .int x :: S' => nx (pc + 1) L (.int (x &&& y) :: S') M u
    | _ => False
  | .idiv => match S with
    | .int y :: .int x :: S' => bif decide (y = 0) then False else nx (pc + 1) L (.int (x / y) :: S') M u
    | _ => False
  | .irem => match S with
    | .int y :: .int x :: S' => bif decide (y = 0) then False else nx (pc + 1) L (.int (x - x / y * y) :: S') M u
    | _ => False
  | .ineg => match S with
    | .int x :: S' => nx (pc + 1) L (.int (-x) :: S') M u
    | _ => False
  | .i2c => match S with
    | .int x :: S' => nx (pc + 1) L (.int (x.toUInt32 % 65536).toInt32 :: S') M u
    | _ => False
  | .i2d => match S with
    | .int x :: S' => nx (pc + 1) L (.double (FP.i2d x) :: S') M u
    | _ => False
  | .dadd => match S with
    | .double y :: .double x :: S' => vf_n64 (FP.dadd x y) ∧ nx (pc + 1) L (.double (FP.dadd x y) :: S') M u
    | _ => False
  | .ddiv => match S with
    | .double y :: .double x :: S' => vf_n64 (FP.ddiv x y) ∧ nx (pc + 1) L (.double (FP.ddiv x y) :: S') M u
    | _ => False
  | .dcmp o => match S with
    | .double y :: .double x :: S' => nx (pc + 1) L (.int (Op.cmpValue (FP.dcmp x y) o) :: S') M u
    | _ => False
  | .dconst d => match d with
    | 0 => nx (pc + 1) L (.double FP.dconst0 :: S) M u
    | _ => False
  | .ldc2_w i => match G.2.2.2.2.2.2.1 i with
    | some x => nx (pc + 3) L (.double x :: S) M u
    | none => False
  | .dup => match S with
    | .int x :: S' => nx (pc + 1) L (.int x :: .int x :: S') M u
    | .ref x :: S' => nx (pc + 1) L (.ref x :: .ref x :: S') M u
    | _ => False
  | .dup2 => match S with
    | .int x :: .int y :: S' => nx (pc + 1) L (.int x :: .int y :: .int x :: .int y :: S') M u
    | .int x :: .ref y :: S' => nx (pc + 1) L (.int x :: .ref y :: .int x :: .ref y :: S') M u
    | _ => False
  | .pop => match S with
    | .int _ :: S' => nx (pc + 1) L S' M u
    | .ref _ :: S' => nx (pc + 1) L S' M u
    | _ => False
  | .aconst_null => nx (pc + 1) L (.null :: S) M u
  | .goto _ => nx t L S M u
  | .ifCond o _ => match S with
    | .int x :: S' => (match o with
      | .eq => (x = 0 → nx t L S' M u) ∧ (¬ x = 0 → nx (pc + 3) L S' M u)
      | .ne => (¬ x = 0 → nx t L S' M u) ∧ (x = 0 → nx (pc + 3) L S' M u)
      | .lt => (x < 0 → nx t L S' M u) ∧ (¬ x < 0 → nx (pc + 3) L S' M u)
      | .ge => (0 ≤ x → nx t L S' M u) ∧ (¬ 0 ≤ x → nx (pc + 3) L S' M u)
      | .gt => (0 < x → nx t L S' M u) ∧ (¬ 0 < x → nx (pc + 3) L S' M u)
      | .le => (x ≤ 0 → nx t L S' M u) ∧ (¬ x ≤ 0 → nx (pc + 3) L S' M u))
    | _ => False
  | .if_icmp o _ => match S with
    | .int y :: .int x :: S' => (match o with
      | .eq => (x = y → nx t L S' M u) ∧ (¬ x = y → nx (pc + 3) L S' M u)
      | .ne => (¬ x = y → nx t L S' M u) ∧ (x = y → nx (pc + 3) L S' M u)
      | .lt => (x < y → nx t L S' M u) ∧ (¬ x < y → nx (pc + 3) L S' M u)
      | .ge => (y ≤ x → nx t L S' M u) ∧ (¬ y ≤ x → nx (pc + 3) L S' M u)
      | .gt => (y < x → nx t L S' M u) ∧ (¬ y < x → nx (pc + 3) L S' M u)
      | .le => (x ≤ y → nx t L S' M u) ∧ (¬ x ≤ y → nx (pc + 3) L S' M u))
    | _ => False
  | .ifnull _ => match S with
    | .ref _ :: S' => nx (pc + 3) L S' M u
    | .null :: S' => nx t L S' M u
    | _ => False
  | .ifnonnull _ => match S with
    | .ref _ :: S' => nx t L S' M u
    | .null :: S' => nx (pc + 3) L S' M u
    | _ => False
  | .tableswitch _ _ _ _ => match S with
    | .int x :: S' => mjsw x t (fun q => nx q L S' M u) (G.2.2.2.2.1 pc)
    | _ => False
  | .lookupswitch _ _ => match S with
    | .int x :: S' => mjsw x t (fun q => nx q L S' M u) (G.2.2.2.2.1 pc)
    | _ => False
  | .getfield i => match S with
    | .ref a :: S' => (match G.2.1 i with
      | some (ci, k, _) => (match M[a]? with
        | some (.inr (cj, fs)) => bif Nat.beq ci cj then (match fs[k]? with
          | some w => nx (pc + 3) L (w :: S') M u
          | none => False) else False
        | _ => False)
      | none => False)
    | _ => False
  | .putfield i => match S with
    | w :: .ref a :: S' => (match G.2.1 i with
      | some (ci, k, tk) => (match M[a]? with
        | some (.inr (cj, fs)) => bif Nat.beq ci cj && Nat.ble (k + 1) fs.length then (match tk with
          | 0 => (match w with
            | .int x => nx (pc + 3) L S' (M.set a (.inr (cj, fs.set k (.int x)))) u
            | _ => False)
          | 1 => (match w with
            | .int x => (x = 0 ∨ x = 1) ∧ nx (pc + 3) L S' (M.set a (.inr (cj, fs.set k (.int x)))) u
            | _ => False)
          | 2 => (match w with
            | .ref x => nx (pc + 3) L S' (M.set a (.inr (cj, fs.set k (.ref x)))) u
            | _ => False)
          | _ => False) else False
        | _ => False)
      | none => False)
    | _ => False
  | .arraylength => match S with
    | .ref a :: S' => bif Nat.beq a 4095 then (match Z with
        | some (n, _) => nx (pc + 1) L (.int (nI n) :: S') M u
        | none => False)
      else (match M[a]? with
        | some (.inl (0, (n, .inl _))) => nx (pc + 1) L (.int (nI n) :: S') M u
        | _ => False)
    | _ => False
  | .iaload => match S with
    | .int i :: .ref a :: S' => bif Nat.beq a 4095 then (match Z with
        | some (n, f) => ∃ j : Nat, i = nI j ∧ (j < n ∧ n < 2147483648) ∧ nx (pc + 1) L (.int (f j) :: S') M u
        | none => False)
      else (match M[a]? with
        | some (.inl (0, (n, .inl f))) => ∃ j : Nat, i = nI j ∧ (j < n ∧ n < 2147483648) ∧ nx (pc + 1) L (.int (f j) :: S') M u
        | _ => False)
    | _ => False
  | .caload => match S with
    | .int i :: .ref a :: S' => (match M[a]? with
        | some (.inl (1, (n, .inl f))) => ∃ j : Nat, i = nI j ∧ (j < n ∧ n < 2147483648) ∧ nx (pc + 1) L (.int (f j) :: S') M u
        | _ => False)
    | _ => False
  | .iastore => match S with
    | .int x :: .int i :: .ref a :: S' => (match M[a]? with
        | some (.inl (0, (n, .inl f))) => ∃ j : Nat, i = nI j ∧ (j < n ∧ n < 2147483648) ∧ nx (pc + 1) L S' (M.set a (.inl (0, (n, .inl (upd f j x))))) u
        | _ => False)
    | _ => False
  | .castore => match S with
    | .int x :: .int i :: .ref a :: S' => (match M[a]? with
        | some (.inl (1, (n, .inl f))) => ∃ j : Nat, i = nI j ∧ (j < n ∧ n < 2147483648) ∧ nx (pc + 1) L S' (M.set a (.inl (1, (n, .inl (upd f j (vp_nar .char x)))))) u
        | _ => False)
    | _ => False
  | .aaload => match S with
    | .int i :: .ref a :: S' => (match M[a]? with
        | some (.inl (2, (n, .inr (.inr (.inr (.inr f)))))) => ∃ j r : Nat, i = nI j ∧ (j < n ∧ n < 2147483648) ∧ f j = some r ∧ nx (pc + 1) L (.ref r :: S') M u
        | _ => False)
    | _ => False
  | .aastore => match S with
    | .ref x :: .int i :: .ref a :: S' => (match M[a]? with
        | some (.inl (2, (n, .inr (.inr (.inr (.inr f)))))) => (match M[x]? with
          | some (.inr (3, _)) => ∃ j : Nat, i = nI j ∧ (j < n ∧ n < 2147483648) ∧ nx (pc + 1) L S' (M.set a (.inl (2, (n, .inr (.inr (.inr (.inr (va_up f j (some x))))))))) u
          | _ => False)
        | _ => False)
    | _ => False
  | .new i => match G.2.2.2.2.2.1 i with
    | some (ci, fs) => bif mjfr L S M && Nat.ble (M.length + 1) 4000 && Nat.ble (u.1 + 1) G.2.2.2.2.2.2.2.2.1 && Nat.ble (u.2 + fs.length) G.2.2.2.2.2.2.2.2.2 then nx (pc + 3) L (.ref M.length :: S) (M ++ [.inr (ci, fs)]) (u.1 + 1, u.2 + fs.length) else False
    | none => False
  | .newarray ty => match S with
    | .int i :: S' => (match ty with
      | .int => ∃ j : Nat, i = nI j ∧ (j < 100000) ∧ (bif mjfr L S' M && Nat.ble (M.length + 1) 4000 && Nat.ble (u.1 + 1) G.2.2.2.2.2.2.2.2.1 && Nat.ble (u.2 + j) G.2.2.2.2.2.2.2.2.2 then nx (pc + 2) L (.ref M.length :: S') (M ++ [.inl (0, (j, .inl (fun _ => 0)))]) (u.1 + 1, u.2 + j) else False)
      | .char => ∃ j : Nat, i = nI j ∧ (j < 100000) ∧ (bif mjfr L S' M && Nat.ble (M.length + 1) 4000 && Nat.ble (u.1 + 1) G.2.2.2.2.2.2.2.2.1 && Nat.ble (u.2 + j) G.2.2.2.2.2.2.2.2.2 then nx (pc + 2) L (.ref M.length :: S') (M ++ [.inl (1, (j, .inl (fun _ => 0)))]) (u.1 + 1, u.2 + j) else False)
      | _ => False)
    | _ => False
  | .anewarray _ => match S with
    | .int i :: S' => ∃ j : Nat, i = nI j ∧ (j < 100000) ∧ (bif mjfr L S' M && Nat.ble (M.length + 1) 4000 && Nat.ble (u.1 + 1) G.2.2.2.2.2.2.2.2.1 && Nat.ble (u.2 + j) G.2.2.2.2.2.2.2.2.2 then nx (pc + 3) L (.ref M.length :: S') (M ++ [.inl (2, (j, .inr (.inr (.inr (.inr (fun _ => none))))))]) (u.1 + 1, u.2 + j) else False)
    | _ => False
  | .invokevirtual i => match mjfind G.2.2.1 i with
    | some q => (match q.1 with
      | 0 => mjcall G nx true q pc L S M u
      | _ => False)
    | none => False
  | .invokestatic i => match mjfind G.2.2.1 i with
    | some q => (match q.1 with
      | 1 => mjcall G nx false q pc L S M u
      | 4 => mjcopy (fun M' S' => nx (pc + 3) L S' M' u) S M
      | _ => False)
    | none => False
  | .invokespecial i => match mjfind G.2.2.1 i with
    | some q => (match q.1 with
      | 2 => mjcall G nx false q pc L S M u
      | 5 => mjcall G nx false q pc L S M u
      | 3 => (match S with
        | .ref _ :: S' => bif Nat.ble (mjcat S') 8 then nx (pc + 3) L S' M u else False
        | _ => False)
      | _ => False)
    | none => False
  | .ireturn => match S with
    | [.int x] => (match G.2.2.2.2.2.2.2.1 with
      | some .int => R M (some (.int x)) u
      | some ty => narrow ty (.int x) = .int x ∧ R M (some (.int x)) u
      | none => False)
    | _ => False
  | .dreturn => match S with
    | [.double x] => R M (some (.double x)) u
    | _ => False
  | .areturn => match S with
    | [.ref x] => R M (some (.ref x)) u
    | [.null] => R M (some .null) u
    | _ => False
  | .return_ => match S with
    | [] => R M none u
    | _ => False
  | _ => False
def mj (G : mjG) (Z : Option (Nat × (Nat → Int32))) (cut : Nat → Bool) (T : Nat → mjL → List Value → mjM → Nat × Nat → Prop) (R : mjM → Option Value → Nat × Nat → Prop) : Nat → Nat → mjL → List Value → mjM → Nat × Nat → Prop
  | 0, pc, L, S, M, u => T pc L S M u
  | n + 1, pc, L, S, M, u => match G.1 pc with
    | none => False
    | some (ins, len, v, t) => mjs G Z R (fun pc' L' S' M' u' => bif cut pc' then T pc' L' S' M' u' else mj G Z cut T R n pc' L' S' M' u') ins len v t pc L S M u
/-- what a predicate of states is closed under: the machine's steps, and knowing less of the locals -/
def mjC (G : mjG) (Z : Option (Nat × (Nat → Int32))) (R : mjM → Option Value → Nat × Nat → Prop) (T : Nat → mjL → List Value → mjM → Nat × Nat → Prop) : Prop :=
  (∀ cut n pc L S M u, mj G Z cut T R n pc L S M u → T pc L S M u) ∧ ∀ bs pc L S M u, T pc (mjmask bs L) S M u → T pc L S M u
/-- a method does what is said of it -/
def mjOK (G : mjG) (nL : Nat) (Sp : mjSp) : Prop := ∀ (M : mjM) (as : List Value), (Sp M as).1 → ∀ T, mjC G none (fun M' r _ => M' = (Sp M as).2.1.getD M ∧ r = (Sp M as).2.2) T → T 0 (as.map some ++ List.replicate (nL - as.length) none) [] M (0, 0)
