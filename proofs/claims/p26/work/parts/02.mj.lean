/-! mj: a small machine. Its states: pc, locals (by number; none: unknown), stack, cells (a reference is the cell's place; from 4096 on: a cell of somebody else's), room used. 'mj' says by steps of computation that a run comes to states with T, or ends with R. -/
abbrev mjL : Type := List (Option Value)
abbrev mjM : Type := List va_E
abbrev mjSp : Type := mjM → List Value → Prop × Option mjM × Option Value
/-- a method that is told by a relation: what it asks of the cells and arguments, and what then holds of the cells and the answer -/
abbrev mjSr : Type := mjM → List Value → Prop × (mjM → Option Value → Prop)
abbrev mjI : Type := Instr × Nat × Int32 × Nat
/-- index, kind (0 virtual, 1 static, 2 constructor, 3 Object(), 4 arraycopy, 5 a nest mate's constructor), the receiver's kind of cell, arguments, cells, slots, what it does -/
abbrev mjX : Type := Nat × Nat × Nat × Nat × Nat × Nat × mjSp
/-- code; fields: (kind of cell, place, kind of field); calls; which cells go to a call; switches; cells made; long constants; what it returns; room; a constructor's -/
abbrev mjG : Type := (Nat → Option mjI) × (Nat → Option (Nat × Nat × Nat)) × List mjX × (Nat → List Nat) × (Nat → List (Int32 × Nat)) × (Nat → Option (Nat × List Value)) × (Nat → Option Value) × Option FieldType × Nat × Nat × Bool × List (Nat × Nat × mjSr)
def mjlg (L : mjL) (i : Nat) : Option Value := match L[i]? with
  | some (some v) => some v
  | _ => none
def mjlp (L : mjL) (i : Nat) (v : Value) : mjL := match i with
  | 0 => L.set 0 (some v)
  | j + 1 => match L[j]? with
    | some (some (.double _)) => (L.set j none).set (j + 1) (some v)
    | some (some (.long _)) => (L.set j none).set (j + 1) (some v)
    | _ => L.set (j + 1) (some v)
def mjmask : List Bool → mjL → mjL
  | b :: bs, x :: L => (bif b then x else none) :: mjmask bs L
  | [], L => L
  | _ :: _, [] => []
def mjv (ad : Nat → Nat) (v : Value) : Value := match v with
  | .ref i => .ref (ad i)
  | w => w
def mjcut (ad : Nat → Nat) (n : Nat) (f : Nat → Option Nat) : Nat → Option Nat := fun k => if k < n then (f k).map ad else none
def mja (ad : Nat → Nat) (x : vp_A) : vp_A := match x with
  | (n, .inr (.inr (.inr (.inr f)))) => (n, .inr (.inr (.inr (.inr (mjcut ad n f)))))
  | y => y
def mjc (ad : Nat → Nat) (e : va_E) : va_E := match e with
  | .inl (k, x) => .inl (k, mja ad x)
  | .inr (c, fs) => .inr (c, fs.map (mjv ad))
def mje (tc : Nat → ClassId) (ad : Nat → Nat) (e : va_E) : va_E := match e with
  | .inl (k, x) => .inl (tc k, mja ad x)
  | .inr (c, fs) => .inr (c, fs.map (mjv ad))
def mjw (tc : Nat → ClassId) (ad : Nat → Nat) (M : mjM) : va_W := M.mapIdx (fun i e => (ad i, mje tc ad e))
abbrev mjt (tc : Nat → ClassId) : List (ClassId × FieldType) := [(tc 0, .int), (tc 1, .char), (tc 2, .object RX4)]
/-- the references of a value, of a cell, are of a kind -/
def mjqv (P : Nat → Bool) (v : Value) : Bool := match v with
  | .ref i => P i
  | _ => true
def mjqc (P : Nat → Bool) (e : va_E) : Bool := match e with
  | .inl (_, (k, .inr (.inr (.inr (.inr f))))) => (List.range k).all (fun j => match f j with
    | some i => P i
    | none => true)
  | .inl _ => true
  | .inr (_, fs) => fs.all (mjqv P)
def mjql (P : Nat → Bool) (L : mjL) : Bool := L.all (fun o => match o with
  | some v => mjqv P v
  | none => true)
def mjPf (n i : Nat) : Bool := Nat.ble (i + 1) n || Nat.ble 4001 i
def mjPb (n i : Nat) : Bool := Nat.ble (i + 1) n
/-- no value or cell speaks of a place that is not yet there -/
def mjfr (L : mjL) (S : List Value) (M : mjM) : Bool := mjql (mjPf M.length) L && S.all (mjqv (mjPf M.length)) && M.all (mjqc (mjPf M.length))
def mjpos : List Nat → Nat → Option Nat
  | [], _ => none
  | a :: l, i => bif Nat.beq a i then some 0 else match mjpos l i with
    | some j => some (j + 1)
    | none => none
/-- a caller's place as a callee names it, and back -/
def mjri (e : List Nat) (i : Nat) : Nat := match mjpos e i with
  | some j => j
  | none => 4096 + i
def mjui (e : List Nat) (n j : Nat) : Nat := bif Nat.ble (j + 1) e.length then e.getD j 0 else bif Nat.ble (j + 1) 4096 then n + (j - e.length) else j - 4096
def mjext (e : List Nat) (M : mjM) : mjM := e.map (fun i => mjc (mjri e) (M.getD i (.inr (0, []))))
def mjmapi (f : Nat → va_E → va_E) : Nat → mjM → mjM
  | _, [] => []
  | i, x :: l => f i x :: mjmapi f (i + 1) l
def mjput (e : List Nat) (X M : mjM) : mjM := mjmapi (fun i x => match mjpos e i with
  | some j => (match X[j]? with
    | some y => y
    | none => x)
  | none => x) 0 M
def mjins (e : List Nat) (M M' : mjM) : mjM := mjput e (M'.map (mjc (mjui e M.length))) M ++ (M'.drop e.length).map (mjc (mjui e M.length))
/-- the places are there, and each once -/
def mjinc : List Nat → Nat → Bool
  | [], _ => true
  | [a], n => Nat.ble (a + 1) n
  | a :: b :: l, n => Nat.ble (a + 1) b && mjinc (b :: l) n
def mjnd : List Nat → Nat → Bool
  | [], _ => true
  | a :: l, n => Nat.ble (a + 1) n && l.all (fun b => !(Nat.beq a b)) && mjnd l n
def mjfind : List mjX → Nat → Option (Nat × Nat × Nat × Nat × Nat × mjSp)
  | [], _ => none
  | q :: l, i => bif Nat.beq q.1 i then some q.2 else mjfind l i
def mjone (v : Value) : Bool := match v with
  | .double _ => false
  | .long _ => false
  | _ => true
def mjcat : List Value → Nat
  | [] => 0
  | .double _ :: l => mjcat l + 2
  | .long _ :: l => mjcat l + 2
  | _ :: l => mjcat l + 1
def mjsw (x : Int32) (d : Nat) (go : Nat → Prop) : List (Int32 × Nat) → Prop
  | [] => go d
  | (k, t) :: l => (x = k → go t) ∧ (¬ x = k → mjsw x d go l)
/-- what is there behind a call that makes cells -/
def mjnew (e : List Nat) (L : mjL) (S : List Value) (M M' : mjM) (r : Option Value) : Bool :=
  mjfr L S M && M'.all (mjqc (mjPb M'.length)) && r.toList.all (mjqv (mjPb M'.length)) && Nat.ble e.length M'.length && Nat.ble (M.length + M'.length) 4000
def mji (S : List Value) (F : Int32 → List Value → Prop) : Prop := match S with
  | .int x :: S' => F x S'
  | _ => False
def mjii (S : List Value) (F : Int32 → Int32 → List Value → Prop) : Prop := match S with
  | .int y :: .int x :: S' => F y x S'
  | _ => False
def mjd (S : List Value) (F : UInt64 → List Value → Prop) : Prop := match S with
  | .double x :: S' => F x S'
  | _ => False
def mjdd (S : List Value) (F : UInt64 → UInt64 → List Value → Prop) : Prop := match S with
  | .double y :: .double x :: S' => F y x S'
  | _ => False
def mjl (S : List Value) (F : Int64 → List Value → Prop) : Prop := match S with
  | .long x :: S' => F x S'
  | _ => False
def mjll (S : List Value) (F : Int64 → Int64 → List Value → Prop) : Prop := match S with
  | .long y :: .long x :: S' => F y x S'
  | _ => False
def mjr (S : List Value) (F : Nat → List Value → Prop) : Prop := match S with
  | .ref a :: S' => F a S'
  | _ => False
/-- a reference, or null -/
def mjrn (S : List Value) (F : Value → Bool → List Value → Prop) : Prop := match S with
  | .ref a :: S' => F (.ref a) true S'
  | .null :: S' => F .null false S'
  | _ => False
/-- a number or a reference -/
def mjan (S : List Value) (F : Value → List Value → Prop) : Prop := match S with
  | .int a :: S' => F (.int a) S'
  | .ref a :: S' => F (.ref a) S'
  | _ => False
def mjir (S : List Value) (F : Int32 → Nat → List Value → Prop) : Prop := match S with
  | .int i :: .ref a :: S' => F i a S'
  | _ => False
def mjiir (S : List Value) (F : Int32 → Int32 → Nat → List Value → Prop) : Prop := match S with
  | .int x :: .int i :: .ref a :: S' => F x i a S'
  | _ => False
def mjrir (S : List Value) (F : Nat → Int32 → Nat → List Value → Prop) : Prop := match S with
  | .ref x :: .int i :: .ref a :: S' => F x i a S'
  | _ => False
def mjrr (S : List Value) (F : Nat → Nat → List Value → Prop) : Prop := match S with
  | .ref x :: .ref a :: S' => F x a S'
  | _ => False
def mjiriri (S : List Value) (F : Int32 → Int32 → Nat → Int32 → Nat → List Value → Prop) : Prop := match S with
  | .int n :: .int dp :: .ref a1 :: .int sp :: .ref a0 :: S' => F n dp a1 sp a0 S'
  | _ => False
def mjA (k : Nat) (o : Option va_E) (F : Nat → (Nat → Int32) → Prop) : Prop := match o with
  | some (.inl (k', (n, .inl f))) => bif Nat.beq k k' then F n f else False
  | _ => False
def mjQ (o : Option va_E) (F : Nat → (Nat → Option Nat) → Prop) : Prop := match o with
  | some (.inl (k', (n, .inr (.inr (.inr (.inr f)))))) => bif Nat.beq 2 k' then F n f else False
  | _ => False
def mjO (k : Nat) (o : Option va_E) (F : List Value → Prop) : Prop := match o with
  | some (.inr (k', fs)) => bif Nat.beq k k' then F fs else False
  | _ => False
def mjo {α : Type} (o : Option α) (F : α → Prop) : Prop := match o with
  | some x => F x
  | none => False
def mjb (b : Bool) (F : Prop) : Prop := match b with
  | true => F
  | false => False
/-- the world, and the values, behind a call; is it well formed -/
def mjres (e : List Nat) (cm : Nat) (L : mjL) (S : List Value) (M : mjM) (r : Option Value) (o : Option mjM) : Bool × mjM := match o with
  | none => (Nat.beq cm 0, M)
  | some M' => ((Nat.beq cm 0 && Nat.beq M'.length e.length) || (!(Nat.beq cm 0) && mjnew e L S M M' r), mjins e M M')
def mjrecv (M : mjM) (vc : Nat) (as : List Value) : Bool := match as with
  | .ref b :: _ => (match M[b]? with
    | some (.inr (ci, _)) => Nat.beq ci vc
    | _ => false)
  | _ => false
def mjcall (G : mjG) (nx : Nat → mjL → List Value → mjM → Nat × Nat → Prop) (virt : Bool) (q : Nat × Nat × Nat × Nat × Nat × mjSp) (pc : Nat) (L : mjL) (S : List Value) (M : mjM) (u : Nat × Nat) : Prop :=
  match q with
  | (_, vc, na, cm, sm, Sp) =>
    mjb (Nat.ble na S.length && (S.take na).all mjone && Nat.ble (mjcat (S.drop na)) 8 && (mjinc (G.2.2.2.1 pc) M.length || mjnd (G.2.2.2.1 pc) M.length) && Nat.ble (G.2.2.2.1 pc).length 4000 && Nat.ble (u.1 + cm) G.2.2.2.2.2.2.2.2.1 && Nat.ble (u.2 + sm) G.2.2.2.2.2.2.2.2.2.1
        && (!virt || mjrecv M vc (S.take na).reverse)) (
      match Sp (mjext (G.2.2.2.1 pc) M) ((S.take na).reverse.map (mjv (mjri (G.2.2.2.1 pc)))) with
      | (P, o, r) => P ∧ (match mjres (G.2.2.2.1 pc) cm L (S.drop na) M r o with
        | (ok, M1) => mjb ok (nx (pc + 3) L (r.toList.map (mjv (mjui (G.2.2.2.1 pc) M.length)) ++ S.drop na) M1 (u.1 + cm, u.2 + sm))))
def mjcopy (nx : mjM → List Value → Prop) (S : List Value) (M : mjM) : Prop := mjiriri S fun n dp a1 sp a0 S' => mjA 0 M[a0]? fun n0 f => mjA 0 M[a1]? fun n1 g =>
  (¬ sp < 0 ∧ ¬ dp < 0 ∧ ¬ n < 0 ∧ sp.toNatClampNeg + n.toNatClampNeg ≤ n0 ∧ dp.toNatClampNeg + n.toNatClampNeg ≤ n1) ∧ mjb (Nat.ble (mjcat S') 8) (nx (M.set a1 (.inl (0, (n1, .inl (va_cpy f g sp.toNatClampNeg dp.toNatClampNeg n.toNatClampNeg))))) S')
def mjild (nx : mjL → List Value → mjM → Nat × Nat → Prop) (L : mjL) (i : Nat) (S : List Value) (M : mjM) (u : Nat × Nat) : Prop := mji (mjlg L i).toList fun x _ => nx L (.int x :: S) M u
def mjald (nx : mjL → List Value → mjM → Nat × Nat → Prop) (L : mjL) (i : Nat) (S : List Value) (M : mjM) (u : Nat × Nat) : Prop := mjrn (mjlg L i).toList fun x _ _ => nx L (x :: S) M u
def mjdld (nx : mjL → List Value → mjM → Nat × Nat → Prop) (L : mjL) (i : Nat) (S : List Value) (M : mjM) (u : Nat × Nat) : Prop := mjd (mjlg L i).toList fun x _ => nx L (.double x :: S) M u
def mjist (nx : mjL → List Value → mjM → Nat × Nat → Prop) (L : mjL) (i : Nat) (S : List Value) (M : mjM) (u : Nat × Nat) : Prop := mji S fun x S' => mjb (Nat.ble (i + 1) L.length) (nx (mjlp L i (.int x)) S' M u)
def mjast (nx : mjL → List Value → mjM → Nat × Nat → Prop) (L : mjL) (i : Nat) (S : List Value) (M : mjM) (u : Nat × Nat) : Prop := mjrn S fun x _ S' => mjb (Nat.ble (i + 1) L.length) (nx (mjlp L i x) S' M u)
def mjlld (nx : mjL → List Value → mjM → Nat × Nat → Prop) (L : mjL) (i : Nat) (S : List Value) (M : mjM) (u : Nat × Nat) : Prop := mjl (mjlg L i).toList fun x _ => nx L (.long x :: S) M u
def mjlst (nx : mjL → List Value → mjM → Nat × Nat → Prop) (L : mjL) (i : Nat) (S : List Value) (M : mjM) (u : Nat × Nat) : Prop := mjl S fun x S' => mjb (Nat.ble (i + 2) L.length) (nx ((mjlp L i (.long x)).set (i + 1) none) S' M u)
/-- a call that is told by a relation -/
def mjfindr : List (Nat × Nat × mjSr) → Nat → Option (Nat × mjSr)
  | [], _ => none
  | q :: l, i => bif Nat.beq q.1 i then some q.2 else mjfindr l i
def mjcallr (G : mjG) (nx : Nat → mjL → List Value → mjM → Nat × Nat → Prop) (q : Nat × mjSr) (pc : Nat) (L : mjL) (S : List Value) (M : mjM) (u : Nat × Nat) : Prop :=
  mjb (Nat.ble q.1 S.length && (S.take q.1).all mjone && Nat.ble (mjcat (S.drop q.1)) 8 && (mjinc (G.2.2.2.1 pc) M.length || mjnd (G.2.2.2.1 pc) M.length) && Nat.ble (G.2.2.2.1 pc).length 4000 && Nat.ble u.1 G.2.2.2.2.2.2.2.2.1 && Nat.ble u.2 G.2.2.2.2.2.2.2.2.2.1) (
    (q.2 (mjext (G.2.2.2.1 pc) M) ((S.take q.1).reverse.map (mjv (mjri (G.2.2.2.1 pc))))).1 ∧
    ∀ (M' : mjM) (r : Option Value), M'.length = (G.2.2.2.1 pc).length → (q.2 (mjext (G.2.2.2.1 pc) M) ((S.take q.1).reverse.map (mjv (mjri (G.2.2.2.1 pc))))).2 M' r →
      nx (pc + 3) L (r.toList.map (mjv (mjui (G.2.2.2.1 pc) M.length)) ++ S.drop q.1) (mjins (G.2.2.2.1 pc) M M') u)
/-- the script's number at a place, and what stands for it behind its end -/
def lotV (n : Nat) (f : Nat → Int32) (k : Int32) : Int32 := if nI n ≤ k then -1209997971 * (k + 4409) + 4157 else f k.toNatClampNeg
def mjdst (nx : mjL → List Value → mjM → Nat × Nat → Prop) (L : mjL) (i : Nat) (S : List Value) (M : mjM) (u : Nat × Nat) : Prop := mjd S fun x S' => mjb (Nat.ble (i + 2) L.length) (nx ((mjlp L i (.double x)).set (i + 1) none) S' M u)
def mjput1 (G : mjG) (nx : List Value → mjM → Prop) (tk k a : Nat) (cj : Nat) (fs : List Value) (w : Value) (S' : List Value) (M : mjM) : Prop := match tk with
  | 0 => mji [w] fun x _ => nx S' (M.set a (.inr (cj, fs.set k (.int x))))
  | 1 => mji [w] fun x _ => (x = 0 ∨ x = 1) ∧ nx S' (M.set a (.inr (cj, fs.set k (.int x))))
  | 2 => mjr [w] fun x _ => nx S' (M.set a (.inr (cj, fs.set k (.ref x))))
  | 3 => mjb G.2.2.2.2.2.2.2.2.2.2.1 (mjr [w] fun x _ => nx S' (M.set a (.inr (cj, fs.set k (.ref x)))))
  | _ => False
def mjtop (S : List Value) (F : Value → Nat → List Value → Prop) : Prop := match S with
  | w :: .ref a :: S' => F w a S'
  | _ => False
def mjix (i : Int32) (n : Nat) (F : Nat → Prop) : Prop := ∃ j : Nat, i = nI j ∧ (j < n ∧ n < 2147483648) ∧ F j
def mjroom (G : mjG) (L : mjL) (S : List Value) (M : mjM) (u : Nat × Nat) (k : Nat) (F : Prop) : Prop :=
  mjb (mjfr L S M && Nat.ble (M.length + 1) 4000 && Nat.ble (u.1 + 1) G.2.2.2.2.2.2.2.2.1 && Nat.ble (u.2 + k) G.2.2.2.2.2.2.2.2.2.1) F
def mjrf (G : mjG) (R : mjM → Option Value → Nat × Nat → Prop) (x : Int32) (M : mjM) (u : Nat × Nat) : Prop := match G.2.2.2.2.2.2.2.1 with
  | some .int => R M (some (.int x)) u
  | some ty => narrow ty (.int x) = .int x ∧ R M (some (.int x)) u
  | none => False
def mjno (S : List Value) (F : Prop) : Prop := match S with
  | [] => F
  | _ => False
def mjs (G : mjG) (Z : Option (Nat × (Nat → Int32))) (R : mjM → Option Value → Nat × Nat → Prop) (nx : Nat → mjL → List Value → mjM → Nat × Nat → Prop) (ins : Instr) (v : Int32) (t : Nat) (pc : Nat) (L : mjL) (S : List Value) (M : mjM) (u : Nat × Nat) : Prop :=
  match ins with
  | .iconst _ => nx (pc + 1) L (.int v :: S) M u
  | .bipush _ => nx (pc + 2) L (.int v :: S) M u
  | .sipush _ => nx (pc + 3) L (.int v :: S) M u
  | .iload i => mjild (nx (pc + 2)) L i S M u
  | .iload_n i => mjild (nx (pc + 1)) L i.val S M u
  | .aload i => mjald (nx (pc + 2)) L i S M u
  | .aload_n i => mjald (nx (pc + 1)) L i.val S M u
  | .dload i => mjdld (nx (pc + 2)) L i S M u
  | .dload_n i => mjdld (nx (pc + 1)) L i.val S M u
  | .istore i => mjist (nx (pc + 2)) L i S M u
  | .istore_n i => mjist (nx (pc + 1)) L i.val S M u
  | .astore i => mjast (nx (pc + 2)) L i S M u
  | .astore_n i => mjast (nx (pc + 1)) L i.val S M u
  | .dstore i => mjdst (nx (pc + 2)) L i S M u
  | .dstore_n i => mjdst (nx (pc + 1)) L i.val S M u
  | .iinc i _ => mji (mjlg L i).toList fun x _ => nx (pc + 3) (mjlp L i (.int (x + v))) S M u
  | .iadd => mjii S fun y x S' => nx (pc + 1) L (.int (x + y) :: S') M u
  | .isub => mjii S fun y x S' => nx (pc + 1) L (.int (x - y) :: S') M u
  | .imul => mjii S fun y x S' => nx (pc + 1) L (.int (x * y) :: S') M u
  | .iand => mjii S fun y x S' => nx (pc + 1) L (.int (x &&& y) :: S') M u
  | .idiv => mjii S fun y x S' => mjb (!decide (y = 0)) (nx (pc + 1) L (.int (x / y) :: S') M u)
  | .irem => mjii S fun y x S' => mjb (!decide (y = 0)) (nx (pc + 1) L (.int (x - x / y * y) :: S') M u)
  | .ineg => mji S fun x S' => nx (pc + 1) L (.int (-x) :: S') M u
  | .i2c => mji S fun x S' => nx (pc + 1) L (.int (x.toUInt32 % 65536).toInt32 :: S') M u
  | .i2d => mji S fun x S' => nx (pc + 1) L (.double (FP.i2d x) :: S') M u
  | .dadd => mjdd S fun y x S' => vf_n64 (FP.dadd x y) ∧ nx (pc + 1) L (.double (FP.dadd x y) :: S') M u
  | .ddiv => mjdd S fun y x S' => vf_n64 (FP.ddiv x y) ∧ nx (pc + 1) L (.double (FP.ddiv x y) :: S') M u
  | .dcmp o => mjdd S fun y x S' => nx (pc + 1) L (.int (Op.cmpValue (FP.dcmp x y) o) :: S') M u
  | .dconst d => mjb (Nat.beq d.val 0) (nx (pc + 1) L (.double FP.dconst0 :: S) M u)
  | .ldc2_w i => mjo (G.2.2.2.2.2.2.1 i) fun x => (match x with
      | .double x => nx (pc + 3) L (.double x :: S) M u
      | .long x => nx (pc + 3) L (.long x :: S) M u
      | _ => False)
  | .ldc i => mjo (G.2.2.2.2.2.2.1 i) fun x => (match x with
      | .int x => nx (pc + 2) L (.int x :: S) M u
      | _ => False)
  | .ishr => mjii S fun y x S' => nx (pc + 1) L (.int (x >>> (y &&& 31)) :: S') M u
  | .i2l => mji S fun x S' => nx (pc + 1) L (.long x.toInt64 :: S') M u
  | .ladd => mjll S fun y x S' => nx (pc + 1) L (.long (x + y) :: S') M u
  | .lmul => mjll S fun y x S' => nx (pc + 1) L (.long (x * y) :: S') M u
  | .lcmp => mjll S fun y x S' => nx (pc + 1) L (.int (lg_cmp x y) :: S') M u
  | .lload i => mjlld (nx (pc + 2)) L i S M u
  | .lload_n i => mjlld (nx (pc + 1)) L i.val S M u
  | .lstore i => mjlst (nx (pc + 2)) L i S M u
  | .lstore_n i => mjlst (nx (pc + 1)) L i.val S M u
  | .dup => mjan S fun x S' => nx (pc + 1) L (x :: x :: S') M u
  | .dup2 => mji S fun x S' => mjan S' fun y S' => nx (pc + 1) L (.int x :: y :: .int x :: y :: S') M u
  | .pop => mjan S fun _ S' => nx (pc + 1) L S' M u
  | .aconst_null => nx (pc + 1) L (.null :: S) M u
  | .goto _ => nx t L S M u
  | .ifCond o _ => mji S fun x S' => (match o with
      | .eq => (x = 0 → nx t L S' M u) ∧ (¬ x = 0 → nx (pc + 3) L S' M u)
      | .ne => (¬ x = 0 → nx t L S' M u) ∧ (x = 0 → nx (pc + 3) L S' M u)
      | .lt => (x < 0 → nx t L S' M u) ∧ (¬ x < 0 → nx (pc + 3) L S' M u)
      | .ge => (0 ≤ x → nx t L S' M u) ∧ (¬ 0 ≤ x → nx (pc + 3) L S' M u)
      | .gt => (0 < x → nx t L S' M u) ∧ (¬ 0 < x → nx (pc + 3) L S' M u)
      | .le => (x ≤ 0 → nx t L S' M u) ∧ (¬ x ≤ 0 → nx (pc + 3) L S' M u))
  | .if_icmp o _ => mjii S fun y x S' => (match o with
      | .eq => (x = y → nx t L S' M u) ∧ (¬ x = y → nx (pc + 3) L S' M u)
      | .ne => (¬ x = y → nx t L S' M u) ∧ (x = y → nx (pc + 3) L S' M u)
      | .lt => (x < y → nx t L S' M u) ∧ (¬ x < y → nx (pc + 3) L S' M u)
      | .ge => (y ≤ x → nx t L S' M u) ∧ (¬ y ≤ x → nx (pc + 3) L S' M u)
      | .gt => (y < x → nx t L S' M u) ∧ (¬ y < x → nx (pc + 3) L S' M u)
      | .le => (x ≤ y → nx t L S' M u) ∧ (¬ x ≤ y → nx (pc + 3) L S' M u))
  | .ifnull _ => mjrn S fun _ b S' => nx (bif b then pc + 3 else t) L S' M u
  | .ifnonnull _ => mjrn S fun _ b S' => nx (bif b then t else pc + 3) L S' M u
  | .tableswitch _ _ _ _ => mji S fun x S' => mjsw x t (fun q => nx q L S' M u) (G.2.2.2.2.1 pc)
  | .lookupswitch _ _ => mji S fun x S' => mjsw x t (fun q => nx q L S' M u) (G.2.2.2.2.1 pc)
  | .getfield i => mjr S fun a S' => mjo (G.2.1 i) fun q => mjO q.1 M[a]? fun fs => mjo fs[q.2.1]? fun w => nx (pc + 3) L (w :: S') M u
  | .putfield i => mjtop S fun w a S' => mjo (G.2.1 i) fun q => mjO q.1 M[a]? fun fs => mjb (Nat.ble (q.2.1 + 1) fs.length) (mjput1 G (fun S' M' => nx (pc + 3) L S' M' u) q.2.2 q.2.1 a q.1 fs w S' M)
  | .arraylength => mjr S fun a S' => bif Nat.beq a 4095 then mjo Z fun z => nx (pc + 1) L (.int (nI z.1) :: S') M u
      else mjA 0 M[a]? fun n _ => nx (pc + 1) L (.int (nI n) :: S') M u
  | .iaload => mjir S fun i a S' => bif Nat.beq a 4095 then mjo Z fun z => mjix i z.1 fun j => nx (pc + 1) L (.int (z.2 j) :: S') M u
      else mjA 0 M[a]? fun n f => mjix i n fun j => nx (pc + 1) L (.int (f j) :: S') M u
  | .caload => mjir S fun i a S' => mjA 1 M[a]? fun n f => mjix i n fun j => nx (pc + 1) L (.int (f j) :: S') M u
  | .iastore => mjiir S fun x i a S' => mjA 0 M[a]? fun n f => mjix i n fun j => nx (pc + 1) L S' (M.set a (.inl (0, (n, .inl (upd f j x))))) u
  | .castore => mjiir S fun x i a S' => mjA 1 M[a]? fun n f => mjix i n fun j => nx (pc + 1) L S' (M.set a (.inl (1, (n, .inl (upd f j (vp_nar .char x)))))) u
  | .aaload => mjir S fun i a S' => mjQ M[a]? fun n f => mjix i n fun j => ∃ r : Nat, f j = some r ∧ nx (pc + 1) L (.ref r :: S') M u
  | .aastore => mjrir S fun x i a S' => mjQ M[a]? fun n f => mjO 3 M[x]? fun _ => mjix i n fun j => nx (pc + 1) L S' (M.set a (.inl (2, (n, .inr (.inr (.inr (.inr (va_up f j (some x))))))))) u
  | .new i => mjo (G.2.2.2.2.2.1 i) fun q => mjroom G L S M u q.2.length (nx (pc + 3) L (.ref M.length :: S) (M ++ [.inr (q.1, q.2)]) (u.1 + 1, u.2 + q.2.length))
  | .newarray ty => mji S fun i S' => (match ty with
      | .int => mjix i 100000 fun j => mjroom G L S' M u j (nx (pc + 2) L (.ref M.length :: S') (M ++ [.inl (0, (j, .inl (fun _ => 0)))]) (u.1 + 1, u.2 + j))
      | .char => mjix i 100000 fun j => mjroom G L S' M u j (nx (pc + 2) L (.ref M.length :: S') (M ++ [.inl (1, (j, .inl (fun _ => 0)))]) (u.1 + 1, u.2 + j))
      | _ => False)
  | .anewarray _ => mji S fun i S' => mjix i 100000 fun j => mjroom G L S' M u j (nx (pc + 3) L (.ref M.length :: S') (M ++ [.inl (2, (j, .inr (.inr (.inr (.inr (fun _ => none))))))]) (u.1 + 1, u.2 + j))
  | .invokevirtual i => mjo (mjfind G.2.2.1 i) fun q => mjb (Nat.beq q.1 0) (mjcall G nx true q pc L S M u)
  | .invokestatic i => (match mjfindr G.2.2.2.2.2.2.2.2.2.2.2 i with
    | some q => mjcallr G nx q pc L S M u
    | none => mjo (mjfind G.2.2.1 i) fun q => (match q.1 with
      | 1 => mjcall G nx false q pc L S M u
      | 4 => mjcopy (fun M' S' => nx (pc + 3) L S' M' u) S M
      | 6 => mjir S fun k a S' => bif Nat.beq a 4095 then mjo Z fun z => ((¬ k < 0) ∧ z.1 < 2147483648) ∧ mjb (Nat.ble (mjcat S') 8) (nx (pc + 3) L (.int (lotV z.1 z.2 k) :: S') M u) else False
      | _ => False))
  | .invokespecial i => mjo (mjfind G.2.2.1 i) fun q => (match q.1 with
      | 2 => mjcall G nx true q pc L S M u
      | 5 => mjcall G nx true q pc L S M u
      | 3 => mjr S fun _ S' => mjb (Nat.ble (mjcat S') 8) (nx (pc + 3) L S' M u)
      | _ => False)
  | .ireturn => mji S fun x S' => mjno S' (mjrf G R x M u)
  | .dreturn => mjd S fun x S' => mjno S' (R M (some (.double x)) u)
  | .lreturn => mjl S fun x S' => mjno S' (R M (some (.long x)) u)
  | .areturn => mjrn S fun x _ S' => mjno S' (R M (some x) u)
  | .return_ => mjno S (R M none u)
  | _ => False
def mj (G : mjG) (Z : Option (Nat × (Nat → Int32))) (cut : Nat → Bool) (T : Nat → mjL → List Value → mjM → Nat × Nat → Prop) (R : mjM → Option Value → Nat × Nat → Prop) : Nat → Nat → mjL → List Value → mjM → Nat × Nat → Prop
  | 0, pc, L, S, M, u => T pc L S M u
  | n + 1, pc, L, S, M, u => match G.1 pc with
    | none => False
    | some (ins, _, v, t) => mjs G Z R (fun pc' L' S' M' u' => bif cut pc' then T pc' L' S' M' u' else mj G Z cut T R n pc' L' S' M' u') ins v t pc L S M u
/-- what a predicate of states is closed under: the machine's steps, and knowing less of the locals -/
def mjC (G : mjG) (Z : Option (Nat × (Nat → Int32))) (R : mjM → Option Value → Nat × Nat → Prop) (T : Nat → mjL → List Value → mjM → Nat × Nat → Prop) : Prop :=
  (∀ cut n pc L S M u, mj G Z cut T R n pc L S M u → T pc L S M u) ∧ ∀ bs pc L S M u, T pc (mjmask bs L) S M u → T pc L S M u
/-- a method does what is said of it -/
def mjOK (G : mjG) (nL : Nat) (Sp : mjSp) : Prop := ∀ (M : mjM) (as : List Value), (Sp M as).1 → ∀ T, mjC G none (fun M' r _ => M' = (Sp M as).2.1.getD M ∧ r = (Sp M as).2.2) T → T 0 (as.map some ++ List.replicate (nL - as.length) none) [] M (0, 0)
/-- a method does what a relation says -/
def mjOKr (G : mjG) (nL : Nat) (Sr : mjSr) : Prop := ∀ (M : mjM) (as : List Value), (Sr M as).1 → ∀ T, mjC G none (fun M' r _ => M'.length = M.length ∧ (Sr M as).2 M' r) T → T 0 (as.map some ++ List.replicate (nL - as.length) none) [] M (0, 0)
