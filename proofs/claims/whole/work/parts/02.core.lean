/-! THE SMALL MACHINE: a pure picture of the bytecode that is used here. A state: whole numbers, longs, references, by the name of a cell and a place in it; beside it what each cell is. -/
abbrev St : Type := (Nat → Nat → Int32) × (Nat → Nat → Int64) × (Nat → Nat → Option Nat)
abbrev En : Type := (Nat → Nat) × (Nat → Nat) × (Nat → Nat → Option Nat) × Nat × Nat
abbrev Lv : Type := List (Nat × Value)
def gI (σ : St) (o f : Nat) : Int32 := σ.1 o f
def gJ (σ : St) (o f : Nat) : Int64 := σ.2.1 o f
def gR (σ : St) (o f : Nat) : Option Nat := σ.2.2 o f
def u2 {α : Type} (f : Nat → Nat → α) (o k : Nat) (v : α) : Nat → Nat → α := fun a b => if a = o then (if b = k then v else f a b) else f a b
def sI (σ : St) (o k : Nat) (v : Int32) : St := (u2 σ.1 o k v, σ.2.1, σ.2.2)
def sJ (σ : St) (o k : Nat) (v : Int64) : St := (σ.1, u2 σ.2.1 o k v, σ.2.2)
def sR (σ : St) (o k : Nat) (v : Option Nat) : St := (σ.1, σ.2.1, u2 σ.2.2 o k v)
/-- a new cell holds nothing -/
def clr (σ : St) (n : Nat) : St := (fun a b => if a = n then 0 else σ.1 a b, fun a b => if a = n then 0 else σ.2.1 a b, fun a b => if a = n then none else σ.2.2 a b)
/-- a stretch of an array of ints into another -/
def cpI (σ : St) (s sp d dp n : Nat) : St := (fun a b => if a = d then (if dp ≤ b ∧ b < dp + n then σ.1 s (sp + (b - dp)) else σ.1 a b) else σ.1 a b, σ.2.1, σ.2.2)
/-- an array of ints once more -/
def cln (σ : St) (a z : Nat) : St := (fun x b => if x = z then σ.1 a b else σ.1 x b, σ.2.1, σ.2.2)
/-- what the cells are: kinds, lengths, final references, how many cells and slots were made -/
def eK (E : En) (n : Nat) : Nat := E.1 n
def eL (E : En) (n : Nat) : Nat := E.2.1 n
def eS (E : En) (n k : Nat) : Option Nat := E.2.2.1 n k
def eZ (E : En) : Nat := E.2.2.2.1
def eY (E : En) : Nat := E.2.2.2.2
def nO (E : En) (k n : Nat) : En := (fun a => if a = eZ E then k else eK E a, eL E, fun a f => if a = eZ E then none else eS E a f, eZ E + 1, eY E + n)
def nA (E : En) (k n : Nat) : En := (fun a => if a = eZ E then k else eK E a, fun a => if a = eZ E then n else eL E a, eS E, eZ E + 1, eY E + n)
def sS (E : En) (o k : Nat) (v : Option Nat) : En := (E.1, E.2.1, u2 E.2.2.1 o k v, E.2.2.2)
/-- names of what was there before: the table of tens, the script, the letters -/
abbrev TN : Nat := 2000000
abbrev SN : Nat := 2000001
abbrev LN : Nat := 2000002
def tens (j : Nat) : Int64 := Int64.ofNat (10 ^ j)
/-- how a class's fields are held: 0 an int, 1 a long, 2 a reference, 3 a final reference, 4 a boolean -/
def ftOf (t : FieldType) (fin : Bool) : Nat := match t with
  | .int => 0
  | .long => 1
  | .boolean => 4
  | .object _ => bif fin then 3 else 2
  | .array _ => bif fin then 3 else 2
  | _ => 5
def orv (r : Option Nat) : Value := match r with
  | none => .null
  | some n => .ref n
def fva (E : En) (σ : St) (n t k : Nat) : Value := match t with
  | 0 => .int (gI σ n k)
  | 1 => .long (gJ σ n k)
  | 2 => orv (gR σ n k)
  | 3 => orv (eS E n k)
  | _ => .int (gI σ n k)
def isb (x : Int32) : Prop := x = 0 ∨ x = 1
def lk : Lv → Nat → Option Value
  | [], _ => none
  | q :: r, i => bif Nat.beq q.1 i then some q.2 else lk r i
def stA (lv : Lv) (i : Nat) (v : Value) : Lv := (i, v) :: lv.filter (fun q => !(q.1 == i) && !(q.1 + 1 == i && q.2.category == 2))
def stB (lv : Lv) (i : Nat) (v : Value) : Lv := (i, v) :: lv.filter (fun q => !(q.1 == i) && (!(q.1 == i + 1) && !(q.1 + 1 == i && q.2.category == 2)))
abbrev Fr : Type := Nat × Lv × List Value × En × St
/-- what an instruction asks: go on; go on if; two ways; several ways; a call; an end -/
abbrev Ob : Type := Fr ⊕ (Prop × Fr) ⊕ (Prop × Fr × Fr) ⊕ (List (Prop × Fr) × Fr) ⊕ (Nat × List Value × Nat × Lv × List Value) ⊕ (Prop × Option Value)
def oGo (pc : Nat) (lv : Lv) (st : List Value) (E : En) (σ : St) : Option Ob := some (.inl (pc, lv, st, E, σ))
def oIf (g : Prop) (pc : Nat) (lv : Lv) (st : List Value) (E : En) (σ : St) : Option Ob := some (.inr (.inl (g, pc, lv, st, E, σ)))
def oBr (c : Prop) (pc pc' : Nat) (lv : Lv) (st : List Value) (E : En) (σ : St) : Option Ob := some (.inr (.inr (.inl (c, (pc, lv, st, E, σ), (pc', lv, st, E, σ)))))
def oSw (cs : List (Prop × Fr)) (f : Fr) : Option Ob := some (.inr (.inr (.inr (.inl (cs, f)))))
def oCl (mi : Nat) (as : List Value) (pc : Nat) (lv : Lv) (st : List Value) : Option Ob := some (.inr (.inr (.inr (.inr (.inl (mi, as, pc, lv, st))))))
def oRt (g : Prop) (v : Option Value) : Option Ob := some (.inr (.inr (.inr (.inr (.inr (g, v))))))
abbrev Ct : Type := Nat → List Value → En → St → Option Value → En → St → Prop
abbrev Rt : Type := Option Value → En → St → Prop
def swO (k : Fr → Prop) : List (Prop × Fr) → Fr → Prop
  | [], f => k f
  | q :: r, f => (q.1 → k q.2) ∧ (¬ q.1 → swO k r f)
def runO (cl : Ct) (rt : Rt) (E : En) (σ : St) (k : Fr → Prop) (o : Option Ob) : Prop := match o with
  | none => False
  | some (.inl f) => k f
  | some (.inr (.inl (g, f))) => g ∧ k f
  | some (.inr (.inr (.inl (c, f, f')))) => (c → k f) ∧ (¬ c → k f')
  | some (.inr (.inr (.inr (.inl (cs, f))))) => swO k cs f
  | some (.inr (.inr (.inr (.inr (.inl (mi, as, pc, lv, st)))))) => ∃ (r : Option Value) (E1 : En) (σ1 : St), cl mi as E σ r E1 σ1 ∧ k (pc, lv, r.toList ++ st, E1, σ1)
  | some (.inr (.inr (.inr (.inr (.inr (g, v)))))) => g ∧ rt v E σ
/-- an instruction's entry: its place, itself, its length, what its pool index means -/
abbrev Xt : Type := Nat × Nat × Nat × Int32 × Int64
abbrev Ent : Type := Nat × Instr × Nat × Xt
def xA (x : Xt) : Nat := x.1
def xB (x : Xt) : Nat := x.2.1
def xC (x : Xt) : Nat := x.2.2.1
def xV (x : Xt) : Int32 := x.2.2.2.1
def xW (x : Xt) : Int64 := x.2.2.2.2
def catS (st : List Value) : Nat := (st.map fun v => v.category).sum
/-- type codes of a class's fields -/
def ftab (ci k : Nat) : Nat := match ci with
  | 0 => ftOf (tyX0 k) (TX0 k).2.2.2
  | 1 => ftOf (tyX1 k) (TX1 k).2.2.2
  | 2 => ftOf (tyX2 k) (TX2 k).2.2.2
  | 3 => ftOf (tyX3 k) (TX3 k).2.2.2
  | 4 => ftOf (tyX4 k) (TX4 k).2.2.2
  | 5 => ftOf (tyX5 k) (TX5 k).2.2.2
  | 6 => ftOf (tyX6 k) (TX6 k).2.2.2
  | 7 => ftOf (tyX7 k) (TX7 k).2.2.2
  | 8 => ftOf (tyX8 k) (TX8 k).2.2.2
  | 9 => ftOf (tyX9 k) (TX9 k).2.2.2
  | _ => ftOf (tyX10 k) (TX10 k).2.2.2
/-- the case of a table of places -/
def swC (x : Int32) (pc : Nat) (lv : Lv) (st : List Value) (E : En) (σ : St) : Int32 → List Int → List (Prop × Fr)
  | _, [] => []
  | v, o :: os => (x = v, ((pc : Int) + o).toNat, lv, st, E, σ) :: swC x pc lv st E σ (v + 1) os
def icmpP (c : Jvm.ClassFile.Cond) (x y : Int32) : Prop := match c with
  | .eq => x = y
  | .ne => ¬ x = y
  | .lt => x < y
  | .ge => y ≤ x
  | .gt => y < x
  | .le => x ≤ y
def ifP (c : Jvm.ClassFile.Cond) (x : Int32) : Prop := match c with
  | .eq => x = 0
  | .ne => ¬ x = 0
  | .lt => x < 0
  | .ge => 0 ≤ x
  | .gt => 0 < x
  | .le => x ≤ 0
def sCopy (pc : Nat) (lv : Lv) (st : List Value) (E : En) (σ : St) : Option Ob := match st with
  | .int n :: .int dp :: .ref d :: .int sp :: .ref s :: r =>
    bif Nat.beq (eK E s) 20 && Nat.beq (eK E d) 20 && !(Nat.beq s d) && Nat.ble (catS r) 8 then
      oIf (¬ sp < 0 ∧ ¬ dp < 0 ∧ ¬ n < 0 ∧ sp.toNatClampNeg + n.toNatClampNeg ≤ eL E s ∧ dp.toNatClampNeg + n.toNatClampNeg ≤ eL E d) (pc + 3) lv r E (cpI σ s sp.toNatClampNeg d dp.toNatClampNeg n.toNatClampNeg) else none
  | _ => none
def sMax (pc : Nat) (lv : Lv) (st : List Value) (E : En) (σ : St) : Option Ob := match st with
  | .int b :: .int a :: r => bif Nat.ble (catS r) 8 then oGo (pc + 3) lv (.int (if a < b then b else a) :: r) E σ else none
  | _ => none
def sMin (pc : Nat) (lv : Lv) (st : List Value) (E : En) (σ : St) : Option Ob := match st with
  | .int b :: .int a :: r => bif Nat.ble (catS r) 8 then oGo (pc + 3) lv (.int (if b < a then b else a) :: r) E σ else none
  | _ => none
def sAbs (pc : Nat) (lv : Lv) (st : List Value) (E : En) (σ : St) : Option Ob := match st with
  | .int a :: r => bif Nat.ble (catS r) 8 then oGo (pc + 3) lv (.int (if 0 ≤ a then a else 0 - a) :: r) E σ else none
  | _ => none
def sMaxL (pc : Nat) (lv : Lv) (st : List Value) (E : En) (σ : St) : Option Ob := match st with
  | .long b :: .long a :: r => bif Nat.ble (catS r) 8 then oGo (pc + 3) lv (.long (if b < a then a else b) :: r) E σ else none
  | _ => none
def sMinL (pc : Nat) (lv : Lv) (st : List Value) (E : En) (σ : St) : Option Ob := match st with
  | .long b :: .long a :: r => bif Nat.ble (catS r) 8 then oGo (pc + 3) lv (.long (if b < a then b else a) :: r) E σ else none
  | _ => none
def sStat (c pc : Nat) (x : Xt) (lv : Lv) (st : List Value) (E : En) (σ : St) : Option Ob := match c with
  | 1 => sCopy pc lv st E σ
  | 2 => sMax pc lv st E σ
  | 3 => sMin pc lv st E σ
  | 4 => sAbs pc lv st E σ
  | 5 => sMaxL pc lv st E σ
  | 6 => sMinL pc lv st E σ
  | _ => bif Nat.ble (xB x) st.length && Nat.ble (catS (st.drop (xB x))) 8 then oCl (xA x) (st.take (xB x)).reverse (pc + 3) lv (st.drop (xB x)) else none
/-- ONE INSTRUCTION: nL locals, the answer's type, the script, an entry, the locals, the stack, the state -/
def sem (nL : Nat) (rty : Option FieldType) (sc : Nat × (Nat → Int32)) (e : Ent) (lv : Lv) (st : List Value) (E : En) (σ : St) : Option Ob :=
  let pc := e.1
  let x := e.2.2.2
  match e.2.1 with
  | .aconst_null => oGo (pc + 1) lv (.null :: st) E σ
  | .iconst _ => oGo (pc + 1) lv (.int (xV x) :: st) E σ
  | .bipush _ => oGo (pc + 2) lv (.int (xV x) :: st) E σ
  | .sipush _ => oGo (pc + 3) lv (.int (xV x) :: st) E σ
  | .lconst _ => oGo (pc + 1) lv (.long (xW x) :: st) E σ
  | .ldc _ => match xA x with
    | 0 => oGo (pc + 2) lv (.int (xV x) :: st) E σ
    | _ => oGo (pc + 2) lv (.ref LN :: st) E σ
  | .ldc_w _ => oGo (pc + 3) lv (.int (xV x) :: st) E σ
  | .ldc2_w _ => oGo (pc + 3) lv (.long (xW x) :: st) E σ
  | .getstatic _ => oGo (pc + 3) lv (.ref TN :: st) E σ
  | .iload i => match lk lv i with
    | some (.int v) => oGo (pc + 2) lv (.int v :: st) E σ
    | _ => none
  | .iload_n i => match lk lv i with
    | some (.int v) => oGo (pc + 1) lv (.int v :: st) E σ
    | _ => none
  | .lload i => match lk lv i with
    | some (.long v) => oGo (pc + 2) lv (.long v :: st) E σ
    | _ => none
  | .lload_n i => match lk lv i with
    | some (.long v) => oGo (pc + 1) lv (.long v :: st) E σ
    | _ => none
  | .aload i => match lk lv i with
    | some (.ref v) => oGo (pc + 2) lv (.ref v :: st) E σ
    | some .null => oGo (pc + 2) lv (.null :: st) E σ
    | _ => none
  | .aload_n i => match lk lv i with
    | some (.ref v) => oGo (pc + 1) lv (.ref v :: st) E σ
    | some .null => oGo (pc + 1) lv (.null :: st) E σ
    | _ => none
  | .istore i => match st with
    | .int v :: r => bif Nat.blt i nL then oGo (pc + 2) (stA lv i (.int v)) r E σ else none
    | _ => none
  | .istore_n i => match st with
    | .int v :: r => bif Nat.blt i nL then oGo (pc + 1) (stA lv i (.int v)) r E σ else none
    | _ => none
  | .lstore i => match st with
    | .long v :: r => bif Nat.blt (i + 1) nL then oGo (pc + 2) (stB lv i (.long v)) r E σ else none
    | _ => none
  | .lstore_n i => match st with
    | .long v :: r => bif Nat.blt (i + 1) nL then oGo (pc + 1) (stB lv i (.long v)) r E σ else none
    | _ => none
  | .astore i => match st with
    | .ref v :: r => bif Nat.blt i nL then oGo (pc + 2) (stA lv i (.ref v)) r E σ else none
    | .null :: r => bif Nat.blt i nL then oGo (pc + 2) (stA lv i .null) r E σ else none
    | _ => none
  | .astore_n i => match st with
    | .ref v :: r => bif Nat.blt i nL then oGo (pc + 1) (stA lv i (.ref v)) r E σ else none
    | .null :: r => bif Nat.blt i nL then oGo (pc + 1) (stA lv i .null) r E σ else none
    | _ => none
  | .iinc i _ => match lk lv i with
    | some (.int v) => bif Nat.blt i nL then oGo (pc + 3) (stA lv i (.int (v + xV x))) st E σ else none
    | _ => none
  | .iadd => match st with
    | .int b :: .int a :: r => oGo (pc + 1) lv (.int (a + b) :: r) E σ
    | _ => none
  | .isub => match st with
    | .int b :: .int a :: r => oGo (pc + 1) lv (.int (a - b) :: r) E σ
    | _ => none
  | .imul => match st with
    | .int b :: .int a :: r => oGo (pc + 1) lv (.int (a * b) :: r) E σ
    | _ => none
  | .iand => match st with
    | .int b :: .int a :: r => oGo (pc + 1) lv (.int (a &&& b) :: r) E σ
    | _ => none
  | .ior => match st with
    | .int b :: .int a :: r => oGo (pc + 1) lv (.int (a ||| b) :: r) E σ
    | _ => none
  | .ixor => match st with
    | .int b :: .int a :: r => oGo (pc + 1) lv (.int (a ^^^ b) :: r) E σ
    | _ => none
  | .idiv => match st with
    | .int b :: .int a :: r => oIf (¬ b = 0) (pc + 1) lv (.int (a / b) :: r) E σ
    | _ => none
  | .irem => match st with
    | .int b :: .int a :: r => oIf (¬ b = 0) (pc + 1) lv (.int (a - a / b * b) :: r) E σ
    | _ => none
  | .ishl => match st with
    | .int b :: .int a :: r => oGo (pc + 1) lv (.int (a <<< (b &&& 31)) :: r) E σ
    | _ => none
  | .ishr => match st with
    | .int b :: .int a :: r => oGo (pc + 1) lv (.int (a >>> (b &&& 31)) :: r) E σ
    | _ => none
  | .iushr => match st with
    | .int b :: .int a :: r => oGo (pc + 1) lv (.int (a.toUInt32 >>> (b.toUInt32 &&& Int32.toUInt32 31)).toInt32 :: r) E σ
    | _ => none
  | .ineg => match st with
    | .int a :: r => oGo (pc + 1) lv (.int (-a) :: r) E σ
    | _ => none
  | .ladd => match st with
    | .long b :: .long a :: r => oGo (pc + 1) lv (.long (a + b) :: r) E σ
    | _ => none
  | .lsub => match st with
    | .long b :: .long a :: r => oGo (pc + 1) lv (.long (a - b) :: r) E σ
    | _ => none
  | .lmul => match st with
    | .long b :: .long a :: r => oGo (pc + 1) lv (.long (a * b) :: r) E σ
    | _ => none
  | .land => match st with
    | .long b :: .long a :: r => oGo (pc + 1) lv (.long (a &&& b) :: r) E σ
    | _ => none
  | .lor => match st with
    | .long b :: .long a :: r => oGo (pc + 1) lv (.long (a ||| b) :: r) E σ
    | _ => none
  | .ldiv => match st with
    | .long b :: .long a :: r => oIf (¬ b = 0) (pc + 1) lv (.long (a / b) :: r) E σ
    | _ => none
  | .lrem => match st with
    | .long b :: .long a :: r => oIf (¬ b = 0) (pc + 1) lv (.long (a - a / b * b) :: r) E σ
    | _ => none
  | .lneg => match st with
    | .long a :: r => oGo (pc + 1) lv (.long (-a) :: r) E σ
    | _ => none
  | .lshl => match st with
    | .int b :: .long a :: r => oGo (pc + 1) lv (.long (a <<< (b.toInt64 &&& 63)) :: r) E σ
    | _ => none
  | .lshr => match st with
    | .int b :: .long a :: r => oGo (pc + 1) lv (.long (a >>> (b.toInt64 &&& 63)) :: r) E σ
    | _ => none
  | .lushr => match st with
    | .int b :: .long a :: r => oGo (pc + 1) lv (.long (a.toUInt64 >>> (b.toInt64.toUInt64 &&& Int64.toUInt64 63)).toInt64 :: r) E σ
    | _ => none
  | .lxor => match st with
    | .long b :: .long a :: r => oGo (pc + 1) lv (.long (a ^^^ b) :: r) E σ
    | _ => none
  | .lcmp => match st with
    | .long b :: .long a :: r => oGo (pc + 1) lv (.int (lg_cmp a b) :: r) E σ
    | _ => none
  | .i2l => match st with
    | .int a :: r => oGo (pc + 1) lv (.long a.toInt64 :: r) E σ
    | _ => none
  | .l2i => match st with
    | .long a :: r => oGo (pc + 1) lv (.int a.toInt32 :: r) E σ
    | _ => none
  | .i2c => match st with
    | .int a :: r => oGo (pc + 1) lv (.int (a.toUInt32 % 65536).toInt32 :: r) E σ
    | _ => none
  | .dup => match st with
    | a :: r => bif Nat.beq a.category 1 then oGo (pc + 1) lv (a :: a :: r) E σ else none
    | _ => none
  | .pop => match st with
    | a :: r => bif Nat.beq a.category 1 then oGo (pc + 1) lv r E σ else none
    | _ => none
  | .dup2 => match st with
    | .long a :: r => oGo (pc + 1) lv (.long a :: .long a :: r) E σ
    | a :: b :: r => bif Nat.beq a.category 1 && Nat.beq b.category 1 then oGo (pc + 1) lv (a :: b :: a :: b :: r) E σ else none
    | _ => none
  | .ifCond c _ => match st with
    | .int a :: r => oBr (ifP c a) (xA x) (pc + 3) lv r E σ
    | _ => none
  | .if_icmp c _ => match st with
    | .int b :: .int a :: r => oBr (icmpP c a b) (xA x) (pc + 3) lv r E σ
    | _ => none
  | .ifnull _ => match st with
    | .null :: r => oGo (xA x) lv r E σ
    | .ref _ :: r => oGo (pc + 3) lv r E σ
    | _ => none
  | .ifnonnull _ => match st with
    | .null :: r => oGo (pc + 3) lv r E σ
    | .ref _ :: r => oGo (xA x) lv r E σ
    | _ => none
  | .goto _ => oGo (xA x) lv st E σ
  | .tableswitch d _ _ offs => match st with
    | .int a :: r => oSw (swC a pc lv r E σ (xV x) offs.toList) (((pc : Int) + d).toNat, lv, r, E, σ)
    | _ => none
  | .getfield _ => match st with
    | .ref a :: r => bif Nat.beq (eK E a) (xA x + 1) then oGo (pc + 3) lv (fva E σ a (ftab (xA x) (xB x)) (xB x) :: r) E σ else none
    | _ => none
  | .putfield _ => match ftab (xA x) (xB x), st with
    | 0, .int v :: .ref a :: r => bif Nat.beq (eK E a) (xA x + 1) then oGo (pc + 3) lv r E (sI σ a (xB x) v) else none
    | 1, .long v :: .ref a :: r => bif Nat.beq (eK E a) (xA x + 1) then oGo (pc + 3) lv r E (sJ σ a (xB x) v) else none
    | 2, .ref v :: .ref a :: r => bif Nat.beq (eK E a) (xA x + 1) then oGo (pc + 3) lv r E (sR σ a (xB x) (some v)) else none
    | 2, .null :: .ref a :: r => bif Nat.beq (eK E a) (xA x + 1) then oGo (pc + 3) lv r E (sR σ a (xB x) none) else none
    | 3, .ref v :: .ref a :: r => bif Nat.beq (eK E a) (xA x + 1) then oGo (pc + 3) lv r (sS E a (xB x) (some v)) σ else none
    | 4, .int v :: .ref a :: r => bif Nat.beq (eK E a) (xA x + 1) then oIf (isb v) (pc + 3) lv r E (sI σ a (xB x) v) else none
    | _, _ => none
  | .iaload => match st with
    | .int i :: .ref a :: r => bif Nat.beq a SN then oIf (vp_in i sc.1) (pc + 1) lv (.int (sc.2 i.toNatClampNeg) :: r) E σ
      else bif Nat.beq (eK E a) 20 then oIf (vp_in i (eL E a)) (pc + 1) lv (.int (gI σ a i.toNatClampNeg) :: r) E σ else none
    | _ => none
  | .laload => match st with
    | .int i :: .ref a :: r => bif Nat.beq a TN then oIf (vp_in i 13) (pc + 1) lv (.long (tens i.toNatClampNeg) :: r) E σ
      else bif Nat.beq (eK E a) 21 then oIf (vp_in i (eL E a)) (pc + 1) lv (.long (gJ σ a i.toNatClampNeg) :: r) E σ else none
    | _ => none
  | .baload => match st with
    | .int i :: .ref a :: r => bif Nat.beq (eK E a) 22 then oIf (vp_in i (eL E a)) (pc + 1) lv (.int (gI σ a i.toNatClampNeg) :: r) E σ else none
    | _ => none
  | .aaload => match st with
    | .int i :: .ref a :: r => bif Nat.beq (eK E a) 23 then oIf (vp_in i (eL E a)) (pc + 1) lv (orv (gR σ a i.toNatClampNeg) :: r) E σ else none
    | _ => none
  | .iastore => match st with
    | .int v :: .int i :: .ref a :: r => bif Nat.beq (eK E a) 20 then oIf (vp_in i (eL E a)) (pc + 1) lv r E (sI σ a i.toNatClampNeg v) else none
    | _ => none
  | .lastore => match st with
    | .long v :: .int i :: .ref a :: r => bif Nat.beq (eK E a) 21 then oIf (vp_in i (eL E a)) (pc + 1) lv r E (sJ σ a i.toNatClampNeg v) else none
    | _ => none
  | .bastore => match st with
    | .int v :: .int i :: .ref a :: r => bif Nat.beq (eK E a) 22 then oIf (vp_in i (eL E a) ∧ isb v) (pc + 1) lv r E (sI σ a i.toNatClampNeg v) else none
    | _ => none
  | .aastore => match st with
    | .ref v :: .int i :: .ref a :: r => bif Nat.beq (eK E a) 23 && Nat.beq (eK E v) 5 then oIf (vp_in i (eL E a)) (pc + 1) lv r E (sR σ a i.toNatClampNeg (some v)) else none
    | _ => none
  | .arraylength => match st with
    | .ref a :: r => bif Nat.beq a TN then oGo (pc + 1) lv (.int 13 :: r) E σ
      else bif Nat.beq a SN then oGo (pc + 1) lv (.int (Int32.ofNat sc.1) :: r) E σ
      else bif Nat.beq (eK E a) 20 || Nat.beq (eK E a) 21 then oGo (pc + 1) lv (.int (Int32.ofNat (eL E a)) :: r) E σ else none
    | _ => none
  | .newarray _ => match st with
    | .int n :: r => oIf (¬ n < 0 ∧ n.toNatClampNeg ≤ 100000) (pc + 2) lv (.ref (eZ E) :: r) (nA E (xA x) n.toNatClampNeg) (clr σ (eZ E))
    | _ => none
  | .anewarray _ => match st with
    | .int n :: r => oIf (¬ n < 0 ∧ n.toNatClampNeg ≤ 100000) (pc + 3) lv (.ref (eZ E) :: r) (nA E 23 n.toNatClampNeg) (clr σ (eZ E))
    | _ => none
  | .new _ => oGo (pc + 3) lv (.ref (eZ E) :: st) (nO E (xA x + 1) (xB x)) (clr σ (eZ E))
  | .invokestatic _ => sStat (xC x) pc x lv st E σ
  | .checkcast _ => match st with
    | .ref a :: r => bif Nat.beq (eK E a) 20 then oGo (pc + 3) lv (.ref a :: r) E σ else none
    | _ => none
  | .invokevirtual _ => match st.drop (xB x) with
    | .ref a :: r => bif Nat.beq (xC x) 98 then
        (bif Nat.beq (eK E a) 20 && Nat.beq (xB x) 0 && Nat.ble (catS r) 8 then oGo (pc + 3) lv (.ref (eZ E) :: r) (nA E 20 (eL E a)) (cln σ a (eZ E)) else none)
      else bif Nat.beq (xC x) 99 then
        (bif Nat.beq a LN && Nat.ble (catS r) 8 then oCl (xA x) (.ref a :: (st.take (xB x)).reverse) (pc + 3) lv r else none)
      else bif Nat.beq (eK E a) (xC x + 1) && Nat.ble (catS r) 8 then oCl (xA x) (.ref a :: (st.take (xB x)).reverse) (pc + 3) lv r else none
    | _ => none
  | .invokespecial _ => match st.drop (xB x) with
    | .ref a :: r => bif Nat.ble (catS r) 8 then (match xC x with
      | 0 => oGo (pc + 3) lv r E σ
      | _ => oCl (xA x) (.ref a :: (st.take (xB x)).reverse) (pc + 3) lv r) else none
    | _ => none
  | .ireturn => match rty, st with
    | some .int, [.int v] => oRt True (some (.int v))
    | some .boolean, [.int v] => oRt (isb v) (some (.int v))
    | _, _ => none
  | .lreturn => match rty, st with
    | some .long, [.long v] => oRt True (some (.long v))
    | _, _ => none
  | .areturn => match rty, st with
    | some (.object _), [.ref v] => oRt True (some (.ref v))
    | some (.array _), [.ref v] => oRt True (some (.ref v))
    | some (.object _), [.null] => oRt True (some .null)
    | _, _ => none
  | .return_ => match rty, st with
    | none, [] => oRt True none
    | _, _ => none
  | _ => none
/-- a stretch of instructions -/
def semN (nL : Nat) (rty : Option FieldType) (sc : Nat × (Nat → Int32)) (cl : Ct) (rt : Rt) (k : Fr → Prop) : List Ent → Fr → Prop
  | [], f => k f
  | e :: r, f => bif Nat.beq f.1 e.1 then runO cl rt f.2.2.2.1 f.2.2.2.2 (semN nL rty sc cl rt k r) (sem nL rty sc e f.2.1 f.2.2.1 f.2.2.2.1 f.2.2.2.2) else False
abbrev Mrow : Type := MethodName × ByteArray × Nat × Option FieldType × Nat × List (Nat × List Ent)
def sufF : List Ent → Nat → Option (List Ent)
  | [], _ => none
  | e :: r, pc => bif Nat.beq e.1 pc then some (e :: r) else sufF r pc
/-- the instructions from a place on, to the end of its block -/
def blkF : List (Nat × List Ent) → Nat → Option (List Ent)
  | [], _ => none
  | q :: r, pc => match sufF q.2 pc with
    | some o => some o
    | none => blkF r pc
def stepP (w : Mrow) (sc : Nat × (Nat → Int32)) (cl : Ct) (rt : Rt) (P : Fr → Prop) (f : Fr) : Prop :=
  (∃ ks : List Nat, P (f.1, lv_pick f.2.1 ks, f.2.2.1, f.2.2.2.1, f.2.2.2.2)) ∨ ∃ (ops : List Ent) (m : Nat), blkF w.2.2.2.2.2 f.1 = some ops ∧ semN w.2.2.1 w.2.2.2.1 sc cl rt P (ops.take m) f
/-- the machine comes from here to an end that rt allows -/
def Ex (w : Mrow) (sc : Nat × (Nat → Int32)) (cl : Ct) (rt : Rt) (f : Fr) : Prop := ∀ P : Fr → Prop, (∀ g, stepP w sc cl rt P g → P g) → P f
theorem swO_mono {k k' : Fr → Prop} (hk : ∀ f, k f → k' f) : ∀ (cs : List (Prop × Fr)) (f : Fr), swO k cs f → swO k' cs f
  | [], f, h => hk f h
  | q :: r, f, h => ⟨fun c => hk _ (h.1 c), fun c => swO_mono hk r f (h.2 c)⟩
theorem runO_mono {cl : Ct} {rt : Rt} {E : En} {σ : St} {k k' : Fr → Prop} (hk : ∀ f, k f → k' f) (o : Option Ob) (h : runO cl rt E σ k o) : runO cl rt E σ k' o := by
  match o, h with
  | none, h => exact h
  | some (.inl f), h => exact hk f h
  | some (.inr (.inl (g, f))), h => exact ⟨h.1, hk f h.2⟩
  | some (.inr (.inr (.inl (c, f, f')))), h => exact ⟨fun x => hk _ (h.1 x), fun x => hk _ (h.2 x)⟩
  | some (.inr (.inr (.inr (.inl (cs, f))))), h => exact swO_mono hk cs f h
  | some (.inr (.inr (.inr (.inr (.inl (mi, as, pc, lv, st)))))), h => obtain ⟨r, E1, σ1, h1, h2⟩ := h; exact ⟨r, E1, σ1, h1, hk _ h2⟩
  | some (.inr (.inr (.inr (.inr (.inr (g, v)))))), h => exact h
theorem semN_mono {nL : Nat} {rty : Option FieldType} {sc : Nat × (Nat → Int32)} {cl : Ct} {rt : Rt} {k k' : Fr → Prop} (hk : ∀ f, k f → k' f) : ∀ (ops : List Ent) (f : Fr), semN nL rty sc cl rt k ops f → semN nL rty sc cl rt k' ops f
  | [], f, h => hk f h
  | e :: r, f, h => by
    unfold semN at h ⊢
    cases hb : Nat.beq f.1 e.1 with
    | true => rw [hb] at h; exact runO_mono (fun g hg => semN_mono hk r g hg) _ h
    | false => rw [hb] at h; exact h
theorem stepP_mono {w : Mrow} {sc : Nat × (Nat → Int32)} {cl : Ct} {rt : Rt} {P P' : Fr → Prop} (hk : ∀ f, P f → P' f) {f : Fr} (h : stepP w sc cl rt P f) : stepP w sc cl rt P' f := by
  rcases h with ⟨ks, h⟩ | ⟨ops, m, h1, h2⟩
  · exact Or.inl ⟨ks, hk _ h⟩
  · exact Or.inr ⟨ops, m, h1, semN_mono hk (ops.take m) f h2⟩
theorem Ex.mk {w : Mrow} {sc : Nat × (Nat → Int32)} {cl : Ct} {rt : Rt} {f : Fr} (h : stepP w sc cl rt (Ex w sc cl rt) f) : Ex w sc cl rt f := fun P hP => hP f (stepP_mono (fun g hg => hg P hP) h)
theorem Ex.blk {w : Mrow} {sc : Nat × (Nat → Int32)} {cl : Ct} {rt : Rt} {pc : Nat} {lv : Lv} {st : List Value} {E : En} {σ : St} (m : Nat) {ops : List Ent} (h : blkF w.2.2.2.2.2 pc = some ops) (h2 : semN w.2.2.1 w.2.2.2.1 sc cl rt (Ex w sc cl rt) (ops.take m) (pc, lv, st, E, σ)) : Ex w sc cl rt (pc, lv, st, E, σ) := Ex.mk (Or.inr ⟨ops, m, h, h2⟩)
theorem Ex.pick {w : Mrow} {sc : Nat × (Nat → Int32)} {cl : Ct} {rt : Rt} {pc : Nat} {lv lv' : Lv} {st : List Value} {E : En} {σ : St} (ks : List Nat) (h : lv_pick lv ks = lv') (h2 : Ex w sc cl rt (pc, lv', st, E, σ)) : Ex w sc cl rt (pc, lv, st, E, σ) := Ex.mk (Or.inl ⟨ks, by rw [h]; exact h2⟩)
/-- calls, by depth: a primitive one, or a method of the table -/
def Cl (MT : Nat → Option Mrow) (pr : Ct) (sc : Nat × (Nat → Int32)) : Nat → Ct
  | 0 => fun _ _ _ _ _ _ _ => False
  | d + 1 => fun mi as E σ r E' σ' => (8 ≤ d ∧ pr mi as E σ r E' σ') ∨ ∃ w : Mrow, MT mi = some w ∧ Nat.ble (lg_sl as).length w.2.2.1 = true ∧ (eZ E ≤ eZ E' ∧ eY E ≤ eY E') ∧ Ex w sc (Cl MT pr sc d) (fun r1 E1 σ1 => r1 = r ∧ E1 = E' ∧ σ1 = σ') (0, lv_args 0 as, [], E, σ)
