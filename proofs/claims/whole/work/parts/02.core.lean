/-! ===== THE SMALL MACHINE: objects and arrays by numbers, locals by place, one method's steps as a function ===== -/
abbrev mx_C : Type := (Nat → Int32) ⊕ (Nat → Option Nat)
abbrev mx_E : Type := (Nat × Nat × mx_C) ⊕ (Nat × List Value)
abbrev mx_H : Type := Nat × Nat × (Nat → mx_E)
abbrev mx_L : Type := List (Option Value)
abbrev mx_S : Type := Nat × mx_L × List Value × mx_H
abbrev mx_I : Type := Jvm.ClassFile.Instr × Nat × Int
abbrev mx_R : Type := mx_S ⊕ ((Nat × List Value × Nat × List Value) ⊕ Option Value)
abbrev mx_big : Nat := 1000000
def mx_nil : mx_E := .inr (99, [])
def mx_set (h : mx_H) (a : Nat) (e : mx_E) : mx_H := (h.1, h.2.1, fun i => if i = a then e else h.2.2 i)
def mx_new (h : mx_H) (k : Nat) (e : mx_E) : mx_H := (h.1 + 1, h.2.1 + k, fun i => if i = h.1 then e else h.2.2 i)
def mx_cmp (c : Jvm.ClassFile.Cond) (x y : Int32) : Bool := match c with
  | .eq => decide (x = y)
  | .ne => decide (¬ x = y)
  | .lt => decide (x < y)
  | .ge => decide (x ≥ y)
  | .gt => decide (x > y)
  | .le => decide (x ≤ y)
def mx_tag (v : Value) : Nat := match v with
  | .int _ => 0
  | .long _ => 1
  | .ref _ => 2
  | .null => 2
  | _ => 3
def mx_ld (L : mx_L) (i t : Nat) : Option Value := match L[i]? with
  | some (some v) => if mx_tag v = t then some v else none
  | _ => none
def mx_kill (L : mx_L) (i : Nat) : mx_L := match i with
  | 0 => L
  | j + 1 => match L[j]? with
    | some (some w) => if w.category = 2 then L.set j none else L
    | _ => L
def mx_store (L : mx_L) (i : Nat) (v : Value) : mx_L := if v.category = 2 then ((mx_kill L i).set i (some v)).set (i + 1) none else (mx_kill L i).set i (some v)
/-- the locals at the entry -/
def mx_pl : List Value → mx_L
  | [] => []
  | v :: t => if v.category = 2 then some v :: none :: mx_pl t else some v :: mx_pl t
def mx_ent (n : Nat) (vs : List Value) : mx_L := mx_pl vs ++ List.replicate (n - (mx_pl vs).length) none
def mx_go (s : mx_S) : Option mx_R := some (.inl s)
def mx_psh (v : Option Value) (pc : Nat) (L : mx_L) (st : List Value) (h : mx_H) : Option mx_R := match v with
  | some w => mx_go (pc, L, w :: st, h)
  | none => none
def mx_sto (t i pc : Nat) (L : mx_L) (st : List Value) (h : mx_H) : Option mx_R := match st with
  | v :: r => if mx_tag v = t ∧ i + (if t = 1 then 1 else 0) < L.length then mx_go (pc, mx_store L i v, r, h) else none
  | _ => none
/-- what only the stack is asked for -/
def mx_sk (ins : Jvm.ClassFile.Instr) (st : List Value) : Option (List Value) := match ins with
  | .iconst n => some (.int (Int32.ofInt n) :: st)
  | .bipush n => some (.int (Int8.ofInt n).toInt32 :: st)
  | .sipush n => some (.int (Int16.ofInt n).toInt32 :: st)
  | .lconst n => some (.long (Int64.ofNat (n : Nat)) :: st)
  | .aconst_null => some (.null :: st)
  | .iadd => match st with | .int y :: .int x :: r => some (.int (x + y) :: r) | _ => none
  | .isub => match st with | .int y :: .int x :: r => some (.int (x - y) :: r) | _ => none
  | .imul => match st with | .int y :: .int x :: r => some (.int (x * y) :: r) | _ => none
  | .iand => match st with | .int y :: .int x :: r => some (.int (x &&& y) :: r) | _ => none
  | .ior => match st with | .int y :: .int x :: r => some (.int (x ||| y) :: r) | _ => none
  | .idiv => match st with | .int y :: .int x :: r => if y = 0 then none else some (.int (x / y) :: r) | _ => none
  | .irem => match st with | .int y :: .int x :: r => if y = 0 then none else some (.int (x - x / y * y) :: r) | _ => none
  | .ineg => match st with | .int x :: r => some (.int (-x) :: r) | _ => none
  | .ishl => match st with | .int y :: .int x :: r => some (.int (x <<< (y &&& 31)) :: r) | _ => none
  | .ishr => match st with | .int y :: .int x :: r => some (.int (x >>> (y &&& 31)) :: r) | _ => none
  | .iushr => match st with | .int y :: .int x :: r => some (.int (x.toUInt32 >>> (y.toUInt32 &&& Int32.toUInt32 31)).toInt32 :: r) | _ => none
  | .ladd => match st with | .long y :: .long x :: r => some (.long (x + y) :: r) | _ => none
  | .lsub => match st with | .long y :: .long x :: r => some (.long (x - y) :: r) | _ => none
  | .land => match st with | .long y :: .long x :: r => some (.long (x &&& y) :: r) | _ => none
  | .lor => match st with | .long y :: .long x :: r => some (.long (x ||| y) :: r) | _ => none
  | .lxor => match st with | .long y :: .long x :: r => some (.long (x ^^^ y) :: r) | _ => none
  | .ldiv => match st with | .long y :: .long x :: r => if y = 0 then none else some (.long (x / y) :: r) | _ => none
  | .lrem => match st with | .long y :: .long x :: r => if y = 0 then none else some (.long (x - x / y * y) :: r) | _ => none
  | .lshl => match st with | .int y :: .long x :: r => some (.long (x <<< (y.toInt64 &&& 63)) :: r) | _ => none
  | .lshr => match st with | .int y :: .long x :: r => some (.long (x >>> (y.toInt64 &&& 63)) :: r) | _ => none
  | .lushr => match st with | .int y :: .long x :: r => some (.long (x.toUInt64 >>> (y.toInt64.toUInt64 &&& Int64.toUInt64 63)).toInt64 :: r) | _ => none
  | .lcmp => match st with | .long y :: .long x :: r => some (.int (lg_cmp x y) :: r) | _ => none
  | .i2l => match st with | .int x :: r => some (.long x.toInt64 :: r) | _ => none
  | .l2i => match st with | .long x :: r => some (.int x.toInt32 :: r) | _ => none
  | .i2b => match st with | .int x :: r => some (.int x.toInt8.toInt32 :: r) | _ => none
  | .i2s => match st with | .int x :: r => some (.int x.toInt16.toInt32 :: r) | _ => none
  | .i2c => match st with | .int x :: r => some (.int (x.toUInt32 % 65536).toInt32 :: r) | _ => none
  | .dup => match st with | v :: r => if v.category = 1 then some (v :: v :: r) else none | _ => none
  | .pop => match st with | v :: r => if v.category = 1 then some r else none | _ => none
  | .dup2 => match st with | v :: w :: r => if v.category = 1 ∧ w.category = 1 then some (v :: w :: v :: w :: r) else none | _ => none
  | _ => none
def mx_len (ins : Jvm.ClassFile.Instr) : Nat := match ins with
  | .aload _ => 2
  | .iload _ => 2
  | .lload _ => 2
  | .astore _ => 2
  | .istore _ => 2
  | .lstore _ => 2
  | .bipush _ => 2
  | .ldc _ => 2
  | .newarray _ => 2
  | .sipush _ => 3
  | .getfield _ => 3
  | .putfield _ => 3
  | .invokevirtual _ => 3
  | .invokespecial _ => 3
  | .invokestatic _ => 3
  | .new _ => 3
  | .anewarray _ => 3
  | .checkcast _ => 3
  | .goto _ => 3
  | .ifCond _ _ => 3
  | .if_icmp _ _ => 3
  | .ifnull _ => 3
  | .ifnonnull _ => 3
  | .iinc _ _ => 3
  | .ldc_w _ => 3
  | .ldc2_w _ => 3
  | _ => 1
def mx_tg (pc : Nat) (o : Int) : Option Nat := if 0 ≤ (pc : Int) + o then some ((pc : Int) + o).toNat else none
def mx_tsw (d lo hi : Int) (offs : Array Int) (pc : Nat) (x : Int32) : Option Nat :=
  if x.toInt < lo ∨ hi < x.toInt then mx_tg pc d else match offs[(x.toInt - lo).toNat]? with
    | some o => mx_tg pc o
    | none => none
/-- a field of that type may hold it -/
def mx_fit (ty : FieldType) (v : Value) : Bool := match ty, v with
  | .int, .int _ => true
  | .boolean, .int x => decide (x = 0 ∨ x = 1)
  | .object _, .ref _ => true
  | .object _, .null => true
  | .array _, .ref _ => true
  | .array _, .null => true
  | _, _ => false
def mx_def (ty : FieldType) : Value := match ty with
  | .int => .int 0
  | .boolean => .int 0
  | _ => .null
/-- the component's class of an array of references, by the array's kind: 0 ints, 1 booleans, 2 chars, 3 .. -/
def mx_el (t : Nat) : Nat := match t with
  | 3 => 2
  | 4 => 6
  | 5 => 5
  | _ => 98
def mx_cats (st : List Value) : Nat := (st.map fun v => v.category).sum
