/-- the memory: shapes (kind, length, references), ints, longs, by cell and place -/
abbrev xSh : Type := Nat × Nat × List (Option Nat)
abbrev xM : Type := List xSh × (Nat → Nat → Int32) × (Nat → Nat → Int64)
abbrev xL : Type := List (Option Value)
def xup {α : Type} (f : Nat → Nat → α) (c j : Nat) (x : α) : Nat → Nat → α := fun c' j' => if c' = c then (if j' = j then x else f c' j') else f c' j'
def xz {α : Type} (f : Nat → Nat → α) (c : Nat) (x : α) : Nat → Nat → α := fun c' j' => if c' = c then x else f c' j'
def xlong (v : Option Value) : Bool := match v with
  | some (.long _) => true
  | some (.double _) => true
  | _ => false
def xld (L : xL) (i : Nat) : Option Value := L.getD i none
def xst1 (L : xL) (i : Nat) (v : Value) : Option xL := if i < L.length ∧ (i = 0 ∨ xlong (L.getD (i - 1) none) = false) then some (L.set i (some v)) else none
def xst2 (L : xL) (i : Nat) (v : Value) : Option xL := if i + 1 < L.length ∧ (i = 0 ∨ xlong (L.getD (i - 1) none) = false) then some ((L.set i (some v)).set (i + 1) none) else none
abbrev xO : Type := Option (Nat × xL × List Value × xM)
section
variable {α : Type}
def xP1 (st : List Value) (f : Int32 → List Value → Option α) : Option α := match st with
  | .int x :: r => f x r
  | _ => none
def xP2 (st : List Value) (f : Int32 → Int32 → List Value → Option α) : Option α := match st with
  | .int y :: .int x :: r => f x y r
  | _ => none
def xPl (st : List Value) (f : Int64 → List Value → Option α) : Option α := match st with
  | .long x :: r => f x r
  | _ => none
def xPll (st : List Value) (f : Int64 → Int64 → List Value → Option α) : Option α := match st with
  | .long y :: .long x :: r => f x y r
  | _ => none
def xPil (st : List Value) (f : Int64 → Int32 → List Value → Option α) : Option α := match st with
  | .int y :: .long x :: r => f x y r
  | _ => none
def xPr (st : List Value) (f : Nat → List Value → Option α) : Option α := match st with
  | .ref a :: r => f a r
  | _ => none
def xPri (st : List Value) (f : Nat → Int32 → List Value → Option α) : Option α := match st with
  | .int i :: .ref a :: r => f a i r
  | _ => none
def xPrii (st : List Value) (f : Nat → Int32 → Int32 → List Value → Option α) : Option α := match st with
  | .int x :: .int i :: .ref a :: r => f a i x r
  | _ => none
def xPril (st : List Value) (f : Nat → Int32 → Int64 → List Value → Option α) : Option α := match st with
  | .long x :: .int i :: .ref a :: r => f a i x r
  | _ => none
def xPrir (st : List Value) (f : Nat → Int32 → Nat → List Value → Option α) : Option α := match st with
  | .ref x :: .int i :: .ref a :: r => f a i x r
  | _ => none
def xPri' (st : List Value) (f : Nat → Int32 → List Value → Option α) : Option α := match st with
  | .int x :: .ref a :: r => f a x r
  | _ => none
def xPrr (st : List Value) (f : Nat → Nat → List Value → Option α) : Option α := match st with
  | .ref x :: .ref a :: r => f a x r
  | _ => none
def xldI (L : xL) (i : Nat) (f : Int32 → Option α) : Option α := match xld L i with
  | some (.int x) => f x
  | _ => none
def xldL (L : xL) (i : Nat) (f : Int64 → Option α) : Option α := match xld L i with
  | some (.long x) => f x
  | _ => none
def xldR (L : xL) (i : Nat) (f : Value → Option α) : Option α := match xld L i with
  | some (.ref x) => f (.ref x)
  | some .null => f .null
  | _ => none
def xpR (st : List Value) (f : Value → List Value → Option α) : Option α := match st with
  | .ref x :: r => f (.ref x) r
  | .null :: r => f .null r
  | _ => none
def xS (M : xM) (o : Nat) (f : xSh → Option α) : Option α := match M.1[o]? with
  | some s => f s
  | none => none
end
def xVr (r : Option Nat) : Value := match r with
  | some q => .ref q
  | none => .null
def xc (c : ClassFile.Cond) (x y : Int32) : Bool := match c with
  | .eq => decide (x = y)
  | .ne => decide (¬ x = y)
  | .lt => decide (x < y)
  | .ge => decide (y ≤ x)
  | .gt => decide (y < x)
  | .le => decide (x ≤ y)
def xlk : List (Int × Int) → List Nat → Nat → Int → Nat
  | (a, _) :: ps, t :: ts, d, v => if a = v then t else xlk ps ts d v
  | _, _, d, _ => d
/-- one instruction that is no call and no return -/
def xstep (x : xI) (i : Nat) (L : xL) (st : List Value) (M : xM) : xO :=
  match x with
  | (_, ins, _, ts, a, b, _, _, v) =>
  match ins with
  | .iconst n => some (i + 1, L, .int (Int32.ofInt n) :: st, M)
  | .bipush n => some (i + 1, L, .int (Int8.ofInt n).toInt32 :: st, M)
  | .sipush n => some (i + 1, L, .int (Int16.ofInt n).toInt32 :: st, M)
  | .lconst n => some (i + 1, L, .long (Int64.ofNat (n : Nat)) :: st, M)
  | .ldc2_w _ => some (i + 1, L, .long v :: st, M)
  | .aconst_null => some (i + 1, L, .null :: st, M)
  | .iload_n k => xldI L k fun z => some (i + 1, L, .int z :: st, M)
  | .iload k => xldI L k fun z => some (i + 1, L, .int z :: st, M)
  | .lload_n k => xldL L k fun z => some (i + 1, L, .long z :: st, M)
  | .lload k => xldL L k fun z => some (i + 1, L, .long z :: st, M)
  | .aload_n k => xldR L k fun z => some (i + 1, L, z :: st, M)
  | .aload k => xldR L k fun z => some (i + 1, L, z :: st, M)
  | .istore_n k => xP1 st fun z r => (xst1 L k (.int z)).bind fun L' => some (i + 1, L', r, M)
  | .istore k => xP1 st fun z r => (xst1 L k (.int z)).bind fun L' => some (i + 1, L', r, M)
  | .lstore_n k => xPl st fun z r => (xst2 L k (.long z)).bind fun L' => some (i + 1, L', r, M)
  | .lstore k => xPl st fun z r => (xst2 L k (.long z)).bind fun L' => some (i + 1, L', r, M)
  | .astore_n k => xpR st fun z r => (xst1 L k z).bind fun L' => some (i + 1, L', r, M)
  | .astore k => xpR st fun z r => (xst1 L k z).bind fun L' => some (i + 1, L', r, M)
  | .iinc k n => xldI L k fun z => (xst1 L k (.int (z + Int32.ofInt n))).bind fun L' => some (i + 1, L', st, M)
  | .iadd => xP2 st fun x y r => some (i + 1, L, .int (x + y) :: r, M)
  | .isub => xP2 st fun x y r => some (i + 1, L, .int (x - y) :: r, M)
  | .imul => xP2 st fun x y r => some (i + 1, L, .int (x * y) :: r, M)
  | .iand => xP2 st fun x y r => some (i + 1, L, .int (x &&& y) :: r, M)
  | .ior => xP2 st fun x y r => some (i + 1, L, .int (x ||| y) :: r, M)
  | .ixor => xP2 st fun x y r => some (i + 1, L, .int (x ^^^ y) :: r, M)
  | .ishl => xP2 st fun x y r => some (i + 1, L, .int (x <<< (y &&& 31)) :: r, M)
  | .ishr => xP2 st fun x y r => some (i + 1, L, .int (x >>> (y &&& 31)) :: r, M)
  | .ladd => xPll st fun x y r => some (i + 1, L, .long (x + y) :: r, M)
  | .lmul => xPll st fun x y r => some (i + 1, L, .long (x * y) :: r, M)
  | .land => xPll st fun x y r => some (i + 1, L, .long (x &&& y) :: r, M)
  | .lor => xPll st fun x y r => some (i + 1, L, .long (x ||| y) :: r, M)
  | .lcmp => xPll st fun x y r => some (i + 1, L, .int (lg_cmp x y) :: r, M)
  | .lshl => xPil st fun x y r => some (i + 1, L, .long (x <<< (y.toInt64 &&& 63)) :: r, M)
  | .lshr => xPil st fun x y r => some (i + 1, L, .long (x >>> (y.toInt64 &&& 63)) :: r, M)
  | .i2l => xP1 st fun x r => some (i + 1, L, .long x.toInt64 :: r, M)
  | .i2b => xP1 st fun x r => some (i + 1, L, .int x.toInt8.toInt32 :: r, M)
  | .l2i => xPl st fun x r => some (i + 1, L, .int x.toInt32 :: r, M)
  | .dup => (match st with
    | z :: r => if z.category = 1 then some (i + 1, L, z :: z :: r, M) else none
    | [] => none)
  | .pop => (match st with
    | z :: r => if z.category = 1 then some (i + 1, L, r, M) else none
    | [] => none)
  | .dup2 => (match st with
    | y :: z :: r => if y.category = 1 ∧ z.category = 1 then some (i + 1, L, y :: z :: y :: z :: r, M) else none
    | _ => none)
  | .ifCond cnd _ => xP1 st fun z r => some (if xc cnd z 0 then ts.getD 0 0 else i + 1, L, r, M)
  | .if_icmp cnd _ => xP2 st fun x y r => some (if xc cnd x y then ts.getD 0 0 else i + 1, L, r, M)
  | .goto _ => some (ts.getD 0 0, L, st, M)
  | .ifnull _ => (match st with
    | .null :: r => some (ts.getD 0 0, L, r, M)
    | .ref _ :: r => some (i + 1, L, r, M)
    | _ => none)
  | .ifnonnull _ => (match st with
    | .null :: r => some (i + 1, L, r, M)
    | .ref _ :: r => some (ts.getD 0 0, L, r, M)
    | _ => none)
  | .tableswitch _ lo hi _ => xP1 st fun z r => some (if z.toInt < lo ∨ hi < z.toInt then ts.getD 0 0 else ts.getD ((z.toInt - lo).toNat + 1) 0, L, r, M)
  | .lookupswitch _ ps => xP1 st fun z r => some (xlk ps.toList (ts.drop 1) (ts.getD 0 0) z.toInt, L, r, M)
  | .getfield _ => xPr st fun o r => xS M o fun s => if s.1 = a ∧ b < s.2.1 then some (i + 1, L, (if xfr a b then xVr (s.2.2.getD b none) else .int (M.2.1 o b)) :: r, M) else none
  | .putfield _ => if xfr a b then (xPrr st fun o q r => xS M o fun s => if s.1 = a ∧ b < s.2.1 ∧ b < s.2.2.length then some (i + 1, L, r, (M.1.set o (s.1, s.2.1, s.2.2.set b (some q)), M.2.1, M.2.2)) else none)
      else (xPri' st fun o z r => xS M o fun s => if s.1 = a ∧ b < s.2.1 then some (i + 1, L, r, (M.1, xup M.2.1 o b z, M.2.2)) else none)
  | .iaload => xPri st fun o j r => xS M o fun s => if s.1 = 100 ∧ ¬ (j < 0 ∨ s.2.1 ≤ j.toNatClampNeg) then some (i + 1, L, .int (M.2.1 o j.toNatClampNeg) :: r, M) else none
  | .baload => xPri st fun o j r => xS M o fun s => if (s.1 = 102 ∨ s.1 = 103) ∧ ¬ (j < 0 ∨ s.2.1 ≤ j.toNatClampNeg) then some (i + 1, L, .int (M.2.1 o j.toNatClampNeg) :: r, M) else none
  | .laload => xPri st fun o j r => xS M o fun s => if s.1 = 101 ∧ ¬ (j < 0 ∨ s.2.1 ≤ j.toNatClampNeg) then some (i + 1, L, .long (M.2.2 o j.toNatClampNeg) :: r, M) else none
  | .aaload => xPri st fun o j r => xS M o fun s => if s.1 = 104 ∧ ¬ (j < 0 ∨ s.2.1 ≤ j.toNatClampNeg) then some (i + 1, L, xVr (s.2.2.getD j.toNatClampNeg none) :: r, M) else none
  | .iastore => xPrii st fun o j z r => xS M o fun s => if s.1 = 100 ∧ ¬ (j < 0 ∨ s.2.1 ≤ j.toNatClampNeg) then some (i + 1, L, r, (M.1, xup M.2.1 o j.toNatClampNeg z, M.2.2)) else none
  | .bastore => xPrii st fun o j z r => xS M o fun s => if s.1 = 102 ∧ ¬ (j < 0 ∨ s.2.1 ≤ j.toNatClampNeg) then some (i + 1, L, r, (M.1, xup M.2.1 o j.toNatClampNeg (z &&& 1), M.2.2))
      else if s.1 = 103 ∧ ¬ (j < 0 ∨ s.2.1 ≤ j.toNatClampNeg) then some (i + 1, L, r, (M.1, xup M.2.1 o j.toNatClampNeg z.toInt8.toInt32, M.2.2)) else none
  | .lastore => xPril st fun o j z r => xS M o fun s => if s.1 = 101 ∧ ¬ (j < 0 ∨ s.2.1 ≤ j.toNatClampNeg) then some (i + 1, L, r, (M.1, M.2.1, xup M.2.2 o j.toNatClampNeg z)) else none
  | .aastore => xPrir st fun o j q r => xS M o fun s => xS M q fun sq => if s.1 = 104 ∧ sq.1 = 0 ∧ j.toNatClampNeg < s.2.2.length ∧ ¬ (j < 0 ∨ s.2.1 ≤ j.toNatClampNeg) then some (i + 1, L, r, (M.1.set o (s.1, s.2.1, s.2.2.set j.toNatClampNeg (some q)), M.2.1, M.2.2)) else none
  | .arraylength => xPr st fun o r => xS M o fun s => if 100 ≤ s.1 ∧ s.1 ≤ 104 then some (i + 1, L, .int (Int32.ofNat s.2.1) :: r, M) else none
  | .new _ => (match vwCl[a]? with
    | some q => some (i + 1, L, .ref M.1.length :: st, (M.1 ++ [(a, q.2.2, List.replicate q.2.2 none)], xz M.2.1 M.1.length 0, xz M.2.2 M.1.length 0))
    | none => none)
  | .newarray _ => xP1 st fun n r => if ¬ n < 0 ∧ n.toNatClampNeg ≤ 10000 then some (i + 1, L, .ref M.1.length :: r, (M.1 ++ [(a, n.toNatClampNeg, [])], xz M.2.1 M.1.length 0, xz M.2.2 M.1.length 0)) else none
  | .anewarray _ => xP1 st fun n r => if ¬ n < 0 ∧ n.toNatClampNeg ≤ 10000 ∧ a = 104 then some (i + 1, L, .ref M.1.length :: r, (M.1 ++ [(104, n.toNatClampNeg, List.replicate n.toNatClampNeg none)], xz M.2.1 M.1.length 0, xz M.2.2 M.1.length 0)) else none
  | .ldc _ => some (i + 1, L, .retAddr 0 :: st, M)
  | _ => none
/-- the bytes of the one text -/
def xtext : List Int32 := [116, 104, 101, 32, 97, 32, 97, 110, 32, 97, 110, 100, 32, 116, 104, 101, 110, 32, 116, 101, 108, 108, 32, 116, 111, 32, 97, 103, 97, 105, 110, 32, 105, 116, 32, 104, 105, 109, 32, 104, 101, 114, 32, 116, 104, 101, 109, 32, 109, 101, 32, 109, 121, 115, 101, 108, 102, 32, 121, 111, 117, 114, 115, 101, 108, 102, 32, 104, 105, 115, 32, 105, 116, 115, 32, 116, 104, 101, 105, 114, 32, 109, 121, 32, 97, 108, 108, 32, 98, 117, 116]
def xtextLen : Nat := 91
/-- the locals at a method's start -/
def xflat (av : List Value) : xL := av.flatMap fun v => if v.category = 2 then [some v, none] else [some v]
def xentry (mL : Nat) (av : List Value) : xL := xflat av ++ List.replicate (mL - (xflat av).length) none
def xretok (ins : Instr) (ret : Option FieldType) (v : Value) : Bool := match ins, ret, v with
  | .ireturn, some .int, .int _ => true
  | .ireturn, some .boolean, .int z => decide (z = 0 ∨ z = 1)
  | .lreturn, some .long, .long _ => true
  | .areturn, some (.object _), .ref _ => true
  | .areturn, some (.object _), .null => true
  | _, _, _ => false
/-- how many arguments a call takes, the receiver too -/
def xna (b : Nat) (me : xMe) : Nat := if me.2.2.2.2.2.1 = 0 then b else b + 1
/-- the receiver is of the class -/
def xrecv (ts : List Nat) (b : Nat) (me : xMe) (st : List Value) (M : xM) : Bool :=
  if me.2.2.2.2.2.1 = 0 then true else match st[b]? with
    | some (.ref o) => if me.2.2.2.2.2.1 = 2 then true else (match M.1[o]? with | some s => decide (s.1 = ts.getD 0 100) | none => false)
    | _ => false
/-- how an instruction is taken: 0 a step, 1 a return with a value, 2 without, 3 a call -/
def xend2 (ins : Instr) : Nat := match ins with
  | .ireturn => 1
  | .lreturn => 1
  | .areturn => 1
  | .return_ => 2
  | .invokevirtual _ => 3
  | .invokespecial _ => 3
  | .invokestatic _ => 3
  | _ => 0
def xret (ins : Instr) (me : xMe) (st : List Value) (M : xM) : Option (Option Value × xM) := match st with
  | [z] => if xretok ins me.2.2.2.1 z then some (some z, M) else none
  | _ => none
def xvret (me : xMe) (st : List Value) (M : xM) : Option (Option Value × xM) := match st with
  | [] => if me.2.2.2.1 = none then some (none, M) else none
  | _ => none
abbrev xF : Type := Nat → xMe → Nat → xL → List Value → xM → Option (Option Value × xM)
/-- a call of a method of the table, one deeper -/
def xcallm (F : xF) (d : Nat) (me : xMe) (ts : List Nat) (a b i : Nat) (L : xL) (st : List Value) (M : xM) : Option (Option Value × xM) := match d, xmt[a]? with
  | d' + 1, some me' =>
    if xna b me' ≤ st.length ∧ ((st.drop (xna b me')).map fun v => v.category).sum ≤ 8 ∧ (xflat (st.take (xna b me')).reverse).length ≤ me'.2.2.1 ∧ xrecv ts b me' st M = true then
      match F d' me' 0 (xentry me'.2.2.1 (st.take (xna b me')).reverse) [] M with
      | some (r, M') => F d me (i + 1) L (r.toList ++ st.drop (xna b me')) M'
      | none => none
    else none
  | _, _ => none
def xcallf (F : xF) (d : Nat) (me : xMe) (x : xI) (i : Nat) (L : xL) (st : List Value) (M : xM) : Option (Option Value × xM) := match x with
  | (_, _, _, ts, a, b, c, _, _) =>
    if c = 2 then (match st with
      | .ref _ :: r => if (r.map fun v => v.category).sum ≤ 8 then F d me (i + 1) L r M else none
      | _ => none)
    else if c = 3 then (match st with
      | .retAddr _ :: r => if 4 ≤ d ∧ (r.map fun v => v.category).sum ≤ 8 then F d me (i + 1) L (.int (nI xtextLen) :: r) M else none
      | _ => none)
    else if c = 4 then (match st with
      | .int k :: .retAddr _ :: r => if 4 ≤ d ∧ (r.map fun v => v.category).sum ≤ 8 ∧ ¬ (k < 0 ∨ xtextLen ≤ k.toNatClampNeg) then F d me (i + 1) L (.int (xtext.getD k.toNatClampNeg 0) :: r) M else none
      | _ => none)
    else xcallm F d me ts a b i L st M
/-- runs: fuel, depth, method, place, locals, stack, memory -/
def ev : Nat → xF
  | 0, _, _, _, _, _, _ => none
  | n + 1, d, me, i, L, st, M =>
    match me.2.2.2.2.2.2[i]? with
    | none => none
    | some x =>
      match xend2 x.2.1 with
      | 0 => (match xstep x i L st M with
        | some (i', L', st', M') => ev n d me i' L' st' M'
        | none => none)
      | 1 => xret x.2.1 me st M
      | 2 => xvret me st M
      | _ => xcallf (ev n) d me x i L st M
