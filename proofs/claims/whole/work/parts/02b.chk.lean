/-- which lengths the instructions have (switches: any) -/
def xlenok (ins : Instr) (len : Nat) : Bool := match ins with
  | .iload _ | .lload _ | .aload _ | .istore _ | .lstore _ | .astore _ | .bipush _ | .newarray _ | .ldc _ => len == 2
  | .sipush _ | .ldc2_w _ | .ifCond .. | .if_icmp .. | .goto _ | .ifnull _ | .ifnonnull _ | .getfield _ | .putfield _ | .invokevirtual _ | .invokespecial _ | .invokestatic _ | .new _ | .anewarray _ | .iinc .. => len == 3
  | .tableswitch .. | .lookupswitch .. => true
  | _ => len == 1
def xend (ins : Instr) : Bool := match ins with
  | .ireturn | .lreturn | .areturn | .return_ | .goto _ => true
  | _ => false
/-- the target t of a jump by off from pc -/
def xjmp (P : List xI) (pc t : Nat) (off : Int) : Bool := match P[t]? with
  | some y => decide ((pc : Int) + off = (y.1 : Int))
  | none => false
def xjmps (P : List xI) (pc : Nat) : List Nat → List Int → Bool
  | [], [] => true
  | t :: ts, o :: os => xjmp P pc t o && xjmps P pc ts os
  | _, _ => false
def xW (lk : Nat) (w : Cond) : Bool := decide (lw_tbl[lk]? = some w)
/-- what is asked of a call's target -/
def xokC (own : String) (c lk b idx : Nat) (me : xMe) : Bool :=
  (if c = 0 then xW lk (.methodLink own idx me.1) else xW lk (.methodLinkNest own idx me.1 "PronounOrders")) && decide ((parseMethodDescriptor me.1.desc).map (fun d => d.parameters.length) = some b)
def xokI (own : String) (cc : ByteArray) (name : String) (P : List xI) (i : Nat) (x : xI) : Bool :=
  match x with
  | (pc, ins, len, ts, a, b, c, lk, v) =>
    decide (decode cc pc = .ok (ins, len)) && (xlenok ins len && ((match P[i + 1]? with | some y => decide (y.1 = pc + len) | none => xend ins) &&
    (match ins with
      | .getfield idx => (match vwCl[a]? with | some q => decide (b < q.2.2) && xW lk (.fieldLink own idx (q.2.1 b).1 (q.2.1 b).2.1 (q.2.1 b).2.2.1) | none => false)
      | .putfield idx => (match vwCl[a]? with | some q => decide (b < q.2.2) && (xW lk (.fieldLink own idx (q.2.1 b).1 (q.2.1 b).2.1 (q.2.1 b).2.2.1) && decide ((q.2.1 b).2.2.2 = false ∨ ((q.2.1 b).2.2.2 = true ∧ name = "<init>" ∧ (q.2.1 b).1 = own))) | none => false)
      | .ifCond _ off | .if_icmp _ off | .goto off | .ifnull off | .ifnonnull off => xjmps P pc ts [off]
      | .tableswitch d lo hi offs => xjmps P pc ts (d :: offs.toList) && decide (hi - lo + 1 = (offs.size : Int))
      | .lookupswitch d ps => xjmps P pc ts (d :: ps.toList.map Prod.snd) && (ps.toList.zip (ps.toList.drop 1)).all (fun (a, next) => decide (a.1 < next.1))
      | .new idx => (match vwCl[a]? with | some q => xW lk (.classLink own idx q.1) && (decide (Cond.instantiable q.1 q.2.2 ∈ lw_tbl) && decide (Cond.initialized q.1 ∈ lw_tbl)) | none => false)
      | .newarray ty => decide (Cond.arrayClass (newarray.typeOf ty) ∈ lw_tbl) && decide ((a = 100 ∧ newarray.typeOf ty = .int) ∨ (a = 101 ∧ newarray.typeOf ty = .long) ∨ (a = 102 ∧ newarray.typeOf ty = .boolean) ∨ (a = 103 ∧ newarray.typeOf ty = .byte))
      | .anewarray idx => xW lk (.classLink own idx "PronounOrders$Order")
      | .ldc2_w idx => xW lk (.constantLong own idx v)
      | .ldc idx => xW lk (.stringRef own idx "the a an and then tell to again it him her them me myself yourself his its their my all but")
      | .invokevirtual idx => if c = 3 then xW lk (.methodLink own idx ⟨"java/lang/String", "length", "()I"⟩) else if c = 4 then xW lk (.methodLink own idx ⟨"java/lang/String", "charAt", "(I)C"⟩) else
          (match xmt[a]? with | some me => xokC own c lk b idx me && (decide (c = 0) && (decide (me.2.2.2.2.2.1 = 1) && (match ts with | [t] => (match vwCl[t]? with | some q => decide (q.1 = me.1.cls) | none => false) | _ => false))) | none => false)
      | .invokestatic idx => (match xmt[a]? with | some me => xokC own c lk b idx me && (decide (c ≤ 1) && decide (me.2.2.2.2.2.1 = 0)) | none => false)
      | .invokespecial idx => if c = 2 then xW lk (.methodLink own idx objectInit) else
          (match xmt[a]? with | some me => xokC own c lk b idx me && (decide (c ≤ 1) && decide (me.2.2.2.2.2.1 = 2)) | none => false)
      | _ => true)))
def xokIs (own : String) (cc : ByteArray) (name : String) (P : List xI) : Nat → List xI → Bool
  | _, [] => true
  | i, x :: xs => xokI own cc name P i x && xokIs own cc name P (i + 1) xs
/-- what is asked of a method -/
def xokH (me : xMe) : Bool :=
  decide (Cond.code me.1 me.2.1 me.2.2.1 me.2.2.2.1 ∈ lw_tbl) && (decide (Cond.initialized me.1.cls ∈ lw_tbl) && (plainName me.1.cls && (decide (me.1.cls = me.2.2.2.2.1) && (decide (me.1.cls ≠ "java/lang/invoke/MethodHandle" ∧ me.1.cls ≠ "java/lang/invoke/VarHandle") && (decide (me.2.2.1 ≤ 21) &&
  (if me.2.2.2.2.2.1 = 0 then decide (Cond.static me.1 ∈ lw_tbl) else if me.2.2.2.2.2.1 = 1 then decide (Cond.instanceMethod me.1 ∈ lw_tbl) && decide (Cond.selects me.1.cls me.1 me.1 ∈ lw_tbl) else decide (me.2.2.2.2.2.1 = 2) && (decide (me.1.name = "<init>") && (decide (Cond.instanceMethod me.1 ∈ lw_tbl) && decide (me.2.2.2.1 = none)))))))))
def xokM (me : xMe) : Bool := xokH me && (decide (0 < me.2.2.2.2.2.2.length) && ((match me.2.2.2.2.2.2[0]? with | some y => decide (y.1 = 0) | none => false) && xokIs me.2.2.2.2.1 me.2.1 me.1.name me.2.2.2.2.2.2 0 me.2.2.2.2.2.2))
