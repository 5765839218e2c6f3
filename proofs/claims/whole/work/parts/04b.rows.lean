section
variable {d : Nat} {me : xMe} {i j : Nat} {L : xL} {r : List Value} {M : xM} {Q : Option Value → xM → Prop} {pc len a b c lk : Nat} {ts : List Nat} {v : Int64}
variable {S : List xSh} {I : Nat → Nat → Int32} {J : Nat → Nat → Int64}
theorem w_iconst {n : Int} {z : Int32} (hx : me.2.2.2.2.2.2[i]? = some (pc, .iconst n, len, ts, a, b, c, lk, v)) (hz : Int32.ofInt n = z) (hi : i + 1 = j) (k : wp d me j L (.int z :: r) M Q) : wp d me i L r M Q := by
  subst hi
  refine wp_step hx rfl ?_ k
  simp [xstep, hz]
theorem w_bipush {n : Int} {z : Int32} (hx : me.2.2.2.2.2.2[i]? = some (pc, .bipush n, len, ts, a, b, c, lk, v)) (hz : (Int8.ofInt n).toInt32 = z) (hi : i + 1 = j) (k : wp d me j L (.int z :: r) M Q) : wp d me i L r M Q := by
  subst hi
  refine wp_step hx rfl ?_ k
  simp [xstep, hz]
theorem w_sipush {n : Int} {z : Int32} (hx : me.2.2.2.2.2.2[i]? = some (pc, .sipush n, len, ts, a, b, c, lk, v)) (hz : (Int16.ofInt n).toInt32 = z) (hi : i + 1 = j) (k : wp d me j L (.int z :: r) M Q) : wp d me i L r M Q := by
  subst hi
  refine wp_step hx rfl ?_ k
  simp [xstep, hz]
theorem w_lconst {n : Fin 2} {z : Int64} (hx : me.2.2.2.2.2.2[i]? = some (pc, .lconst n, len, ts, a, b, c, lk, v)) (hz : Int64.ofNat (n : Nat) = z) (hi : i + 1 = j) (k : wp d me j L (.long z :: r) M Q) : wp d me i L r M Q := by
  subst hi
  refine wp_step hx rfl ?_ k
  simp [xstep, hz]
theorem w_ldc2_w {n : Nat} {z : Int64} (hx : me.2.2.2.2.2.2[i]? = some (pc, .ldc2_w n, len, ts, a, b, c, lk, v)) (hz : v = z) (hi : i + 1 = j) (k : wp d me j L (.long z :: r) M Q) : wp d me i L r M Q := by
  subst hi
  refine wp_step hx rfl ?_ k
  simp [xstep, hz]
theorem w_aconst_null  (hx : me.2.2.2.2.2.2[i]? = some (pc, .aconst_null, len, ts, a, b, c, lk, v))  (hi : i + 1 = j) (k : wp d me j L (.null :: r) M Q) : wp d me i L r M Q := by
  subst hi
  refine wp_step hx rfl ?_ k
  simp [xstep]
theorem w_iload {n : Nat} {z : Int32} (hx : me.2.2.2.2.2.2[i]? = some (pc, .iload n, len, ts, a, b, c, lk, v)) (hl : xld L n = some (.int z)) (hi : i + 1 = j) (k : wp d me j L (.int z :: r) M Q) : wp d me i L r M Q := by
  subst hi
  refine wp_step hx rfl ?_ k
  simp [xstep, xldI, hl]
theorem w_iload_n {n : Fin 4} {z : Int32} (hx : me.2.2.2.2.2.2[i]? = some (pc, .iload_n n, len, ts, a, b, c, lk, v)) (hl : xld L (n : Nat) = some (.int z)) (hi : i + 1 = j) (k : wp d me j L (.int z :: r) M Q) : wp d me i L r M Q := by
  subst hi
  refine wp_step hx rfl ?_ k
  simp [xstep, xldI, hl]
theorem w_lload {n : Nat} {z : Int64} (hx : me.2.2.2.2.2.2[i]? = some (pc, .lload n, len, ts, a, b, c, lk, v)) (hl : xld L n = some (.long z)) (hi : i + 1 = j) (k : wp d me j L (.long z :: r) M Q) : wp d me i L r M Q := by
  subst hi
  refine wp_step hx rfl ?_ k
  simp [xstep, xldL, hl]
theorem w_lload_n {n : Fin 4} {z : Int64} (hx : me.2.2.2.2.2.2[i]? = some (pc, .lload_n n, len, ts, a, b, c, lk, v)) (hl : xld L (n : Nat) = some (.long z)) (hi : i + 1 = j) (k : wp d me j L (.long z :: r) M Q) : wp d me i L r M Q := by
  subst hi
  refine wp_step hx rfl ?_ k
  simp [xstep, xldL, hl]
theorem w_aload {n : Nat} {z : Nat} (hx : me.2.2.2.2.2.2[i]? = some (pc, .aload n, len, ts, a, b, c, lk, v)) (hl : xld L n = some (.ref z)) (hi : i + 1 = j) (k : wp d me j L (.ref z :: r) M Q) : wp d me i L r M Q := by
  subst hi
  refine wp_step hx rfl ?_ k
  simp [xstep, xldR, hl]
theorem w_aload_n {n : Fin 4} {z : Nat} (hx : me.2.2.2.2.2.2[i]? = some (pc, .aload_n n, len, ts, a, b, c, lk, v)) (hl : xld L (n : Nat) = some (.ref z)) (hi : i + 1 = j) (k : wp d me j L (.ref z :: r) M Q) : wp d me i L r M Q := by
  subst hi
  refine wp_step hx rfl ?_ k
  simp [xstep, xldR, hl]
theorem w_aloadN {n : Nat} (hx : me.2.2.2.2.2.2[i]? = some (pc, .aload n, len, ts, a, b, c, lk, v)) (hl : xld L n = some .null) (hi : i + 1 = j) (k : wp d me j L (.null :: r) M Q) : wp d me i L r M Q := by
  subst hi
  refine wp_step hx rfl ?_ k
  simp [xstep, xldR, hl]
theorem w_aload_nN {n : Fin 4} (hx : me.2.2.2.2.2.2[i]? = some (pc, .aload_n n, len, ts, a, b, c, lk, v)) (hl : xld L (n : Nat) = some .null) (hi : i + 1 = j) (k : wp d me j L (.null :: r) M Q) : wp d me i L r M Q := by
  subst hi
  refine wp_step hx rfl ?_ k
  simp [xstep, xldR, hl]
theorem w_astoreN {n : Nat} {L2 : xL} (hx : me.2.2.2.2.2.2[i]? = some (pc, .astore n, len, ts, a, b, c, lk, v)) (hl : xst1 L (n : Nat) .null = some L2) (hi : i + 1 = j) (k : wp d me j L2 r M Q) : wp d me i L (.null :: r) M Q := by
  subst hi
  refine wp_step hx rfl ?_ k
  simp [xstep, xpR, hl]
theorem w_astore_nN {n : Fin 4} {L2 : xL} (hx : me.2.2.2.2.2.2[i]? = some (pc, .astore_n n, len, ts, a, b, c, lk, v)) (hl : xst1 L (n : Nat) .null = some L2) (hi : i + 1 = j) (k : wp d me j L2 r M Q) : wp d me i L (.null :: r) M Q := by
  subst hi
  refine wp_step hx rfl ?_ k
  simp [xstep, xpR, hl]
theorem w_istore {n : Nat} {z : Int32} {L2 : xL} (hx : me.2.2.2.2.2.2[i]? = some (pc, .istore n, len, ts, a, b, c, lk, v)) (hl : xst1 L n (.int z) = some L2) (hi : i + 1 = j) (k : wp d me j L2 r M Q) : wp d me i L (.int z :: r) M Q := by
  subst hi
  refine wp_step hx rfl ?_ k
  simp [xstep, xP1, hl]
theorem w_istore_n {n : Fin 4} {z : Int32} {L2 : xL} (hx : me.2.2.2.2.2.2[i]? = some (pc, .istore_n n, len, ts, a, b, c, lk, v)) (hl : xst1 L (n : Nat) (.int z) = some L2) (hi : i + 1 = j) (k : wp d me j L2 r M Q) : wp d me i L (.int z :: r) M Q := by
  subst hi
  refine wp_step hx rfl ?_ k
  simp [xstep, xP1, hl]
theorem w_lstore {n : Nat} {z : Int64} {L2 : xL} (hx : me.2.2.2.2.2.2[i]? = some (pc, .lstore n, len, ts, a, b, c, lk, v)) (hl : xst2 L n (.long z) = some L2) (hi : i + 1 = j) (k : wp d me j L2 r M Q) : wp d me i L (.long z :: r) M Q := by
  subst hi
  refine wp_step hx rfl ?_ k
  simp [xstep, xPl, hl]
theorem w_lstore_n {n : Fin 4} {z : Int64} {L2 : xL} (hx : me.2.2.2.2.2.2[i]? = some (pc, .lstore_n n, len, ts, a, b, c, lk, v)) (hl : xst2 L (n : Nat) (.long z) = some L2) (hi : i + 1 = j) (k : wp d me j L2 r M Q) : wp d me i L (.long z :: r) M Q := by
  subst hi
  refine wp_step hx rfl ?_ k
  simp [xstep, xPl, hl]
theorem w_astore {n : Nat} {z : Nat} {L2 : xL} (hx : me.2.2.2.2.2.2[i]? = some (pc, .astore n, len, ts, a, b, c, lk, v)) (hl : xst1 L (n : Nat) (.ref z) = some L2) (hi : i + 1 = j) (k : wp d me j L2 r M Q) : wp d me i L (.ref z :: r) M Q := by
  subst hi
  refine wp_step hx rfl ?_ k
  simp [xstep, xpR, hl]
theorem w_astore_n {n : Fin 4} {z : Nat} {L2 : xL} (hx : me.2.2.2.2.2.2[i]? = some (pc, .astore_n n, len, ts, a, b, c, lk, v)) (hl : xst1 L (n : Nat) (.ref z) = some L2) (hi : i + 1 = j) (k : wp d me j L2 r M Q) : wp d me i L (.ref z :: r) M Q := by
  subst hi
  refine wp_step hx rfl ?_ k
  simp [xstep, xpR, hl]
theorem w_iinc {n : Nat} {q : Int} {z cc : Int32} {L2 : xL} (hx : me.2.2.2.2.2.2[i]? = some (pc, .iinc n q, len, ts, a, b, c, lk, v)) (hz : Int32.ofInt q = cc) (hl : xld L n = some (.int z)) (hs : xst1 L n (.int (z + cc)) = some L2) (hi : i + 1 = j) (k : wp d me j L2 r M Q) : wp d me i L r M Q := by
  subst hi
  refine wp_step hx rfl ?_ k
  subst hz
  simp [xstep, xldI, hl, hs]
theorem w_iadd {x y : Int32} (hx : me.2.2.2.2.2.2[i]? = some (pc, .iadd, len, ts, a, b, c, lk, v))  (hi : i + 1 = j) (k : wp d me j L (.int (x + y) :: r) M Q) : wp d me i L (.int y :: .int x :: r) M Q := by
  subst hi
  refine wp_step hx rfl ?_ k
  simp [xstep, xP2]
theorem w_isub {x y : Int32} (hx : me.2.2.2.2.2.2[i]? = some (pc, .isub, len, ts, a, b, c, lk, v))  (hi : i + 1 = j) (k : wp d me j L (.int (x - y) :: r) M Q) : wp d me i L (.int y :: .int x :: r) M Q := by
  subst hi
  refine wp_step hx rfl ?_ k
  simp [xstep, xP2]
theorem w_imul {x y : Int32} (hx : me.2.2.2.2.2.2[i]? = some (pc, .imul, len, ts, a, b, c, lk, v))  (hi : i + 1 = j) (k : wp d me j L (.int (x * y) :: r) M Q) : wp d me i L (.int y :: .int x :: r) M Q := by
  subst hi
  refine wp_step hx rfl ?_ k
  simp [xstep, xP2]
theorem w_iand {x y : Int32} (hx : me.2.2.2.2.2.2[i]? = some (pc, .iand, len, ts, a, b, c, lk, v))  (hi : i + 1 = j) (k : wp d me j L (.int (x &&& y) :: r) M Q) : wp d me i L (.int y :: .int x :: r) M Q := by
  subst hi
  refine wp_step hx rfl ?_ k
  simp [xstep, xP2]
theorem w_ior {x y : Int32} (hx : me.2.2.2.2.2.2[i]? = some (pc, .ior, len, ts, a, b, c, lk, v))  (hi : i + 1 = j) (k : wp d me j L (.int (x ||| y) :: r) M Q) : wp d me i L (.int y :: .int x :: r) M Q := by
  subst hi
  refine wp_step hx rfl ?_ k
  simp [xstep, xP2]
theorem w_ixor {x y : Int32} (hx : me.2.2.2.2.2.2[i]? = some (pc, .ixor, len, ts, a, b, c, lk, v))  (hi : i + 1 = j) (k : wp d me j L (.int (x ^^^ y) :: r) M Q) : wp d me i L (.int y :: .int x :: r) M Q := by
  subst hi
  refine wp_step hx rfl ?_ k
  simp [xstep, xP2]
theorem w_ishl {x y : Int32} (hx : me.2.2.2.2.2.2[i]? = some (pc, .ishl, len, ts, a, b, c, lk, v))  (hi : i + 1 = j) (k : wp d me j L (.int (x <<< (y &&& 31)) :: r) M Q) : wp d me i L (.int y :: .int x :: r) M Q := by
  subst hi
  refine wp_step hx rfl ?_ k
  simp [xstep, xP2]
theorem w_ishr {x y : Int32} (hx : me.2.2.2.2.2.2[i]? = some (pc, .ishr, len, ts, a, b, c, lk, v))  (hi : i + 1 = j) (k : wp d me j L (.int (x >>> (y &&& 31)) :: r) M Q) : wp d me i L (.int y :: .int x :: r) M Q := by
  subst hi
  refine wp_step hx rfl ?_ k
  simp [xstep, xP2]
theorem w_ladd {x y : Int64} (hx : me.2.2.2.2.2.2[i]? = some (pc, .ladd, len, ts, a, b, c, lk, v))  (hi : i + 1 = j) (k : wp d me j L (.long (x + y) :: r) M Q) : wp d me i L (.long y :: .long x :: r) M Q := by
  subst hi
  refine wp_step hx rfl ?_ k
  simp [xstep, xPll]
theorem w_lmul {x y : Int64} (hx : me.2.2.2.2.2.2[i]? = some (pc, .lmul, len, ts, a, b, c, lk, v))  (hi : i + 1 = j) (k : wp d me j L (.long (x * y) :: r) M Q) : wp d me i L (.long y :: .long x :: r) M Q := by
  subst hi
  refine wp_step hx rfl ?_ k
  simp [xstep, xPll]
theorem w_land {x y : Int64} (hx : me.2.2.2.2.2.2[i]? = some (pc, .land, len, ts, a, b, c, lk, v))  (hi : i + 1 = j) (k : wp d me j L (.long (x &&& y) :: r) M Q) : wp d me i L (.long y :: .long x :: r) M Q := by
  subst hi
  refine wp_step hx rfl ?_ k
  simp [xstep, xPll]
theorem w_lor {x y : Int64} (hx : me.2.2.2.2.2.2[i]? = some (pc, .lor, len, ts, a, b, c, lk, v))  (hi : i + 1 = j) (k : wp d me j L (.long (x ||| y) :: r) M Q) : wp d me i L (.long y :: .long x :: r) M Q := by
  subst hi
  refine wp_step hx rfl ?_ k
  simp [xstep, xPll]
theorem w_lcmp {x y : Int64} (hx : me.2.2.2.2.2.2[i]? = some (pc, .lcmp, len, ts, a, b, c, lk, v))  (hi : i + 1 = j) (k : wp d me j L (.int (lg_cmp x y) :: r) M Q) : wp d me i L (.long y :: .long x :: r) M Q := by
  subst hi
  refine wp_step hx rfl ?_ k
  simp [xstep, xPll]
theorem w_lshl {x : Int64} {y : Int32} (hx : me.2.2.2.2.2.2[i]? = some (pc, .lshl, len, ts, a, b, c, lk, v))  (hi : i + 1 = j) (k : wp d me j L (.long (x <<< (y.toInt64 &&& 63)) :: r) M Q) : wp d me i L (.int y :: .long x :: r) M Q := by
  subst hi
  refine wp_step hx rfl ?_ k
  simp [xstep, xPil]
theorem w_lshr {x : Int64} {y : Int32} (hx : me.2.2.2.2.2.2[i]? = some (pc, .lshr, len, ts, a, b, c, lk, v))  (hi : i + 1 = j) (k : wp d me j L (.long (x >>> (y.toInt64 &&& 63)) :: r) M Q) : wp d me i L (.int y :: .long x :: r) M Q := by
  subst hi
  refine wp_step hx rfl ?_ k
  simp [xstep, xPil]
theorem w_i2l {x : Int32} (hx : me.2.2.2.2.2.2[i]? = some (pc, .i2l, len, ts, a, b, c, lk, v))  (hi : i + 1 = j) (k : wp d me j L (.long x.toInt64 :: r) M Q) : wp d me i L (.int x :: r) M Q := by
  subst hi
  refine wp_step hx rfl ?_ k
  simp [xstep, xP1]
theorem w_i2b {x : Int32} (hx : me.2.2.2.2.2.2[i]? = some (pc, .i2b, len, ts, a, b, c, lk, v))  (hi : i + 1 = j) (k : wp d me j L (.int x.toInt8.toInt32 :: r) M Q) : wp d me i L (.int x :: r) M Q := by
  subst hi
  refine wp_step hx rfl ?_ k
  simp [xstep, xP1]
theorem w_l2i {x : Int64} (hx : me.2.2.2.2.2.2[i]? = some (pc, .l2i, len, ts, a, b, c, lk, v))  (hi : i + 1 = j) (k : wp d me j L (.int x.toInt32 :: r) M Q) : wp d me i L (.long x :: r) M Q := by
  subst hi
  refine wp_step hx rfl ?_ k
  simp [xstep, xPl]
theorem w_dup {z : Value} (hx : me.2.2.2.2.2.2[i]? = some (pc, .dup, len, ts, a, b, c, lk, v)) (hz : z.category = 1) (hi : i + 1 = j) (k : wp d me j L (z :: z :: r) M Q) : wp d me i L (z :: r) M Q := by
  subst hi
  refine wp_step hx rfl ?_ k
  simp [xstep, hz]
theorem w_pop {z : Value} (hx : me.2.2.2.2.2.2[i]? = some (pc, .pop, len, ts, a, b, c, lk, v)) (hz : z.category = 1) (hi : i + 1 = j) (k : wp d me j L r M Q) : wp d me i L (z :: r) M Q := by
  subst hi
  refine wp_step hx rfl ?_ k
  simp [xstep, hz]
theorem w_dup2 {y z : Value} (hx : me.2.2.2.2.2.2[i]? = some (pc, .dup2, len, ts, a, b, c, lk, v)) (hy : y.category = 1) (hz : z.category = 1) (hi : i + 1 = j) (k : wp d me j L (y :: z :: y :: z :: r) M Q) : wp d me i L (y :: z :: r) M Q := by
  subst hi
  refine wp_step hx rfl ?_ k
  simp [xstep, hy, hz]
theorem w_ifeq_t {z : Int32} {off : Int} (hx : me.2.2.2.2.2.2[i]? = some (pc, .ifCond .eq off, len, ts, a, b, c, lk, v)) (hc : z = 0) (ht : ts.getD 0 0 = j) (k : wp d me j L r M Q) : wp d me i L (.int z :: r) M Q := by
  subst ht
  refine wp_step hx rfl ?_ k
  simp [xstep, xP1, xc, hc]
theorem w_icmpeq_t {x y : Int32} {off : Int} (hx : me.2.2.2.2.2.2[i]? = some (pc, .if_icmp .eq off, len, ts, a, b, c, lk, v)) (hc : x = y) (ht : ts.getD 0 0 = j) (k : wp d me j L r M Q) : wp d me i L (.int y :: .int x :: r) M Q := by
  subst ht
  refine wp_step hx rfl ?_ k
  simp [xstep, xP2, xc, hc]
theorem w_ifeq_f {z : Int32} {off : Int} (hx : me.2.2.2.2.2.2[i]? = some (pc, .ifCond .eq off, len, ts, a, b, c, lk, v)) (hc : ¬ z = 0) (hi : i + 1 = j) (k : wp d me j L r M Q) : wp d me i L (.int z :: r) M Q := by
  subst hi
  refine wp_step hx rfl ?_ k
  simp [xstep, xP1, xc, hc]
theorem w_icmpeq_f {x y : Int32} {off : Int} (hx : me.2.2.2.2.2.2[i]? = some (pc, .if_icmp .eq off, len, ts, a, b, c, lk, v)) (hc : ¬ x = y) (hi : i + 1 = j) (k : wp d me j L r M Q) : wp d me i L (.int y :: .int x :: r) M Q := by
  subst hi
  refine wp_step hx rfl ?_ k
  simp [xstep, xP2, xc, hc]
theorem w_ifne_t {z : Int32} {off : Int} (hx : me.2.2.2.2.2.2[i]? = some (pc, .ifCond .ne off, len, ts, a, b, c, lk, v)) (hc : ¬ z = 0) (ht : ts.getD 0 0 = j) (k : wp d me j L r M Q) : wp d me i L (.int z :: r) M Q := by
  subst ht
  refine wp_step hx rfl ?_ k
  simp [xstep, xP1, xc, hc]
theorem w_icmpne_t {x y : Int32} {off : Int} (hx : me.2.2.2.2.2.2[i]? = some (pc, .if_icmp .ne off, len, ts, a, b, c, lk, v)) (hc : ¬ x = y) (ht : ts.getD 0 0 = j) (k : wp d me j L r M Q) : wp d me i L (.int y :: .int x :: r) M Q := by
  subst ht
  refine wp_step hx rfl ?_ k
  simp [xstep, xP2, xc, hc]
theorem w_ifne_f {z : Int32} {off : Int} (hx : me.2.2.2.2.2.2[i]? = some (pc, .ifCond .ne off, len, ts, a, b, c, lk, v)) (hc : z = 0) (hi : i + 1 = j) (k : wp d me j L r M Q) : wp d me i L (.int z :: r) M Q := by
  subst hi
  refine wp_step hx rfl ?_ k
  simp [xstep, xP1, xc, hc]
theorem w_icmpne_f {x y : Int32} {off : Int} (hx : me.2.2.2.2.2.2[i]? = some (pc, .if_icmp .ne off, len, ts, a, b, c, lk, v)) (hc : x = y) (hi : i + 1 = j) (k : wp d me j L r M Q) : wp d me i L (.int y :: .int x :: r) M Q := by
  subst hi
  refine wp_step hx rfl ?_ k
  simp [xstep, xP2, xc, hc]
theorem w_iflt_t {z : Int32} {off : Int} (hx : me.2.2.2.2.2.2[i]? = some (pc, .ifCond .lt off, len, ts, a, b, c, lk, v)) (hc : z < 0) (ht : ts.getD 0 0 = j) (k : wp d me j L r M Q) : wp d me i L (.int z :: r) M Q := by
  subst ht
  refine wp_step hx rfl ?_ k
  simp [xstep, xP1, xc, hc]
theorem w_icmplt_t {x y : Int32} {off : Int} (hx : me.2.2.2.2.2.2[i]? = some (pc, .if_icmp .lt off, len, ts, a, b, c, lk, v)) (hc : x < y) (ht : ts.getD 0 0 = j) (k : wp d me j L r M Q) : wp d me i L (.int y :: .int x :: r) M Q := by
  subst ht
  refine wp_step hx rfl ?_ k
  simp [xstep, xP2, xc, hc]
theorem w_iflt_f {z : Int32} {off : Int} (hx : me.2.2.2.2.2.2[i]? = some (pc, .ifCond .lt off, len, ts, a, b, c, lk, v)) (hc : ¬ z < 0) (hi : i + 1 = j) (k : wp d me j L r M Q) : wp d me i L (.int z :: r) M Q := by
  subst hi
  refine wp_step hx rfl ?_ k
  simp [xstep, xP1, xc, hc]
theorem w_icmplt_f {x y : Int32} {off : Int} (hx : me.2.2.2.2.2.2[i]? = some (pc, .if_icmp .lt off, len, ts, a, b, c, lk, v)) (hc : ¬ x < y) (hi : i + 1 = j) (k : wp d me j L r M Q) : wp d me i L (.int y :: .int x :: r) M Q := by
  subst hi
  refine wp_step hx rfl ?_ k
  simp [xstep, xP2, xc, hc]
theorem w_ifge_t {z : Int32} {off : Int} (hx : me.2.2.2.2.2.2[i]? = some (pc, .ifCond .ge off, len, ts, a, b, c, lk, v)) (hc : 0 ≤ z) (ht : ts.getD 0 0 = j) (k : wp d me j L r M Q) : wp d me i L (.int z :: r) M Q := by
  subst ht
  refine wp_step hx rfl ?_ k
  simp [xstep, xP1, xc, hc]
theorem w_icmpge_t {x y : Int32} {off : Int} (hx : me.2.2.2.2.2.2[i]? = some (pc, .if_icmp .ge off, len, ts, a, b, c, lk, v)) (hc : y ≤ x) (ht : ts.getD 0 0 = j) (k : wp d me j L r M Q) : wp d me i L (.int y :: .int x :: r) M Q := by
  subst ht
  refine wp_step hx rfl ?_ k
  simp [xstep, xP2, xc, hc]
theorem w_ifge_f {z : Int32} {off : Int} (hx : me.2.2.2.2.2.2[i]? = some (pc, .ifCond .ge off, len, ts, a, b, c, lk, v)) (hc : ¬ 0 ≤ z) (hi : i + 1 = j) (k : wp d me j L r M Q) : wp d me i L (.int z :: r) M Q := by
  subst hi
  refine wp_step hx rfl ?_ k
  simp [xstep, xP1, xc, hc]
theorem w_icmpge_f {x y : Int32} {off : Int} (hx : me.2.2.2.2.2.2[i]? = some (pc, .if_icmp .ge off, len, ts, a, b, c, lk, v)) (hc : ¬ y ≤ x) (hi : i + 1 = j) (k : wp d me j L r M Q) : wp d me i L (.int y :: .int x :: r) M Q := by
  subst hi
  refine wp_step hx rfl ?_ k
  simp [xstep, xP2, xc, hc]
theorem w_ifgt_t {z : Int32} {off : Int} (hx : me.2.2.2.2.2.2[i]? = some (pc, .ifCond .gt off, len, ts, a, b, c, lk, v)) (hc : 0 < z) (ht : ts.getD 0 0 = j) (k : wp d me j L r M Q) : wp d me i L (.int z :: r) M Q := by
  subst ht
  refine wp_step hx rfl ?_ k
  simp [xstep, xP1, xc, hc]
theorem w_icmpgt_t {x y : Int32} {off : Int} (hx : me.2.2.2.2.2.2[i]? = some (pc, .if_icmp .gt off, len, ts, a, b, c, lk, v)) (hc : y < x) (ht : ts.getD 0 0 = j) (k : wp d me j L r M Q) : wp d me i L (.int y :: .int x :: r) M Q := by
  subst ht
  refine wp_step hx rfl ?_ k
  simp [xstep, xP2, xc, hc]
theorem w_ifgt_f {z : Int32} {off : Int} (hx : me.2.2.2.2.2.2[i]? = some (pc, .ifCond .gt off, len, ts, a, b, c, lk, v)) (hc : ¬ 0 < z) (hi : i + 1 = j) (k : wp d me j L r M Q) : wp d me i L (.int z :: r) M Q := by
  subst hi
  refine wp_step hx rfl ?_ k
  simp [xstep, xP1, xc, hc]
theorem w_icmpgt_f {x y : Int32} {off : Int} (hx : me.2.2.2.2.2.2[i]? = some (pc, .if_icmp .gt off, len, ts, a, b, c, lk, v)) (hc : ¬ y < x) (hi : i + 1 = j) (k : wp d me j L r M Q) : wp d me i L (.int y :: .int x :: r) M Q := by
  subst hi
  refine wp_step hx rfl ?_ k
  simp [xstep, xP2, xc, hc]
theorem w_ifle_t {z : Int32} {off : Int} (hx : me.2.2.2.2.2.2[i]? = some (pc, .ifCond .le off, len, ts, a, b, c, lk, v)) (hc : z ≤ 0) (ht : ts.getD 0 0 = j) (k : wp d me j L r M Q) : wp d me i L (.int z :: r) M Q := by
  subst ht
  refine wp_step hx rfl ?_ k
  simp [xstep, xP1, xc, hc]
theorem w_icmple_t {x y : Int32} {off : Int} (hx : me.2.2.2.2.2.2[i]? = some (pc, .if_icmp .le off, len, ts, a, b, c, lk, v)) (hc : x ≤ y) (ht : ts.getD 0 0 = j) (k : wp d me j L r M Q) : wp d me i L (.int y :: .int x :: r) M Q := by
  subst ht
  refine wp_step hx rfl ?_ k
  simp [xstep, xP2, xc, hc]
theorem w_ifle_f {z : Int32} {off : Int} (hx : me.2.2.2.2.2.2[i]? = some (pc, .ifCond .le off, len, ts, a, b, c, lk, v)) (hc : ¬ z ≤ 0) (hi : i + 1 = j) (k : wp d me j L r M Q) : wp d me i L (.int z :: r) M Q := by
  subst hi
  refine wp_step hx rfl ?_ k
  simp [xstep, xP1, xc, hc]
theorem w_icmple_f {x y : Int32} {off : Int} (hx : me.2.2.2.2.2.2[i]? = some (pc, .if_icmp .le off, len, ts, a, b, c, lk, v)) (hc : ¬ x ≤ y) (hi : i + 1 = j) (k : wp d me j L r M Q) : wp d me i L (.int y :: .int x :: r) M Q := by
  subst hi
  refine wp_step hx rfl ?_ k
  simp [xstep, xP2, xc, hc]
theorem w_goto {off : Int} (hx : me.2.2.2.2.2.2[i]? = some (pc, .goto off, len, ts, a, b, c, lk, v))  (ht : ts.getD 0 0 = j) (k : wp d me j L r M Q) : wp d me i L r M Q := by
  subst ht
  refine wp_step hx rfl ?_ k
  simp [xstep]
theorem w_ifnull_t {off : Int} (hx : me.2.2.2.2.2.2[i]? = some (pc, .ifnull off, len, ts, a, b, c, lk, v)) (ht : ts.getD 0 0 = j) (k : wp d me j L r M Q) : wp d me i L (.null :: r) M Q := by
  subst ht
  refine wp_step hx rfl ?_ k
  simp [xstep]
theorem w_ifnull_f {z : Nat} {off : Int} (hx : me.2.2.2.2.2.2[i]? = some (pc, .ifnull off, len, ts, a, b, c, lk, v)) (hi : i + 1 = j) (k : wp d me j L r M Q) : wp d me i L (.ref z :: r) M Q := by
  subst hi
  refine wp_step hx rfl ?_ k
  simp [xstep]
theorem w_ifnonnull_t {z : Nat} {off : Int} (hx : me.2.2.2.2.2.2[i]? = some (pc, .ifnonnull off, len, ts, a, b, c, lk, v)) (ht : ts.getD 0 0 = j) (k : wp d me j L r M Q) : wp d me i L (.ref z :: r) M Q := by
  subst ht
  refine wp_step hx rfl ?_ k
  simp [xstep]
theorem w_ifnonnull_f {off : Int} (hx : me.2.2.2.2.2.2[i]? = some (pc, .ifnonnull off, len, ts, a, b, c, lk, v)) (hi : i + 1 = j) (k : wp d me j L r M Q) : wp d me i L (.null :: r) M Q := by
  subst hi
  refine wp_step hx rfl ?_ k
  simp [xstep]
theorem w_table_out {z : Int32} {dd lo hh : Int} {offs : Array Int} (hx : me.2.2.2.2.2.2[i]? = some (pc, .tableswitch dd lo hh offs, len, ts, a, b, c, lk, v)) (hc : z.toInt < lo ∨ hh < z.toInt) (ht : ts.getD 0 0 = j) (k : wp d me j L r M Q) : wp d me i L (.int z :: r) M Q := by
  subst ht
  refine wp_step hx rfl ?_ k
  simp [xstep, xP1, hc]
theorem w_table_in {z : Int32} {dd lo hh : Int} {offs : Array Int} {q : Nat} (hx : me.2.2.2.2.2.2[i]? = some (pc, .tableswitch dd lo hh offs, len, ts, a, b, c, lk, v)) (hc : ¬ (z.toInt < lo ∨ hh < z.toInt)) (hq : (z.toInt - lo).toNat = q) (ht : ts.getD (q + 1) 0 = j) (k : wp d me j L r M Q) : wp d me i L (.int z :: r) M Q := by
  subst ht
  subst hq
  refine wp_step hx rfl ?_ k
  simp only [xstep, xP1]
  rw [if_neg hc]
theorem w_lookup {z : Int32} {dd : Int} {ps : Array (Int × Int)} (hx : me.2.2.2.2.2.2[i]? = some (pc, .lookupswitch dd ps, len, ts, a, b, c, lk, v)) (ht : xlk ps.toList (ts.drop 1) (ts.getD 0 0) z.toInt = j) (k : wp d me j L r M Q) : wp d me i L (.int z :: r) M Q := by
  subst ht
  refine wp_step hx rfl ?_ k
  simp only [xstep, xP1]
theorem w_getI {p idx n : Nat} {rs : List (Option Nat)} (hx : me.2.2.2.2.2.2[i]? = some (pc, .getfield idx, len, ts, a, b, c, lk, v)) (hs : S[p]? = some (a, n, rs)) (hb : decide (b < n) = true) (hf : xfr a b = false) (hi : i + 1 = j) (k : wp d me j L (.int (I p b) :: r) (S, I, J) Q) : wp d me i L (.ref p :: r) (S, I, J) Q := by
  subst hi
  refine wp_step hx rfl ?_ k
  have hb := of_decide_eq_true hb
  simp [xstep, xPr, xS, hs, hb, hf]
theorem w_getR {p idx n q : Nat} {rs : List (Option Nat)} (hx : me.2.2.2.2.2.2[i]? = some (pc, .getfield idx, len, ts, a, b, c, lk, v)) (hs : S[p]? = some (a, n, rs)) (hb : decide (b < n) = true) (hf : xfr a b = true) (hr : rs.getD b none = some q) (hi : i + 1 = j) (k : wp d me j L (.ref q :: r) (S, I, J) Q) : wp d me i L (.ref p :: r) (S, I, J) Q := by
  subst hi
  refine wp_step hx rfl ?_ k
  have hb := of_decide_eq_true hb
  simp only [xstep, xPr, xS, hs, hb, hf, hr, xVr]
  simp
theorem w_putI {p idx n : Nat} {rs : List (Option Nat)} {z : Int32} (hx : me.2.2.2.2.2.2[i]? = some (pc, .putfield idx, len, ts, a, b, c, lk, v)) (hs : S[p]? = some (a, n, rs)) (hb : decide (b < n) = true) (hf : xfr a b = false) (hi : i + 1 = j) (k : wp d me j L r (S, xup I p b z, J) Q) : wp d me i L (.int z :: .ref p :: r) (S, I, J) Q := by
  subst hi
  refine wp_step hx rfl ?_ k
  have hb := of_decide_eq_true hb
  simp [xstep, xPri', xS, hs, hb, hf]
theorem w_iaload {p n : Nat} {rs : List (Option Nat)} {z : Int32} (hx : me.2.2.2.2.2.2[i]? = some (pc, .iaload, len, ts, a, b, c, lk, v)) (hs : S[p]? = some (100, n, rs)) (hin : ¬ (z < 0 ∨ n ≤ z.toNatClampNeg)) (hi : i + 1 = j) (k : wp d me j L (.int (I p z.toNatClampNeg) :: r) (S, I, J) Q) : wp d me i L (.int z :: .ref p :: r) (S, I, J) Q := by
  subst hi
  refine wp_step hx rfl ?_ k
  simp only [xstep, xPri, xS, hs]
  rw [if_pos ⟨by first | trivial | rfl, hin⟩]
theorem w_baload {p n tg : Nat} {rs : List (Option Nat)} {z : Int32} (hx : me.2.2.2.2.2.2[i]? = some (pc, .baload, len, ts, a, b, c, lk, v)) (hs : S[p]? = some (tg, n, rs)) (htg : decide (tg = 102 ∨ tg = 103) = true) (hin : ¬ (z < 0 ∨ n ≤ z.toNatClampNeg)) (hi : i + 1 = j) (k : wp d me j L (.int (I p z.toNatClampNeg) :: r) (S, I, J) Q) : wp d me i L (.int z :: .ref p :: r) (S, I, J) Q := by
  subst hi
  refine wp_step hx rfl ?_ k
  simp only [xstep, xPri, xS, hs]
  rw [if_pos ⟨of_decide_eq_true htg, hin⟩]
theorem w_laload {p n : Nat} {rs : List (Option Nat)} {z : Int32} (hx : me.2.2.2.2.2.2[i]? = some (pc, .laload, len, ts, a, b, c, lk, v)) (hs : S[p]? = some (101, n, rs)) (hin : ¬ (z < 0 ∨ n ≤ z.toNatClampNeg)) (hi : i + 1 = j) (k : wp d me j L (.long (J p z.toNatClampNeg) :: r) (S, I, J) Q) : wp d me i L (.int z :: .ref p :: r) (S, I, J) Q := by
  subst hi
  refine wp_step hx rfl ?_ k
  simp only [xstep, xPri, xS, hs]
  rw [if_pos ⟨by first | trivial | rfl, hin⟩]
theorem w_aaload {p n q : Nat} {rs : List (Option Nat)} {z : Int32} (hx : me.2.2.2.2.2.2[i]? = some (pc, .aaload, len, ts, a, b, c, lk, v)) (hs : S[p]? = some (104, n, rs)) (hin : ¬ (z < 0 ∨ n ≤ z.toNatClampNeg)) (hr : rs.getD z.toNatClampNeg none = some q) (hi : i + 1 = j) (k : wp d me j L (.ref q :: r) (S, I, J) Q) : wp d me i L (.int z :: .ref p :: r) (S, I, J) Q := by
  subst hi
  refine wp_step hx rfl ?_ k
  simp only [xstep, xPri, xS, hs]
  rw [if_pos ⟨by first | trivial | rfl, hin⟩, hr]
  rfl
theorem w_iastore {p n : Nat} {rs : List (Option Nat)} {z y : Int32} (hx : me.2.2.2.2.2.2[i]? = some (pc, .iastore, len, ts, a, b, c, lk, v)) (hs : S[p]? = some (100, n, rs)) (hin : ¬ (z < 0 ∨ n ≤ z.toNatClampNeg)) (hi : i + 1 = j) (k : wp d me j L r (S, xup I p z.toNatClampNeg y, J) Q) : wp d me i L (.int y :: .int z :: .ref p :: r) (S, I, J) Q := by
  subst hi
  refine wp_step hx rfl ?_ k
  simp only [xstep, xPrii, xS, hs]
  rw [if_pos ⟨by first | trivial | rfl, hin⟩]
theorem w_bastoreZ {p n : Nat} {rs : List (Option Nat)} {z y : Int32} (hx : me.2.2.2.2.2.2[i]? = some (pc, .bastore, len, ts, a, b, c, lk, v)) (hs : S[p]? = some (102, n, rs)) (hin : ¬ (z < 0 ∨ n ≤ z.toNatClampNeg)) (hi : i + 1 = j) (k : wp d me j L r (S, xup I p z.toNatClampNeg (y &&& 1), J) Q) : wp d me i L (.int y :: .int z :: .ref p :: r) (S, I, J) Q := by
  subst hi
  refine wp_step hx rfl ?_ k
  simp only [xstep, xPrii, xS, hs]
  rw [if_pos ⟨by first | trivial | rfl, hin⟩]
theorem w_bastoreB {p n : Nat} {rs : List (Option Nat)} {z y : Int32} (hx : me.2.2.2.2.2.2[i]? = some (pc, .bastore, len, ts, a, b, c, lk, v)) (hs : S[p]? = some (103, n, rs)) (hin : ¬ (z < 0 ∨ n ≤ z.toNatClampNeg)) (hi : i + 1 = j) (k : wp d me j L r (S, xup I p z.toNatClampNeg y.toInt8.toInt32, J) Q) : wp d me i L (.int y :: .int z :: .ref p :: r) (S, I, J) Q := by
  subst hi
  refine wp_step hx rfl ?_ k
  simp only [xstep, xPrii, xS, hs]
  rw [if_neg (by simp), if_pos ⟨by first | trivial | rfl, hin⟩]
theorem w_lastore {p n : Nat} {rs : List (Option Nat)} {z : Int32} {y : Int64} (hx : me.2.2.2.2.2.2[i]? = some (pc, .lastore, len, ts, a, b, c, lk, v)) (hs : S[p]? = some (101, n, rs)) (hin : ¬ (z < 0 ∨ n ≤ z.toNatClampNeg)) (hi : i + 1 = j) (k : wp d me j L r (S, I, xup J p z.toNatClampNeg y) Q) : wp d me i L (.long y :: .int z :: .ref p :: r) (S, I, J) Q := by
  subst hi
  refine wp_step hx rfl ?_ k
  simp only [xstep, xPril, xS, hs]
  rw [if_pos ⟨by first | trivial | rfl, hin⟩]
theorem w_arraylength {p n tg : Nat} {rs : List (Option Nat)} (hx : me.2.2.2.2.2.2[i]? = some (pc, .arraylength, len, ts, a, b, c, lk, v)) (hs : S[p]? = some (tg, n, rs)) (htg : decide (100 ≤ tg ∧ tg ≤ 104) = true) (hi : i + 1 = j) (k : wp d me j L (.int (Int32.ofNat n) :: r) (S, I, J) Q) : wp d me i L (.ref p :: r) (S, I, J) Q := by
  subst hi
  refine wp_step hx rfl ?_ k
  simp only [xstep, xPr, xS, hs]
  rw [if_pos (of_decide_eq_true htg)]
theorem l1_0 {a0 : Option Value} {T : xL} {z : Value} : xst1 (a0 :: T) 0 z = some (some z :: T) := by
  simp [xst1]
theorem l2_0 {a0 a1 : Option Value} {T : xL} {z : Value} : xst2 (a0 :: a1 :: T) 0 z = some (some z :: none :: T) := by
  simp [xst2]
theorem l1_1 {a0 a1 : Option Value} {T : xL} {z : Value} (hp : xlong a0 = false) : xst1 (a0 :: a1 :: T) 1 z = some (a0 :: some z :: T) := by
  simp [xst1, hp]
theorem l2_1 {a0 a1 a2 : Option Value} {T : xL} {z : Value} (hp : xlong a0 = false) : xst2 (a0 :: a1 :: a2 :: T) 1 z = some (a0 :: some z :: none :: T) := by
  simp [xst2, hp]
theorem l1_2 {a0 a1 a2 : Option Value} {T : xL} {z : Value} (hp : xlong a1 = false) : xst1 (a0 :: a1 :: a2 :: T) 2 z = some (a0 :: a1 :: some z :: T) := by
  simp [xst1, hp]
theorem l2_2 {a0 a1 a2 a3 : Option Value} {T : xL} {z : Value} (hp : xlong a1 = false) : xst2 (a0 :: a1 :: a2 :: a3 :: T) 2 z = some (a0 :: a1 :: some z :: none :: T) := by
  simp [xst2, hp]
theorem l1_3 {a0 a1 a2 a3 : Option Value} {T : xL} {z : Value} (hp : xlong a2 = false) : xst1 (a0 :: a1 :: a2 :: a3 :: T) 3 z = some (a0 :: a1 :: a2 :: some z :: T) := by
  simp [xst1, hp]
theorem l2_3 {a0 a1 a2 a3 a4 : Option Value} {T : xL} {z : Value} (hp : xlong a2 = false) : xst2 (a0 :: a1 :: a2 :: a3 :: a4 :: T) 3 z = some (a0 :: a1 :: a2 :: some z :: none :: T) := by
  simp [xst2, hp]
theorem l1_4 {a0 a1 a2 a3 a4 : Option Value} {T : xL} {z : Value} (hp : xlong a3 = false) : xst1 (a0 :: a1 :: a2 :: a3 :: a4 :: T) 4 z = some (a0 :: a1 :: a2 :: a3 :: some z :: T) := by
  simp [xst1, hp]
theorem l2_4 {a0 a1 a2 a3 a4 a5 : Option Value} {T : xL} {z : Value} (hp : xlong a3 = false) : xst2 (a0 :: a1 :: a2 :: a3 :: a4 :: a5 :: T) 4 z = some (a0 :: a1 :: a2 :: a3 :: some z :: none :: T) := by
  simp [xst2, hp]
theorem l1_5 {a0 a1 a2 a3 a4 a5 : Option Value} {T : xL} {z : Value} (hp : xlong a4 = false) : xst1 (a0 :: a1 :: a2 :: a3 :: a4 :: a5 :: T) 5 z = some (a0 :: a1 :: a2 :: a3 :: a4 :: some z :: T) := by
  simp [xst1, hp]
theorem l2_5 {a0 a1 a2 a3 a4 a5 a6 : Option Value} {T : xL} {z : Value} (hp : xlong a4 = false) : xst2 (a0 :: a1 :: a2 :: a3 :: a4 :: a5 :: a6 :: T) 5 z = some (a0 :: a1 :: a2 :: a3 :: a4 :: some z :: none :: T) := by
  simp [xst2, hp]
theorem l1_6 {a0 a1 a2 a3 a4 a5 a6 : Option Value} {T : xL} {z : Value} (hp : xlong a5 = false) : xst1 (a0 :: a1 :: a2 :: a3 :: a4 :: a5 :: a6 :: T) 6 z = some (a0 :: a1 :: a2 :: a3 :: a4 :: a5 :: some z :: T) := by
  simp [xst1, hp]
theorem l2_6 {a0 a1 a2 a3 a4 a5 a6 a7 : Option Value} {T : xL} {z : Value} (hp : xlong a5 = false) : xst2 (a0 :: a1 :: a2 :: a3 :: a4 :: a5 :: a6 :: a7 :: T) 6 z = some (a0 :: a1 :: a2 :: a3 :: a4 :: a5 :: some z :: none :: T) := by
  simp [xst2, hp]
theorem l1_7 {a0 a1 a2 a3 a4 a5 a6 a7 : Option Value} {T : xL} {z : Value} (hp : xlong a6 = false) : xst1 (a0 :: a1 :: a2 :: a3 :: a4 :: a5 :: a6 :: a7 :: T) 7 z = some (a0 :: a1 :: a2 :: a3 :: a4 :: a5 :: a6 :: some z :: T) := by
  simp [xst1, hp]
theorem l2_7 {a0 a1 a2 a3 a4 a5 a6 a7 a8 : Option Value} {T : xL} {z : Value} (hp : xlong a6 = false) : xst2 (a0 :: a1 :: a2 :: a3 :: a4 :: a5 :: a6 :: a7 :: a8 :: T) 7 z = some (a0 :: a1 :: a2 :: a3 :: a4 :: a5 :: a6 :: some z :: none :: T) := by
  simp [xst2, hp]
theorem l1_8 {a0 a1 a2 a3 a4 a5 a6 a7 a8 : Option Value} {T : xL} {z : Value} (hp : xlong a7 = false) : xst1 (a0 :: a1 :: a2 :: a3 :: a4 :: a5 :: a6 :: a7 :: a8 :: T) 8 z = some (a0 :: a1 :: a2 :: a3 :: a4 :: a5 :: a6 :: a7 :: some z :: T) := by
  simp [xst1, hp]
theorem l2_8 {a0 a1 a2 a3 a4 a5 a6 a7 a8 a9 : Option Value} {T : xL} {z : Value} (hp : xlong a7 = false) : xst2 (a0 :: a1 :: a2 :: a3 :: a4 :: a5 :: a6 :: a7 :: a8 :: a9 :: T) 8 z = some (a0 :: a1 :: a2 :: a3 :: a4 :: a5 :: a6 :: a7 :: some z :: none :: T) := by
  simp [xst2, hp]
theorem l1_9 {a0 a1 a2 a3 a4 a5 a6 a7 a8 a9 : Option Value} {T : xL} {z : Value} (hp : xlong a8 = false) : xst1 (a0 :: a1 :: a2 :: a3 :: a4 :: a5 :: a6 :: a7 :: a8 :: a9 :: T) 9 z = some (a0 :: a1 :: a2 :: a3 :: a4 :: a5 :: a6 :: a7 :: a8 :: some z :: T) := by
  simp [xst1, hp]
theorem l2_9 {a0 a1 a2 a3 a4 a5 a6 a7 a8 a9 a10 : Option Value} {T : xL} {z : Value} (hp : xlong a8 = false) : xst2 (a0 :: a1 :: a2 :: a3 :: a4 :: a5 :: a6 :: a7 :: a8 :: a9 :: a10 :: T) 9 z = some (a0 :: a1 :: a2 :: a3 :: a4 :: a5 :: a6 :: a7 :: a8 :: some z :: none :: T) := by
  simp [xst2, hp]
theorem l1_10 {a0 a1 a2 a3 a4 a5 a6 a7 a8 a9 a10 : Option Value} {T : xL} {z : Value} (hp : xlong a9 = false) : xst1 (a0 :: a1 :: a2 :: a3 :: a4 :: a5 :: a6 :: a7 :: a8 :: a9 :: a10 :: T) 10 z = some (a0 :: a1 :: a2 :: a3 :: a4 :: a5 :: a6 :: a7 :: a8 :: a9 :: some z :: T) := by
  simp [xst1, hp]
theorem l2_10 {a0 a1 a2 a3 a4 a5 a6 a7 a8 a9 a10 a11 : Option Value} {T : xL} {z : Value} (hp : xlong a9 = false) : xst2 (a0 :: a1 :: a2 :: a3 :: a4 :: a5 :: a6 :: a7 :: a8 :: a9 :: a10 :: a11 :: T) 10 z = some (a0 :: a1 :: a2 :: a3 :: a4 :: a5 :: a6 :: a7 :: a8 :: a9 :: some z :: none :: T) := by
  simp [xst2, hp]
theorem l1_11 {a0 a1 a2 a3 a4 a5 a6 a7 a8 a9 a10 a11 : Option Value} {T : xL} {z : Value} (hp : xlong a10 = false) : xst1 (a0 :: a1 :: a2 :: a3 :: a4 :: a5 :: a6 :: a7 :: a8 :: a9 :: a10 :: a11 :: T) 11 z = some (a0 :: a1 :: a2 :: a3 :: a4 :: a5 :: a6 :: a7 :: a8 :: a9 :: a10 :: some z :: T) := by
  simp [xst1, hp]
theorem l2_11 {a0 a1 a2 a3 a4 a5 a6 a7 a8 a9 a10 a11 a12 : Option Value} {T : xL} {z : Value} (hp : xlong a10 = false) : xst2 (a0 :: a1 :: a2 :: a3 :: a4 :: a5 :: a6 :: a7 :: a8 :: a9 :: a10 :: a11 :: a12 :: T) 11 z = some (a0 :: a1 :: a2 :: a3 :: a4 :: a5 :: a6 :: a7 :: a8 :: a9 :: a10 :: some z :: none :: T) := by
  simp [xst2, hp]
theorem l1_12 {a0 a1 a2 a3 a4 a5 a6 a7 a8 a9 a10 a11 a12 : Option Value} {T : xL} {z : Value} (hp : xlong a11 = false) : xst1 (a0 :: a1 :: a2 :: a3 :: a4 :: a5 :: a6 :: a7 :: a8 :: a9 :: a10 :: a11 :: a12 :: T) 12 z = some (a0 :: a1 :: a2 :: a3 :: a4 :: a5 :: a6 :: a7 :: a8 :: a9 :: a10 :: a11 :: some z :: T) := by
  simp [xst1, hp]
theorem l2_12 {a0 a1 a2 a3 a4 a5 a6 a7 a8 a9 a10 a11 a12 a13 : Option Value} {T : xL} {z : Value} (hp : xlong a11 = false) : xst2 (a0 :: a1 :: a2 :: a3 :: a4 :: a5 :: a6 :: a7 :: a8 :: a9 :: a10 :: a11 :: a12 :: a13 :: T) 12 z = some (a0 :: a1 :: a2 :: a3 :: a4 :: a5 :: a6 :: a7 :: a8 :: a9 :: a10 :: a11 :: some z :: none :: T) := by
  simp [xst2, hp]
theorem l1_13 {a0 a1 a2 a3 a4 a5 a6 a7 a8 a9 a10 a11 a12 a13 : Option Value} {T : xL} {z : Value} (hp : xlong a12 = false) : xst1 (a0 :: a1 :: a2 :: a3 :: a4 :: a5 :: a6 :: a7 :: a8 :: a9 :: a10 :: a11 :: a12 :: a13 :: T) 13 z = some (a0 :: a1 :: a2 :: a3 :: a4 :: a5 :: a6 :: a7 :: a8 :: a9 :: a10 :: a11 :: a12 :: some z :: T) := by
  simp [xst1, hp]
theorem l2_13 {a0 a1 a2 a3 a4 a5 a6 a7 a8 a9 a10 a11 a12 a13 a14 : Option Value} {T : xL} {z : Value} (hp : xlong a12 = false) : xst2 (a0 :: a1 :: a2 :: a3 :: a4 :: a5 :: a6 :: a7 :: a8 :: a9 :: a10 :: a11 :: a12 :: a13 :: a14 :: T) 13 z = some (a0 :: a1 :: a2 :: a3 :: a4 :: a5 :: a6 :: a7 :: a8 :: a9 :: a10 :: a11 :: a12 :: some z :: none :: T) := by
  simp [xst2, hp]
theorem l1_14 {a0 a1 a2 a3 a4 a5 a6 a7 a8 a9 a10 a11 a12 a13 a14 : Option Value} {T : xL} {z : Value} (hp : xlong a13 = false) : xst1 (a0 :: a1 :: a2 :: a3 :: a4 :: a5 :: a6 :: a7 :: a8 :: a9 :: a10 :: a11 :: a12 :: a13 :: a14 :: T) 14 z = some (a0 :: a1 :: a2 :: a3 :: a4 :: a5 :: a6 :: a7 :: a8 :: a9 :: a10 :: a11 :: a12 :: a13 :: some z :: T) := by
  simp [xst1, hp]
theorem l2_14 {a0 a1 a2 a3 a4 a5 a6 a7 a8 a9 a10 a11 a12 a13 a14 a15 : Option Value} {T : xL} {z : Value} (hp : xlong a13 = false) : xst2 (a0 :: a1 :: a2 :: a3 :: a4 :: a5 :: a6 :: a7 :: a8 :: a9 :: a10 :: a11 :: a12 :: a13 :: a14 :: a15 :: T) 14 z = some (a0 :: a1 :: a2 :: a3 :: a4 :: a5 :: a6 :: a7 :: a8 :: a9 :: a10 :: a11 :: a12 :: a13 :: some z :: none :: T) := by
  simp [xst2, hp]
theorem l1_15 {a0 a1 a2 a3 a4 a5 a6 a7 a8 a9 a10 a11 a12 a13 a14 a15 : Option Value} {T : xL} {z : Value} (hp : xlong a14 = false) : xst1 (a0 :: a1 :: a2 :: a3 :: a4 :: a5 :: a6 :: a7 :: a8 :: a9 :: a10 :: a11 :: a12 :: a13 :: a14 :: a15 :: T) 15 z = some (a0 :: a1 :: a2 :: a3 :: a4 :: a5 :: a6 :: a7 :: a8 :: a9 :: a10 :: a11 :: a12 :: a13 :: a14 :: some z :: T) := by
  simp [xst1, hp]
theorem l2_15 {a0 a1 a2 a3 a4 a5 a6 a7 a8 a9 a10 a11 a12 a13 a14 a15 a16 : Option Value} {T : xL} {z : Value} (hp : xlong a14 = false) : xst2 (a0 :: a1 :: a2 :: a3 :: a4 :: a5 :: a6 :: a7 :: a8 :: a9 :: a10 :: a11 :: a12 :: a13 :: a14 :: a15 :: a16 :: T) 15 z = some (a0 :: a1 :: a2 :: a3 :: a4 :: a5 :: a6 :: a7 :: a8 :: a9 :: a10 :: a11 :: a12 :: a13 :: a14 :: some z :: none :: T) := by
  simp [xst2, hp]
theorem wc_A_A {ins : Instr} {me2 : xMe} {T : xL} {z0 : Nat} (hx : me.2.2.2.2.2.2[i]? = some (pc, ins, len, ts, a, b, c, lk, v)) (h1 : xend2 ins = 3) (hcf : decide (c ≤ 1) = true) (hme : xmt[a]? = some me2) (hT : List.replicate (me2.2.2.1 - 1) none = T) (hle : decide (1 ≤ me2.2.2.1) = true) (hna : xna b me2 = 1) (hcat : decide ((r.map fun v => v.category).sum ≤ 8) = true) (hrc : xrecv ts b me2 (.ref z0 :: r) M = true) (hi : i + 1 = j) (k : wp d me2 0 (some (.ref z0) :: T) [] M (fun q M2 => ∃ z : Nat, q = some (.ref z) ∧ wp (d + 1) me j L (.ref z :: r) M2 Q)) : wp (d + 1) me i L (.ref z0 :: r) M Q := by
  subst hi
  subst hT
  refine wp_call (av := [.ref z0]) (rest := r) hx h1 (of_decide_eq_true hcf) hme rfl (by rw [hna]; rfl) (of_decide_eq_true hcat) (of_decide_eq_true hle) hrc ?_
  refine wp_mono k (fun q M2 hq => ?_)
  obtain ⟨z, rfl, hq⟩ := hq
  exact hq
theorem wc_A_I {ins : Instr} {me2 : xMe} {T : xL} {z0 : Nat} (hx : me.2.2.2.2.2.2[i]? = some (pc, ins, len, ts, a, b, c, lk, v)) (h1 : xend2 ins = 3) (hcf : decide (c ≤ 1) = true) (hme : xmt[a]? = some me2) (hT : List.replicate (me2.2.2.1 - 1) none = T) (hle : decide (1 ≤ me2.2.2.1) = true) (hna : xna b me2 = 1) (hcat : decide ((r.map fun v => v.category).sum ≤ 8) = true) (hrc : xrecv ts b me2 (.ref z0 :: r) M = true) (hi : i + 1 = j) (k : wp d me2 0 (some (.ref z0) :: T) [] M (fun q M2 => ∃ z : Int32, q = some (.int z) ∧ wp (d + 1) me j L (.int z :: r) M2 Q)) : wp (d + 1) me i L (.ref z0 :: r) M Q := by
  subst hi
  subst hT
  refine wp_call (av := [.ref z0]) (rest := r) hx h1 (of_decide_eq_true hcf) hme rfl (by rw [hna]; rfl) (of_decide_eq_true hcat) (of_decide_eq_true hle) hrc ?_
  refine wp_mono k (fun q M2 hq => ?_)
  obtain ⟨z, rfl, hq⟩ := hq
  exact hq
theorem wc_A_V {ins : Instr} {me2 : xMe} {T : xL} {z0 : Nat} (hx : me.2.2.2.2.2.2[i]? = some (pc, ins, len, ts, a, b, c, lk, v)) (h1 : xend2 ins = 3) (hcf : decide (c ≤ 1) = true) (hme : xmt[a]? = some me2) (hT : List.replicate (me2.2.2.1 - 1) none = T) (hle : decide (1 ≤ me2.2.2.1) = true) (hna : xna b me2 = 1) (hcat : decide ((r.map fun v => v.category).sum ≤ 8) = true) (hrc : xrecv ts b me2 (.ref z0 :: r) M = true) (hi : i + 1 = j) (k : wp d me2 0 (some (.ref z0) :: T) [] M (fun q M2 => q = none ∧ wp (d + 1) me j L r M2 Q)) : wp (d + 1) me i L (.ref z0 :: r) M Q := by
  subst hi
  subst hT
  refine wp_call (av := [.ref z0]) (rest := r) hx h1 (of_decide_eq_true hcf) hme rfl (by rw [hna]; rfl) (of_decide_eq_true hcat) (of_decide_eq_true hle) hrc ?_
  refine wp_mono k (fun q M2 hq => ?_)
  obtain ⟨rfl, hq⟩ := hq
  exact hq
theorem wc_AA_I {ins : Instr} {me2 : xMe} {T : xL} {z0 : Nat} {z1 : Nat} (hx : me.2.2.2.2.2.2[i]? = some (pc, ins, len, ts, a, b, c, lk, v)) (h1 : xend2 ins = 3) (hcf : decide (c ≤ 1) = true) (hme : xmt[a]? = some me2) (hT : List.replicate (me2.2.2.1 - 2) none = T) (hle : decide (2 ≤ me2.2.2.1) = true) (hna : xna b me2 = 2) (hcat : decide ((r.map fun v => v.category).sum ≤ 8) = true) (hrc : xrecv ts b me2 (.ref z1 :: .ref z0 :: r) M = true) (hi : i + 1 = j) (k : wp d me2 0 (some (.ref z0) :: some (.ref z1) :: T) [] M (fun q M2 => ∃ z : Int32, q = some (.int z) ∧ wp (d + 1) me j L (.int z :: r) M2 Q)) : wp (d + 1) me i L (.ref z1 :: .ref z0 :: r) M Q := by
  subst hi
  subst hT
  refine wp_call (av := [.ref z0, .ref z1]) (rest := r) hx h1 (of_decide_eq_true hcf) hme rfl (by rw [hna]; rfl) (of_decide_eq_true hcat) (of_decide_eq_true hle) hrc ?_
  refine wp_mono k (fun q M2 hq => ?_)
  obtain ⟨z, rfl, hq⟩ := hq
  exact hq
theorem wc_AA_V {ins : Instr} {me2 : xMe} {T : xL} {z0 : Nat} {z1 : Nat} (hx : me.2.2.2.2.2.2[i]? = some (pc, ins, len, ts, a, b, c, lk, v)) (h1 : xend2 ins = 3) (hcf : decide (c ≤ 1) = true) (hme : xmt[a]? = some me2) (hT : List.replicate (me2.2.2.1 - 2) none = T) (hle : decide (2 ≤ me2.2.2.1) = true) (hna : xna b me2 = 2) (hcat : decide ((r.map fun v => v.category).sum ≤ 8) = true) (hrc : xrecv ts b me2 (.ref z1 :: .ref z0 :: r) M = true) (hi : i + 1 = j) (k : wp d me2 0 (some (.ref z0) :: some (.ref z1) :: T) [] M (fun q M2 => q = none ∧ wp (d + 1) me j L r M2 Q)) : wp (d + 1) me i L (.ref z1 :: .ref z0 :: r) M Q := by
  subst hi
  subst hT
  refine wp_call (av := [.ref z0, .ref z1]) (rest := r) hx h1 (of_decide_eq_true hcf) hme rfl (by rw [hna]; rfl) (of_decide_eq_true hcat) (of_decide_eq_true hle) hrc ?_
  refine wp_mono k (fun q M2 hq => ?_)
  obtain ⟨rfl, hq⟩ := hq
  exact hq
theorem wc_AAA_V {ins : Instr} {me2 : xMe} {T : xL} {z0 : Nat} {z1 : Nat} {z2 : Nat} (hx : me.2.2.2.2.2.2[i]? = some (pc, ins, len, ts, a, b, c, lk, v)) (h1 : xend2 ins = 3) (hcf : decide (c ≤ 1) = true) (hme : xmt[a]? = some me2) (hT : List.replicate (me2.2.2.1 - 3) none = T) (hle : decide (3 ≤ me2.2.2.1) = true) (hna : xna b me2 = 3) (hcat : decide ((r.map fun v => v.category).sum ≤ 8) = true) (hrc : xrecv ts b me2 (.ref z2 :: .ref z1 :: .ref z0 :: r) M = true) (hi : i + 1 = j) (k : wp d me2 0 (some (.ref z0) :: some (.ref z1) :: some (.ref z2) :: T) [] M (fun q M2 => q = none ∧ wp (d + 1) me j L r M2 Q)) : wp (d + 1) me i L (.ref z2 :: .ref z1 :: .ref z0 :: r) M Q := by
  subst hi
  subst hT
  refine wp_call (av := [.ref z0, .ref z1, .ref z2]) (rest := r) hx h1 (of_decide_eq_true hcf) hme rfl (by rw [hna]; rfl) (of_decide_eq_true hcat) (of_decide_eq_true hle) hrc ?_
  refine wp_mono k (fun q M2 hq => ?_)
  obtain ⟨rfl, hq⟩ := hq
  exact hq
theorem wc_AAAAA_V {ins : Instr} {me2 : xMe} {T : xL} {z0 : Nat} {z1 : Nat} {z2 : Nat} {z3 : Nat} {z4 : Nat} (hx : me.2.2.2.2.2.2[i]? = some (pc, ins, len, ts, a, b, c, lk, v)) (h1 : xend2 ins = 3) (hcf : decide (c ≤ 1) = true) (hme : xmt[a]? = some me2) (hT : List.replicate (me2.2.2.1 - 5) none = T) (hle : decide (5 ≤ me2.2.2.1) = true) (hna : xna b me2 = 5) (hcat : decide ((r.map fun v => v.category).sum ≤ 8) = true) (hrc : xrecv ts b me2 (.ref z4 :: .ref z3 :: .ref z2 :: .ref z1 :: .ref z0 :: r) M = true) (hi : i + 1 = j) (k : wp d me2 0 (some (.ref z0) :: some (.ref z1) :: some (.ref z2) :: some (.ref z3) :: some (.ref z4) :: T) [] M (fun q M2 => q = none ∧ wp (d + 1) me j L r M2 Q)) : wp (d + 1) me i L (.ref z4 :: .ref z3 :: .ref z2 :: .ref z1 :: .ref z0 :: r) M Q := by
  subst hi
  subst hT
  refine wp_call (av := [.ref z0, .ref z1, .ref z2, .ref z3, .ref z4]) (rest := r) hx h1 (of_decide_eq_true hcf) hme rfl (by rw [hna]; rfl) (of_decide_eq_true hcat) (of_decide_eq_true hle) hrc ?_
  refine wp_mono k (fun q M2 hq => ?_)
  obtain ⟨rfl, hq⟩ := hq
  exact hq
theorem wc_AAI_I {ins : Instr} {me2 : xMe} {T : xL} {z0 : Nat} {z1 : Nat} {z2 : Int32} (hx : me.2.2.2.2.2.2[i]? = some (pc, ins, len, ts, a, b, c, lk, v)) (h1 : xend2 ins = 3) (hcf : decide (c ≤ 1) = true) (hme : xmt[a]? = some me2) (hT : List.replicate (me2.2.2.1 - 3) none = T) (hle : decide (3 ≤ me2.2.2.1) = true) (hna : xna b me2 = 3) (hcat : decide ((r.map fun v => v.category).sum ≤ 8) = true) (hrc : xrecv ts b me2 (.int z2 :: .ref z1 :: .ref z0 :: r) M = true) (hi : i + 1 = j) (k : wp d me2 0 (some (.ref z0) :: some (.ref z1) :: some (.int z2) :: T) [] M (fun q M2 => ∃ z : Int32, q = some (.int z) ∧ wp (d + 1) me j L (.int z :: r) M2 Q)) : wp (d + 1) me i L (.int z2 :: .ref z1 :: .ref z0 :: r) M Q := by
  subst hi
  subst hT
  refine wp_call (av := [.ref z0, .ref z1, .int z2]) (rest := r) hx h1 (of_decide_eq_true hcf) hme rfl (by rw [hna]; rfl) (of_decide_eq_true hcat) (of_decide_eq_true hle) hrc ?_
  refine wp_mono k (fun q M2 hq => ?_)
  obtain ⟨z, rfl, hq⟩ := hq
  exact hq
theorem wc_AI_A {ins : Instr} {me2 : xMe} {T : xL} {z0 : Nat} {z1 : Int32} (hx : me.2.2.2.2.2.2[i]? = some (pc, ins, len, ts, a, b, c, lk, v)) (h1 : xend2 ins = 3) (hcf : decide (c ≤ 1) = true) (hme : xmt[a]? = some me2) (hT : List.replicate (me2.2.2.1 - 2) none = T) (hle : decide (2 ≤ me2.2.2.1) = true) (hna : xna b me2 = 2) (hcat : decide ((r.map fun v => v.category).sum ≤ 8) = true) (hrc : xrecv ts b me2 (.int z1 :: .ref z0 :: r) M = true) (hi : i + 1 = j) (k : wp d me2 0 (some (.ref z0) :: some (.int z1) :: T) [] M (fun q M2 => ∃ z : Nat, q = some (.ref z) ∧ wp (d + 1) me j L (.ref z :: r) M2 Q)) : wp (d + 1) me i L (.int z1 :: .ref z0 :: r) M Q := by
  subst hi
  subst hT
  refine wp_call (av := [.ref z0, .int z1]) (rest := r) hx h1 (of_decide_eq_true hcf) hme rfl (by rw [hna]; rfl) (of_decide_eq_true hcat) (of_decide_eq_true hle) hrc ?_
  refine wp_mono k (fun q M2 hq => ?_)
  obtain ⟨z, rfl, hq⟩ := hq
  exact hq
theorem wc_AI_I {ins : Instr} {me2 : xMe} {T : xL} {z0 : Nat} {z1 : Int32} (hx : me.2.2.2.2.2.2[i]? = some (pc, ins, len, ts, a, b, c, lk, v)) (h1 : xend2 ins = 3) (hcf : decide (c ≤ 1) = true) (hme : xmt[a]? = some me2) (hT : List.replicate (me2.2.2.1 - 2) none = T) (hle : decide (2 ≤ me2.2.2.1) = true) (hna : xna b me2 = 2) (hcat : decide ((r.map fun v => v.category).sum ≤ 8) = true) (hrc : xrecv ts b me2 (.int z1 :: .ref z0 :: r) M = true) (hi : i + 1 = j) (k : wp d me2 0 (some (.ref z0) :: some (.int z1) :: T) [] M (fun q M2 => ∃ z : Int32, q = some (.int z) ∧ wp (d + 1) me j L (.int z :: r) M2 Q)) : wp (d + 1) me i L (.int z1 :: .ref z0 :: r) M Q := by
  subst hi
  subst hT
  refine wp_call (av := [.ref z0, .int z1]) (rest := r) hx h1 (of_decide_eq_true hcf) hme rfl (by rw [hna]; rfl) (of_decide_eq_true hcat) (of_decide_eq_true hle) hrc ?_
  refine wp_mono k (fun q M2 hq => ?_)
  obtain ⟨z, rfl, hq⟩ := hq
  exact hq
theorem wc_AI_J {ins : Instr} {me2 : xMe} {T : xL} {z0 : Nat} {z1 : Int32} (hx : me.2.2.2.2.2.2[i]? = some (pc, ins, len, ts, a, b, c, lk, v)) (h1 : xend2 ins = 3) (hcf : decide (c ≤ 1) = true) (hme : xmt[a]? = some me2) (hT : List.replicate (me2.2.2.1 - 2) none = T) (hle : decide (2 ≤ me2.2.2.1) = true) (hna : xna b me2 = 2) (hcat : decide ((r.map fun v => v.category).sum ≤ 8) = true) (hrc : xrecv ts b me2 (.int z1 :: .ref z0 :: r) M = true) (hi : i + 1 = j) (k : wp d me2 0 (some (.ref z0) :: some (.int z1) :: T) [] M (fun q M2 => ∃ z : Int64, q = some (.long z) ∧ wp (d + 1) me j L (.long z :: r) M2 Q)) : wp (d + 1) me i L (.int z1 :: .ref z0 :: r) M Q := by
  subst hi
  subst hT
  refine wp_call (av := [.ref z0, .int z1]) (rest := r) hx h1 (of_decide_eq_true hcf) hme rfl (by rw [hna]; rfl) (of_decide_eq_true hcat) (of_decide_eq_true hle) hrc ?_
  refine wp_mono k (fun q M2 hq => ?_)
  obtain ⟨z, rfl, hq⟩ := hq
  exact hq
theorem wc_AI_V {ins : Instr} {me2 : xMe} {T : xL} {z0 : Nat} {z1 : Int32} (hx : me.2.2.2.2.2.2[i]? = some (pc, ins, len, ts, a, b, c, lk, v)) (h1 : xend2 ins = 3) (hcf : decide (c ≤ 1) = true) (hme : xmt[a]? = some me2) (hT : List.replicate (me2.2.2.1 - 2) none = T) (hle : decide (2 ≤ me2.2.2.1) = true) (hna : xna b me2 = 2) (hcat : decide ((r.map fun v => v.category).sum ≤ 8) = true) (hrc : xrecv ts b me2 (.int z1 :: .ref z0 :: r) M = true) (hi : i + 1 = j) (k : wp d me2 0 (some (.ref z0) :: some (.int z1) :: T) [] M (fun q M2 => q = none ∧ wp (d + 1) me j L r M2 Q)) : wp (d + 1) me i L (.int z1 :: .ref z0 :: r) M Q := by
  subst hi
  subst hT
  refine wp_call (av := [.ref z0, .int z1]) (rest := r) hx h1 (of_decide_eq_true hcf) hme rfl (by rw [hna]; rfl) (of_decide_eq_true hcat) (of_decide_eq_true hle) hrc ?_
  refine wp_mono k (fun q M2 hq => ?_)
  obtain ⟨rfl, hq⟩ := hq
  exact hq
theorem wc_AIA_V {ins : Instr} {me2 : xMe} {T : xL} {z0 : Nat} {z1 : Int32} {z2 : Nat} (hx : me.2.2.2.2.2.2[i]? = some (pc, ins, len, ts, a, b, c, lk, v)) (h1 : xend2 ins = 3) (hcf : decide (c ≤ 1) = true) (hme : xmt[a]? = some me2) (hT : List.replicate (me2.2.2.1 - 3) none = T) (hle : decide (3 ≤ me2.2.2.1) = true) (hna : xna b me2 = 3) (hcat : decide ((r.map fun v => v.category).sum ≤ 8) = true) (hrc : xrecv ts b me2 (.ref z2 :: .int z1 :: .ref z0 :: r) M = true) (hi : i + 1 = j) (k : wp d me2 0 (some (.ref z0) :: some (.int z1) :: some (.ref z2) :: T) [] M (fun q M2 => q = none ∧ wp (d + 1) me j L r M2 Q)) : wp (d + 1) me i L (.ref z2 :: .int z1 :: .ref z0 :: r) M Q := by
  subst hi
  subst hT
  refine wp_call (av := [.ref z0, .int z1, .ref z2]) (rest := r) hx h1 (of_decide_eq_true hcf) hme rfl (by rw [hna]; rfl) (of_decide_eq_true hcat) (of_decide_eq_true hle) hrc ?_
  refine wp_mono k (fun q M2 hq => ?_)
  obtain ⟨rfl, hq⟩ := hq
  exact hq
theorem wc_AII_I {ins : Instr} {me2 : xMe} {T : xL} {z0 : Nat} {z1 : Int32} {z2 : Int32} (hx : me.2.2.2.2.2.2[i]? = some (pc, ins, len, ts, a, b, c, lk, v)) (h1 : xend2 ins = 3) (hcf : decide (c ≤ 1) = true) (hme : xmt[a]? = some me2) (hT : List.replicate (me2.2.2.1 - 3) none = T) (hle : decide (3 ≤ me2.2.2.1) = true) (hna : xna b me2 = 3) (hcat : decide ((r.map fun v => v.category).sum ≤ 8) = true) (hrc : xrecv ts b me2 (.int z2 :: .int z1 :: .ref z0 :: r) M = true) (hi : i + 1 = j) (k : wp d me2 0 (some (.ref z0) :: some (.int z1) :: some (.int z2) :: T) [] M (fun q M2 => ∃ z : Int32, q = some (.int z) ∧ wp (d + 1) me j L (.int z :: r) M2 Q)) : wp (d + 1) me i L (.int z2 :: .int z1 :: .ref z0 :: r) M Q := by
  subst hi
  subst hT
  refine wp_call (av := [.ref z0, .int z1, .int z2]) (rest := r) hx h1 (of_decide_eq_true hcf) hme rfl (by rw [hna]; rfl) (of_decide_eq_true hcat) (of_decide_eq_true hle) hrc ?_
  refine wp_mono k (fun q M2 hq => ?_)
  obtain ⟨z, rfl, hq⟩ := hq
  exact hq
theorem wc_AII_V {ins : Instr} {me2 : xMe} {T : xL} {z0 : Nat} {z1 : Int32} {z2 : Int32} (hx : me.2.2.2.2.2.2[i]? = some (pc, ins, len, ts, a, b, c, lk, v)) (h1 : xend2 ins = 3) (hcf : decide (c ≤ 1) = true) (hme : xmt[a]? = some me2) (hT : List.replicate (me2.2.2.1 - 3) none = T) (hle : decide (3 ≤ me2.2.2.1) = true) (hna : xna b me2 = 3) (hcat : decide ((r.map fun v => v.category).sum ≤ 8) = true) (hrc : xrecv ts b me2 (.int z2 :: .int z1 :: .ref z0 :: r) M = true) (hi : i + 1 = j) (k : wp d me2 0 (some (.ref z0) :: some (.int z1) :: some (.int z2) :: T) [] M (fun q M2 => q = none ∧ wp (d + 1) me j L r M2 Q)) : wp (d + 1) me i L (.int z2 :: .int z1 :: .ref z0 :: r) M Q := by
  subst hi
  subst hT
  refine wp_call (av := [.ref z0, .int z1, .int z2]) (rest := r) hx h1 (of_decide_eq_true hcf) hme rfl (by rw [hna]; rfl) (of_decide_eq_true hcat) (of_decide_eq_true hle) hrc ?_
  refine wp_mono k (fun q M2 hq => ?_)
  obtain ⟨rfl, hq⟩ := hq
  exact hq
theorem wc_AIII_I {ins : Instr} {me2 : xMe} {T : xL} {z0 : Nat} {z1 : Int32} {z2 : Int32} {z3 : Int32} (hx : me.2.2.2.2.2.2[i]? = some (pc, ins, len, ts, a, b, c, lk, v)) (h1 : xend2 ins = 3) (hcf : decide (c ≤ 1) = true) (hme : xmt[a]? = some me2) (hT : List.replicate (me2.2.2.1 - 4) none = T) (hle : decide (4 ≤ me2.2.2.1) = true) (hna : xna b me2 = 4) (hcat : decide ((r.map fun v => v.category).sum ≤ 8) = true) (hrc : xrecv ts b me2 (.int z3 :: .int z2 :: .int z1 :: .ref z0 :: r) M = true) (hi : i + 1 = j) (k : wp d me2 0 (some (.ref z0) :: some (.int z1) :: some (.int z2) :: some (.int z3) :: T) [] M (fun q M2 => ∃ z : Int32, q = some (.int z) ∧ wp (d + 1) me j L (.int z :: r) M2 Q)) : wp (d + 1) me i L (.int z3 :: .int z2 :: .int z1 :: .ref z0 :: r) M Q := by
  subst hi
  subst hT
  refine wp_call (av := [.ref z0, .int z1, .int z2, .int z3]) (rest := r) hx h1 (of_decide_eq_true hcf) hme rfl (by rw [hna]; rfl) (of_decide_eq_true hcat) (of_decide_eq_true hle) hrc ?_
  refine wp_mono k (fun q M2 hq => ?_)
  obtain ⟨z, rfl, hq⟩ := hq
  exact hq
theorem wc_AIII_V {ins : Instr} {me2 : xMe} {T : xL} {z0 : Nat} {z1 : Int32} {z2 : Int32} {z3 : Int32} (hx : me.2.2.2.2.2.2[i]? = some (pc, ins, len, ts, a, b, c, lk, v)) (h1 : xend2 ins = 3) (hcf : decide (c ≤ 1) = true) (hme : xmt[a]? = some me2) (hT : List.replicate (me2.2.2.1 - 4) none = T) (hle : decide (4 ≤ me2.2.2.1) = true) (hna : xna b me2 = 4) (hcat : decide ((r.map fun v => v.category).sum ≤ 8) = true) (hrc : xrecv ts b me2 (.int z3 :: .int z2 :: .int z1 :: .ref z0 :: r) M = true) (hi : i + 1 = j) (k : wp d me2 0 (some (.ref z0) :: some (.int z1) :: some (.int z2) :: some (.int z3) :: T) [] M (fun q M2 => q = none ∧ wp (d + 1) me j L r M2 Q)) : wp (d + 1) me i L (.int z3 :: .int z2 :: .int z1 :: .ref z0 :: r) M Q := by
  subst hi
  subst hT
  refine wp_call (av := [.ref z0, .int z1, .int z2, .int z3]) (rest := r) hx h1 (of_decide_eq_true hcf) hme rfl (by rw [hna]; rfl) (of_decide_eq_true hcat) (of_decide_eq_true hle) hrc ?_
  refine wp_mono k (fun q M2 hq => ?_)
  obtain ⟨rfl, hq⟩ := hq
  exact hq
theorem wc_AIJ_I {ins : Instr} {me2 : xMe} {T : xL} {z0 : Nat} {z1 : Int32} {z2 : Int64} (hx : me.2.2.2.2.2.2[i]? = some (pc, ins, len, ts, a, b, c, lk, v)) (h1 : xend2 ins = 3) (hcf : decide (c ≤ 1) = true) (hme : xmt[a]? = some me2) (hT : List.replicate (me2.2.2.1 - 4) none = T) (hle : decide (4 ≤ me2.2.2.1) = true) (hna : xna b me2 = 3) (hcat : decide ((r.map fun v => v.category).sum ≤ 8) = true) (hrc : xrecv ts b me2 (.long z2 :: .int z1 :: .ref z0 :: r) M = true) (hi : i + 1 = j) (k : wp d me2 0 (some (.ref z0) :: some (.int z1) :: some (.long z2) :: none :: T) [] M (fun q M2 => ∃ z : Int32, q = some (.int z) ∧ wp (d + 1) me j L (.int z :: r) M2 Q)) : wp (d + 1) me i L (.long z2 :: .int z1 :: .ref z0 :: r) M Q := by
  subst hi
  subst hT
  refine wp_call (av := [.ref z0, .int z1, .long z2]) (rest := r) hx h1 (of_decide_eq_true hcf) hme rfl (by rw [hna]; rfl) (of_decide_eq_true hcat) (of_decide_eq_true hle) hrc ?_
  refine wp_mono k (fun q M2 hq => ?_)
  obtain ⟨z, rfl, hq⟩ := hq
  exact hq
theorem wc_AJ_I {ins : Instr} {me2 : xMe} {T : xL} {z0 : Nat} {z1 : Int64} (hx : me.2.2.2.2.2.2[i]? = some (pc, ins, len, ts, a, b, c, lk, v)) (h1 : xend2 ins = 3) (hcf : decide (c ≤ 1) = true) (hme : xmt[a]? = some me2) (hT : List.replicate (me2.2.2.1 - 3) none = T) (hle : decide (3 ≤ me2.2.2.1) = true) (hna : xna b me2 = 2) (hcat : decide ((r.map fun v => v.category).sum ≤ 8) = true) (hrc : xrecv ts b me2 (.long z1 :: .ref z0 :: r) M = true) (hi : i + 1 = j) (k : wp d me2 0 (some (.ref z0) :: some (.long z1) :: none :: T) [] M (fun q M2 => ∃ z : Int32, q = some (.int z) ∧ wp (d + 1) me j L (.int z :: r) M2 Q)) : wp (d + 1) me i L (.long z1 :: .ref z0 :: r) M Q := by
  subst hi
  subst hT
  refine wp_call (av := [.ref z0, .long z1]) (rest := r) hx h1 (of_decide_eq_true hcf) hme rfl (by rw [hna]; rfl) (of_decide_eq_true hcat) (of_decide_eq_true hle) hrc ?_
  refine wp_mono k (fun q M2 hq => ?_)
  obtain ⟨z, rfl, hq⟩ := hq
  exact hq
theorem wc_AJI_I {ins : Instr} {me2 : xMe} {T : xL} {z0 : Nat} {z1 : Int64} {z2 : Int32} (hx : me.2.2.2.2.2.2[i]? = some (pc, ins, len, ts, a, b, c, lk, v)) (h1 : xend2 ins = 3) (hcf : decide (c ≤ 1) = true) (hme : xmt[a]? = some me2) (hT : List.replicate (me2.2.2.1 - 4) none = T) (hle : decide (4 ≤ me2.2.2.1) = true) (hna : xna b me2 = 3) (hcat : decide ((r.map fun v => v.category).sum ≤ 8) = true) (hrc : xrecv ts b me2 (.int z2 :: .long z1 :: .ref z0 :: r) M = true) (hi : i + 1 = j) (k : wp d me2 0 (some (.ref z0) :: some (.long z1) :: none :: some (.int z2) :: T) [] M (fun q M2 => ∃ z : Int32, q = some (.int z) ∧ wp (d + 1) me j L (.int z :: r) M2 Q)) : wp (d + 1) me i L (.int z2 :: .long z1 :: .ref z0 :: r) M Q := by
  subst hi
  subst hT
  refine wp_call (av := [.ref z0, .long z1, .int z2]) (rest := r) hx h1 (of_decide_eq_true hcf) hme rfl (by rw [hna]; rfl) (of_decide_eq_true hcat) (of_decide_eq_true hle) hrc ?_
  refine wp_mono k (fun q M2 hq => ?_)
  obtain ⟨z, rfl, hq⟩ := hq
  exact hq
theorem wc_AJIA_V {ins : Instr} {me2 : xMe} {T : xL} {z0 : Nat} {z1 : Int64} {z2 : Int32} {z3 : Nat} (hx : me.2.2.2.2.2.2[i]? = some (pc, ins, len, ts, a, b, c, lk, v)) (h1 : xend2 ins = 3) (hcf : decide (c ≤ 1) = true) (hme : xmt[a]? = some me2) (hT : List.replicate (me2.2.2.1 - 5) none = T) (hle : decide (5 ≤ me2.2.2.1) = true) (hna : xna b me2 = 4) (hcat : decide ((r.map fun v => v.category).sum ≤ 8) = true) (hrc : xrecv ts b me2 (.ref z3 :: .int z2 :: .long z1 :: .ref z0 :: r) M = true) (hi : i + 1 = j) (k : wp d me2 0 (some (.ref z0) :: some (.long z1) :: none :: some (.int z2) :: some (.ref z3) :: T) [] M (fun q M2 => q = none ∧ wp (d + 1) me j L r M2 Q)) : wp (d + 1) me i L (.ref z3 :: .int z2 :: .long z1 :: .ref z0 :: r) M Q := by
  subst hi
  subst hT
  refine wp_call (av := [.ref z0, .long z1, .int z2, .ref z3]) (rest := r) hx h1 (of_decide_eq_true hcf) hme rfl (by rw [hna]; rfl) (of_decide_eq_true hcat) (of_decide_eq_true hle) hrc ?_
  refine wp_mono k (fun q M2 hq => ?_)
  obtain ⟨rfl, hq⟩ := hq
  exact hq
theorem wc_I_I {ins : Instr} {me2 : xMe} {T : xL} {z0 : Int32} (hx : me.2.2.2.2.2.2[i]? = some (pc, ins, len, ts, a, b, c, lk, v)) (h1 : xend2 ins = 3) (hcf : decide (c ≤ 1) = true) (hme : xmt[a]? = some me2) (hT : List.replicate (me2.2.2.1 - 1) none = T) (hle : decide (1 ≤ me2.2.2.1) = true) (hna : xna b me2 = 1) (hcat : decide ((r.map fun v => v.category).sum ≤ 8) = true) (hrc : xrecv ts b me2 (.int z0 :: r) M = true) (hi : i + 1 = j) (k : wp d me2 0 (some (.int z0) :: T) [] M (fun q M2 => ∃ z : Int32, q = some (.int z) ∧ wp (d + 1) me j L (.int z :: r) M2 Q)) : wp (d + 1) me i L (.int z0 :: r) M Q := by
  subst hi
  subst hT
  refine wp_call (av := [.int z0]) (rest := r) hx h1 (of_decide_eq_true hcf) hme rfl (by rw [hna]; rfl) (of_decide_eq_true hcat) (of_decide_eq_true hle) hrc ?_
  refine wp_mono k (fun q M2 hq => ?_)
  obtain ⟨z, rfl, hq⟩ := hq
  exact hq
theorem wc_II_I {ins : Instr} {me2 : xMe} {T : xL} {z0 : Int32} {z1 : Int32} (hx : me.2.2.2.2.2.2[i]? = some (pc, ins, len, ts, a, b, c, lk, v)) (h1 : xend2 ins = 3) (hcf : decide (c ≤ 1) = true) (hme : xmt[a]? = some me2) (hT : List.replicate (me2.2.2.1 - 2) none = T) (hle : decide (2 ≤ me2.2.2.1) = true) (hna : xna b me2 = 2) (hcat : decide ((r.map fun v => v.category).sum ≤ 8) = true) (hrc : xrecv ts b me2 (.int z1 :: .int z0 :: r) M = true) (hi : i + 1 = j) (k : wp d me2 0 (some (.int z0) :: some (.int z1) :: T) [] M (fun q M2 => ∃ z : Int32, q = some (.int z) ∧ wp (d + 1) me j L (.int z :: r) M2 Q)) : wp (d + 1) me i L (.int z1 :: .int z0 :: r) M Q := by
  subst hi
  subst hT
  refine wp_call (av := [.int z0, .int z1]) (rest := r) hx h1 (of_decide_eq_true hcf) hme rfl (by rw [hna]; rfl) (of_decide_eq_true hcat) (of_decide_eq_true hle) hrc ?_
  refine wp_mono k (fun q M2 hq => ?_)
  obtain ⟨z, rfl, hq⟩ := hq
  exact hq
theorem wc_III_I {ins : Instr} {me2 : xMe} {T : xL} {z0 : Int32} {z1 : Int32} {z2 : Int32} (hx : me.2.2.2.2.2.2[i]? = some (pc, ins, len, ts, a, b, c, lk, v)) (h1 : xend2 ins = 3) (hcf : decide (c ≤ 1) = true) (hme : xmt[a]? = some me2) (hT : List.replicate (me2.2.2.1 - 3) none = T) (hle : decide (3 ≤ me2.2.2.1) = true) (hna : xna b me2 = 3) (hcat : decide ((r.map fun v => v.category).sum ≤ 8) = true) (hrc : xrecv ts b me2 (.int z2 :: .int z1 :: .int z0 :: r) M = true) (hi : i + 1 = j) (k : wp d me2 0 (some (.int z0) :: some (.int z1) :: some (.int z2) :: T) [] M (fun q M2 => ∃ z : Int32, q = some (.int z) ∧ wp (d + 1) me j L (.int z :: r) M2 Q)) : wp (d + 1) me i L (.int z2 :: .int z1 :: .int z0 :: r) M Q := by
  subst hi
  subst hT
  refine wp_call (av := [.int z0, .int z1, .int z2]) (rest := r) hx h1 (of_decide_eq_true hcf) hme rfl (by rw [hna]; rfl) (of_decide_eq_true hcat) (of_decide_eq_true hle) hrc ?_
  refine wp_mono k (fun q M2 hq => ?_)
  obtain ⟨z, rfl, hq⟩ := hq
  exact hq
theorem wc_AI_X {ins : Instr} {me2 : xMe} {T : xL} {z0 : Nat} {z1 : Int32} (hx : me.2.2.2.2.2.2[i]? = some (pc, ins, len, ts, a, b, c, lk, v)) (h1 : xend2 ins = 3) (hcf : decide (c ≤ 1) = true) (hme : xmt[a]? = some me2) (hT : List.replicate (me2.2.2.1 - 2) none = T) (hle : decide (2 ≤ me2.2.2.1) = true) (hna : xna b me2 = 2) (hcat : decide ((r.map fun v => v.category).sum ≤ 8) = true) (hrc : xrecv ts b me2 (.int z1 :: .ref z0 :: r) M = true) (hi : i + 1 = j) (k : wp d me2 0 (some (.ref z0) :: some (.int z1) :: T) [] M (fun q M2 => ∃ z : Value, q = some z ∧ wp (d + 1) me j L (z :: r) M2 Q)) : wp (d + 1) me i L (.int z1 :: .ref z0 :: r) M Q := by
  subst hi
  subst hT
  refine wp_call (av := [.ref z0, .int z1]) (rest := r) hx h1 (of_decide_eq_true hcf) hme rfl (by rw [hna]; rfl) (of_decide_eq_true hcat) (of_decide_eq_true hle) hrc ?_
  refine wp_mono k (fun q M2 hq => ?_)
  obtain ⟨z, rfl, hq⟩ := hq
  exact hq
end
