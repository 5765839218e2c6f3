abbrev jc_len : ByteArray := prog_13_method_54_code
def jy_len : MethodName := ⟨"java/lang/String", "length", "()I"⟩
abbrev jc_chr : ByteArray := prog_13_method_56_code
def jy_chr : MethodName := ⟨"java/lang/String", "charAt", "(I)C"⟩
abbrev jc_cod : ByteArray := prog_13_method_152_code
def jy_cod : MethodName := ⟨"java/lang/String", "coder", "()B"⟩
abbrev jc_lat : ByteArray := prog_13_method_154_code
def jy_lat : MethodName := ⟨"java/lang/String", "isLatin1", "()Z"⟩
abbrev jc_cki : ByteArray := prog_13_method_155_code
def jy_cki : MethodName := ⟨"java/lang/String", "checkIndex", "(II)V"⟩
abbrev jc_lch : ByteArray := prog_14_method_2_code
def jy_lch : MethodName := ⟨"java/lang/StringLatin1", "charAt", "([BI)C"⟩
abbrev jc_pck : ByteArray := prog_17_method_11_code
def jy_pck : MethodName := ⟨"jdk/internal/util/Preconditions", "checkIndex", "(IILjava/util/function/BiFunction;)I"⟩
theorem jd_len_0 : decode jc_len 0 = .ok (.aload_n 0, 1) := by decide +kernel
theorem jd_len_1 : decode jc_len 1 = .ok (.getfield 9, 3) := by decide +kernel
theorem jd_len_4 : decode jc_len 4 = .ok (.arraylength, 1) := by decide +kernel
theorem jd_len_5 : decode jc_len 5 = .ok (.aload_n 0, 1) := by decide +kernel
theorem jd_len_6 : decode jc_len 6 = .ok (.invokevirtual 335, 3) := by decide +kernel
theorem jd_len_9 : decode jc_len 9 = .ok (.ishr, 1) := by decide +kernel
theorem jd_len_10 : decode jc_len 10 = .ok (.ireturn, 1) := by decide +kernel
theorem jd_chr_0 : decode jc_chr 0 = .ok (.aload_n 0, 1) := by decide +kernel
theorem jd_chr_1 : decode jc_chr 1 = .ok (.invokevirtual 492, 3) := by decide +kernel
theorem jd_chr_4 : decode jc_chr 4 = .ok (.ifCond .eq 12, 3) := by decide +kernel
theorem jd_chr_7 : decode jc_chr 7 = .ok (.aload_n 0, 1) := by decide +kernel
theorem jd_chr_8 : decode jc_chr 8 = .ok (.getfield 9, 3) := by decide +kernel
theorem jd_chr_11 : decode jc_chr 11 = .ok (.iload_n 1, 1) := by decide +kernel
theorem jd_chr_12 : decode jc_chr 12 = .ok (.invokestatic 495, 3) := by decide +kernel
theorem jd_chr_15 : decode jc_chr 15 = .ok (.ireturn, 1) := by decide +kernel
theorem jd_chr_16 : decode jc_chr 16 = .ok (.aload_n 0, 1) := by decide +kernel
theorem jd_chr_17 : decode jc_chr 17 = .ok (.getfield 9, 3) := by decide +kernel
theorem jd_chr_20 : decode jc_chr 20 = .ok (.iload_n 1, 1) := by decide +kernel
theorem jd_chr_21 : decode jc_chr 21 = .ok (.invokestatic 498, 3) := by decide +kernel
theorem jd_chr_24 : decode jc_chr 24 = .ok (.ireturn, 1) := by decide +kernel
theorem jd_cod_0 : decode jc_cod 0 = .ok (.getstatic 38, 3) := by decide +kernel
theorem jd_cod_3 : decode jc_cod 3 = .ok (.ifCond .eq 10, 3) := by decide +kernel
theorem jd_cod_6 : decode jc_cod 6 = .ok (.aload_n 0, 1) := by decide +kernel
theorem jd_cod_7 : decode jc_cod 7 = .ok (.getfield 15, 3) := by decide +kernel
theorem jd_cod_10 : decode jc_cod 10 = .ok (.goto 4, 3) := by decide +kernel
theorem jd_cod_13 : decode jc_cod 13 = .ok (.iconst 1, 1) := by decide +kernel
theorem jd_cod_14 : decode jc_cod 14 = .ok (.ireturn, 1) := by decide +kernel
theorem jd_lat_0 : decode jc_lat 0 = .ok (.getstatic 38, 3) := by decide +kernel
theorem jd_lat_3 : decode jc_lat 3 = .ok (.ifCond .eq 14, 3) := by decide +kernel
theorem jd_lat_6 : decode jc_lat 6 = .ok (.aload_n 0, 1) := by decide +kernel
theorem jd_lat_7 : decode jc_lat 7 = .ok (.getfield 15, 3) := by decide +kernel
theorem jd_lat_10 : decode jc_lat 10 = .ok (.ifCond .ne 7, 3) := by decide +kernel
theorem jd_lat_13 : decode jc_lat 13 = .ok (.iconst 1, 1) := by decide +kernel
theorem jd_lat_14 : decode jc_lat 14 = .ok (.goto 4, 3) := by decide +kernel
theorem jd_lat_17 : decode jc_lat 17 = .ok (.iconst 0, 1) := by decide +kernel
theorem jd_lat_18 : decode jc_lat 18 = .ok (.ireturn, 1) := by decide +kernel
theorem jd_cki_0 : decode jc_cki 0 = .ok (.iload_n 0, 1) := by decide +kernel
theorem jd_cki_1 : decode jc_cki 1 = .ok (.iload_n 1, 1) := by decide +kernel
theorem jd_cki_2 : decode jc_cki 2 = .ok (.getstatic 1053, 3) := by decide +kernel
theorem jd_cki_5 : decode jc_cki 5 = .ok (.invokestatic 1059, 3) := by decide +kernel
theorem jd_cki_8 : decode jc_cki 8 = .ok (.pop, 1) := by decide +kernel
theorem jd_cki_9 : decode jc_cki 9 = .ok (.return_, 1) := by decide +kernel
theorem jd_lch_0 : decode jc_lch 0 = .ok (.iload_n 1, 1) := by decide +kernel
theorem jd_lch_1 : decode jc_lch 1 = .ok (.aload_n 0, 1) := by decide +kernel
theorem jd_lch_2 : decode jc_lch 2 = .ok (.arraylength, 1) := by decide +kernel
theorem jd_lch_3 : decode jc_lch 3 = .ok (.invokestatic 9, 3) := by decide +kernel
theorem jd_lch_6 : decode jc_lch 6 = .ok (.aload_n 0, 1) := by decide +kernel
theorem jd_lch_7 : decode jc_lch 7 = .ok (.iload_n 1, 1) := by decide +kernel
theorem jd_lch_8 : decode jc_lch 8 = .ok (.baload, 1) := by decide +kernel
theorem jd_lch_9 : decode jc_lch 9 = .ok (.sipush 255, 3) := by decide +kernel
theorem jd_lch_12 : decode jc_lch 12 = .ok (.iand, 1) := by decide +kernel
theorem jd_lch_13 : decode jc_lch 13 = .ok (.i2c, 1) := by decide +kernel
theorem jd_lch_14 : decode jc_lch 14 = .ok (.ireturn, 1) := by decide +kernel
theorem jd_pck_0 : decode jc_pck 0 = .ok (.iload_n 0, 1) := by decide +kernel
theorem jd_pck_1 : decode jc_pck 1 = .ok (.ifCond .lt 8, 3) := by decide +kernel
theorem jd_pck_4 : decode jc_pck 4 = .ok (.iload_n 0, 1) := by decide +kernel
theorem jd_pck_5 : decode jc_pck 5 = .ok (.iload_n 1, 1) := by decide +kernel
theorem jd_pck_6 : decode jc_pck 6 = .ok (.if_icmp .lt 10, 3) := by decide +kernel
theorem jd_pck_9 : decode jc_pck 9 = .ok (.aload_n 2, 1) := by decide +kernel
theorem jd_pck_10 : decode jc_pck 10 = .ok (.iload_n 0, 1) := by decide +kernel
theorem jd_pck_11 : decode jc_pck 11 = .ok (.iload_n 1, 1) := by decide +kernel
theorem jd_pck_12 : decode jc_pck 12 = .ok (.invokestatic 95, 3) := by decide +kernel
theorem jd_pck_15 : decode jc_pck 15 = .ok (.athrow, 1) := by decide +kernel
theorem jd_pck_16 : decode jc_pck 16 = .ok (.iload_n 0, 1) := by decide +kernel
theorem jd_pck_17 : decode jc_pck 17 = .ok (.ireturn, 1) := by decide +kernel
theorem jin_len : Cond.code jy_len jc_len 1 (some .int) ∈ lw_tbl := by decide +kernel
theorem jin_chr : Cond.code jy_chr jc_chr 2 (some .char) ∈ lw_tbl := by decide +kernel
theorem jin_cod : Cond.code jy_cod jc_cod 1 (some .byte) ∈ lw_tbl := by decide +kernel
theorem jin_lat : Cond.code jy_lat jc_lat 1 (some .boolean) ∈ lw_tbl := by decide +kernel
theorem jin_cki : Cond.code jy_cki jc_cki 2 (none) ∈ lw_tbl := by decide +kernel
theorem jin_lch : Cond.code jy_lch jc_lch 2 (some .char) ∈ lw_tbl := by decide +kernel
theorem jin_pck : Cond.code jy_pck jc_pck 3 (some .int) ∈ lw_tbl := by decide +kernel
def Zs (B aS aV : Nat) (U : State) : Prop := vk_R "PronounOrders$Words" 34 "the a an and then tell to again it him her them me myself yourself his its their my all but" aS U ∧ vk_S 1 [91] [xtext] (fun _ => aS) (fun _ => aV) (fun q => B ≤ q) U U.heap ∧ va_Z "java/lang/String" "COMPACT_STRINGS" "Z" (.int 1) (fun q => B ≤ q) U U.heap ∧ va_Zq "jdk/internal/util/Preconditions" "SIOOBE_FORMATTER" "Ljava/util/function/BiFunction;" (fun q => B ≤ q) U U.heap
theorem Zs_ok {B aS aV : Nat} : xZok (Zs B aS aV) B := by
  refine ⟨fun s U h hW hq => ?_, fun U g mk a h => ?_⟩
  · have hk : ∀ a : Nat, a < s.heap.size → ¬ (fun q => B ≤ q) a → U.heap[a]? = s.heap[a]? := fun a _ ha => hq a (Nat.lt_of_not_le ha)
    exact ⟨h.1.warm hW, (h.2.1.moved hW.alike).kept hk, (h.2.2.1.moved hW.alike).kept hk, (h.2.2.2.moved hW.alike).kept hk⟩
  · exact ⟨h.1.same (u := U) (U := U.calling g mk a) rfl, h.2.1.moved (u := U) (U := U.calling g mk a) (Vm.Alike.refl U.vm), h.2.2.1.moved (u := U) (U := U.calling g mk a) (Vm.Alike.refl U.vm), h.2.2.2.moved (u := U) (U := U.calling g mk a) (Vm.Alike.refl U.vm)⟩
def jws (y : MethodName) (cc : ByteArray) (mL : Nat) (ret : Option FieldType) : List Cond := Cond.code y cc mL ret :: xg
theorem jgood {y : MethodName} {cc : ByteArray} {mL : Nat} {ret : Option FieldType} (h : Cond.code y cc mL ret ∈ lw_tbl) : GoodIn xg (jws y cc mL ret) := by
  intro w hw
  rcases List.mem_cons.mp hw with rfl | hw
  · exact ⟨xg_of h rfl, Or.inl rfl⟩
  · exact ⟨hw, good_of_word (xg_good w hw)⟩
def jPc (B aS aV : Nat) (av : List Value) : Array Value → State → Prop := fun v U => v = av.toArray ∧ Zs B aS aV U
def jQc (r : Option Value) : Array Value → State → Outcome → State → Prop := fun _ st o t => o = .returned r ∧ t.heap = st.heap
def jrm (k : Nat) : Room := { frames := k + 1, cells := 0, slots := 0, locals := 40 * (k + 1) }
theorem jPc_blind {B aS aV : Nat} {av : List Value} : FrameBlind (jPc B aS aV av) := fun a U g mk h => ⟨h.1, Zs_ok.2 U g mk a h.2⟩
section
variable {p : Program} {l : Launch} {e : Env} {R : Room} {s : State} {m : MethodId} {args : Array Value} {below : List Frame} {meth : Method} {c : Code} {H : Heap} {locs : List Loc} {cells slots : Nat} {Q : State → Prop}
theorem jcall {pc : Nat} {ls : Array Slot} {st0 rest : List Value} {a : Array Value} {r : Option Value} (hr : va_Run p l e R s m args below meth c H locs cells slots 0 0 (F0 m pc ls st0) rest (jQc r a) (fun _ => False)) (kk : W p l e R s m args below meth c H locs cells slots Q (F0 m (pc + 3) ls (r.toList ++ rest))) : W p l e R s m args below meth c H locs cells slots Q (F0 m pc ls st0) := by
  intro T hT X
  obtain ⟨v, st₀, t, T', L, h0, X', hL, e1, e2, ⟨hv, hh⟩, st⟩ := hr T hT X
  cases hv
  obtain ⟨t2, a1, b1⟩ := kk T' (by rw [e1, hh, h0]) (Stand.forget X' (fun q h => (hL q h).elim))
  exact ⟨t2, st t2 a1, b1⟩
theorem jpre {B aS aV : Nat} {av : List Value} (hZ : Zs B aS aV s) (hS : va_S (fun q => B ≤ q) s.heap H locs) (hB : B ≤ s.heap.size) : ∀ U : State, U.heap = H → s.WarmedH U.vm → jPc B aS aV av av.toArray U := fun U hU hW => ⟨rfl, Zs_ok.1 s U hZ hW (fun q hq => by rw [hU]; exact hS.2.1 q (Nat.lt_of_lt_of_le hq hB) (Nat.not_le_of_lt hq))⟩
end

set_option maxHeartbeats 4000000 in
set_option maxRecDepth 100000 in
theorem jm_cod (l : Launch) (B aS aV : Nat) : Met l jy_cod (jws jy_cod jc_cod 1 (some .byte)) (jrm 0) (fun v U => jPc B aS aV [.ref aS] v U ∧ B ≤ U.heap.size) (jQc (some (.int 0))) 0 0 (fun _ => False) := by
  refine Met.ofW (cc := jc_cod) (maxL := 1) (ret := some .byte) (by decide) rfl ?_
  intro p e s m args below meth c s₁ Bd hml hv
  obtain ⟨⟨rfl, hZ⟩, hB⟩ := hv
  have hx := Bd.exec
  have hb := Bd.bytes
  have hr := Bd.returns
  have hlocks := Bd.notSynchronized
  have hts0 := atoms_spec (ws := jws jy_cod jc_cod 1 (some .byte)) Bd.pre
  have hts : ∀ w ∈ xg, w.before ([.ref aS] : List Value).toArray s = true := fun w hw => hts0 w (List.mem_cons_of_mem _ hw)
  have hown : s.vm.findClass jy_cod.cls = some m.cls := findClass_of_methodNamed Bd.named
  have hS : va_S (fun q => B ≤ q) s.heap s.heap [] := va_S.rf
  have hl := lv_entry ([.ref aS]) (n := 1) (Nat.le_of_ble_eq_true rfl)
  rw [lg_entry_eq]
  generalize (lg_sl ([.ref aS]) ++ List.replicate (1 - (lg_sl ([.ref aS])).length) Slot.unset).toArray = ls at hl ⊢
  refine va_gets hx hb hZ.2.2.1 hS hown (hts (.fieldLink "java/lang/String" 38 "java/lang/String" "COMPACT_STRINGS" "Z") (xg_of (by decide +kernel) rfl)) (fun _ h => h) jd_cod_0 ?_
  refine lv_if_eq (tgt := 13) hx hb jd_cod_3 (by decide) (fun h => absurd h (by decide)) (fun _ => ?_)
  refine lv_aload_n hx hb jd_cod_6 rfl (lv_at hl 0 rfl) ?_
  refine vk_getf hx hb (hZ.2.1.1 0 (by decide)).2.1 hS hown (hts (.fieldLink "java/lang/String" 15 "java/lang/String" "coder" "B") (xg_of (by decide +kernel) rfl)) (fun _ h => h) jd_cod_7 ?_
  refine lv_goto (tgt := 14) hx hb jd_cod_10 (by decide) ?_
  exact W.zret hx hb hr rfl (fun t ht _ => ⟨rfl, ht⟩) (fun _ h => by cases h) jd_cod_14 hlocks
set_option maxHeartbeats 4000000 in
set_option maxRecDepth 100000 in
theorem jm_lat (l : Launch) (B aS aV : Nat) : Met l jy_lat (jws jy_lat jc_lat 1 (some .boolean)) (jrm 0) (fun v U => jPc B aS aV [.ref aS] v U ∧ B ≤ U.heap.size) (jQc (some (.int 1))) 0 0 (fun _ => False) := by
  refine Met.ofW (cc := jc_lat) (maxL := 1) (ret := some .boolean) (by decide) rfl ?_
  intro p e s m args below meth c s₁ Bd hml hv
  obtain ⟨⟨rfl, hZ⟩, hB⟩ := hv
  have hx := Bd.exec
  have hb := Bd.bytes
  have hr := Bd.returns
  have hlocks := Bd.notSynchronized
  have hts0 := atoms_spec (ws := jws jy_lat jc_lat 1 (some .boolean)) Bd.pre
  have hts : ∀ w ∈ xg, w.before ([.ref aS] : List Value).toArray s = true := fun w hw => hts0 w (List.mem_cons_of_mem _ hw)
  have hown : s.vm.findClass jy_lat.cls = some m.cls := findClass_of_methodNamed Bd.named
  have hS : va_S (fun q => B ≤ q) s.heap s.heap [] := va_S.rf
  have hl := lv_entry ([.ref aS]) (n := 1) (Nat.le_of_ble_eq_true rfl)
  rw [lg_entry_eq]
  generalize (lg_sl ([.ref aS]) ++ List.replicate (1 - (lg_sl ([.ref aS])).length) Slot.unset).toArray = ls at hl ⊢
  refine va_gets hx hb hZ.2.2.1 hS hown (hts (.fieldLink "java/lang/String" 38 "java/lang/String" "COMPACT_STRINGS" "Z") (xg_of (by decide +kernel) rfl)) (fun _ h => h) jd_lat_0 ?_
  refine lv_if_eq (tgt := 17) hx hb jd_lat_3 (by decide) (fun h => absurd h (by decide)) (fun _ => ?_)
  refine lv_aload_n hx hb jd_lat_6 rfl (lv_at hl 0 rfl) ?_
  refine vk_getf hx hb (hZ.2.1.1 0 (by decide)).2.1 hS hown (hts (.fieldLink "java/lang/String" 15 "java/lang/String" "coder" "B") (xg_of (by decide +kernel) rfl)) (fun _ h => h) jd_lat_7 ?_
  refine lv_if_ne (tgt := 17) hx hb jd_lat_10 (by decide) (fun h => absurd rfl h) (fun _ => ?_)
  refine lv_iconst (v := 1) hx hb jd_lat_13 rfl ?_
  refine lv_goto (tgt := 18) hx hb jd_lat_14 (by decide) ?_
  exact W.zret hx hb hr rfl (fun t ht _ => ⟨rfl, ht⟩) (fun _ h => by cases h) jd_lat_18 hlocks
set_option maxHeartbeats 4000000 in
set_option maxRecDepth 100000 in
theorem jm_pck (l : Launch) (B aS aV : Nat) (i n : Int32) (f : Value) (hf : f = .null ∨ ∃ t, f = .ref t) (h1 : ¬ i < 0) (h2 : i < n) : Met l jy_pck (jws jy_pck jc_pck 3 (some .int)) (jrm 0) (fun v U => jPc B aS aV [.int i, .int n, f] v U ∧ B ≤ U.heap.size) (jQc (some (.int i))) 0 0 (fun _ => False) := by
  refine Met.ofW (cc := jc_pck) (maxL := 3) (ret := some .int) (by decide) rfl ?_
  intro p e s m args below meth c s₁ Bd hml hv
  obtain ⟨⟨rfl, hZ⟩, hB⟩ := hv
  have hx := Bd.exec
  have hb := Bd.bytes
  have hr := Bd.returns
  have hlocks := Bd.notSynchronized
  have hts0 := atoms_spec (ws := jws jy_pck jc_pck 3 (some .int)) Bd.pre
  have hts : ∀ w ∈ xg, w.before ([.int i, .int n, f] : List Value).toArray s = true := fun w hw => hts0 w (List.mem_cons_of_mem _ hw)
  have hown : s.vm.findClass jy_pck.cls = some m.cls := findClass_of_methodNamed Bd.named
  have hS : va_S (fun q => B ≤ q) s.heap s.heap [] := va_S.rf
  have hl := lv_entry ([.int i, .int n, f]) (n := 3) (by rcases hf with rfl | ⟨t, rfl⟩ <;> exact Nat.le_of_ble_eq_true rfl)
  rw [lg_entry_eq]
  generalize (lg_sl ([.int i, .int n, f]) ++ List.replicate (3 - (lg_sl ([.int i, .int n, f])).length) Slot.unset).toArray = ls at hl ⊢
  refine lv_iload_n hx hb jd_pck_0 rfl (lv_at hl 0 rfl) ?_
  refine lv_if_lt (tgt := 9) hx hb jd_pck_1 (by decide) (fun h => absurd h h1) (fun _ => ?_)
  refine lv_iload_n hx hb jd_pck_4 rfl (lv_at hl 0 rfl) ?_
  refine lv_iload_n hx hb jd_pck_5 rfl (lv_at hl 1 rfl) ?_
  refine lv_icmp_lt (tgt := 16) hx hb jd_pck_6 (by decide) (fun _ => ?_) (fun h => absurd h2 h)
  refine lv_iload_n hx hb jd_pck_16 rfl (lv_at hl 0 rfl) ?_
  exact W.iret hx hb hr (fun t ht _ => ⟨rfl, ht⟩) (fun _ h => by cases h) jd_pck_17 hlocks
set_option maxHeartbeats 4000000 in
set_option maxRecDepth 100000 in
theorem jm_cki (l : Launch) (B aS aV : Nat) (i n : Int32) (h1 : ¬ i < 0) (h2 : i < n) : Met l jy_cki (jws jy_cki jc_cki 2 (none)) (jrm 1) (fun v U => jPc B aS aV [.int i, .int n] v U ∧ B ≤ U.heap.size) (jQc (none)) 0 0 (fun _ => False) := by
  refine Met.ofW (cc := jc_cki) (maxL := 2) (ret := none) (by decide) rfl ?_
  intro p e s m args below meth c s₁ Bd hml hv
  obtain ⟨⟨rfl, hZ⟩, hB⟩ := hv
  have hx := Bd.exec
  have hb := Bd.bytes
  have hr := Bd.returns
  have hlocks := Bd.notSynchronized
  have hts0 := atoms_spec (ws := jws jy_cki jc_cki 2 (none)) Bd.pre
  have hts : ∀ w ∈ xg, w.before ([.int i, .int n] : List Value).toArray s = true := fun w hw => hts0 w (List.mem_cons_of_mem _ hw)
  have hown : s.vm.findClass jy_cki.cls = some m.cls := findClass_of_methodNamed Bd.named
  have hS : va_S (fun q => B ≤ q) s.heap s.heap [] := va_S.rf
  have hl := lv_entry ([.int i, .int n]) (n := 2) (Nat.le_of_ble_eq_true rfl)
  rw [lg_entry_eq]
  generalize (lg_sl ([.int i, .int n]) ++ List.replicate (2 - (lg_sl ([.int i, .int n])).length) Slot.unset).toArray = ls at hl ⊢
  refine lv_iload_n hx hb jd_cki_0 rfl (lv_at hl 0 rfl) ?_
  refine lv_iload_n hx hb jd_cki_1 rfl (lv_at hl 1 rfl) ?_
  rcases hZ.2.2.2 with hz | ⟨t, hz⟩
  · refine va_gets hx hb hz hS hown (hts (.fieldLink "java/lang/String" 1053 "jdk/internal/util/Preconditions" "SIOOBE_FORMATTER" "Ljava/util/function/BiFunction;") (xg_of (by decide +kernel) rfl)) (fun _ h => h) jd_cki_2 ?_
    refine jcall (va_runS (As := [.int i, .int n, .null]) (rest := []) ⟨hx, hb, hml, hown, hts⟩ (jm_pck l B aS aV i n .null (Or.inl rfl) h1 h2) ⟨callB_of 3 hts (jgood jin_pck) rfl rfl rfl (hts (.initialized jy_pck.cls) (xg_of (by decide +kernel) rfl)) (hts (.methodLink "java/lang/String" 1059 jy_pck) (xg_of (by decide +kernel) rfl)) (by decide +kernel) ⟨Nat.le_of_ble_eq_true rfl, Nat.le_of_ble_eq_true rfl⟩, hts (.static jy_pck) (xg_of (by decide +kernel) rfl)⟩ ⟨fun a U g mk h => ⟨jPc_blind a U g mk h.1, h.2⟩, fun U hU hW => ⟨jpre hZ hS hB U hU hW, by rw [hU]; exact hB⟩⟩ rfl rfl hl.1 rfl (lv_room (Nat.le_of_ble_eq_true rfl)) jd_cki_5 ⟨Nat.le_of_ble_eq_true rfl, Nat.le_of_ble_eq_true rfl⟩) ?_
    refine lv_pop hx hb jd_cki_8 rfl ?_
    exact W.vret hx hb hr (fun t ht _ => ⟨rfl, ht⟩) (fun _ h => by cases h) jd_cki_9 hlocks
  · refine va_gets hx hb hz hS hown (hts (.fieldLink "java/lang/String" 1053 "jdk/internal/util/Preconditions" "SIOOBE_FORMATTER" "Ljava/util/function/BiFunction;") (xg_of (by decide +kernel) rfl)) (fun _ h => h) jd_cki_2 ?_
    refine jcall (va_runS (As := [.int i, .int n, .ref t]) (rest := []) ⟨hx, hb, hml, hown, hts⟩ (jm_pck l B aS aV i n (.ref t) (Or.inr ⟨t, rfl⟩) h1 h2) ⟨callB_of 3 hts (jgood jin_pck) rfl rfl rfl (hts (.initialized jy_pck.cls) (xg_of (by decide +kernel) rfl)) (hts (.methodLink "java/lang/String" 1059 jy_pck) (xg_of (by decide +kernel) rfl)) (by decide +kernel) ⟨Nat.le_of_ble_eq_true rfl, Nat.le_of_ble_eq_true rfl⟩, hts (.static jy_pck) (xg_of (by decide +kernel) rfl)⟩ ⟨fun a U g mk h => ⟨jPc_blind a U g mk h.1, h.2⟩, fun U hU hW => ⟨jpre hZ hS hB U hU hW, by rw [hU]; exact hB⟩⟩ rfl rfl hl.1 rfl (lv_room (Nat.le_of_ble_eq_true rfl)) jd_cki_5 ⟨Nat.le_of_ble_eq_true rfl, Nat.le_of_ble_eq_true rfl⟩) ?_
    refine lv_pop hx hb jd_cki_8 rfl ?_
    exact W.vret hx hb hr (fun t ht _ => ⟨rfl, ht⟩) (fun _ h => by cases h) jd_cki_9 hlocks
set_option maxHeartbeats 4000000 in
set_option maxRecDepth 100000 in
theorem jm_len (l : Launch) (B aS aV : Nat) : Met l jy_len (jws jy_len jc_len 1 (some .int)) (jrm 1) (fun v U => jPc B aS aV [.ref aS] v U ∧ B ≤ U.heap.size) (jQc (some (.int (nI xtextLen)))) 0 0 (fun _ => False) := by
  refine Met.ofW (cc := jc_len) (maxL := 1) (ret := some .int) (by decide) rfl ?_
  intro p e s m args below meth c s₁ Bd hml hv
  obtain ⟨⟨rfl, hZ⟩, hB⟩ := hv
  have hx := Bd.exec
  have hb := Bd.bytes
  have hr := Bd.returns
  have hlocks := Bd.notSynchronized
  have hts0 := atoms_spec (ws := jws jy_len jc_len 1 (some .int)) Bd.pre
  have hts : ∀ w ∈ xg, w.before ([.ref aS] : List Value).toArray s = true := fun w hw => hts0 w (List.mem_cons_of_mem _ hw)
  have hown : s.vm.findClass jy_len.cls = some m.cls := findClass_of_methodNamed Bd.named
  have hS : va_S (fun q => B ≤ q) s.heap s.heap [] := va_S.rf
  have hl := lv_entry ([.ref aS]) (n := 1) (Nat.le_of_ble_eq_true rfl)
  rw [lg_entry_eq]
  generalize (lg_sl ([.ref aS]) ++ List.replicate (1 - (lg_sl ([.ref aS])).length) Slot.unset).toArray = ls at hl ⊢
  refine lv_aload_n hx hb jd_len_0 rfl (lv_at hl 0 rfl) ?_
  refine vk_getf hx hb (hZ.2.1.1 0 (by decide)).2.2.1 hS hown (hts (.fieldLink "java/lang/String" 9 "java/lang/String" "value" "[B") (xg_of (by decide +kernel) rfl)) (fun _ h => h) jd_len_1 ?_
  refine va_tlen hx hb (hZ.2.1.1 0 (by decide)).2.2.2 hS (v := 91) rfl jd_len_4 ?_
  refine lv_aload_n hx hb jd_len_5 rfl (lv_at hl 0 rfl) ?_
  refine jcall (va_runV (As := []) (rest := [.int 91]) (b := aS) (C := "java/lang/String") ⟨hx, hb, hml, hown, hts⟩ (jm_cod l B aS aV) ⟨callB_of 0 hts (jgood jin_cod) rfl rfl rfl (hts (.initialized jy_cod.cls) (xg_of (by decide +kernel) rfl)) (hts (.methodLink "java/lang/String" 335 jy_cod) (xg_of (by decide +kernel) rfl)) (by decide +kernel) ⟨Nat.le_of_ble_eq_true rfl, Nat.le_of_ble_eq_true rfl⟩, hts (.instanceMethod jy_cod) (xg_of (by decide +kernel) rfl), hts (.selects "java/lang/String" jy_cod jy_cod) (xg_of (by decide +kernel) rfl)⟩ ⟨fun a U g mk h => ⟨jPc_blind a U g mk h.1, h.2⟩, vk_recv hZ.2.1 (i := 0) (by decide) hS, fun U hU hW => ⟨jpre hZ hS hB U hU hW, by rw [hU]; exact hB⟩⟩ rfl rfl hl.1 rfl (lv_room (Nat.le_of_ble_eq_true rfl)) jd_len_6 ⟨Nat.le_of_ble_eq_true rfl, Nat.le_of_ble_eq_true rfl⟩) ?_
  refine lv_ishr hx hb jd_len_9 ?_
  exact W.iret hx hb hr (fun t ht _ => ⟨rfl, ht⟩) (fun _ h => by cases h) jd_len_10 hlocks
set_option maxHeartbeats 4000000 in
set_option maxRecDepth 100000 in
theorem jm_lch (l : Launch) (B aS aV : Nat) (i : Int32) (h1 : ¬ i < 0) (h2 : ¬ 91 ≤ i.toNatClampNeg) : Met l jy_lch (jws jy_lch jc_lch 2 (some .char)) (jrm 2) (fun v U => jPc B aS aV [.ref aV, .int i] v U ∧ B ≤ U.heap.size) (jQc (some (.int (xtext.getD i.toNatClampNeg 0)))) 0 0 (fun _ => False) := by
  refine Met.ofW (cc := jc_lch) (maxL := 2) (ret := some .char) (by decide) rfl ?_
  intro p e s m args below meth c s₁ Bd hml hv
  obtain ⟨⟨rfl, hZ⟩, hB⟩ := hv
  have hx := Bd.exec
  have hb := Bd.bytes
  have hr := Bd.returns
  have hlocks := Bd.notSynchronized
  have hts0 := atoms_spec (ws := jws jy_lch jc_lch 2 (some .char)) Bd.pre
  have hts : ∀ w ∈ xg, w.before ([.ref aV, .int i] : List Value).toArray s = true := fun w hw => hts0 w (List.mem_cons_of_mem _ hw)
  have hown : s.vm.findClass jy_lch.cls = some m.cls := findClass_of_methodNamed Bd.named
  have hS : va_S (fun q => B ≤ q) s.heap s.heap [] := va_S.rf
  have hl := lv_entry ([.ref aV, .int i]) (n := 2) (Nat.le_of_ble_eq_true rfl)
  rw [lg_entry_eq]
  generalize (lg_sl ([.ref aV, .int i]) ++ List.replicate (2 - (lg_sl ([.ref aV, .int i])).length) Slot.unset).toArray = ls at hl ⊢
  have hlt : i < 91 := by
    rw [Int32.lt_iff_toInt_lt]
    have e1 : (91 : Int32).toInt = 91 := rfl
    have e2 : i.toNatClampNeg = i.toInt.toNat := rfl
    have e3 : ¬ i.toInt < 0 := fun q => h1 (by rw [Int32.lt_iff_toInt_lt]; exact q)
    omega
  refine lv_iload_n hx hb jd_lch_0 rfl (lv_at hl 1 rfl) ?_
  refine lv_aload_n hx hb jd_lch_1 rfl (lv_at hl 0 rfl) ?_
  refine va_tlen hx hb (hZ.2.1.1 0 (by decide)).2.2.2 hS (v := 91) rfl jd_lch_2 ?_
  refine jcall (va_runS (As := [.int i, .int 91]) (rest := []) ⟨hx, hb, hml, hown, hts⟩ (jm_cki l B aS aV i 91 h1 hlt) ⟨callB_of 2 hts (jgood jin_cki) rfl rfl rfl (hts (.initialized jy_cki.cls) (xg_of (by decide +kernel) rfl)) (hts (.methodLink "java/lang/StringLatin1" 9 jy_cki) (xg_of (by decide +kernel) rfl)) (by decide +kernel) ⟨Nat.le_of_ble_eq_true rfl, Nat.le_of_ble_eq_true rfl⟩, hts (.static jy_cki) (xg_of (by decide +kernel) rfl)⟩ ⟨fun a U g mk h => ⟨jPc_blind a U g mk h.1, h.2⟩, fun U hU hW => ⟨jpre hZ hS hB U hU hW, by rw [hU]; exact hB⟩⟩ rfl rfl hl.1 rfl (lv_room (Nat.le_of_ble_eq_true rfl)) jd_lch_3 ⟨Nat.le_of_ble_eq_true rfl, Nat.le_of_ble_eq_true rfl⟩) ?_
  refine lv_aload_n hx hb jd_lch_6 rfl (lv_at hl 0 rfl) ?_
  refine lv_iload_n hx hb jd_lch_7 rfl (lv_at hl 1 rfl) ?_
  refine va_tb hx hb (hZ.2.1.1 0 (by decide)).2.2.2 hS (fun q => q.elim h1 h2) rfl jd_lch_8 ?_
  refine lv_sipush (v := 255) hx hb jd_lch_9 rfl ?_
  refine lv_iand hx hb jd_lch_12 ?_
  refine lv_i2c hx hb jd_lch_13 rfl ?_
  have hk : ∀ k, k < 91 → (((xtext.getD k 0) &&& 255).toUInt32 % 65536).toInt32 = xtext.getD k 0 ∧ narrow .char (.int (xtext.getD k 0)) = .int (xtext.getD k 0) := by decide +kernel
  have hk2 := hk i.toNatClampNeg (Nat.lt_of_not_le h2)
  have hv : ((([xtext].getD 0 []).getD i.toNatClampNeg 0 &&& 255).toUInt32 % 65536).toInt32 = xtext.getD i.toNatClampNeg 0 := hk2.1
  rw [hv]
  exact W.zret hx hb hr hk2.2 (fun t ht _ => ⟨rfl, ht⟩) (fun _ h => by cases h) jd_lch_14 hlocks
set_option maxHeartbeats 4000000 in
set_option maxRecDepth 100000 in
theorem jm_chr (l : Launch) (B aS aV : Nat) (i : Int32) (h1 : ¬ i < 0) (h2 : ¬ 91 ≤ i.toNatClampNeg) : Met l jy_chr (jws jy_chr jc_chr 2 (some .char)) (jrm 3) (fun v U => jPc B aS aV [.ref aS, .int i] v U ∧ B ≤ U.heap.size) (jQc (some (.int (xtext.getD i.toNatClampNeg 0)))) 0 0 (fun _ => False) := by
  refine Met.ofW (cc := jc_chr) (maxL := 2) (ret := some .char) (by decide) rfl ?_
  intro p e s m args below meth c s₁ Bd hml hv
  obtain ⟨⟨rfl, hZ⟩, hB⟩ := hv
  have hx := Bd.exec
  have hb := Bd.bytes
  have hr := Bd.returns
  have hlocks := Bd.notSynchronized
  have hts0 := atoms_spec (ws := jws jy_chr jc_chr 2 (some .char)) Bd.pre
  have hts : ∀ w ∈ xg, w.before ([.ref aS, .int i] : List Value).toArray s = true := fun w hw => hts0 w (List.mem_cons_of_mem _ hw)
  have hown : s.vm.findClass jy_chr.cls = some m.cls := findClass_of_methodNamed Bd.named
  have hS : va_S (fun q => B ≤ q) s.heap s.heap [] := va_S.rf
  have hl := lv_entry ([.ref aS, .int i]) (n := 2) (Nat.le_of_ble_eq_true rfl)
  rw [lg_entry_eq]
  generalize (lg_sl ([.ref aS, .int i]) ++ List.replicate (2 - (lg_sl ([.ref aS, .int i])).length) Slot.unset).toArray = ls at hl ⊢
  refine lv_aload_n hx hb jd_chr_0 rfl (lv_at hl 0 rfl) ?_
  refine jcall (va_runV (As := []) (rest := []) (b := aS) (C := "java/lang/String") ⟨hx, hb, hml, hown, hts⟩ (jm_lat l B aS aV) ⟨callB_of 0 hts (jgood jin_lat) rfl rfl rfl (hts (.initialized jy_lat.cls) (xg_of (by decide +kernel) rfl)) (hts (.methodLink "java/lang/String" 492 jy_lat) (xg_of (by decide +kernel) rfl)) (by decide +kernel) ⟨Nat.le_of_ble_eq_true rfl, Nat.le_of_ble_eq_true rfl⟩, hts (.instanceMethod jy_lat) (xg_of (by decide +kernel) rfl), hts (.selects "java/lang/String" jy_lat jy_lat) (xg_of (by decide +kernel) rfl)⟩ ⟨fun a U g mk h => ⟨jPc_blind a U g mk h.1, h.2⟩, vk_recv hZ.2.1 (i := 0) (by decide) hS, fun U hU hW => ⟨jpre hZ hS hB U hU hW, by rw [hU]; exact hB⟩⟩ rfl rfl hl.1 rfl (lv_room (Nat.le_of_ble_eq_true rfl)) jd_chr_1 ⟨Nat.le_of_ble_eq_true rfl, Nat.le_of_ble_eq_true rfl⟩) ?_
  refine lv_if_eq (tgt := 16) hx hb jd_chr_4 (by decide) (fun h => absurd h (by decide)) (fun _ => ?_)
  refine lv_aload_n hx hb jd_chr_7 rfl (lv_at hl 0 rfl) ?_
  refine vk_getf hx hb (hZ.2.1.1 0 (by decide)).2.2.1 hS hown (hts (.fieldLink "java/lang/String" 9 "java/lang/String" "value" "[B") (xg_of (by decide +kernel) rfl)) (fun _ h => h) jd_chr_8 ?_
  refine lv_iload_n hx hb jd_chr_11 rfl (lv_at hl 1 rfl) ?_
  refine jcall (va_runS (As := [.ref aV, .int i]) (rest := []) ⟨hx, hb, hml, hown, hts⟩ (jm_lch l B aS aV i h1 h2) ⟨callB_of 2 hts (jgood jin_lch) rfl rfl rfl (hts (.initialized jy_lch.cls) (xg_of (by decide +kernel) rfl)) (hts (.methodLink "java/lang/String" 495 jy_lch) (xg_of (by decide +kernel) rfl)) (by decide +kernel) ⟨Nat.le_of_ble_eq_true rfl, Nat.le_of_ble_eq_true rfl⟩, hts (.static jy_lch) (xg_of (by decide +kernel) rfl)⟩ ⟨fun a U g mk h => ⟨jPc_blind a U g mk h.1, h.2⟩, fun U hU hW => ⟨jpre hZ hS hB U hU hW, by rw [hU]; exact hB⟩⟩ rfl rfl hl.1 rfl (lv_room (Nat.le_of_ble_eq_true rfl)) jd_chr_12 ⟨Nat.le_of_ble_eq_true rfl, Nat.le_of_ble_eq_true rfl⟩) ?_
  have hk : ∀ k, k < 91 → narrow .char (.int (xtext.getD k 0)) = .int (xtext.getD k 0) := by decide +kernel
  exact W.zret hx hb hr (hk i.toNatClampNeg (Nat.lt_of_not_le h2)) (fun t ht _ => ⟨rfl, ht⟩) (fun _ h => by cases h) jd_chr_15 hlocks
def jchk (w : Cond) : Bool := match w with
  | .stringRef o i _ => o == "PronounOrders$Words" && i == 34
  | _ => true
theorem jchk_all : lw_tbl.all jchk = true := by decide +kernel
theorem xLdc_ok (l : Launch) (D : va_G) (B aS aV : Nat) (cA : Nat → ClassId) : xLdc l (Zs B aS aV) D B aS cA := by
  intro p e R s m args below meth c H locs cells slots Q me n0 ls pc idx r C hZ hd hin k
  have h1 := List.all_eq_true.mp jchk_all _ hin
  simp only [jchk, Bool.and_eq_true, beq_iff_eq] at h1
  obtain ⟨hx, hb, hml, hr, hlocks, hnm, hown, hts, hK, hsz, hE, -⟩ := id C
  rw [h1.1] at hown
  rw [h1.2] at hd
  exact va_ldcS hx hb hown hZ.1 hd k
set_option maxHeartbeats 4000000 in
theorem xBI_ok (l : Launch) (D : va_G) (B aS aV : Nat) (cA : Nat → ClassId) : xBI l (Zs B aS aV) D B aS cA := by
  intro p e R s m args below meth c H locs cells slots Q me n0 ls pc idx r C hZ hS hls hcat hf hlo hce hsl hd
  obtain ⟨hx, hb, hml, hr, hlocks, hnm, hown, hts, hK, hsz, hE, -⟩ := id C
  have hB : B ≤ s.heap.size := by omega
  refine ⟨fun hlk k => ?_, fun kx hkx hlk k => ?_⟩
  · refine jcall (va_runV (As := []) (rest := r) (b := aS) (C := "java/lang/String") ⟨hx, hb, hml, hown, hts⟩ (jm_len l B aS aV) ⟨callB_of 0 hts (jgood jin_len) rfl rfl rfl (hts (.initialized jy_len.cls) (xg_of (by decide +kernel) rfl)) (hts _ (xg_of hlk rfl)) (by decide +kernel) ⟨by show 1 + 1 + 1 ≤ R.frames; omega, by show 8 + (1 + 11) + 40 * 2 ≤ R.locals; omega⟩, hts (.instanceMethod jy_len) (xg_of (by decide +kernel) rfl), hts (.selects "java/lang/String" jy_len jy_len) (xg_of (by decide +kernel) rfl)⟩ ⟨fun a U g mk h => ⟨jPc_blind a U g mk h.1, h.2⟩, vk_recv hZ.2.1 (i := 0) (by decide) hS, fun U hU hW => ⟨jpre hZ hS hB U hU hW, by rw [hU]; exact Nat.le_trans hB hS.1⟩⟩ rfl rfl hls rfl (lv_room hcat) hd ⟨by omega, by omega⟩) ?_
    exact k locs hS
  · refine jcall (va_runV (As := [.int kx]) (rest := r) (b := aS) (C := "java/lang/String") ⟨hx, hb, hml, hown, hts⟩ (jm_chr l B aS aV kx (fun q => hkx (Or.inl q)) (fun q => hkx (Or.inr q))) ⟨callB_of 1 hts (jgood jin_chr) rfl rfl rfl (hts (.initialized jy_chr.cls) (xg_of (by decide +kernel) rfl)) (hts _ (xg_of hlk rfl)) (by decide +kernel) ⟨by show 3 + 1 + 1 ≤ R.frames; omega, by show 8 + (2 + 11) + 40 * 4 ≤ R.locals; omega⟩, hts (.instanceMethod jy_chr) (xg_of (by decide +kernel) rfl), hts (.selects "java/lang/String" jy_chr jy_chr) (xg_of (by decide +kernel) rfl)⟩ ⟨fun a U g mk h => ⟨jPc_blind a U g mk h.1, h.2⟩, vk_recv hZ.2.1 (i := 0) (by decide) hS, fun U hU hW => ⟨jpre hZ hS hB U hU hW, by rw [hU]; exact Nat.le_trans hB hS.1⟩⟩ rfl rfl hls rfl (lv_room hcat) hd ⟨by omega, by omega⟩) ?_
    exact k locs hS

