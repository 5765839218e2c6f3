set_option maxHeartbeats 8000000 in
set_option maxRecDepth 100000 in
theorem law_loop {p : Program} {l : Launch} {e : Env} {s : State} {m : MethodId} {below : List Frame} {meth : Method} {c : Code} {b L : Nat} {xs : Nat → Int32} {D : va_G} {B aS : Nat} {cA : Nat → ClassId} {Z : State → Prop} {Inv : St → Prop} (hL : L ≤ 2048) (C0 : lw_At p s m meth c b L xs) (hBs : B = s.heap.size) (hmet : xMetAll l Z D B aS cA 10) (hZ : xZok Z B) (hZs : Z s) (hK : va_K D vwCl (xtys cA) s) (hall : ∀ me ∈ xmt, xokM me = true) (hops : OpAll Inv) :
    ∀ (n i : Nat) (sv : St) (H : Heap) (locs : List Loc) (ls : Array Slot), i ≤ L → L < i + n → Inv sv → xSt D B cA (SH, sv.1, sv.2) s H locs → H.size = B + SH.length → lv_has ls 4 [(0, .ref b), (1, .ref (B + 0)), (2, .ref (B + 94)), (3, .int (nI i))] → W p l e room_1 s m #[Value.ref b] below meth c H locs 118 (xsl (SH, (fun _ _ => 0), (fun _ _ => 0))) (lw_Z below #[Value.ref b] s) (F0 m 18 ls []) := by
  obtain ⟨hx, hb, hr, hml, hown, hts, hX, hbl, hlocks, hgv⟩ := id C0
  obtain ⟨h_thing, h_see, h_own, h_turn, h_feed, h_word, h_name, h_form, h_same, h_line, h_fault, h_order, h_given, h_table, h_count⟩ := hops
  have hB : B ≤ s.heap.size := Nat.le_of_eq hBs
  have hbA : ¬ (fun q : Nat => B ≤ q) b := by show ¬ B ≤ b; omega
  intro n
  induction n with
  | zero => intro i sv H locs ls h1 h2; omega
  | succ n ih =>
    intro i sv H locs ls hi hin0 hinv hSt hsz hl
    have hS := hSt.2
    refine lv_iload_n hx hb dL_18 rfl (lv_at hl 3 rfl) ?_
    refine lv_aload_n hx hb dL_19 rfl (lv_at hl 0 rfl) ?_
    refine va_slen hx hb hX hbl hbA hS dL_20 ?_
    refine lv_iconst (v := nI 4) hx hb dL_21 rfl ?_
    refine lv_isub hx hb dL_22 ?_
    have hsub : (Int32.ofNat L - nI 4).toInt = (L : Int) - 4 := pk_sub_toInt (a := L) (b := 4) (by omega) (by omega)
    have hiI : (nI i).toInt = (i : Int) := nI_toInt (by omega)
    refine lv_icmp_gt (tgt := 605) hx hb dL_23 (by decide) (fun cg => ?_) (fun cg => ?_)
    · refine lv_iconst (v := 1) hx hb dL_605 rfl ?_
      refine va_forget (fun q hq => by rw [← hBs]; exact hS.2.2 q hq) ?_
      refine W.widen (k := 600000) (n := 7302250) (Nat.le_of_ble_eq_true rfl) (Nat.le_of_ble_eq_true rfl) ?_
      exact lw_ret hx hb hr hlocks dL_606
    · have hi4 : i + 4 ≤ L := by
        rw [Int32.lt_iff_toInt_lt, hsub, hiI] at cg
        omega
      have hin0' : vp_in (nI i) L := vp_in_nI (by omega) (by omega)
      have hin1 : vp_in (nI i + 1) L := by rw [nI_1]; exact vp_in_nI (by omega) (by omega)
      have hin2 : vp_in (nI i + 2) L := by rw [show (2 : Int32) = nI 2 from rfl, nI_add]; exact vp_in_nI (by omega) (by omega)
      have hin3 : vp_in (nI i + 3) L := by rw [show (3 : Int32) = nI 3 from rfl, nI_add]; exact vp_in_nI (by omega) (by omega)
      obtain ⟨a1, ha1⟩ : ∃ a1, a1 = xs (nI i + 1).toNatClampNeg := ⟨_, rfl⟩
      obtain ⟨a2, ha2⟩ : ∃ a2, a2 = xs (nI i + 2).toNatClampNeg := ⟨_, rfl⟩
      obtain ⟨a3, ha3⟩ : ∃ a3, a3 = xs (nI i + 3).toNatClampNeg := ⟨_, rfl⟩
      have next : ∀ (s2 : St), Inv s2 → ∀ (H : Heap) (locs : List Loc), xSt D B cA (SH, s2.1, s2.2) s H locs → H.size = B + SH.length → W p l e room_1 s m #[Value.ref b] below meth c H locs 118 (xsl (SH, (fun _ _ => 0), (fun _ _ => 0))) (lw_Z below #[Value.ref b] s) (F0 m 599 ls []) := by
        intro s2 hi2 H locs hSt hsz
        refine lv_iinc (v := nI (i + 4)) (lv' := [(3, .int (nI (i + 4))), (0, .ref b), (1, .ref (B + 0)), (2, .ref (B + 94))]) hx hb dL_599 hl (k := 3) rfl (by rw [show Int32.ofInt 4 = nI 4 from rfl, nI_add]) (by decide) rfl (fun ls hl => ?_)
        refine lv_goto (tgt := 18) hx hb dL_602 (by decide) ?_
        exact ih (i + 4) s2 H locs ls hi4 (by omega) hi2 hSt hsz (lv_sub hl [1, 2, 3, 0] rfl)
      refine lv_aload_n hx hb dL_26 rfl (lv_at hl 0 rfl) ?_
      refine lv_iload_n hx hb dL_27 rfl (lv_at hl 3 rfl) ?_
      refine va_sld hx hb hX hbl hbA hS hin0' dL_28 ?_
      refine lv_bipush (v := 15) hx hb dL_29 rfl ?_
      refine lv_iand hx hb dL_31 ?_
      obtain ⟨op, hop, heop⟩ := pk_andE (xs (nI i).toNatClampNeg) (m := 15) 4 (by decide)
      rw [heop]
      have hop16 : op < 16 := hop
      clear hop heop
      have h16 : op = 0 ∨ op = 1 ∨ op = 2 ∨ op = 3 ∨ op = 4 ∨ op = 5 ∨ op = 6 ∨ op = 7 ∨ op = 8 ∨ op = 9 ∨ op = 10 ∨ op = 11 ∨ op = 12 ∨ op = 13 ∨ op = 14 ∨ op = 15 := by omega
      rcases h16 with rfl | rfl | rfl | rfl | rfl | rfl | rfl | rfl | rfl | rfl | rfl | rfl | rfl | rfl | rfl | rfl
      · refine lv_tableIn (off := 76) (tgt := 108) hx hb dL_32 (by decide) (by decide) rfl (by decide) ?_
        obtain ⟨r, s1, s2, hf1, hf2, hi2⟩ := h_thing sv a1 hinv
        refine lv_aload_n hx hb dL_108 rfl (lv_at hl 1 rfl) ?_
        refine lv_aload_n hx hb dL_109 rfl (lv_at hl 0 rfl) ?_
        refine lv_iload_n hx hb dL_110 rfl (lv_at hl 3 rfl) ?_
        refine lv_iconst (v := 1) hx hb dL_111 rfl ?_
        refine lv_iadd hx hb dL_112 ?_
        refine va_sld hx hb hX hbl hbA hS hin1 dL_113 ?_
        rw [← ha1]
        refine law_call (a := 97) (o := 0) (t := 9) (nA := 1) (av := [.int a1]) (rest := []) (z := r) (M := (SH, sv.1, sv.2)) (M2 := (SH, s1.1, s1.2)) hx hb hml hown hts hB hmet hZ hZs hK rfl (hall mX9_thing (List.mem_of_getElem? (i := 97) rfl)) rfl rfl rfl rfl rfl (List.mem_of_getElem? (i := 365) rfl) (by decide +kernel) rfl (Nat.le_of_ble_eq_true rfl) (R_X9_thing (d := 8) hf1 ⟨rfl, rfl⟩) rfl hSt hsz (Nat.le_of_ble_eq_true rfl) (Nat.le_of_ble_eq_true rfl) hl.1 (Nat.le_of_ble_eq_true rfl) dL_114 (fun H locs hSt hsz => ?_)
        have hS := hSt.2
        refine lv_aload_n hx hb dL_117 rfl (lv_at hl 2 rfl) ?_
        refine lv_aload_n hx hb dL_118 rfl (lv_at hl 0 rfl) ?_
        refine lv_iload_n hx hb dL_119 rfl (lv_at hl 3 rfl) ?_
        refine lv_iconst (v := 1) hx hb dL_120 rfl ?_
        refine lv_iadd hx hb dL_121 ?_
        refine va_sld hx hb hX hbl hbA hS hin1 dL_122 ?_
        rw [← ha1]
        refine law_call (a := 119) (o := 94) (t := 10) (nA := 1) (av := [.int a1]) (rest := [.int r]) (z := r) (M := (SH, s1.1, s1.2)) (M2 := (SH, s2.1, s2.2)) hx hb hml hown hts hB hmet hZ hZs hK rfl (hall mX10_thing (List.mem_of_getElem? (i := 119) rfl)) rfl rfl rfl rfl rfl (List.mem_of_getElem? (i := 946) rfl) (by decide +kernel) rfl (Nat.le_of_ble_eq_true rfl) (R_X10_thing (d := 9) hf2 ⟨rfl, rfl⟩) rfl hSt hsz (Nat.le_of_ble_eq_true rfl) (Nat.le_of_ble_eq_true rfl) hl.1 (Nat.le_of_ble_eq_true rfl) dL_123 (fun H locs hSt hsz => ?_)
        have hS := hSt.2
        refine lv_icmp_eq (tgt := 599) hx hb dL_126 (by decide) (fun _ => ?_) (fun h => absurd rfl h)
        exact next s2 hi2 H locs hSt hsz
      · refine lv_tableIn (off := 99) (tgt := 131) hx hb dL_32 (by decide) (by decide) rfl (by decide) ?_
        by_cases hz : a2 = 0
        · obtain ⟨r, s1, s2, hf1, hf2, hi2⟩ := h_see sv a1 0 hinv (Or.inl rfl)
          refine lv_aload_n hx hb dL_131 rfl (lv_at hl 1 rfl) ?_
          refine lv_aload_n hx hb dL_132 rfl (lv_at hl 0 rfl) ?_
          refine lv_iload_n hx hb dL_133 rfl (lv_at hl 3 rfl) ?_
          refine lv_iconst (v := 1) hx hb dL_134 rfl ?_
          refine lv_iadd hx hb dL_135 ?_
          refine va_sld hx hb hX hbl hbA hS hin1 dL_136 ?_
          rw [← ha1]
          refine lv_aload_n hx hb dL_137 rfl (lv_at hl 0 rfl) ?_
          refine lv_iload_n hx hb dL_138 rfl (lv_at hl 3 rfl) ?_
          refine lv_iconst (v := 2) hx hb dL_139 rfl ?_
          refine lv_iadd hx hb dL_140 ?_
          refine va_sld hx hb hX hbl hbA hS hin2 dL_141 ?_
          rw [← ha2]
          refine lv_if_eq (tgt := 149) hx hb dL_142 (by decide) (fun _ => ?_) (fun h => absurd hz h)
          refine lv_iconst (v := 0) hx hb dL_149 rfl ?_
          refine law_call (a := 98) (o := 0) (t := 9) (nA := 2) (av := [.int a1, .int 0]) (rest := []) (z := r) (M := (SH, sv.1, sv.2)) (M2 := (SH, s1.1, s1.2)) hx hb hml hown hts hB hmet hZ hZs hK rfl (hall mX9_see (List.mem_of_getElem? (i := 98) rfl)) rfl rfl rfl rfl rfl (List.mem_of_getElem? (i := 376) rfl) (by decide +kernel) rfl (Nat.le_of_ble_eq_true rfl) (R_X9_see (d := 8) hf1 ⟨rfl, rfl⟩) rfl hSt hsz (Nat.le_of_ble_eq_true rfl) (Nat.le_of_ble_eq_true rfl) hl.1 (Nat.le_of_ble_eq_true rfl) dL_150 (fun H locs hSt hsz => ?_)
          have hS := hSt.2
          refine lv_aload_n hx hb dL_153 rfl (lv_at hl 2 rfl) ?_
          refine lv_aload_n hx hb dL_154 rfl (lv_at hl 0 rfl) ?_
          refine lv_iload_n hx hb dL_155 rfl (lv_at hl 3 rfl) ?_
          refine lv_iconst (v := 1) hx hb dL_156 rfl ?_
          refine lv_iadd hx hb dL_157 ?_
          refine va_sld hx hb hX hbl hbA hS hin1 dL_158 ?_
          rw [← ha1]
          refine lv_aload_n hx hb dL_159 rfl (lv_at hl 0 rfl) ?_
          refine lv_iload_n hx hb dL_160 rfl (lv_at hl 3 rfl) ?_
          refine lv_iconst (v := 2) hx hb dL_161 rfl ?_
          refine lv_iadd hx hb dL_162 ?_
          refine va_sld hx hb hX hbl hbA hS hin2 dL_163 ?_
          rw [← ha2]
          refine lv_if_eq (tgt := 171) hx hb dL_164 (by decide) (fun _ => ?_) (fun h => absurd hz h)
          refine lv_iconst (v := 0) hx hb dL_171 rfl ?_
          refine law_call (a := 120) (o := 94) (t := 10) (nA := 2) (av := [.int a1, .int 0]) (rest := [.int r]) (z := r) (M := (SH, s1.1, s1.2)) (M2 := (SH, s2.1, s2.2)) hx hb hml hown hts hB hmet hZ hZs hK rfl (hall mX10_see (List.mem_of_getElem? (i := 120) rfl)) rfl rfl rfl rfl rfl (List.mem_of_getElem? (i := 953) rfl) (by decide +kernel) rfl (Nat.le_of_ble_eq_true rfl) (R_X10_see (d := 8) hf2 ⟨rfl, rfl⟩) rfl hSt hsz (Nat.le_of_ble_eq_true rfl) (Nat.le_of_ble_eq_true rfl) hl.1 (Nat.le_of_ble_eq_true rfl) dL_172 (fun H locs hSt hsz => ?_)
          have hS := hSt.2
          refine lv_icmp_eq (tgt := 599) hx hb dL_175 (by decide) (fun _ => ?_) (fun h => absurd rfl h)
          exact next s2 hi2 H locs hSt hsz
        · obtain ⟨r, s1, s2, hf1, hf2, hi2⟩ := h_see sv a1 1 hinv (Or.inr rfl)
          refine lv_aload_n hx hb dL_131 rfl (lv_at hl 1 rfl) ?_
          refine lv_aload_n hx hb dL_132 rfl (lv_at hl 0 rfl) ?_
          refine lv_iload_n hx hb dL_133 rfl (lv_at hl 3 rfl) ?_
          refine lv_iconst (v := 1) hx hb dL_134 rfl ?_
          refine lv_iadd hx hb dL_135 ?_
          refine va_sld hx hb hX hbl hbA hS hin1 dL_136 ?_
          rw [← ha1]
          refine lv_aload_n hx hb dL_137 rfl (lv_at hl 0 rfl) ?_
          refine lv_iload_n hx hb dL_138 rfl (lv_at hl 3 rfl) ?_
          refine lv_iconst (v := 2) hx hb dL_139 rfl ?_
          refine lv_iadd hx hb dL_140 ?_
          refine va_sld hx hb hX hbl hbA hS hin2 dL_141 ?_
          rw [← ha2]
          refine lv_if_eq (tgt := 149) hx hb dL_142 (by decide) (fun h => absurd h hz) (fun _ => ?_)
          refine lv_iconst (v := 1) hx hb dL_145 rfl ?_
          refine lv_goto (tgt := 150) hx hb dL_146 (by decide) ?_
          refine law_call (a := 98) (o := 0) (t := 9) (nA := 2) (av := [.int a1, .int 1]) (rest := []) (z := r) (M := (SH, sv.1, sv.2)) (M2 := (SH, s1.1, s1.2)) hx hb hml hown hts hB hmet hZ hZs hK rfl (hall mX9_see (List.mem_of_getElem? (i := 98) rfl)) rfl rfl rfl rfl rfl (List.mem_of_getElem? (i := 376) rfl) (by decide +kernel) rfl (Nat.le_of_ble_eq_true rfl) (R_X9_see (d := 8) hf1 ⟨rfl, rfl⟩) rfl hSt hsz (Nat.le_of_ble_eq_true rfl) (Nat.le_of_ble_eq_true rfl) hl.1 (Nat.le_of_ble_eq_true rfl) dL_150 (fun H locs hSt hsz => ?_)
          have hS := hSt.2
          refine lv_aload_n hx hb dL_153 rfl (lv_at hl 2 rfl) ?_
          refine lv_aload_n hx hb dL_154 rfl (lv_at hl 0 rfl) ?_
          refine lv_iload_n hx hb dL_155 rfl (lv_at hl 3 rfl) ?_
          refine lv_iconst (v := 1) hx hb dL_156 rfl ?_
          refine lv_iadd hx hb dL_157 ?_
          refine va_sld hx hb hX hbl hbA hS hin1 dL_158 ?_
          rw [← ha1]
          refine lv_aload_n hx hb dL_159 rfl (lv_at hl 0 rfl) ?_
          refine lv_iload_n hx hb dL_160 rfl (lv_at hl 3 rfl) ?_
          refine lv_iconst (v := 2) hx hb dL_161 rfl ?_
          refine lv_iadd hx hb dL_162 ?_
          refine va_sld hx hb hX hbl hbA hS hin2 dL_163 ?_
          rw [← ha2]
          refine lv_if_eq (tgt := 171) hx hb dL_164 (by decide) (fun h => absurd h hz) (fun _ => ?_)
          refine lv_iconst (v := 1) hx hb dL_167 rfl ?_
          refine lv_goto (tgt := 172) hx hb dL_168 (by decide) ?_
          refine law_call (a := 120) (o := 94) (t := 10) (nA := 2) (av := [.int a1, .int 1]) (rest := [.int r]) (z := r) (M := (SH, s1.1, s1.2)) (M2 := (SH, s2.1, s2.2)) hx hb hml hown hts hB hmet hZ hZs hK rfl (hall mX10_see (List.mem_of_getElem? (i := 120) rfl)) rfl rfl rfl rfl rfl (List.mem_of_getElem? (i := 953) rfl) (by decide +kernel) rfl (Nat.le_of_ble_eq_true rfl) (R_X10_see (d := 8) hf2 ⟨rfl, rfl⟩) rfl hSt hsz (Nat.le_of_ble_eq_true rfl) (Nat.le_of_ble_eq_true rfl) hl.1 (Nat.le_of_ble_eq_true rfl) dL_172 (fun H locs hSt hsz => ?_)
          have hS := hSt.2
          refine lv_icmp_eq (tgt := 599) hx hb dL_175 (by decide) (fun _ => ?_) (fun h => absurd rfl h)
          exact next s2 hi2 H locs hSt hsz
      · refine lv_tableIn (off := 148) (tgt := 180) hx hb dL_32 (by decide) (by decide) rfl (by decide) ?_
        obtain ⟨r, s1, s2, hf1, hf2, hi2⟩ := h_own sv a1 a2 hinv
        refine lv_aload_n hx hb dL_180 rfl (lv_at hl 1 rfl) ?_
        refine lv_aload_n hx hb dL_181 rfl (lv_at hl 0 rfl) ?_
        refine lv_iload_n hx hb dL_182 rfl (lv_at hl 3 rfl) ?_
        refine lv_iconst (v := 1) hx hb dL_183 rfl ?_
        refine lv_iadd hx hb dL_184 ?_
        refine va_sld hx hb hX hbl hbA hS hin1 dL_185 ?_
        rw [← ha1]
        refine lv_aload_n hx hb dL_186 rfl (lv_at hl 0 rfl) ?_
        refine lv_iload_n hx hb dL_187 rfl (lv_at hl 3 rfl) ?_
        refine lv_iconst (v := 2) hx hb dL_188 rfl ?_
        refine lv_iadd hx hb dL_189 ?_
        refine va_sld hx hb hX hbl hbA hS hin2 dL_190 ?_
        rw [← ha2]
        refine law_call (a := 99) (o := 0) (t := 9) (nA := 2) (av := [.int a1, .int a2]) (rest := []) (z := r) (M := (SH, sv.1, sv.2)) (M2 := (SH, s1.1, s1.2)) hx hb hml hown hts hB hmet hZ hZs hK rfl (hall mX9_own (List.mem_of_getElem? (i := 99) rfl)) rfl rfl rfl rfl rfl (List.mem_of_getElem? (i := 392) rfl) (by decide +kernel) rfl (Nat.le_of_ble_eq_true rfl) (R_X9_own (d := 9) hf1 ⟨rfl, rfl⟩) rfl hSt hsz (Nat.le_of_ble_eq_true rfl) (Nat.le_of_ble_eq_true rfl) hl.1 (Nat.le_of_ble_eq_true rfl) dL_191 (fun H locs hSt hsz => ?_)
        have hS := hSt.2
        refine lv_aload_n hx hb dL_194 rfl (lv_at hl 2 rfl) ?_
        refine lv_aload_n hx hb dL_195 rfl (lv_at hl 0 rfl) ?_
        refine lv_iload_n hx hb dL_196 rfl (lv_at hl 3 rfl) ?_
        refine lv_iconst (v := 1) hx hb dL_197 rfl ?_
        refine lv_iadd hx hb dL_198 ?_
        refine va_sld hx hb hX hbl hbA hS hin1 dL_199 ?_
        rw [← ha1]
        refine lv_aload_n hx hb dL_200 rfl (lv_at hl 0 rfl) ?_
        refine lv_iload_n hx hb dL_201 rfl (lv_at hl 3 rfl) ?_
        refine lv_iconst (v := 2) hx hb dL_202 rfl ?_
        refine lv_iadd hx hb dL_203 ?_
        refine va_sld hx hb hX hbl hbA hS hin2 dL_204 ?_
        rw [← ha2]
        refine law_call (a := 121) (o := 94) (t := 10) (nA := 2) (av := [.int a1, .int a2]) (rest := [.int r]) (z := r) (M := (SH, s1.1, s1.2)) (M2 := (SH, s2.1, s2.2)) hx hb hml hown hts hB hmet hZ hZs hK rfl (hall mX10_own (List.mem_of_getElem? (i := 121) rfl)) rfl rfl rfl rfl rfl (List.mem_of_getElem? (i := 961) rfl) (by decide +kernel) rfl (Nat.le_of_ble_eq_true rfl) (R_X10_own (d := 8) hf2 ⟨rfl, rfl⟩) rfl hSt hsz (Nat.le_of_ble_eq_true rfl) (Nat.le_of_ble_eq_true rfl) hl.1 (Nat.le_of_ble_eq_true rfl) dL_205 (fun H locs hSt hsz => ?_)
        have hS := hSt.2
        refine lv_icmp_eq (tgt := 599) hx hb dL_208 (by decide) (fun _ => ?_) (fun h => absurd rfl h)
        exact next s2 hi2 H locs hSt hsz
      · refine lv_tableIn (off := 181) (tgt := 213) hx hb dL_32 (by decide) (by decide) rfl (by decide) ?_
        obtain ⟨r, s1, s2, hf1, hf2, hi2⟩ := h_turn sv a1 a2 hinv
        refine lv_aload_n hx hb dL_213 rfl (lv_at hl 1 rfl) ?_
        refine lv_aload_n hx hb dL_214 rfl (lv_at hl 0 rfl) ?_
        refine lv_iload_n hx hb dL_215 rfl (lv_at hl 3 rfl) ?_
        refine lv_iconst (v := 1) hx hb dL_216 rfl ?_
        refine lv_iadd hx hb dL_217 ?_
        refine va_sld hx hb hX hbl hbA hS hin1 dL_218 ?_
        rw [← ha1]
        refine lv_aload_n hx hb dL_219 rfl (lv_at hl 0 rfl) ?_
        refine lv_iload_n hx hb dL_220 rfl (lv_at hl 3 rfl) ?_
        refine lv_iconst (v := 2) hx hb dL_221 rfl ?_
        refine lv_iadd hx hb dL_222 ?_
        refine va_sld hx hb hX hbl hbA hS hin2 dL_223 ?_
        rw [← ha2]
        refine law_call (a := 100) (o := 0) (t := 9) (nA := 2) (av := [.int a1, .int a2]) (rest := []) (z := r) (M := (SH, sv.1, sv.2)) (M2 := (SH, s1.1, s1.2)) hx hb hml hown hts hB hmet hZ hZs hK rfl (hall mX9_turn (List.mem_of_getElem? (i := 100) rfl)) rfl rfl rfl rfl rfl (List.mem_of_getElem? (i := 400) rfl) (by decide +kernel) rfl (Nat.le_of_ble_eq_true rfl) (R_X9_turn (d := 9) hf1 ⟨rfl, rfl⟩) rfl hSt hsz (Nat.le_of_ble_eq_true rfl) (Nat.le_of_ble_eq_true rfl) hl.1 (Nat.le_of_ble_eq_true rfl) dL_224 (fun H locs hSt hsz => ?_)
        have hS := hSt.2
        refine lv_aload_n hx hb dL_227 rfl (lv_at hl 2 rfl) ?_
        refine lv_aload_n hx hb dL_228 rfl (lv_at hl 0 rfl) ?_
        refine lv_iload_n hx hb dL_229 rfl (lv_at hl 3 rfl) ?_
        refine lv_iconst (v := 1) hx hb dL_230 rfl ?_
        refine lv_iadd hx hb dL_231 ?_
        refine va_sld hx hb hX hbl hbA hS hin1 dL_232 ?_
        rw [← ha1]
        refine lv_aload_n hx hb dL_233 rfl (lv_at hl 0 rfl) ?_
        refine lv_iload_n hx hb dL_234 rfl (lv_at hl 3 rfl) ?_
        refine lv_iconst (v := 2) hx hb dL_235 rfl ?_
        refine lv_iadd hx hb dL_236 ?_
        refine va_sld hx hb hX hbl hbA hS hin2 dL_237 ?_
        rw [← ha2]
        refine law_call (a := 122) (o := 94) (t := 10) (nA := 2) (av := [.int a1, .int a2]) (rest := [.int r]) (z := r) (M := (SH, s1.1, s1.2)) (M2 := (SH, s2.1, s2.2)) hx hb hml hown hts hB hmet hZ hZs hK rfl (hall mX10_turn (List.mem_of_getElem? (i := 122) rfl)) rfl rfl rfl rfl rfl (List.mem_of_getElem? (i := 965) rfl) (by decide +kernel) rfl (Nat.le_of_ble_eq_true rfl) (R_X10_turn (d := 8) hf2 ⟨rfl, rfl⟩) rfl hSt hsz (Nat.le_of_ble_eq_true rfl) (Nat.le_of_ble_eq_true rfl) hl.1 (Nat.le_of_ble_eq_true rfl) dL_238 (fun H locs hSt hsz => ?_)
        have hS := hSt.2
        refine lv_icmp_eq (tgt := 599) hx hb dL_241 (by decide) (fun _ => ?_) (fun h => absurd rfl h)
        exact next s2 hi2 H locs hSt hsz
      · refine lv_tableIn (off := 214) (tgt := 246) hx hb dL_32 (by decide) (by decide) rfl (by decide) ?_
        obtain ⟨r, s1, s2, hf1, hf2, hi2⟩ := h_feed sv a1 ((a2.toInt64 <<< ((32 : Int32).toInt64 &&& 63)) ||| (a3.toInt64 &&& 4294967295)) hinv
        refine lv_aload_n hx hb dL_246 rfl (lv_at hl 1 rfl) ?_
        refine lv_aload_n hx hb dL_247 rfl (lv_at hl 0 rfl) ?_
        refine lv_iload_n hx hb dL_248 rfl (lv_at hl 3 rfl) ?_
        refine lv_iconst (v := 1) hx hb dL_249 rfl ?_
        refine lv_iadd hx hb dL_250 ?_
        refine va_sld hx hb hX hbl hbA hS hin1 dL_251 ?_
        rw [← ha1]
        refine lv_aload_n hx hb dL_252 rfl (lv_at hl 0 rfl) ?_
        refine lv_iload_n hx hb dL_253 rfl (lv_at hl 3 rfl) ?_
        refine lv_iconst (v := 2) hx hb dL_254 rfl ?_
        refine lv_iadd hx hb dL_255 ?_
        refine va_sld hx hb hX hbl hbA hS hin2 dL_256 ?_
        rw [← ha2]
        refine lv_i2l hx hb dL_257 rfl ?_
        refine lv_bipush (v := 32) hx hb dL_258 rfl ?_
        refine lv_lshl hx hb dL_260 rfl ?_
        refine lv_aload_n hx hb dL_261 rfl (lv_at hl 0 rfl) ?_
        refine lv_iload_n hx hb dL_262 rfl (lv_at hl 3 rfl) ?_
        refine lv_iconst (v := 3) hx hb dL_263 rfl ?_
        refine lv_iadd hx hb dL_264 ?_
        refine va_sld hx hb hX hbl hbA hS hin3 dL_265 ?_
        rw [← ha3]
        refine lv_i2l hx hb dL_266 rfl ?_
        refine lv_ldc2 (v := 4294967295) hx hb hown (hts _ (by decide +kernel)) dL_267 ?_
        refine lv_land hx hb dL_270 ?_
        refine lv_lor hx hb dL_271 ?_
        refine law_call (a := 101) (o := 0) (t := 9) (nA := 2) (av := [.int a1, .long ((a2.toInt64 <<< ((32 : Int32).toInt64 &&& 63)) ||| (a3.toInt64 &&& 4294967295))]) (rest := []) (z := r) (M := (SH, sv.1, sv.2)) (M2 := (SH, s1.1, s1.2)) hx hb hml hown hts hB hmet hZ hZs hK rfl (hall mX9_feed (List.mem_of_getElem? (i := 101) rfl)) rfl rfl rfl rfl rfl (List.mem_of_getElem? (i := 412) rfl) (by decide +kernel) rfl (Nat.le_of_ble_eq_true rfl) (R_X9_feed (d := 9) hf1 ⟨rfl, rfl⟩) rfl hSt hsz (Nat.le_of_ble_eq_true rfl) (Nat.le_of_ble_eq_true rfl) hl.1 (Nat.le_of_ble_eq_true rfl) dL_272 (fun H locs hSt hsz => ?_)
        have hS := hSt.2
        refine lv_aload_n hx hb dL_275 rfl (lv_at hl 2 rfl) ?_
        refine lv_aload_n hx hb dL_276 rfl (lv_at hl 0 rfl) ?_
        refine lv_iload_n hx hb dL_277 rfl (lv_at hl 3 rfl) ?_
        refine lv_iconst (v := 1) hx hb dL_278 rfl ?_
        refine lv_iadd hx hb dL_279 ?_
        refine va_sld hx hb hX hbl hbA hS hin1 dL_280 ?_
        rw [← ha1]
        refine lv_aload_n hx hb dL_281 rfl (lv_at hl 0 rfl) ?_
        refine lv_iload_n hx hb dL_282 rfl (lv_at hl 3 rfl) ?_
        refine lv_iconst (v := 2) hx hb dL_283 rfl ?_
        refine lv_iadd hx hb dL_284 ?_
        refine va_sld hx hb hX hbl hbA hS hin2 dL_285 ?_
        rw [← ha2]
        refine lv_i2l hx hb dL_286 rfl ?_
        refine lv_bipush (v := 32) hx hb dL_287 rfl ?_
        refine lv_lshl hx hb dL_289 rfl ?_
        refine lv_aload_n hx hb dL_290 rfl (lv_at hl 0 rfl) ?_
        refine lv_iload_n hx hb dL_291 rfl (lv_at hl 3 rfl) ?_
        refine lv_iconst (v := 3) hx hb dL_292 rfl ?_
        refine lv_iadd hx hb dL_293 ?_
        refine va_sld hx hb hX hbl hbA hS hin3 dL_294 ?_
        rw [← ha3]
        refine lv_i2l hx hb dL_295 rfl ?_
        refine lv_ldc2 (v := 4294967295) hx hb hown (hts _ (by decide +kernel)) dL_296 ?_
        refine lv_land hx hb dL_299 ?_
        refine lv_lor hx hb dL_300 ?_
        refine law_call (a := 123) (o := 94) (t := 10) (nA := 2) (av := [.int a1, .long ((a2.toInt64 <<< ((32 : Int32).toInt64 &&& 63)) ||| (a3.toInt64 &&& 4294967295))]) (rest := [.int r]) (z := r) (M := (SH, s1.1, s1.2)) (M2 := (SH, s2.1, s2.2)) hx hb hml hown hts hB hmet hZ hZs hK rfl (hall mX10_feed (List.mem_of_getElem? (i := 123) rfl)) rfl rfl rfl rfl rfl (List.mem_of_getElem? (i := 969) rfl) (by decide +kernel) rfl (Nat.le_of_ble_eq_true rfl) (R_X10_feed (d := 9) hf2 ⟨rfl, rfl⟩) rfl hSt hsz (Nat.le_of_ble_eq_true rfl) (Nat.le_of_ble_eq_true rfl) hl.1 (Nat.le_of_ble_eq_true rfl) dL_301 (fun H locs hSt hsz => ?_)
        have hS := hSt.2
        refine lv_icmp_eq (tgt := 599) hx hb dL_304 (by decide) (fun _ => ?_) (fun h => absurd rfl h)
        exact next s2 hi2 H locs hSt hsz
      · refine lv_tableIn (off := 277) (tgt := 309) hx hb dL_32 (by decide) (by decide) rfl (by decide) ?_
        obtain ⟨r, s1, s2, hf1, hf2, hi2⟩ := h_word sv a1 hinv
        refine lv_aload_n hx hb dL_309 rfl (lv_at hl 1 rfl) ?_
        refine lv_aload_n hx hb dL_310 rfl (lv_at hl 0 rfl) ?_
        refine lv_iload_n hx hb dL_311 rfl (lv_at hl 3 rfl) ?_
        refine lv_iconst (v := 1) hx hb dL_312 rfl ?_
        refine lv_iadd hx hb dL_313 ?_
        refine va_sld hx hb hX hbl hbA hS hin1 dL_314 ?_
        rw [← ha1]
        refine law_call (a := 102) (o := 0) (t := 9) (nA := 1) (av := [.int a1]) (rest := []) (z := r) (M := (SH, sv.1, sv.2)) (M2 := (SH, s1.1, s1.2)) hx hb hml hown hts hB hmet hZ hZs hK rfl (hall mX9_word (List.mem_of_getElem? (i := 102) rfl)) rfl rfl rfl rfl rfl (List.mem_of_getElem? (i := 425) rfl) (by decide +kernel) rfl (Nat.le_of_ble_eq_true rfl) (R_X9_word (d := 7) hf1 ⟨rfl, rfl⟩) rfl hSt hsz (Nat.le_of_ble_eq_true rfl) (Nat.le_of_ble_eq_true rfl) hl.1 (Nat.le_of_ble_eq_true rfl) dL_315 (fun H locs hSt hsz => ?_)
        have hS := hSt.2
        refine lv_aload_n hx hb dL_318 rfl (lv_at hl 2 rfl) ?_
        refine lv_aload_n hx hb dL_319 rfl (lv_at hl 0 rfl) ?_
        refine lv_iload_n hx hb dL_320 rfl (lv_at hl 3 rfl) ?_
        refine lv_iconst (v := 1) hx hb dL_321 rfl ?_
        refine lv_iadd hx hb dL_322 ?_
        refine va_sld hx hb hX hbl hbA hS hin1 dL_323 ?_
        rw [← ha1]
        refine law_call (a := 126) (o := 94) (t := 10) (nA := 1) (av := [.int a1]) (rest := [.int r]) (z := r) (M := (SH, s1.1, s1.2)) (M2 := (SH, s2.1, s2.2)) hx hb hml hown hts hB hmet hZ hZs hK rfl (hall mX10_word (List.mem_of_getElem? (i := 126) rfl)) rfl rfl rfl rfl rfl (List.mem_of_getElem? (i := 973) rfl) (by decide +kernel) rfl (Nat.le_of_ble_eq_true rfl) (R_X10_word (d := 9) hf2 ⟨rfl, rfl⟩) rfl hSt hsz (Nat.le_of_ble_eq_true rfl) (Nat.le_of_ble_eq_true rfl) hl.1 (Nat.le_of_ble_eq_true rfl) dL_324 (fun H locs hSt hsz => ?_)
        have hS := hSt.2
        refine lv_icmp_eq (tgt := 599) hx hb dL_327 (by decide) (fun _ => ?_) (fun h => absurd rfl h)
        exact next s2 hi2 H locs hSt hsz
      · refine lv_tableIn (off := 300) (tgt := 332) hx hb dL_32 (by decide) (by decide) rfl (by decide) ?_
        obtain ⟨r, s1, s2, hf1, hf2, hi2⟩ := h_name sv a1 a2 a3 hinv
        refine lv_aload_n hx hb dL_332 rfl (lv_at hl 1 rfl) ?_
        refine lv_aload_n hx hb dL_333 rfl (lv_at hl 0 rfl) ?_
        refine lv_iload_n hx hb dL_334 rfl (lv_at hl 3 rfl) ?_
        refine lv_iconst (v := 1) hx hb dL_335 rfl ?_
        refine lv_iadd hx hb dL_336 ?_
        refine va_sld hx hb hX hbl hbA hS hin1 dL_337 ?_
        rw [← ha1]
        refine lv_aload_n hx hb dL_338 rfl (lv_at hl 0 rfl) ?_
        refine lv_iload_n hx hb dL_339 rfl (lv_at hl 3 rfl) ?_
        refine lv_iconst (v := 2) hx hb dL_340 rfl ?_
        refine lv_iadd hx hb dL_341 ?_
        refine va_sld hx hb hX hbl hbA hS hin2 dL_342 ?_
        rw [← ha2]
        refine lv_aload_n hx hb dL_343 rfl (lv_at hl 0 rfl) ?_
        refine lv_iload_n hx hb dL_344 rfl (lv_at hl 3 rfl) ?_
        refine lv_iconst (v := 3) hx hb dL_345 rfl ?_
        refine lv_iadd hx hb dL_346 ?_
        refine va_sld hx hb hX hbl hbA hS hin3 dL_347 ?_
        rw [← ha3]
        refine law_call (a := 103) (o := 0) (t := 9) (nA := 3) (av := [.int a1, .int a2, .int a3]) (rest := []) (z := r) (M := (SH, sv.1, sv.2)) (M2 := (SH, s1.1, s1.2)) hx hb hml hown hts hB hmet hZ hZs hK rfl (hall mX9_name (List.mem_of_getElem? (i := 103) rfl)) rfl rfl rfl rfl rfl (List.mem_of_getElem? (i := 462) rfl) (by decide +kernel) rfl (Nat.le_of_ble_eq_true rfl) (R_X9_name (d := 8) hf1 ⟨rfl, rfl⟩) rfl hSt hsz (Nat.le_of_ble_eq_true rfl) (Nat.le_of_ble_eq_true rfl) hl.1 (Nat.le_of_ble_eq_true rfl) dL_348 (fun H locs hSt hsz => ?_)
        have hS := hSt.2
        refine lv_aload_n hx hb dL_351 rfl (lv_at hl 2 rfl) ?_
        refine lv_aload_n hx hb dL_352 rfl (lv_at hl 0 rfl) ?_
        refine lv_iload_n hx hb dL_353 rfl (lv_at hl 3 rfl) ?_
        refine lv_iconst (v := 1) hx hb dL_354 rfl ?_
        refine lv_iadd hx hb dL_355 ?_
        refine va_sld hx hb hX hbl hbA hS hin1 dL_356 ?_
        rw [← ha1]
        refine lv_aload_n hx hb dL_357 rfl (lv_at hl 0 rfl) ?_
        refine lv_iload_n hx hb dL_358 rfl (lv_at hl 3 rfl) ?_
        refine lv_iconst (v := 2) hx hb dL_359 rfl ?_
        refine lv_iadd hx hb dL_360 ?_
        refine va_sld hx hb hX hbl hbA hS hin2 dL_361 ?_
        rw [← ha2]
        refine lv_aload_n hx hb dL_362 rfl (lv_at hl 0 rfl) ?_
        refine lv_iload_n hx hb dL_363 rfl (lv_at hl 3 rfl) ?_
        refine lv_iconst (v := 3) hx hb dL_364 rfl ?_
        refine lv_iadd hx hb dL_365 ?_
        refine va_sld hx hb hX hbl hbA hS hin3 dL_366 ?_
        rw [← ha3]
        refine law_call (a := 127) (o := 94) (t := 10) (nA := 3) (av := [.int a1, .int a2, .int a3]) (rest := [.int r]) (z := r) (M := (SH, s1.1, s1.2)) (M2 := (SH, s2.1, s2.2)) hx hb hml hown hts hB hmet hZ hZs hK rfl (hall mX10_name (List.mem_of_getElem? (i := 127) rfl)) rfl rfl rfl rfl rfl (List.mem_of_getElem? (i := 985) rfl) (by decide +kernel) rfl (Nat.le_of_ble_eq_true rfl) (R_X10_name (d := 8) hf2 ⟨rfl, rfl⟩) rfl hSt hsz (Nat.le_of_ble_eq_true rfl) (Nat.le_of_ble_eq_true rfl) hl.1 (Nat.le_of_ble_eq_true rfl) dL_367 (fun H locs hSt hsz => ?_)
        have hS := hSt.2
        refine lv_icmp_eq (tgt := 599) hx hb dL_370 (by decide) (fun _ => ?_) (fun h => absurd rfl h)
        exact next s2 hi2 H locs hSt hsz
      · refine lv_tableIn (off := 343) (tgt := 375) hx hb dL_32 (by decide) (by decide) rfl (by decide) ?_
        obtain ⟨r, s1, s2, hf1, hf2, hi2⟩ := h_form sv a1 a2 hinv
        refine lv_aload_n hx hb dL_375 rfl (lv_at hl 1 rfl) ?_
        refine lv_aload_n hx hb dL_376 rfl (lv_at hl 0 rfl) ?_
        refine lv_iload_n hx hb dL_377 rfl (lv_at hl 3 rfl) ?_
        refine lv_iconst (v := 1) hx hb dL_378 rfl ?_
        refine lv_iadd hx hb dL_379 ?_
        refine va_sld hx hb hX hbl hbA hS hin1 dL_380 ?_
        rw [← ha1]
        refine lv_aload_n hx hb dL_381 rfl (lv_at hl 0 rfl) ?_
        refine lv_iload_n hx hb dL_382 rfl (lv_at hl 3 rfl) ?_
        refine lv_iconst (v := 2) hx hb dL_383 rfl ?_
        refine lv_iadd hx hb dL_384 ?_
        refine va_sld hx hb hX hbl hbA hS hin2 dL_385 ?_
        rw [← ha2]
        refine law_call (a := 104) (o := 0) (t := 9) (nA := 2) (av := [.int a1, .int a2]) (rest := []) (z := r) (M := (SH, sv.1, sv.2)) (M2 := (SH, s1.1, s1.2)) hx hb hml hown hts hB hmet hZ hZs hK rfl (hall mX9_form (List.mem_of_getElem? (i := 104) rfl)) rfl rfl rfl rfl rfl (List.mem_of_getElem? (i := 486) rfl) (by decide +kernel) rfl (Nat.le_of_ble_eq_true rfl) (R_X9_form (d := 9) hf1 ⟨rfl, rfl⟩) rfl hSt hsz (Nat.le_of_ble_eq_true rfl) (Nat.le_of_ble_eq_true rfl) hl.1 (Nat.le_of_ble_eq_true rfl) dL_386 (fun H locs hSt hsz => ?_)
        have hS := hSt.2
        refine lv_aload_n hx hb dL_389 rfl (lv_at hl 2 rfl) ?_
        refine lv_aload_n hx hb dL_390 rfl (lv_at hl 0 rfl) ?_
        refine lv_iload_n hx hb dL_391 rfl (lv_at hl 3 rfl) ?_
        refine lv_iconst (v := 1) hx hb dL_392 rfl ?_
        refine lv_iadd hx hb dL_393 ?_
        refine va_sld hx hb hX hbl hbA hS hin1 dL_394 ?_
        rw [← ha1]
        refine lv_aload_n hx hb dL_395 rfl (lv_at hl 0 rfl) ?_
        refine lv_iload_n hx hb dL_396 rfl (lv_at hl 3 rfl) ?_
        refine lv_iconst (v := 2) hx hb dL_397 rfl ?_
        refine lv_iadd hx hb dL_398 ?_
        refine va_sld hx hb hX hbl hbA hS hin2 dL_399 ?_
        rw [← ha2]
        refine law_call (a := 128) (o := 94) (t := 10) (nA := 2) (av := [.int a1, .int a2]) (rest := [.int r]) (z := r) (M := (SH, s1.1, s1.2)) (M2 := (SH, s2.1, s2.2)) hx hb hml hown hts hB hmet hZ hZs hK rfl (hall mX10_form (List.mem_of_getElem? (i := 128) rfl)) rfl rfl rfl rfl rfl (List.mem_of_getElem? (i := 993) rfl) (by decide +kernel) rfl (Nat.le_of_ble_eq_true rfl) (R_X10_form (d := 8) hf2 ⟨rfl, rfl⟩) rfl hSt hsz (Nat.le_of_ble_eq_true rfl) (Nat.le_of_ble_eq_true rfl) hl.1 (Nat.le_of_ble_eq_true rfl) dL_400 (fun H locs hSt hsz => ?_)
        have hS := hSt.2
        refine lv_icmp_eq (tgt := 599) hx hb dL_403 (by decide) (fun _ => ?_) (fun h => absurd rfl h)
        exact next s2 hi2 H locs hSt hsz
      · refine lv_tableIn (off := 376) (tgt := 408) hx hb dL_32 (by decide) (by decide) rfl (by decide) ?_
        obtain ⟨r, s1, s2, hf1, hf2, hi2⟩ := h_same sv a1 a2 hinv
        refine lv_aload_n hx hb dL_408 rfl (lv_at hl 1 rfl) ?_
        refine lv_aload_n hx hb dL_409 rfl (lv_at hl 0 rfl) ?_
        refine lv_iload_n hx hb dL_410 rfl (lv_at hl 3 rfl) ?_
        refine lv_iconst (v := 1) hx hb dL_411 rfl ?_
        refine lv_iadd hx hb dL_412 ?_
        refine va_sld hx hb hX hbl hbA hS hin1 dL_413 ?_
        rw [← ha1]
        refine lv_aload_n hx hb dL_414 rfl (lv_at hl 0 rfl) ?_
        refine lv_iload_n hx hb dL_415 rfl (lv_at hl 3 rfl) ?_
        refine lv_iconst (v := 2) hx hb dL_416 rfl ?_
        refine lv_iadd hx hb dL_417 ?_
        refine va_sld hx hb hX hbl hbA hS hin2 dL_418 ?_
        rw [← ha2]
        refine law_call (a := 105) (o := 0) (t := 9) (nA := 2) (av := [.int a1, .int a2]) (rest := []) (z := r) (M := (SH, sv.1, sv.2)) (M2 := (SH, s1.1, s1.2)) hx hb hml hown hts hB hmet hZ hZs hK rfl (hall mX9_same (List.mem_of_getElem? (i := 105) rfl)) rfl rfl rfl rfl rfl (List.mem_of_getElem? (i := 498) rfl) (by decide +kernel) rfl (Nat.le_of_ble_eq_true rfl) (R_X9_same (d := 8) hf1 ⟨rfl, rfl⟩) rfl hSt hsz (Nat.le_of_ble_eq_true rfl) (Nat.le_of_ble_eq_true rfl) hl.1 (Nat.le_of_ble_eq_true rfl) dL_419 (fun H locs hSt hsz => ?_)
        have hS := hSt.2
        refine lv_aload_n hx hb dL_422 rfl (lv_at hl 2 rfl) ?_
        refine lv_aload_n hx hb dL_423 rfl (lv_at hl 0 rfl) ?_
        refine lv_iload_n hx hb dL_424 rfl (lv_at hl 3 rfl) ?_
        refine lv_iconst (v := 1) hx hb dL_425 rfl ?_
        refine lv_iadd hx hb dL_426 ?_
        refine va_sld hx hb hX hbl hbA hS hin1 dL_427 ?_
        rw [← ha1]
        refine lv_aload_n hx hb dL_428 rfl (lv_at hl 0 rfl) ?_
        refine lv_iload_n hx hb dL_429 rfl (lv_at hl 3 rfl) ?_
        refine lv_iconst (v := 2) hx hb dL_430 rfl ?_
        refine lv_iadd hx hb dL_431 ?_
        refine va_sld hx hb hX hbl hbA hS hin2 dL_432 ?_
        rw [← ha2]
        refine law_call (a := 129) (o := 94) (t := 10) (nA := 2) (av := [.int a1, .int a2]) (rest := [.int r]) (z := r) (M := (SH, s1.1, s1.2)) (M2 := (SH, s2.1, s2.2)) hx hb hml hown hts hB hmet hZ hZs hK rfl (hall mX10_same (List.mem_of_getElem? (i := 129) rfl)) rfl rfl rfl rfl rfl (List.mem_of_getElem? (i := 997) rfl) (by decide +kernel) rfl (Nat.le_of_ble_eq_true rfl) (R_X10_same (d := 8) hf2 ⟨rfl, rfl⟩) rfl hSt hsz (Nat.le_of_ble_eq_true rfl) (Nat.le_of_ble_eq_true rfl) hl.1 (Nat.le_of_ble_eq_true rfl) dL_433 (fun H locs hSt hsz => ?_)
        have hS := hSt.2
        refine lv_icmp_eq (tgt := 599) hx hb dL_436 (by decide) (fun _ => ?_) (fun h => absurd rfl h)
        exact next s2 hi2 H locs hSt hsz
      · refine lv_tableIn (off := 409) (tgt := 441) hx hb dL_32 (by decide) (by decide) rfl (by decide) ?_
        obtain ⟨r, s1, s2, hf1, hf2, hi2⟩ := h_line sv  hinv
        refine lv_aload_n hx hb dL_441 rfl (lv_at hl 1 rfl) ?_
        refine law_call (a := 106) (o := 0) (t := 9) (nA := 0) (av := []) (rest := []) (z := r) (M := (SH, sv.1, sv.2)) (M2 := (SH, s1.1, s1.2)) hx hb hml hown hts hB hmet hZ hZs hK rfl (hall mX9_line (List.mem_of_getElem? (i := 106) rfl)) rfl rfl rfl rfl rfl (List.mem_of_getElem? (i := 527) rfl) (by decide +kernel) rfl (Nat.le_of_ble_eq_true rfl) (R_X9_line (d := 4) hf1 ⟨rfl, rfl⟩) rfl hSt hsz (Nat.le_of_ble_eq_true rfl) (Nat.le_of_ble_eq_true rfl) hl.1 (Nat.le_of_ble_eq_true rfl) dL_442 (fun H locs hSt hsz => ?_)
        have hS := hSt.2
        refine lv_aload_n hx hb dL_445 rfl (lv_at hl 2 rfl) ?_
        refine law_call (a := 152) (o := 94) (t := 10) (nA := 0) (av := []) (rest := [.int r]) (z := r) (M := (SH, s1.1, s1.2)) (M2 := (SH, s2.1, s2.2)) hx hb hml hown hts hB hmet hZ hZs hK rfl (hall mX10_line (List.mem_of_getElem? (i := 152) rfl)) rfl rfl rfl rfl rfl (List.mem_of_getElem? (i := 1001) rfl) (by decide +kernel) rfl (Nat.le_of_ble_eq_true rfl) (R_X10_line (d := 1) hf2 ⟨rfl, rfl⟩) rfl hSt hsz (Nat.le_of_ble_eq_true rfl) (Nat.le_of_ble_eq_true rfl) hl.1 (Nat.le_of_ble_eq_true rfl) dL_446 (fun H locs hSt hsz => ?_)
        have hS := hSt.2
        refine lv_icmp_eq (tgt := 599) hx hb dL_449 (by decide) (fun _ => ?_) (fun h => absurd rfl h)
        exact next s2 hi2 H locs hSt hsz
      · refine lv_tableIn (off := 422) (tgt := 454) hx hb dL_32 (by decide) (by decide) rfl (by decide) ?_
        obtain ⟨r, s1, s2, hf1, hf2, hi2⟩ := h_fault sv  hinv
        refine lv_aload_n hx hb dL_454 rfl (lv_at hl 1 rfl) ?_
        refine law_call (a := 107) (o := 0) (t := 9) (nA := 0) (av := []) (rest := []) (z := r) (M := (SH, sv.1, sv.2)) (M2 := (SH, s1.1, s1.2)) hx hb hml hown hts hB hmet hZ hZs hK rfl (hall mX9_fault (List.mem_of_getElem? (i := 107) rfl)) rfl rfl rfl rfl rfl (List.mem_of_getElem? (i := 773) rfl) (by decide +kernel) rfl (Nat.le_of_ble_eq_true rfl) (R_X9_fault (d := 9) hf1 ⟨rfl, rfl⟩) rfl hSt hsz (Nat.le_of_ble_eq_true rfl) (Nat.le_of_ble_eq_true rfl) hl.1 (Nat.le_of_ble_eq_true rfl) dL_455 (fun H locs hSt hsz => ?_)
        have hS := hSt.2
        refine lv_aload_n hx hb dL_458 rfl (lv_at hl 2 rfl) ?_
        refine law_call (a := 153) (o := 94) (t := 10) (nA := 0) (av := []) (rest := [.int r]) (z := r) (M := (SH, s1.1, s1.2)) (M2 := (SH, s2.1, s2.2)) hx hb hml hown hts hB hmet hZ hZs hK rfl (hall mX10_fault (List.mem_of_getElem? (i := 153) rfl)) rfl rfl rfl rfl rfl (List.mem_of_getElem? (i := 1092) rfl) (by decide +kernel) rfl (Nat.le_of_ble_eq_true rfl) (R_X10_fault (d := 10) hf2 ⟨rfl, rfl⟩) rfl hSt hsz (Nat.le_of_ble_eq_true rfl) (Nat.le_of_ble_eq_true rfl) hl.1 (Nat.le_of_ble_eq_true rfl) dL_459 (fun H locs hSt hsz => ?_)
        have hS := hSt.2
        refine lv_icmp_eq (tgt := 599) hx hb dL_462 (by decide) (fun _ => ?_) (fun h => absurd rfl h)
        exact next s2 hi2 H locs hSt hsz
      · refine lv_tableIn (off := 435) (tgt := 467) hx hb dL_32 (by decide) (by decide) rfl (by decide) ?_
        obtain ⟨r, s1, s2, hf1, hf2, hi2⟩ := h_order sv a1 a2 hinv
        refine lv_aload_n hx hb dL_467 rfl (lv_at hl 1 rfl) ?_
        refine lv_aload_n hx hb dL_468 rfl (lv_at hl 0 rfl) ?_
        refine lv_iload_n hx hb dL_469 rfl (lv_at hl 3 rfl) ?_
        refine lv_iconst (v := 1) hx hb dL_470 rfl ?_
        refine lv_iadd hx hb dL_471 ?_
        refine va_sld hx hb hX hbl hbA hS hin1 dL_472 ?_
        rw [← ha1]
        refine lv_aload_n hx hb dL_473 rfl (lv_at hl 0 rfl) ?_
        refine lv_iload_n hx hb dL_474 rfl (lv_at hl 3 rfl) ?_
        refine lv_iconst (v := 2) hx hb dL_475 rfl ?_
        refine lv_iadd hx hb dL_476 ?_
        refine va_sld hx hb hX hbl hbA hS hin2 dL_477 ?_
        rw [← ha2]
        refine law_call (a := 108) (o := 0) (t := 9) (nA := 2) (av := [.int a1, .int a2]) (rest := []) (z := r) (M := (SH, sv.1, sv.2)) (M2 := (SH, s1.1, s1.2)) hx hb hml hown hts hB hmet hZ hZs hK rfl (hall mX9_order (List.mem_of_getElem? (i := 108) rfl)) rfl rfl rfl rfl rfl (List.mem_of_getElem? (i := 777) rfl) (by decide +kernel) rfl (Nat.le_of_ble_eq_true rfl) (R_X9_order (d := 9) hf1 ⟨rfl, rfl⟩) rfl hSt hsz (Nat.le_of_ble_eq_true rfl) (Nat.le_of_ble_eq_true rfl) hl.1 (Nat.le_of_ble_eq_true rfl) dL_478 (fun H locs hSt hsz => ?_)
        have hS := hSt.2
        refine lv_aload_n hx hb dL_481 rfl (lv_at hl 2 rfl) ?_
        refine lv_aload_n hx hb dL_482 rfl (lv_at hl 0 rfl) ?_
        refine lv_iload_n hx hb dL_483 rfl (lv_at hl 3 rfl) ?_
        refine lv_iconst (v := 1) hx hb dL_484 rfl ?_
        refine lv_iadd hx hb dL_485 ?_
        refine va_sld hx hb hX hbl hbA hS hin1 dL_486 ?_
        rw [← ha1]
        refine lv_aload_n hx hb dL_487 rfl (lv_at hl 0 rfl) ?_
        refine lv_iload_n hx hb dL_488 rfl (lv_at hl 3 rfl) ?_
        refine lv_iconst (v := 2) hx hb dL_489 rfl ?_
        refine lv_iadd hx hb dL_490 ?_
        refine va_sld hx hb hX hbl hbA hS hin2 dL_491 ?_
        rw [← ha2]
        refine law_call (a := 154) (o := 94) (t := 10) (nA := 2) (av := [.int a1, .int a2]) (rest := [.int r]) (z := r) (M := (SH, s1.1, s1.2)) (M2 := (SH, s2.1, s2.2)) hx hb hml hown hts hB hmet hZ hZs hK rfl (hall mX10_order_ (List.mem_of_getElem? (i := 154) rfl)) rfl rfl rfl rfl rfl (List.mem_of_getElem? (i := 1096) rfl) (by decide +kernel) rfl (Nat.le_of_ble_eq_true rfl) (R_X10_order_ (d := 9) hf2 ⟨rfl, rfl⟩) rfl hSt hsz (Nat.le_of_ble_eq_true rfl) (Nat.le_of_ble_eq_true rfl) hl.1 (Nat.le_of_ble_eq_true rfl) dL_492 (fun H locs hSt hsz => ?_)
        have hS := hSt.2
        refine lv_icmp_eq (tgt := 599) hx hb dL_495 (by decide) (fun _ => ?_) (fun h => absurd rfl h)
        exact next s2 hi2 H locs hSt hsz
      · refine lv_tableIn (off := 468) (tgt := 500) hx hb dL_32 (by decide) (by decide) rfl (by decide) ?_
        obtain ⟨r, s1, s2, hf1, hf2, hi2⟩ := h_given sv a1 a2 a3 hinv
        refine lv_aload_n hx hb dL_500 rfl (lv_at hl 1 rfl) ?_
        refine lv_aload_n hx hb dL_501 rfl (lv_at hl 0 rfl) ?_
        refine lv_iload_n hx hb dL_502 rfl (lv_at hl 3 rfl) ?_
        refine lv_iconst (v := 1) hx hb dL_503 rfl ?_
        refine lv_iadd hx hb dL_504 ?_
        refine va_sld hx hb hX hbl hbA hS hin1 dL_505 ?_
        rw [← ha1]
        refine lv_aload_n hx hb dL_506 rfl (lv_at hl 0 rfl) ?_
        refine lv_iload_n hx hb dL_507 rfl (lv_at hl 3 rfl) ?_
        refine lv_iconst (v := 2) hx hb dL_508 rfl ?_
        refine lv_iadd hx hb dL_509 ?_
        refine va_sld hx hb hX hbl hbA hS hin2 dL_510 ?_
        rw [← ha2]
        refine lv_aload_n hx hb dL_511 rfl (lv_at hl 0 rfl) ?_
        refine lv_iload_n hx hb dL_512 rfl (lv_at hl 3 rfl) ?_
        refine lv_iconst (v := 3) hx hb dL_513 rfl ?_
        refine lv_iadd hx hb dL_514 ?_
        refine va_sld hx hb hX hbl hbA hS hin3 dL_515 ?_
        rw [← ha3]
        refine law_call (a := 109) (o := 0) (t := 9) (nA := 3) (av := [.int a1, .int a2, .int a3]) (rest := []) (z := r) (M := (SH, sv.1, sv.2)) (M2 := (SH, s1.1, s1.2)) hx hb hml hown hts hB hmet hZ hZs hK rfl (hall mX9_given (List.mem_of_getElem? (i := 109) rfl)) rfl rfl rfl rfl rfl (List.mem_of_getElem? (i := 786) rfl) (by decide +kernel) rfl (Nat.le_of_ble_eq_true rfl) (R_X9_given (d := 9) hf1 ⟨rfl, rfl⟩) rfl hSt hsz (Nat.le_of_ble_eq_true rfl) (Nat.le_of_ble_eq_true rfl) hl.1 (Nat.le_of_ble_eq_true rfl) dL_516 (fun H locs hSt hsz => ?_)
        have hS := hSt.2
        refine lv_aload_n hx hb dL_519 rfl (lv_at hl 2 rfl) ?_
        refine lv_aload_n hx hb dL_520 rfl (lv_at hl 0 rfl) ?_
        refine lv_iload_n hx hb dL_521 rfl (lv_at hl 3 rfl) ?_
        refine lv_iconst (v := 1) hx hb dL_522 rfl ?_
        refine lv_iadd hx hb dL_523 ?_
        refine va_sld hx hb hX hbl hbA hS hin1 dL_524 ?_
        rw [← ha1]
        refine lv_aload_n hx hb dL_525 rfl (lv_at hl 0 rfl) ?_
        refine lv_iload_n hx hb dL_526 rfl (lv_at hl 3 rfl) ?_
        refine lv_iconst (v := 2) hx hb dL_527 rfl ?_
        refine lv_iadd hx hb dL_528 ?_
        refine va_sld hx hb hX hbl hbA hS hin2 dL_529 ?_
        rw [← ha2]
        refine lv_aload_n hx hb dL_530 rfl (lv_at hl 0 rfl) ?_
        refine lv_iload_n hx hb dL_531 rfl (lv_at hl 3 rfl) ?_
        refine lv_iconst (v := 3) hx hb dL_532 rfl ?_
        refine lv_iadd hx hb dL_533 ?_
        refine va_sld hx hb hX hbl hbA hS hin3 dL_534 ?_
        rw [← ha3]
        refine law_call (a := 155) (o := 94) (t := 10) (nA := 3) (av := [.int a1, .int a2, .int a3]) (rest := [.int r]) (z := r) (M := (SH, s1.1, s1.2)) (M2 := (SH, s2.1, s2.2)) hx hb hml hown hts hB hmet hZ hZs hK rfl (hall mX10_given (List.mem_of_getElem? (i := 155) rfl)) rfl rfl rfl rfl rfl (List.mem_of_getElem? (i := 1100) rfl) (by decide +kernel) rfl (Nat.le_of_ble_eq_true rfl) (R_X10_given (d := 9) hf2 ⟨rfl, rfl⟩) rfl hSt hsz (Nat.le_of_ble_eq_true rfl) (Nat.le_of_ble_eq_true rfl) hl.1 (Nat.le_of_ble_eq_true rfl) dL_535 (fun H locs hSt hsz => ?_)
        have hS := hSt.2
        refine lv_icmp_eq (tgt := 599) hx hb dL_538 (by decide) (fun _ => ?_) (fun h => absurd rfl h)
        exact next s2 hi2 H locs hSt hsz
      · refine lv_tableIn (off := 511) (tgt := 543) hx hb dL_32 (by decide) (by decide) rfl (by decide) ?_
        obtain ⟨r, s1, s2, hf1, hf2, hi2⟩ := h_table sv a1 a2 hinv
        refine lv_aload_n hx hb dL_543 rfl (lv_at hl 1 rfl) ?_
        refine lv_aload_n hx hb dL_544 rfl (lv_at hl 0 rfl) ?_
        refine lv_iload_n hx hb dL_545 rfl (lv_at hl 3 rfl) ?_
        refine lv_iconst (v := 1) hx hb dL_546 rfl ?_
        refine lv_iadd hx hb dL_547 ?_
        refine va_sld hx hb hX hbl hbA hS hin1 dL_548 ?_
        rw [← ha1]
        refine lv_aload_n hx hb dL_549 rfl (lv_at hl 0 rfl) ?_
        refine lv_iload_n hx hb dL_550 rfl (lv_at hl 3 rfl) ?_
        refine lv_iconst (v := 2) hx hb dL_551 rfl ?_
        refine lv_iadd hx hb dL_552 ?_
        refine va_sld hx hb hX hbl hbA hS hin2 dL_553 ?_
        rw [← ha2]
        refine law_call (a := 110) (o := 0) (t := 9) (nA := 2) (av := [.int a1, .int a2]) (rest := []) (z := r) (M := (SH, sv.1, sv.2)) (M2 := (SH, s1.1, s1.2)) hx hb hml hown hts hB hmet hZ hZs hK rfl (hall mX9_table (List.mem_of_getElem? (i := 110) rfl)) rfl rfl rfl rfl rfl (List.mem_of_getElem? (i := 791) rfl) (by decide +kernel) rfl (Nat.le_of_ble_eq_true rfl) (R_X9_table (d := 9) hf1 ⟨rfl, rfl⟩) rfl hSt hsz (Nat.le_of_ble_eq_true rfl) (Nat.le_of_ble_eq_true rfl) hl.1 (Nat.le_of_ble_eq_true rfl) dL_554 (fun H locs hSt hsz => ?_)
        have hS := hSt.2
        refine lv_aload_n hx hb dL_557 rfl (lv_at hl 2 rfl) ?_
        refine lv_aload_n hx hb dL_558 rfl (lv_at hl 0 rfl) ?_
        refine lv_iload_n hx hb dL_559 rfl (lv_at hl 3 rfl) ?_
        refine lv_iconst (v := 1) hx hb dL_560 rfl ?_
        refine lv_iadd hx hb dL_561 ?_
        refine va_sld hx hb hX hbl hbA hS hin1 dL_562 ?_
        rw [← ha1]
        refine lv_aload_n hx hb dL_563 rfl (lv_at hl 0 rfl) ?_
        refine lv_iload_n hx hb dL_564 rfl (lv_at hl 3 rfl) ?_
        refine lv_iconst (v := 2) hx hb dL_565 rfl ?_
        refine lv_iadd hx hb dL_566 ?_
        refine va_sld hx hb hX hbl hbA hS hin2 dL_567 ?_
        rw [← ha2]
        refine law_call (a := 156) (o := 94) (t := 10) (nA := 2) (av := [.int a1, .int a2]) (rest := [.int r]) (z := r) (M := (SH, s1.1, s1.2)) (M2 := (SH, s2.1, s2.2)) hx hb hml hown hts hB hmet hZ hZs hK rfl (hall mX10_table (List.mem_of_getElem? (i := 156) rfl)) rfl rfl rfl rfl rfl (List.mem_of_getElem? (i := 1104) rfl) (by decide +kernel) rfl (Nat.le_of_ble_eq_true rfl) (R_X10_table (d := 9) hf2 ⟨rfl, rfl⟩) rfl hSt hsz (Nat.le_of_ble_eq_true rfl) (Nat.le_of_ble_eq_true rfl) hl.1 (Nat.le_of_ble_eq_true rfl) dL_568 (fun H locs hSt hsz => ?_)
        have hS := hSt.2
        refine lv_icmp_eq (tgt := 599) hx hb dL_571 (by decide) (fun _ => ?_) (fun h => absurd rfl h)
        exact next s2 hi2 H locs hSt hsz
      · refine lv_tableIn (off := 544) (tgt := 576) hx hb dL_32 (by decide) (by decide) rfl (by decide) ?_
        obtain ⟨r, s1, s2, hf1, hf2, hi2⟩ := h_count sv a1 hinv
        refine lv_aload_n hx hb dL_576 rfl (lv_at hl 1 rfl) ?_
        refine lv_aload_n hx hb dL_577 rfl (lv_at hl 0 rfl) ?_
        refine lv_iload_n hx hb dL_578 rfl (lv_at hl 3 rfl) ?_
        refine lv_iconst (v := 1) hx hb dL_579 rfl ?_
        refine lv_iadd hx hb dL_580 ?_
        refine va_sld hx hb hX hbl hbA hS hin1 dL_581 ?_
        rw [← ha1]
        refine law_call (a := 111) (o := 0) (t := 9) (nA := 1) (av := [.int a1]) (rest := []) (z := r) (M := (SH, sv.1, sv.2)) (M2 := (SH, s1.1, s1.2)) hx hb hml hown hts hB hmet hZ hZs hK rfl (hall mX9_count (List.mem_of_getElem? (i := 111) rfl)) rfl rfl rfl rfl rfl (List.mem_of_getElem? (i := 796) rfl) (by decide +kernel) rfl (Nat.le_of_ble_eq_true rfl) (R_X9_count (d := 9) hf1 ⟨rfl, rfl⟩) rfl hSt hsz (Nat.le_of_ble_eq_true rfl) (Nat.le_of_ble_eq_true rfl) hl.1 (Nat.le_of_ble_eq_true rfl) dL_582 (fun H locs hSt hsz => ?_)
        have hS := hSt.2
        refine lv_aload_n hx hb dL_585 rfl (lv_at hl 2 rfl) ?_
        refine lv_aload_n hx hb dL_586 rfl (lv_at hl 0 rfl) ?_
        refine lv_iload_n hx hb dL_587 rfl (lv_at hl 3 rfl) ?_
        refine lv_iconst (v := 1) hx hb dL_588 rfl ?_
        refine lv_iadd hx hb dL_589 ?_
        refine va_sld hx hb hX hbl hbA hS hin1 dL_590 ?_
        rw [← ha1]
        refine law_call (a := 157) (o := 94) (t := 10) (nA := 1) (av := [.int a1]) (rest := [.int r]) (z := r) (M := (SH, s1.1, s1.2)) (M2 := (SH, s2.1, s2.2)) hx hb hml hown hts hB hmet hZ hZs hK rfl (hall mX10_count (List.mem_of_getElem? (i := 157) rfl)) rfl rfl rfl rfl rfl (List.mem_of_getElem? (i := 1108) rfl) (by decide +kernel) rfl (Nat.le_of_ble_eq_true rfl) (R_X10_count (d := 10) hf2 ⟨rfl, rfl⟩) rfl hSt hsz (Nat.le_of_ble_eq_true rfl) (Nat.le_of_ble_eq_true rfl) hl.1 (Nat.le_of_ble_eq_true rfl) dL_591 (fun H locs hSt hsz => ?_)
        have hS := hSt.2
        refine lv_icmp_eq (tgt := 599) hx hb dL_594 (by decide) (fun _ => ?_) (fun h => absurd rfl h)
        exact next s2 hi2 H locs hSt hsz
      · refine lv_tableOut (tgt := 599) hx hb dL_32 (Or.inr (by decide)) (by decide) ?_
        exact next sv hinv H locs hSt hsz
