section
variable {p : Program} {l : Launch} {e : Env} {s : State} {m : MethodId} {args : Array Value} {below : List Frame} {meth : Method} {c : Code} {H : Heap} {locs : List Loc} {cells slots : Nat} {Q : State → Prop}
variable {D : va_G} {B aS : Nat} {cA : Nat → ClassId} {Z : State → Prop} {M : xM} {ls : Array Slot}
/-- new in the law -/
theorem law_new {a idx pc : Nat} {q : vw_C} {rest : List Value} (hx : p.tables.exec = Jvm.exec) (hb : c.code = code) (hown : s.vm.findClass R_law = some m.cls) (hts : ∀ w ∈ lw_tbl, w.before args s = true) (hK : va_K D vwCl (xtys cA) s) (hq : vwCl[a]? = some q) (hl : Cond.classLink R_law idx q.1 ∈ lw_tbl) (h1 : Cond.instantiable q.1 q.2.2 ∈ lw_tbl) (h2 : Cond.initialized q.1 ∈ lw_tbl)
    (hSt : xSt D B cA M s H locs) (hsz : H.size = B + M.1.length) (hce : cells + 1 ≤ 600000) (hsl : slots + q.2.2 ≤ 7302250) (hd : decode code pc = .ok (.new idx, 3))
    (kk : ∀ (H1 : Heap), xSt D B cA (M.1 ++ [(a, q.2.2, List.replicate q.2.2 none)], xz M.2.1 M.1.length 0, xz M.2.2 M.1.length 0) s H1 locs → H1.size = B + (M.1 ++ [(a, q.2.2, List.replicate q.2.2 (none : Option Nat))]).length → W p l e room_1 s m args below meth c H1 locs (cells + 1) (slots + q.2.2) Q (F0 m (pc + 3) ls (.ref (B + M.1.length) :: rest))) :
    W p l e room_1 s m args below meth c H locs cells slots Q (F0 m pc ls rest) := by
  obtain ⟨Cn, T, N⟩ := q
  obtain ⟨h50, hin, ⟨ty0, hty, hrf⟩, -⟩ := xcl a _ hq
  have hKn := hK.1 a _ hq
  refine W.newcK hx hb hown (hts _ hl) (hts _ h1) (hts _ h2) rfl hd hce hsl hKn.2.1 hsz (fun H1 kC hkC e1 z1 o1 => ?_)
  have hP1 : va_P D vwCl (xwl B cA (M.1 ++ [(a, N, List.replicate N none)], xz M.2.1 M.1.length 0, xz M.2.2 M.1.length 0)) H1 := by
    rw [xwl_push (M := M) (s := (a, N, List.replicate N none)) rfl (fun c' h => xz_ne (Nat.ne_of_lt h)) (fun c' h => xz_ne (Nat.ne_of_lt h))]
    refine (hSt.1.kept (fun k x hx => o1 x.1 (by rw [← hsz]; exact (hSt.1 k x hx).lt))).app (fun k x hx => ?_)
    have hz : k < 1 := (List.getElem?_eq_some_iff.mp hx).1
    rw [show k = 0 by omega] at hx
    cases hx
    rw [xcell, if_pos h50]
    refine ⟨_, hq, (u_born ty0 hts (fun w hw => hin w hw) hKn hkC e1 hty).to (fun j hj => ?_)⟩
    have hj' : j < N := hj
    simp only [vp_V, List.getD_eq_getElem?_getD, List.getElem?_map, List.getElem?_range hj', Option.map_some, Option.getD_some]
    rcases hrf j hj with ⟨h1, h2⟩ | ⟨h1, h2⟩
    · rw [h1, h2]; simp [xz]; rfl
    · rw [h1]
      simp only [if_true]
      have : (List.replicate N (none : Option Nat))[j]? = some none := by rw [List.getElem?_replicate, if_pos hj']
      rw [this]
      revert h2
      cases ty0 j <;> intro h2 <;> first | (simp [xisR] at h2; done) | rfl
  refine kk H1 ⟨hP1, Nat.le_trans hSt.2.1 (by omega), fun q h1 h2 => (o1 q (by rw [← hsz]; exact Nat.lt_of_lt_of_le h1 hSt.2.1)).trans (hSt.2.2.1 q h1 h2), hSt.2.2.2⟩ (by rw [z1, List.length_append]; rfl)
/-- a constructor called from the law -/
theorem law_init {a idx pc o mc ms : Nat} {me' : xMe} {rest : List Value} {M2 : xM} {n : Nat} (hx : p.tables.exec = Jvm.exec) (hb : c.code = code) (hml : c.maxLocals = 4) (hown : s.vm.findClass R_law = some m.cls) (hts : ∀ w ∈ lw_tbl, w.before args s = true) (hB : B ≤ s.heap.size) (hmet : xMetAll l Z D B aS cA 10) (hZ : xZok Z B) (hZs : Z s) (hK : va_K D vwCl (xtys cA) s)
    (hme : xmt[a]? = some me') (hok : xokM me' = true) (hk2 : me'.2.2.2.2.2.1 = 2) (hl : Cond.methodLink R_law idx me'.1 ∈ lw_tbl) (hpar : (parseMethodDescriptor me'.1.desc).map (fun d => d.parameters.length) = some 0) (hfl : 1 ≤ me'.2.2.1)
    (hev : ev n 10 me' 0 (xentry me'.2.2.1 [.ref o]) [] M = some (none, M2)) (hmc : mc + M.1.length = M2.1.length) (hms : ms + xsl M = xsl M2) (hSt : xSt D B cA M s H locs) (hsz : H.size = B + M.1.length) (hce : cells + mc ≤ 600000) (hsl : slots + ms ≤ 7302250) (hls : ls.size = 4) (hcat : (rest.map fun v => v.category).sum ≤ 8) (hd : decode code pc = .ok (.invokespecial idx, 3))
    (kk : ∀ (H1 : Heap) (locs1 : List Loc), xSt D B cA M2 s H1 locs1 → H1.size = B + M2.1.length → W p l e room_1 s m args below meth c H1 locs1 (cells + mc) (slots + ms) Q (F0 m (pc + 3) ls rest)) :
    W p l e room_1 s m args below meth c H locs cells slots Q (F0 m pc ls (.ref (B + o) :: rest)) := by
  have hM := hmet n me' [.ref o] M M2 none mc ms (List.mem_of_getElem? hme) hfl hev hmc hms
  have hok2 := hok
  unfold xokM xokH at hok2
  simp only [Bool.and_eq_true, decide_eq_true_eq] at hok2
  obtain ⟨⟨hcode, hini, -, -, hmh, h21, hkind⟩, -⟩ := hok2
  rw [if_neg (by rw [hk2]; decide), if_neg (by rw [hk2]; decide)] at hkind
  simp only [Bool.and_eq_true, decide_eq_true_eq] at hkind
  have hgood := xgood me' hok lw_tbl (fun w hw => (List.mem_filter.mp hw).1)
  have hE := lw_E hts
  have hpre : ∀ U : State, U.heap = H → s.WarmedH U.vm → xPc Z D B aS cA [.ref o] M ([Value.ref (B + o)] : List Value).toArray U := fun U hU hW =>
    ⟨rfl, by rw [hU]; exact hsz, by rw [hU]; exact hSt.1, va_K.moved hW.alike hK, hE.warm hW, hZ.1 s U hZs hW (fun q hq => by rw [hU]; exact hSt.2.2.1 q (by omega) (by omega))⟩
  have cb := callB_of (R := room_1) (bytes := me'.2.1) (maxL := me'.2.2.1) (ret := me'.2.2.2.1) 0 hts hgood rfl (rm := xrm 10 mc ms) rfl rfl (hts _ hini) (hts _ hl) ⟨hmh.1, hmh.2, hpar⟩ ⟨by show 11 + 1 ≤ 12; omega, by show 8 + (me'.2.2.1 + 11) + 40 * 11 ≤ 480; omega⟩
  rw [hkind.2.2.2] at cb
  have hrun := va_runI (p := p) (l := l) (e := e) (R := room_1) (m := m) (below := below) (meth := meth) (c := c) (locs := locs) (cells := cells) (slots := slots) (As := []) (rest := rest) (g := F0 m pc ls (.ref (B + o) :: rest)) ⟨hx, hb, hml, hown, hts⟩ hM ⟨cb, hkind.2.1, hts _ hkind.2.2.1⟩ ⟨xPc_blind hZ, hpre⟩ rfl rfl hls rfl (lv_room hcat) hd ⟨hce, hsl⟩
  have hgr : M.1.length ≤ M2.1.length := by omega
  intro T hT X
  obtain ⟨v, st₀, t', T', L, h0, X', hL, e1, e2, ⟨hv, hz, hp, hk⟩, st⟩ := hrun T hT X
  cases hv
  rw [h0] at hk
  obtain ⟨t2, a1, b1⟩ := kk T'.heap (locs ++ L) ⟨by rw [e1]; exact hp, Nat.le_trans hSt.2.1 (by rw [e1, hz, hsz]; omega), fun q h1 h2 => by
      rw [e1, hk q (Nat.lt_of_not_le h2)]; exact hSt.2.2.1 q h1 h2, fun q hq => by
      rcases List.mem_append.mp hq with h | h
      · exact hSt.2.2.2 q h
      · exact hL q h⟩ (by rw [e1]; exact hz) T' rfl X'
  exact ⟨t2, st t2 a1, b1⟩
end
/-- the tables at the start -/
theorem law_K {args : Array Value} {s : State} (hts : ∀ w ∈ lw_tbl, w.before args s = true) : ∃ (D : va_G) (cA : Nat → ClassId), va_K D vwCl (xtys cA) s := by
  obtain ⟨c0, i0, k0⟩ := u_known (C := RX0) (T := TX0) (N := 5) (n := 5) hts inX0 (hts _ (by decide +kernel))
  obtain ⟨c1, i1, k1⟩ := u_known (C := RX1) (T := TX1) (N := 4) (n := 4) hts inX1 (hts _ (by decide +kernel))
  obtain ⟨c2, i2, k2⟩ := u_known (C := RX2) (T := TX2) (N := 11) (n := 11) hts inX2 (hts _ (by decide +kernel))
  obtain ⟨c3, i3, k3⟩ := u_known (C := RX3) (T := TX3) (N := 4) (n := 4) hts inX3 (hts _ (by decide +kernel))
  obtain ⟨c4, i4, k4⟩ := u_known (C := RX4) (T := TX4) (N := 2) (n := 2) hts inX4 (hts _ (by decide +kernel))
  obtain ⟨c5, i5, k5⟩ := u_known (C := RX5) (T := TX5) (N := 3) (n := 3) hts inX5 (hts _ (by decide +kernel))
  obtain ⟨c6, i6, k6⟩ := u_known (C := RX6) (T := TX6) (N := 4) (n := 4) hts inX6 (hts _ (by decide +kernel))
  obtain ⟨c7, i7, k7⟩ := u_known (C := RX7) (T := TX7) (N := 5) (n := 5) hts inX7 (hts _ (by decide +kernel))
  obtain ⟨c8, i8, k8⟩ := u_known (C := RX8) (T := TX8) (N := 8) (n := 8) hts inX8 (hts _ (by decide +kernel))
  obtain ⟨c9, i9, k9⟩ := u_known (C := RX9) (T := TX9) (N := 6) (n := 6) hts inX9 (hts _ (by decide +kernel))
  obtain ⟨c10, i10, k10⟩ := u_known (C := RX10) (T := TX10) (N := 37) (n := 37) hts inX10 (hts _ (by decide +kernel))
  obtain ⟨a0, ka0, m0, e0, f0, g0⟩ := Cond.arrayClass_spec (hts (.arrayClass .int) (by decide +kernel))
  obtain ⟨a1, ka1, m1, e1, f1, g1⟩ := Cond.arrayClass_spec (hts (.arrayClass .long) (by decide +kernel))
  obtain ⟨a2, ka2, m2, e2, f2, g2⟩ := Cond.arrayClass_spec (hts (.arrayClass .boolean) (by decide +kernel))
  obtain ⟨a3, ka3, m3, e3, f3, g3⟩ := Cond.arrayClass_spec (hts (.arrayClass .byte) (by decide +kernel))
  obtain ⟨m4, a4, ka4, hm4, -, f4, g4, e4⟩ := Cond.arrayOver_spec (hts (.arrayOver (.object "PronounOrders$Order")) (by decide +kernel))
  refine ⟨(fun k => [c0, c1, c2, c3, c4, c5, c6, c7, c8, c9, c10].getD k 0, fun k => [i0, i1, i2, i3, i4, i5, i6, i7, i8, i9, i10].getD k i0), fun k => [a0, a1, a2, a3, a4].getD k 0, ?_, ?_⟩
  · intro k q hq
    match k, hq with
    | 0, hq => cases hq; exact k0
    | 1, hq => cases hq; exact k1
    | 2, hq => cases hq; exact k2
    | 3, hq => cases hq; exact k3
    | 4, hq => cases hq; exact k4
    | 5, hq => cases hq; exact k5
    | 6, hq => cases hq; exact k6
    | 7, hq => cases hq; exact k7
    | 8, hq => cases hq; exact k8
    | 9, hq => cases hq; exact k9
    | 10, hq => cases hq; exact k10
    | n + 11, hq => simp [vwCl] at hq
  · intro k q hq
    match k, hq with
    | 0, hq => cases hq; exact ⟨fun n z => ⟨(fun k h => by cases h), ka0, f0, m0, g0⟩, e0⟩
    | 1, hq => cases hq; exact ⟨fun n z => ⟨(fun k h => by cases h), ka1, f1, m1, g1⟩, e1⟩
    | 2, hq => cases hq; exact ⟨fun n z => ⟨(fun k h => by cases h), ka2, f2, m2, g2⟩, e2⟩
    | 3, hq => cases hq; exact ⟨fun n z => ⟨(fun k h => by cases h), ka3, f3, m3, g3⟩, e3⟩
    | 4, hq => cases hq; exact ⟨fun n z => ⟨(fun k h => by cases h), ka4, f4, m4, g4⟩, ka4, m4, f4, g4, hm4, e4⟩
    | n + 5, hq => simp [xtys] at hq
/-- the text at the start -/
theorem law_Z {b : Nat} {s : State} (hts : ∀ w ∈ lw_tbl, w.before #[Value.ref b] s = true) (hgv : (Jvm.Cond.and given_1 narrow_1).before #[Value.ref b] s = true) : ∃ aS aV : Nat, Zs s.heap.size aS aV s := by
  have hs := flat_of_before _ hgv
  have hA : ∀ a : Nat, a < s.heap.size → ¬ (fun q => s.heap.size ≤ q) a := fun a h => Nat.not_le_of_lt h
  obtain ⟨adK, adV, hS, he⟩ := vk_Sof (N := 1) (tm := fun _ => .string "PronounOrders$Words" 34) (len := [91]) (byt := [xtext]) (A := fun q => s.heap.size ≤ q) (args := #[Value.ref b]) (s := s)
    (fun i hi => by have : i = 0 := by omega
                    subst this; decide)
    (fun i hi => hs _ (by decide +kernel)) (fun i hi => hs _ (by decide +kernel)) (fun i hi => hs _ (by decide +kernel))
    (fun i hi => by have : i = 0 := by omega
                    subst this; exact hs _ (by decide +kernel))
    (fun i hi j hj => by
      have : i = 0 := by omega
      subst this
      have hj' : j < 91 := hj
      have key : ∀ j, j < 91 → (Cond.eq (.elem (.field (.string "PronounOrders$Words" 34) "java/lang/String" "value" "[B") (.int (Int32.ofNat j))) (.int (([xtext].getD 0 []).getD j 0))) ∈ flatC (Jvm.Cond.and given_1 narrow_1) := by decide +kernel
      exact hs _ (key j hj'))
    (fun i j hi hj hij => by omega) hA
  refine ⟨adK 0, adV 0, vk_R.of (hts _ (by decide +kernel)) (he 0 (by decide)), ⟨fun i hi => ?_, fun i j hi hj _ => by omega⟩, va_Zof (hts _ (by decide +kernel)) (hts _ (by decide +kernel)) (va_eqt (hs _ (by decide +kernel))) hA, va_Zqof (hts _ (by decide +kernel)) (hts _ (by decide +kernel)) (hs _ (by decide +kernel)) hA⟩
  have : i = 0 := by omega
  subst this
  exact hS.1 0 (by decide)
set_option maxHeartbeats 8000000 in
set_option maxRecDepth 100000 in
/-- THE LAW, from its entry: out of the operations -/
theorem whole_open {p : Program} {e : Env} {s : State} {m : MethodId} {below : List Frame} {meth : Method} {c : Code} (l : Launch) {b L : Nat} {xs : Nat → Int32} {Inv : St → Prop} (hall : ∀ me ∈ xmt, xokM me = true) (hops : OpAll Inv) (hinit : ∀ sv : St, (∀ (c : Nat) (s : xSh), SH[c]? = some s → ∀ j, j < s.2.1 → sv.1 c j = expI c j ∧ sv.2 c j = expJ c j) → Inv sv) (hL : L ≤ 2048) (C0 : lw_At p s m meth c b L xs) : W p l e room_1 s m #[Value.ref b] below meth c s.heap [] 0 0 (lw_Z below #[Value.ref b] s) (entryFrame m ([Value.ref b] : List Value).toArray 4) := by
  obtain ⟨hx, hb, hr, hml, hown, hts, hX, hbl, hlocks, hgv⟩ := id C0
  obtain ⟨D, cA, hK⟩ := law_K hts
  obtain ⟨aS, aV, hZs⟩ := law_Z hts hgv
  obtain ⟨M1, M2, hev1, hM1, hev2, hM2, hval⟩ := init_runs
  obtain ⟨B, hBs⟩ : ∃ B, B = s.heap.size := ⟨_, rfl⟩
  rw [← hBs] at hZs
  have hB : B ≤ s.heap.size := Nat.le_of_eq hBs
  have hmet := xMet_all (l := l) (D := D) (cA := cA) Zs_ok (xLdc_ok l D B aS aV cA) (xBI_ok l D B aS aV cA) hall 10
  have hl := lv_entry ([.ref b]) (n := 4) (Nat.le_of_ble_eq_true rfl)
  rw [lg_entry_eq]
  generalize (lg_sl ([.ref b]) ++ List.replicate (4 - (lg_sl ([.ref b])).length) Slot.unset).toArray = ls at hl ⊢
  have hl : lv_has ls 4 [(0, .ref b)] := hl
  have hSt0 : xSt D B cA (([] : List xSh), (fun _ _ => 0), (fun _ _ => 0)) s s.heap [] := ⟨fun k q h => by simp [xwl] at h, va_S.rf⟩
  have hn1 : M1.1.length = 94 := by rw [hM1]; rfl
  have hn2 : M2.1.length = 118 := by rw [hM2]; rfl
  have hs1 : xsl M1 = xsl (SH.take 94, (fun _ _ => 0), (fun _ _ => 0)) := by unfold xsl; rw [hM1]
  have hs2 : xsl M2 = xsl (SH, (fun _ _ => 0), (fun _ _ => 0)) := by unfold xsl; rw [hM2]
  refine law_new (a := 9) (M := (([] : List xSh), (fun _ _ => 0), (fun _ _ => 0))) hx hb hown hts hK rfl (by decide +kernel) (by decide +kernel) (by decide +kernel) hSt0 (by rw [hBs]; rfl) (Nat.le_of_ble_eq_true rfl) (Nat.le_of_ble_eq_true rfl) dL_0 (fun H hSt hsz => ?_)
  refine lv_dup hx hb dL_3 rfl ?_
  have hSt : xSt D B cA M0x s H [] := by
    have e : (xz (fun _ _ => (0 : Int32)) 0 0) = fun _ _ => 0 := by funext c j; simp [xz]
    have e2 : (xz (fun _ _ => (0 : Int64)) 0 0) = fun _ _ => 0 := by funext c j; simp [xz]
    have h := hSt
    simp only [List.nil_append, List.length_nil, e, e2] at h
    exact h
  refine law_init (a := 96) (o := 0) (mc := 93) (ms := xsl (SH.take 94, (fun _ _ => 0), (fun _ _ => 0)) - 6) (M := M0x) (M2 := M1) hx hb hml hown hts hB hmet Zs_ok hZs hK rfl (hall mX9_init (List.mem_of_getElem? (i := 96) rfl)) rfl (by decide +kernel) (by decide +kernel) (Nat.le_of_ble_eq_true rfl) hev1 (by rw [hn1]; rfl) (by rw [hs1]; rfl) hSt hsz (Nat.le_of_ble_eq_true rfl) (Nat.le_of_ble_eq_true rfl) hl.1 (Nat.le_of_ble_eq_true rfl) dL_4 (fun H locs hSt hsz => ?_)
  refine lv_astore_n (lv' := [(1, .ref (B + 0)), (0, .ref b)]) hx hb dL_7 rfl hl (by decide) rfl (fun ls hl => ?_)
  refine law_new (a := 10) (M := M1) hx hb hown hts hK rfl (by decide +kernel) (by decide +kernel) (by decide +kernel) hSt hsz (Nat.le_of_ble_eq_true rfl) (Nat.le_of_ble_eq_true rfl) dL_8 (fun H hSt hsz => ?_)
  refine lv_dup hx hb dL_11 rfl ?_
  rw [hn1]
  refine law_init (a := 115) (o := 94) (mc := 23) (ms := xsl (SH, (fun _ _ => 0), (fun _ _ => 0)) - (xsl (SH.take 94, (fun _ _ => 0), (fun _ _ => 0)) + 37)) (M := (M1.1 ++ [(10, 37, List.replicate 37 none)], xz M1.2.1 M1.1.length 0, xz M1.2.2 M1.1.length 0)) (M2 := M2) hx hb hml hown hts hB hmet Zs_ok hZs hK rfl (hall mX10_init (List.mem_of_getElem? (i := 115) rfl)) rfl (by decide +kernel) (by decide +kernel) (Nat.le_of_ble_eq_true rfl) hev2 (by rw [hn2, List.length_append, hn1]; rfl) (by
      have : xsl (M1.1 ++ [(10, 37, List.replicate 37 none)], xz M1.2.1 M1.1.length 0, xz M1.2.2 M1.1.length 0) = xsl (SH.take 94, (fun _ _ => 0), (fun _ _ => 0)) + 37 := by
        rw [← hs1]; simp [xsl]
      rw [this, hs2]; rfl) hSt hsz (Nat.le_of_ble_eq_true rfl) (Nat.le_of_ble_eq_true rfl) hl.1 (Nat.le_of_ble_eq_true rfl) dL_12 (fun H locs hSt hsz => ?_)
  refine lv_astore_n (lv' := [(2, .ref (B + 94)), (1, .ref (B + 0)), (0, .ref b)]) hx hb dL_15 rfl hl (by decide) rfl (fun ls hl => ?_)
  refine lv_iconst (v := nI 0) hx hb dL_16 rfl ?_
  refine lv_istore_n (lv' := [(3, .int (nI 0)), (2, .ref (B + 94)), (1, .ref (B + 0)), (0, .ref b)]) hx hb dL_17 rfl hl (by decide) rfl (fun ls hl => ?_)
  have hM2e : M2 = (SH, M2.2.1, M2.2.2) := by rw [← hM2]
  rw [hM2e] at hSt
  refine W.widen (k := 118) (n := xsl (SH, (fun _ _ => 0), (fun _ _ => 0))) (Nat.le_of_ble_eq_true rfl) (Nat.le_of_ble_eq_true rfl) ?_
  exact law_loop hL C0 hBs hmet Zs_ok hZs hK hall hops (L + 1) 0 (M2.2.1, M2.2.2) H locs ls (Nat.zero_le L) (by omega) (hinit _ hval) hSt (by rw [hsz, hn2]; rfl) (lv_sub hl [3, 2, 1, 0] rfl)
