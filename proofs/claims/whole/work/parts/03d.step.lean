section
variable {p : Program} {l : Launch} {e : Env} {R : Room} {s : State} {m : MethodId} {args : Array Value} {below : List Frame} {meth : Method} {c : Code} {H : Heap} {locs : List Loc} {cells slots : Nat} {Q : State → Prop}
variable {me : xMe} {D : va_G} {B n0 s0 aS : Nat} {cA : Nat → ClassId} {M M1 : xM} {ls : Array Slot} {L L' : xL} {st st' : List Value} {i i' : Nat} {y : xI}
/-- how large the heap is -/
theorem xsize {g : JFrame} (C : xCx p s m args meth c me D B n0 cA) (hSt : xSt D B cA M s H locs) (hc : cells + n0 = M.1.length) (k : H.size = B + M.1.length → W p l e R s m args below meth c H locs cells slots Q g) : W p l e R s m args below meth c H locs cells slots Q g := by
  intro T hT X
  have h1 := X.heapSize
  have h2 : s.heap.size = B + n0 := C.2.2.2.2.2.2.2.2.2.1
  have h3 := hSt.2.1
  refine k ?_ T hT X
  rw [hT] at h1
  have h4 : B + M.1.length ≤ H.size := by
    by_cases hz : M.1.length = 0
    · omega
    · have hlt : M.1.length - 1 < M.1.length := by omega
      have hg : M.1[M.1.length - 1]? = some M.1[M.1.length - 1] := List.getElem?_eq_getElem hlt
      have := (hSt.1 _ _ (xwl_get (B := B) (cA := cA) hg)).lt
      have h5 : B + (M.1.length - 1) < H.size := this
      omega
  omega
theorem xok_at {x : xI} (C : xCx p s m args meth c me D B n0 cA) (hi : me.2.2.2.2.2.2[i]? = some x) : xokI me.2.2.2.2.1 me.2.1 me.1.name me.2.2.2.2.2.2 i x = true := by
  have h := C.2.2.2.2.2.2.2.2.2.2.2
  unfold xokM at h
  simp only [Bool.and_eq_true] at h
  have := xokIs_get _ 0 i x h.2.2.2 hi
  rwa [Nat.zero_add] at this
abbrev xK (p : Program) (l : Launch) (e : Env) (R : Room) (s : State) (m : MethodId) (args : Array Value) (below : List Frame) (meth : Method) (c : Code) (Q : State → Prop) (me : xMe) (D : va_G) (B n0 s0 aS : Nat) (cA : Nat → ClassId) (L' : xL) (st' : List Value) (M1 : xM) (pc : Nat) : Prop :=
  ∀ (ls' : Array Slot) (H' : Heap) (locs' : List Loc) (cells' slots' : Nat), xhas B aS ls' me.2.2.1 L' → xSt D B cA M1 s H' locs' → cells' + n0 = M1.1.length → slots' + s0 = xsl M1 → W p l e R s m args below meth c H' locs' cells' slots' Q (F0 m pc ls' (st'.map (xlf B aS)))
set_option maxHeartbeats 4000000 in
set_option maxRecDepth 100000 in
theorem xstep_W {Z : State → Prop} {x : xI} (hldc : xLdc l Z D B aS cA) (hZs : Z s) (C : xCx p s m args meth c me D B n0 cA) (hi : me.2.2.2.2.2.2[i]? = some x) (h : xstep x i L st M = some (i', L', st', M1)) (hy : me.2.2.2.2.2.2[i']? = some y) (hL : xhas B aS ls me.2.2.1 L) (hSt : xSt D B cA M s H locs) (hc : cells + n0 = M.1.length) (hs : slots + s0 = xsl M) (hm1 : M1.1.length ≤ n0 + R.cells) (hm2 : xsl M1 ≤ s0 + R.slots)
    (kk : xK p l e R s m args below meth c Q me D B n0 s0 aS cA L' st' M1 y.1) : W p l e R s m args below meth c H locs cells slots Q (F0 m x.1 ls (st.map (xlf B aS))) := by
  have hI := xok_at C hi
  obtain ⟨hx, hb, hml, hr, hlocks, hnm, hown, hts, hK, hsz, hE, -⟩ := id C
  obtain ⟨pc, ins, len, ts, a, b, cf, lk, v⟩ := x
  simp only [xokI, Bool.and_eq_true, decide_eq_true_eq] at hI
  obtain ⟨hd, hlen, hn0, hlk⟩ := hI
  have hn : ∀ y : xI, me.2.2.2.2.2.2[i + 1]? = some y → y.1 = pc + len := fun y hy => by rw [hy] at hn0; exact of_decide_eq_true hn0
  clear hn0
  show W p l e R s m args below meth c H locs cells slots Q (F0 m pc ls (st.map (xlf B aS)))
  cases ins with
  | iconst n =>
    have hl : len = 1 := by simpa [xlenok] using hlen
    subst hl
    cases h
    have ey := hn y hy
    have k := kk ls H locs cells slots hL hSt hc hs
    rw [ey] at k
    exact lv_iconst hx hb hd rfl k
  | bipush n =>
    have hl : len = 2 := by simpa [xlenok] using hlen
    subst hl
    cases h
    have ey := hn y hy
    have k := kk ls H locs cells slots hL hSt hc hs
    rw [ey] at k
    exact lv_bipush hx hb hd rfl k
  | sipush n =>
    have hl : len = 3 := by simpa [xlenok] using hlen
    subst hl
    cases h
    have ey := hn y hy
    have k := kk ls H locs cells slots hL hSt hc hs
    rw [ey] at k
    exact lv_sipush hx hb hd rfl k
  | lconst n =>
    have hl : len = 1 := by simpa [xlenok] using hlen
    subst hl
    cases h
    have ey := hn y hy
    have k := kk ls H locs cells slots hL hSt hc hs
    rw [ey] at k
    exact lv_lconst hx hb hd rfl k
  | aconst_null =>
    have hl : len = 1 := by simpa [xlenok] using hlen
    subst hl
    cases h
    have ey := hn y hy
    have k := kk ls H locs cells slots hL hSt hc hs
    rw [ey] at k
    exact lv_null hx hb hd k
  | ldc2_w idx =>
    have hl : len = 3 := by simpa [xlenok] using hlen
    subst hl
    cases h
    have ey := hn y hy
    have k := kk ls H locs cells slots hL hSt hc hs
    rw [ey] at k
    exact lv_ldc2 hx hb hown (hts _ (xg_lk hlk rfl)) hd k
  | iload k =>
    have hl : len = 2 := by simpa [xlenok] using hlen
    subst hl
    obtain ⟨z, hz, h⟩ := xldI_inv h
    cases h
    have ey := hn y hy
    have k := kk ls H locs cells slots hL hSt hc hs
    rw [ey] at k
    exact lv_iload hx hb hd (xhas_at hL hz) k
  | iload_n k =>
    have hl : len = 1 := by simpa [xlenok] using hlen
    subst hl
    obtain ⟨z, hz, h⟩ := xldI_inv h
    cases h
    have ey := hn y hy
    have k := kk ls H locs cells slots hL hSt hc hs
    rw [ey] at k
    exact lv_iload_n hx hb hd rfl (xhas_at hL hz) k
  | lload k =>
    have hl : len = 2 := by simpa [xlenok] using hlen
    subst hl
    obtain ⟨z, hz, h⟩ := xldL_inv h
    cases h
    have ey := hn y hy
    have k := kk ls H locs cells slots hL hSt hc hs
    rw [ey] at k
    exact lv_lload hx hb hd (xhas_at hL hz) k
  | lload_n k =>
    have hl : len = 1 := by simpa [xlenok] using hlen
    subst hl
    obtain ⟨z, hz, h⟩ := xldL_inv h
    cases h
    have ey := hn y hy
    have k := kk ls H locs cells slots hL hSt hc hs
    rw [ey] at k
    exact lv_lload_n hx hb hd rfl (xhas_at hL hz) k
  | aload k =>
    have hl : len = 2 := by simpa [xlenok] using hlen
    subst hl
    simp only [xstep] at h
    obtain ⟨z, hz0, hz, h⟩ := xldR_inv h
    cases h
    have ey := hn y hy
    have k := kk ls H locs cells slots hL hSt hc hs
    rw [ey] at k
    rcases hz0 with ⟨q, rfl⟩ | rfl
    · exact lv_aload hx hb hd (xhas_at hL hz) k
    · exact lv_aloadN hx hb hd (xhas_at hL hz) k
  | aload_n k =>
    have hl : len = 1 := by simpa [xlenok] using hlen
    subst hl
    simp only [xstep] at h
    obtain ⟨z, hz0, hz, h⟩ := xldR_inv h
    cases h
    have ey := hn y hy
    have k := kk ls H locs cells slots hL hSt hc hs
    rw [ey] at k
    rcases hz0 with ⟨q, rfl⟩ | rfl
    · exact lv_aload_n hx hb hd rfl (xhas_at hL hz) k
    · exact lv_aload_nN hx hb hd rfl (xhas_at hL hz) k
  | istore k =>
    have hl : len = 2 := by simpa [xlenok] using hlen
    subst hl
    obtain ⟨z, r, rfl, h⟩ := xP1_inv h
    obtain ⟨L2, hL2, h⟩ := xbind_inv h
    cases h
    have e := hn y hy
    rw [e] at kk
    exact lv_istore hx hb hd (xhas_lv hL) (xst1_lt hL hL2) rfl (fun ls2 h2 => kk ls2 H locs cells slots (xst1_back hL hL2 h2) hSt hc hs)
  | istore_n k =>
    have hl : len = 1 := by simpa [xlenok] using hlen
    subst hl
    obtain ⟨z, r, rfl, h⟩ := xP1_inv h
    obtain ⟨L2, hL2, h⟩ := xbind_inv h
    cases h
    have e := hn y hy
    rw [e] at kk
    exact lv_istore_n hx hb hd rfl (xhas_lv hL) (xst1_lt hL hL2) rfl (fun ls2 h2 => kk ls2 H locs cells slots (xst1_back hL hL2 h2) hSt hc hs)
  | lstore k =>
    have hl : len = 2 := by simpa [xlenok] using hlen
    subst hl
    obtain ⟨z, r, rfl, h⟩ := xPl_inv h
    obtain ⟨L2, hL2, h⟩ := xbind_inv h
    cases h
    have e := hn y hy
    rw [e] at kk
    exact lv_lstore hx hb hd (xhas_lv hL) (xst2_lt hL hL2) rfl (fun ls2 h2 => kk ls2 H locs cells slots (xst2_back hL hL2 h2) hSt hc hs)
  | lstore_n k =>
    have hl : len = 1 := by simpa [xlenok] using hlen
    subst hl
    obtain ⟨z, r, rfl, h⟩ := xPl_inv h
    obtain ⟨L2, hL2, h⟩ := xbind_inv h
    cases h
    have e := hn y hy
    rw [e] at kk
    exact lv_lstore_n hx hb hd rfl (xhas_lv hL) (xst2_lt hL hL2) rfl (fun ls2 h2 => kk ls2 H locs cells slots (xst2_back hL hL2 h2) hSt hc hs)
  | astore k =>
    have hl : len = 2 := by simpa [xlenok] using hlen
    subst hl
    simp only [xstep] at h
    obtain ⟨z, r, hz0, rfl, h2⟩ := xpR_inv h
    obtain ⟨L2, hL2, h2⟩ := xbind_inv h2
    cases h2
    have e := hn y hy
    rw [e] at kk
    rcases hz0 with ⟨q, rfl⟩ | rfl
    · exact lv_astore hx hb hd (xhas_lv hL) (xst1_lt hL hL2) rfl (fun ls2 h2 => kk ls2 H locs cells slots (xst1_back hL hL2 h2) hSt hc hs)
    · exact lv_astoreN hx hb hd (xhas_lv hL) (xst1_lt hL hL2) rfl (fun ls2 h2 => kk ls2 H locs cells slots (xst1_back hL hL2 h2) hSt hc hs)
  | astore_n k =>
    have hl : len = 1 := by simpa [xlenok] using hlen
    subst hl
    simp only [xstep] at h
    obtain ⟨z, r, hz0, rfl, h2⟩ := xpR_inv h
    obtain ⟨L2, hL2, h2⟩ := xbind_inv h2
    cases h2
    have e := hn y hy
    rw [e] at kk
    rcases hz0 with ⟨q, rfl⟩ | rfl
    · exact lv_astore_n hx hb hd rfl (xhas_lv hL) (xst1_lt hL hL2) rfl (fun ls2 h2 => kk ls2 H locs cells slots (xst1_back hL hL2 h2) hSt hc hs)
    · exact lv_astore_nN hx hb hd rfl (xhas_lv hL) (xst1_lt hL hL2) rfl (fun ls2 h2 => kk ls2 H locs cells slots (xst1_back hL hL2 h2) hSt hc hs)
  | iinc k n =>
    have hl : len = 3 := by simpa [xlenok] using hlen
    subst hl
    obtain ⟨z, hz, h⟩ := xldI_inv h
    obtain ⟨L2, hL2, h⟩ := xbind_inv h
    cases h
    have e := hn y hy
    rw [e] at kk
    obtain ⟨kx, hkx⟩ := List.getElem?_of_mem (xas_mem (B := B) (aS := aS) (q := (k, .int z)).mpr ⟨.int z, xld_iff.mp hz, rfl⟩)
    exact lv_iinc hx hb hd (xhas_lv hL) hkx rfl (xst1_lt hL hL2) rfl (fun ls2 h2 => kk ls2 H locs cells slots (xst1_back hL hL2 h2) hSt hc hs)
  | iadd =>
    have hl : len = 1 := by simpa [xlenok] using hlen
    subst hl
    obtain ⟨u, w, r, rfl, h⟩ := xP2_inv h
    cases h
    have ey := hn y hy
    have k := kk ls H locs cells slots hL hSt hc hs
    rw [ey] at k
    exact lv_iadd hx hb hd k
  | isub =>
    have hl : len = 1 := by simpa [xlenok] using hlen
    subst hl
    obtain ⟨u, w, r, rfl, h⟩ := xP2_inv h
    cases h
    have ey := hn y hy
    have k := kk ls H locs cells slots hL hSt hc hs
    rw [ey] at k
    exact lv_isub hx hb hd k
  | imul =>
    have hl : len = 1 := by simpa [xlenok] using hlen
    subst hl
    obtain ⟨u, w, r, rfl, h⟩ := xP2_inv h
    cases h
    have ey := hn y hy
    have k := kk ls H locs cells slots hL hSt hc hs
    rw [ey] at k
    exact lv_imul hx hb hd k
  | iand =>
    have hl : len = 1 := by simpa [xlenok] using hlen
    subst hl
    obtain ⟨u, w, r, rfl, h⟩ := xP2_inv h
    cases h
    have ey := hn y hy
    have k := kk ls H locs cells slots hL hSt hc hs
    rw [ey] at k
    exact lv_iand hx hb hd k
  | ior =>
    have hl : len = 1 := by simpa [xlenok] using hlen
    subst hl
    obtain ⟨u, w, r, rfl, h⟩ := xP2_inv h
    cases h
    have ey := hn y hy
    have k := kk ls H locs cells slots hL hSt hc hs
    rw [ey] at k
    exact lv_ior hx hb hd k
  | ixor =>
    have hl : len = 1 := by simpa [xlenok] using hlen
    subst hl
    obtain ⟨u, w, r, rfl, h⟩ := xP2_inv h
    cases h
    have ey := hn y hy
    have k := kk ls H locs cells slots hL hSt hc hs
    rw [ey] at k
    exact lv_ixor hx hb hd k
  | ishl =>
    have hl : len = 1 := by simpa [xlenok] using hlen
    subst hl
    obtain ⟨u, w, r, rfl, h⟩ := xP2_inv h
    cases h
    have ey := hn y hy
    have k := kk ls H locs cells slots hL hSt hc hs
    rw [ey] at k
    exact lv_ishl hx hb hd k
  | ishr =>
    have hl : len = 1 := by simpa [xlenok] using hlen
    subst hl
    obtain ⟨u, w, r, rfl, h⟩ := xP2_inv h
    cases h
    have ey := hn y hy
    have k := kk ls H locs cells slots hL hSt hc hs
    rw [ey] at k
    exact lv_ishr hx hb hd k
  | ladd =>
    have hl : len = 1 := by simpa [xlenok] using hlen
    subst hl
    obtain ⟨u, w, r, rfl, h⟩ := xPll_inv h
    cases h
    have ey := hn y hy
    have k := kk ls H locs cells slots hL hSt hc hs
    rw [ey] at k
    exact lv_ladd hx hb hd k
  | lmul =>
    have hl : len = 1 := by simpa [xlenok] using hlen
    subst hl
    obtain ⟨u, w, r, rfl, h⟩ := xPll_inv h
    cases h
    have ey := hn y hy
    have k := kk ls H locs cells slots hL hSt hc hs
    rw [ey] at k
    exact lv_lmul hx hb hd k
  | land =>
    have hl : len = 1 := by simpa [xlenok] using hlen
    subst hl
    obtain ⟨u, w, r, rfl, h⟩ := xPll_inv h
    cases h
    have ey := hn y hy
    have k := kk ls H locs cells slots hL hSt hc hs
    rw [ey] at k
    exact lv_land hx hb hd k
  | lor =>
    have hl : len = 1 := by simpa [xlenok] using hlen
    subst hl
    obtain ⟨u, w, r, rfl, h⟩ := xPll_inv h
    cases h
    have ey := hn y hy
    have k := kk ls H locs cells slots hL hSt hc hs
    rw [ey] at k
    exact lv_lor hx hb hd k
  | lcmp =>
    have hl : len = 1 := by simpa [xlenok] using hlen
    subst hl
    obtain ⟨u, w, r, rfl, h⟩ := xPll_inv h
    cases h
    have ey := hn y hy
    have k := kk ls H locs cells slots hL hSt hc hs
    rw [ey] at k
    exact W.lcmp hx hb hd k
  | lshl =>
    have hl : len = 1 := by simpa [xlenok] using hlen
    subst hl
    obtain ⟨u, w, r, rfl, h⟩ := xPil_inv h
    cases h
    have ey := hn y hy
    have k := kk ls H locs cells slots hL hSt hc hs
    rw [ey] at k
    exact lv_lshl hx hb hd rfl k
  | lshr =>
    have hl : len = 1 := by simpa [xlenok] using hlen
    subst hl
    obtain ⟨u, w, r, rfl, h⟩ := xPil_inv h
    cases h
    have ey := hn y hy
    have k := kk ls H locs cells slots hL hSt hc hs
    rw [ey] at k
    exact lv_lshr hx hb hd rfl k
  | i2l =>
    have hl : len = 1 := by simpa [xlenok] using hlen
    subst hl
    obtain ⟨u, r, rfl, h⟩ := xP1_inv h
    cases h
    have ey := hn y hy
    have k := kk ls H locs cells slots hL hSt hc hs
    rw [ey] at k
    exact lv_i2l hx hb hd rfl k
  | i2b =>
    have hl : len = 1 := by simpa [xlenok] using hlen
    subst hl
    obtain ⟨u, r, rfl, h⟩ := xP1_inv h
    cases h
    have ey := hn y hy
    have k := kk ls H locs cells slots hL hSt hc hs
    rw [ey] at k
    exact lv_i2b hx hb hd rfl k
  | l2i =>
    have hl : len = 1 := by simpa [xlenok] using hlen
    subst hl
    obtain ⟨u, r, rfl, h⟩ := xPl_inv h
    cases h
    have ey := hn y hy
    have k := kk ls H locs cells slots hL hSt hc hs
    rw [ey] at k
    exact lv_l2i hx hb hd rfl k
  | dup =>
    have hl : len = 1 := by simpa [xlenok] using hlen
    subst hl
    simp only [xstep] at h
    split at h
    next z r =>
      obtain ⟨hz, h⟩ := xif_inv h
      cases h
      have ey := hn y hy
      have k := kk ls H locs cells slots hL hSt hc hs
      rw [ey] at k
      exact lv_dup hx hb hd (by rw [xlf_cat]; exact hz) k
    next => cases h
  | pop =>
    have hl : len = 1 := by simpa [xlenok] using hlen
    subst hl
    simp only [xstep] at h
    split at h
    next z r =>
      obtain ⟨hz, h⟩ := xif_inv h
      cases h
      have ey := hn y hy
      have k := kk ls H locs cells slots hL hSt hc hs
      rw [ey] at k
      exact lv_pop hx hb hd (by rw [xlf_cat]; exact hz) k
    next => cases h
  | dup2 =>
    have hl : len = 1 := by simpa [xlenok] using hlen
    subst hl
    simp only [xstep] at h
    split at h
    next z w r =>
      obtain ⟨hz, h⟩ := xif_inv h
      cases h
      have ey := hn y hy
      have k := kk ls H locs cells slots hL hSt hc hs
      rw [ey] at k
      exact lv_dup2_11 hx hb hd (by rw [xlf_cat]; exact hz.1) (by rw [xlf_cat]; exact hz.2) k
    next => cases h
  | ifCond cnd off =>
    have hl : len = 3 := by simpa [xlenok] using hlen
    subst hl
    obtain ⟨z, r, rfl, h⟩ := xP1_inv h
    cases h
    have k := kk ls H locs cells slots hL hSt hc hs
    obtain ⟨tx, htx⟩ := xjmps_ex _ _ 0 off hlk rfl
    by_cases q : xc cnd z 0 = true
    · rw [if_pos q] at hy
      have ht := xjmps_at _ _ 0 off y hlk rfl hy
      cases cnd <;> first
        | exact lv_if_eq (tgt := y.1) hx hb hd ht (fun _ => k) (fun nq => absurd (by simpa [xc] using q) nq)
        | exact lv_if_ne (tgt := y.1) hx hb hd ht (fun _ => k) (fun nq => absurd (by simpa [xc] using q) nq)
        | exact lv_if_ne (tgt := y.1) hx hb hd ht (fun _ => k) (fun nq => absurd nq (by simpa [xc] using q))
        | exact lv_if_lt (tgt := y.1) hx hb hd ht (fun _ => k) (fun nq => absurd (by simpa [xc] using q) nq)
        | exact lv_if_ge (tgt := y.1) hx hb hd ht (fun _ => k) (fun nq => absurd (by simpa [xc] using q) nq)
        | exact lv_if_gt (tgt := y.1) hx hb hd ht (fun _ => k) (fun nq => absurd (by simpa [xc] using q) nq)
        | exact lv_if_le (tgt := y.1) hx hb hd ht (fun _ => k) (fun nq => absurd (by simpa [xc] using q) nq)
    · rw [if_neg q] at hy
      have ey := hn y hy
      rw [ey] at k
      cases cnd <;> first
        | exact lv_if_eq (tgt := tx) hx hb hd htx (fun nq => absurd nq (by simpa [xc] using q)) (fun _ => k)
        | exact lv_if_ne (tgt := tx) hx hb hd htx (fun nq => absurd nq (by simpa [xc] using q)) (fun _ => k)
        | exact lv_if_lt (tgt := tx) hx hb hd htx (fun nq => absurd nq (by simpa [xc] using q)) (fun _ => k)
        | exact lv_if_ge (tgt := tx) hx hb hd htx (fun nq => absurd nq (by simpa [xc] using q)) (fun _ => k)
        | exact lv_if_gt (tgt := tx) hx hb hd htx (fun nq => absurd nq (by simpa [xc] using q)) (fun _ => k)
        | exact lv_if_le (tgt := tx) hx hb hd htx (fun nq => absurd nq (by simpa [xc] using q)) (fun _ => k)
  | if_icmp cnd off =>
    have hl : len = 3 := by simpa [xlenok] using hlen
    subst hl
    obtain ⟨z, w, r, rfl, h⟩ := xP2_inv h
    cases h
    have k := kk ls H locs cells slots hL hSt hc hs
    obtain ⟨tx, htx⟩ := xjmps_ex _ _ 0 off hlk rfl
    by_cases q : xc cnd z w = true
    · rw [if_pos q] at hy
      have ht := xjmps_at _ _ 0 off y hlk rfl hy
      cases cnd <;> first
        | exact lv_icmp_eq (tgt := y.1) hx hb hd ht (fun _ => k) (fun nq => absurd (by simpa [xc] using q) nq)
        | exact lv_icmp_ne (tgt := y.1) hx hb hd ht (fun _ => k) (fun nq => absurd (by simpa [xc] using q) nq)
        | exact lv_icmp_ne (tgt := y.1) hx hb hd ht (fun _ => k) (fun nq => absurd nq (by simpa [xc] using q))
        | exact lv_icmp_lt (tgt := y.1) hx hb hd ht (fun _ => k) (fun nq => absurd (by simpa [xc] using q) nq)
        | exact lv_icmp_ge (tgt := y.1) hx hb hd ht (fun _ => k) (fun nq => absurd (by simpa [xc] using q) nq)
        | exact lv_icmp_gt (tgt := y.1) hx hb hd ht (fun _ => k) (fun nq => absurd (by simpa [xc] using q) nq)
        | exact lv_icmp_le (tgt := y.1) hx hb hd ht (fun _ => k) (fun nq => absurd (by simpa [xc] using q) nq)
    · rw [if_neg q] at hy
      have ey := hn y hy
      rw [ey] at k
      cases cnd <;> first
        | exact lv_icmp_eq (tgt := tx) hx hb hd htx (fun nq => absurd nq (by simpa [xc] using q)) (fun _ => k)
        | exact lv_icmp_ne (tgt := tx) hx hb hd htx (fun nq => absurd nq (by simpa [xc] using q)) (fun _ => k)
        | exact lv_icmp_lt (tgt := tx) hx hb hd htx (fun nq => absurd nq (by simpa [xc] using q)) (fun _ => k)
        | exact lv_icmp_ge (tgt := tx) hx hb hd htx (fun nq => absurd nq (by simpa [xc] using q)) (fun _ => k)
        | exact lv_icmp_gt (tgt := tx) hx hb hd htx (fun nq => absurd nq (by simpa [xc] using q)) (fun _ => k)
        | exact lv_icmp_le (tgt := tx) hx hb hd htx (fun nq => absurd nq (by simpa [xc] using q)) (fun _ => k)
  | goto off =>
    have hl : len = 3 := by simpa [xlenok] using hlen
    subst hl
    cases h
    have k := kk ls H locs cells slots hL hSt hc hs
    exact lv_goto (tgt := y.1) hx hb hd (xjmps_at _ _ 0 off y hlk rfl hy) k
  | ifnull off =>
    have hl : len = 3 := by simpa [xlenok] using hlen
    subst hl
    simp only [xstep] at h
    split at h
    next r =>
      cases h
      exact lv_ifnullN (tgt := y.1) hx hb hd (xjmps_at _ _ 0 off y hlk rfl hy) (kk ls H locs cells slots hL hSt hc hs)
    next q r =>
      cases h
      have e := hn y hy
      rw [e] at kk
      exact lv_ifnull hx hb hd (kk ls H locs cells slots hL hSt hc hs)
    next => cases h
  | ifnonnull off =>
    have hl : len = 3 := by simpa [xlenok] using hlen
    subst hl
    simp only [xstep] at h
    split at h
    next r =>
      cases h
      have e := hn y hy
      rw [e] at kk
      exact lv_ifnonnullN hx hb hd (kk ls H locs cells slots hL hSt hc hs)
    next q r =>
      cases h
      exact lv_ifnonnull (tgt := y.1) hx hb hd (xjmps_at _ _ 0 off y hlk rfl hy) (kk ls H locs cells slots hL hSt hc hs)
    next => cases h
  | tableswitch d lo hh offs =>
    obtain ⟨z, r, rfl, h⟩ := xP1_inv h
    cases h
    simp only [Bool.and_eq_true, decide_eq_true_eq] at hlk
    have k := kk ls H locs cells slots hL hSt hc hs
    by_cases q : z.toInt < lo ∨ hh < z.toInt
    · rw [if_pos q] at hy
      exact lv_tableOut (tgt := y.1) hx hb hd q (xjmps_at _ _ 0 d y hlk.1 rfl hy) k
    · rw [if_neg q] at hy
      have q1 : ¬ z.toInt < lo := fun z => q (Or.inl z)
      have q2 : ¬ hh < z.toInt := fun z => q (Or.inr z)
      have hlt : (z.toInt - lo).toNat < offs.size := by have := hlk.2; omega
      have ho : offs[(z.toInt - lo).toNat]? = some offs[(z.toInt - lo).toNat] := Array.getElem?_eq_getElem hlt
      refine lv_tableIn (tgt := y.1) hx hb hd q1 q2 ho (xjmps_at _ _ ((z.toInt - lo).toNat + 1) _ y hlk.1 ?_ hy) k
      rw [List.getElem?_cons_succ, Array.getElem?_toList]
      exact ho
  | lookupswitch d ps =>
    obtain ⟨z, r, rfl, h⟩ := xP1_inv h
    cases h
    simp only [Bool.and_eq_true] at hlk
    have k := kk ls H locs cells slots hL hSt hc hs
    cases ts with
    | nil => simp [xjmps] at hlk
    | cons t ts =>
      have h1 := hlk.1
      simp only [xjmps, Bool.and_eq_true] at h1
      refine lv_lookup (tgt := y.1) hx hb hd hlk.2 rfl (xlk_off ps.toList ts _ pc t d z.toInt y h1.2 (fun y hy => ?_) hy) k
      have h2 := h1.1
      unfold xjmp at h2
      rw [hy] at h2
      exact of_decide_eq_true h2
  | getfield idx =>
    have hl : len = 3 := by simpa [xlenok] using hlen
    subst hl
    obtain ⟨o, r, rfl, h⟩ := xPr_inv h
    obtain ⟨sh, hsh, h⟩ := xS_inv h
    obtain ⟨hq1, h⟩ := xif_inv h
    cases h
    have ey := hn y hy
    have k := kk ls H locs cells slots hL hSt hc hs
    rw [ey] at k
    dsimp only at hlk
    split at hlk
    next q hq =>
      obtain ⟨Cn, T, N⟩ := q
      simp only [Bool.and_eq_true, decide_eq_true_eq] at hlk
      obtain ⟨h50, hin, -, -⟩ := xcl a _ hq
      have he := xwl_get (B := B) (cA := cA) hsh
      rw [xcell, if_pos (by rw [hq1.1]; exact h50)] at he
      obtain ⟨t1, t2, t3⟩ := sh
      obtain ⟨rfl, hq2⟩ := hq1
      exact va_get hx hb hts (fun w hw => xg_of (hin w hw) (xlays_good hw)) hown hK hSt.1 o he hq b hlk.1 (hts _ (xg_lk hlk.2 rfl)) (fun _ h => h) (xobj (s := (t1, t2, t3)) (aS := aS) h50 hq2) hd k
    next => cases hlk
  | putfield idx =>
    have hl : len = 3 := by simpa [xlenok] using hlen
    subst hl
    simp only [xstep] at h
    have e0 : ∀ y : xI, me.2.2.2.2.2.2[i + 1]? = some y → y.1 = pc + 3 := hn
    split at h
    next hfr =>
      obtain ⟨o, z, r, rfl, h⟩ := xPrr_inv h
      obtain ⟨sh, hsh, h⟩ := xS_inv h
      obtain ⟨hq1, h⟩ := xif_inv h
      cases h
      have ey := e0 y hy
      rw [ey] at kk
      dsimp only at hlk
      split at hlk
      next q hq =>
        obtain ⟨Cn, T, N⟩ := q
        simp only [Bool.and_eq_true, decide_eq_true_eq] at hlk
        obtain ⟨h50, hin, ⟨ty0, hty, hrf⟩, hnm2⟩ := xcl a _ hq
        have he := xwl_get (B := B) (cA := cA) hsh
        rw [xcell, if_pos (by rw [hq1.1]; exact h50)] at he
        obtain ⟨t1, t2, t3⟩ := sh
        obtain ⟨rfl, hq2⟩ := hq1
        have hts2 : ∀ w ∈ u_ws Cn T N, w ∈ xg := fun w hw => xg_of (hin w hw) (xlays_good hw)
        have hnar : narrow (ty0 b) (.ref (B + z)) = .ref (B + z) ∧ fits (ty0 b) (.ref (B + z)) = true := by
          rcases hrf b hlk.1 with h | h
          · rw [h.1] at hfr; cases hfr
          · exact xisR_nf h.2 _
        have hl1 : b < ((List.range t2).map fun j => if xfr t1 j then va_rf ((t3.getD j none).map (B + ·)) else Value.int (M.2.1 o j)).length := by simpa using hq2.1
        have fin : ∀ (H1 : Heap) (locs1 : List Loc), va_P D vwCl ((xwl B cA M).set o (B + o, .inr (t1, ((List.range t2).map fun j => if xfr t1 j then va_rf ((t3.getD j none).map (B + ·)) else Value.int (M.2.1 o j)).set b (.ref (B + z))))) H1 → va_D (fun q => B ≤ q) ((xwl B cA M).set o (B + o, .inr (t1, ((List.range t2).map fun j => if xfr t1 j then va_rf ((t3.getD j none).map (B + ·)) else Value.int (M.2.1 o j)).set b (.ref (B + z))))) → va_S (fun q => B ≤ q) s.heap H1 locs1 → W p l e R s m args below meth c H1 locs1 cells slots Q (F0 m (pc + 3) ls (st'.map (xlf B aS))) := by
          intro H1 locs1 hP1 _ hS1
          have hse : (xwl B cA M).set o (B + o, .inr (t1, ((List.range t2).map fun j => if xfr t1 j then va_rf ((t3.getD j none).map (B + ·)) else Value.int (M.2.1 o j)).set b (.ref (B + z)))) = xwl B cA (M.1.set o (t1, t2, t3.set b (some z)), M.2.1, M.2.2) := by
            refine xwl_set (M' := (M.1.set o (t1, t2, t3.set b (some z)), M.2.1, M.2.2)) hsh (s' := (t1, t2, t3.set b (some z))) rfl (fun _ _ => rfl) (fun _ _ => rfl) ?_
            rw [xcell, if_pos h50]
            congr 2
            refine xrange_set (fun j hj => ?_)
            by_cases hjb : j = b
            · subst hjb
              rw [if_pos rfl]
              simp only [hfr, if_true]
              rw [List.getD_eq_getElem?_getD, List.getElem?_set_self hq2.2]
              rfl
            · rw [if_neg hjb]
              simp only [List.getD_eq_getElem?_getD]
              rw [List.getElem?_set_ne (Ne.symm hjb)]
          rw [hse] at hP1
          exact kk ls H1 locs1 cells slots hL ⟨hP1, hS1⟩ (by simpa using hc) (by show slots + s0 = xsl (M.1.set o (t1, t2, t3.set b (some z)), M.2.1, M.2.2); rw [xsl_set (s' := (t1, t2, t3.set b (some z))) hsh rfl]; exact hs)
        rcases hlk.2.2 with hfin | ⟨hfin, hini, hdecl⟩
        · exact va_put hx hb hts hts2 ty0 hty hnm2 hown hK hSt.1 xwl_D hSt.2 o he hq b hlk.1 (hts _ (xg_lk hlk.2.1 rfl)) (fun _ h => h) hfin (hty b hlk.1) hnar.1 hnar.2 hl1 hd fin
        · exact va_putF hx hb hts hts2 ty0 hty hnm2 hown hK hSt.1 xwl_D hSt.2 o he hq b hlk.1 (hts _ (xg_lk hlk.2.1 rfl)) (fun _ h => h) hfin (hnm.trans hini) hdecl (hty b hlk.1) hnar.1 hnar.2 hl1 hd fin
      next => cases hlk
    next hfr =>
      obtain ⟨o, z, r, rfl, h⟩ := xPri'_inv h
      obtain ⟨sh, hsh, h⟩ := xS_inv h
      obtain ⟨hq1, h⟩ := xif_inv h
      cases h
      have ey := e0 y hy
      rw [ey] at kk
      dsimp only at hlk
      split at hlk
      next q hq =>
        obtain ⟨Cn, T, N⟩ := q
        simp only [Bool.and_eq_true, decide_eq_true_eq] at hlk
        obtain ⟨h50, hin, ⟨ty0, hty, hrf⟩, hnm2⟩ := xcl a _ hq
        have he := xwl_get (B := B) (cA := cA) hsh
        rw [xcell, if_pos (by rw [hq1.1]; exact h50)] at he
        obtain ⟨t1, t2, t3⟩ := sh
        obtain ⟨rfl, hq2⟩ := hq1
        have hts2 : ∀ w ∈ u_ws Cn T N, w ∈ xg := fun w hw => xg_of (hin w hw) (xlays_good hw)
        have hnar : narrow (ty0 b) (.int z) = .int z ∧ fits (ty0 b) (.int z) = true := by
          rcases hrf b hlk.1 with h | h
          · rw [h.2]; exact ⟨rfl, rfl⟩
          · exact absurd h.1 hfr
        have hl1 : b < ((List.range t2).map fun j => if xfr t1 j then va_rf ((t3.getD j none).map (B + ·)) else Value.int (M.2.1 o j)).length := by simpa using hq2
        have fin : ∀ (H1 : Heap) (locs1 : List Loc), va_P D vwCl ((xwl B cA M).set o (B + o, .inr (t1, ((List.range t2).map fun j => if xfr t1 j then va_rf ((t3.getD j none).map (B + ·)) else Value.int (M.2.1 o j)).set b (.int z)))) H1 → va_D (fun q => B ≤ q) ((xwl B cA M).set o (B + o, .inr (t1, ((List.range t2).map fun j => if xfr t1 j then va_rf ((t3.getD j none).map (B + ·)) else Value.int (M.2.1 o j)).set b (.int z)))) → va_S (fun q => B ≤ q) s.heap H1 locs1 → W p l e R s m args below meth c H1 locs1 cells slots Q (F0 m (pc + 3) ls (st'.map (xlf B aS))) := by
          intro H1 locs1 hP1 _ hS1
          have hse : (xwl B cA M).set o (B + o, .inr (t1, ((List.range t2).map fun j => if xfr t1 j then va_rf ((t3.getD j none).map (B + ·)) else Value.int (M.2.1 o j)).set b (.int z))) = xwl B cA (M.1, xup M.2.1 o b z, M.2.2) := by
            refine xwl_set (M' := (M.1, xup M.2.1 o b z, M.2.2)) hsh (s' := (t1, t2, t3)) (xset_self hsh) (fun _ h => xup_ne h) (fun _ _ => rfl) ?_
            rw [xcell, if_pos h50]
            congr 2
            refine xrange_set (fun j hj => ?_)
            by_cases hjb : j = b
            · subst hjb
              rw [if_pos rfl]
              simp only [hfr, xup]
              simp
            · rw [if_neg hjb]
              simp only [xup, if_true, if_neg hjb]
          rw [hse] at hP1
          exact kk ls H1 locs1 cells slots hL ⟨hP1, hS1⟩ hc hs
        rcases hlk.2.2 with hfin | ⟨hfin, hini, hdecl⟩
        · exact va_put hx hb hts hts2 ty0 hty hnm2 hown hK hSt.1 xwl_D hSt.2 o he hq b hlk.1 (hts _ (xg_lk hlk.2.1 rfl)) (fun _ h => h) hfin (hty b hlk.1) hnar.1 hnar.2 hl1 hd fin
        · exact va_putF hx hb hts hts2 ty0 hty hnm2 hown hK hSt.1 xwl_D hSt.2 o he hq b hlk.1 (hts _ (xg_lk hlk.2.1 rfl)) (fun _ h => h) hfin (hnm.trans hini) hdecl (hty b hlk.1) hnar.1 hnar.2 hl1 hd fin
      next => cases hlk
  | iaload =>
    have hl : len = 1 := by simpa [xlenok] using hlen
    subst hl
    obtain ⟨o, j, r, rfl, h⟩ := xPri_inv h
    obtain ⟨sh, hsh, h⟩ := xS_inv h
    obtain ⟨hq1, h⟩ := xif_inv h
    cases h
    have ey := hn y hy
    have k := kk ls H locs cells slots hL hSt hc hs
    rw [ey] at k
    have he := xwl_get (B := B) (cA := cA) hsh
    obtain ⟨t1, t2, t3⟩ := sh
    obtain ⟨rfl, hq2⟩ := hq1
    exact va_iald hx hb hK hSt.1 o 0 he rfl hq2 hd k
  | laload =>
    have hl : len = 1 := by simpa [xlenok] using hlen
    subst hl
    obtain ⟨o, j, r, rfl, h⟩ := xPri_inv h
    obtain ⟨sh, hsh, h⟩ := xS_inv h
    obtain ⟨hq1, h⟩ := xif_inv h
    cases h
    have ey := hn y hy
    have k := kk ls H locs cells slots hL hSt hc hs
    rw [ey] at k
    have he := xwl_get (B := B) (cA := cA) hsh
    obtain ⟨t1, t2, t3⟩ := sh
    obtain ⟨rfl, hq2⟩ := hq1
    exact va_lald hx hb hK hSt.1 o 1 he rfl hq2 hd k
  | aaload =>
    have hl : len = 1 := by simpa [xlenok] using hlen
    subst hl
    obtain ⟨o, j, r, rfl, h⟩ := xPri_inv h
    obtain ⟨sh, hsh, h⟩ := xS_inv h
    obtain ⟨hq1, h⟩ := xif_inv h
    cases h
    have ey := hn y hy
    have k := kk ls H locs cells slots hL hSt hc hs
    rw [ey] at k
    have he := xwl_get (B := B) (cA := cA) hsh
    obtain ⟨t1, t2, t3⟩ := sh
    obtain ⟨rfl, hq2⟩ := hq1
    have k2 : W p l e R s m args below meth c H locs cells slots Q (F0 m (pc + 1) ls (va_rf ((t3.getD j.toNatClampNeg none).map (B + ·)) :: r.map (xlf B aS))) := by
      rw [← xlf_vr (aS := aS)]
      exact k
    exact va_aldq (C := "PronounOrders$Order") hx hb hK hSt.1 o 4 he rfl hq2 hd k2
  | baload =>
    have hl : len = 1 := by simpa [xlenok] using hlen
    subst hl
    obtain ⟨o, j, r, rfl, h⟩ := xPri_inv h
    obtain ⟨sh, hsh, h⟩ := xS_inv h
    obtain ⟨hq1, h⟩ := xif_inv h
    cases h
    have ey := hn y hy
    have k := kk ls H locs cells slots hL hSt hc hs
    rw [ey] at k
    have he := xwl_get (B := B) (cA := cA) hsh
    obtain ⟨t1, t2, t3⟩ := sh
    obtain ⟨hq0, hq2⟩ := hq1
    rcases hq0 with hq0 | hq0
    · have hq0' : t1 = 102 := hq0
      subst hq0'
      exact va_zald hx hb hK hSt.1 o 2 he rfl hq2 hd k
    · have hq0' : t1 = 103 := hq0
      subst hq0'
      exact va_bald hx hb hK hSt.1 o 3 he rfl hq2 hd k
  | iastore =>
    have hl : len = 1 := by simpa [xlenok] using hlen
    subst hl
    obtain ⟨o, j, z, r, rfl, h⟩ := xPrii_inv h
    obtain ⟨sh, hsh, h⟩ := xS_inv h
    obtain ⟨hq1, h⟩ := xif_inv h
    cases h
    have e := hn y hy
    rw [e] at kk
    obtain ⟨t1, t2, t3⟩ := sh
    obtain ⟨rfl, hq2⟩ := hq1
    have he := xwl_get (B := B) (cA := cA) hsh
    refine va_iast hx hb hK hSt.1 xwl_D hSt.2 o 0 he rfl hq2 hd (fun H1 locs1 hP1 _ hS1 => ?_)
    rw [xwl_set (M' := (M.1, xup M.2.1 o j.toNatClampNeg z, M.2.2)) hsh (xset_self hsh) (fun _ h => xup_ne h) (fun _ h => rfl) (by rw [← xup_at]; rfl)] at hP1
    exact kk ls H1 locs1 cells slots hL ⟨hP1, hS1⟩ hc hs
  | lastore =>
    have hl : len = 1 := by simpa [xlenok] using hlen
    subst hl
    obtain ⟨o, j, z, r, rfl, h⟩ := xPril_inv h
    obtain ⟨sh, hsh, h⟩ := xS_inv h
    obtain ⟨hq1, h⟩ := xif_inv h
    cases h
    have e := hn y hy
    rw [e] at kk
    obtain ⟨t1, t2, t3⟩ := sh
    obtain ⟨rfl, hq2⟩ := hq1
    have he := xwl_get (B := B) (cA := cA) hsh
    refine va_last hx hb hK hSt.1 xwl_D hSt.2 o 1 he rfl hq2 hd (fun H1 locs1 hP1 _ hS1 => ?_)
    rw [xwl_set (M' := (M.1, M.2.1, xup M.2.2 o j.toNatClampNeg z)) hsh (xset_self hsh) (fun _ h => rfl) (fun _ h => xup_ne h) (by rw [← xup_atL]; rfl)] at hP1
    exact kk ls H1 locs1 cells slots hL ⟨hP1, hS1⟩ hc hs
  | bastore =>
    have hl : len = 1 := by simpa [xlenok] using hlen
    subst hl
    obtain ⟨o, j, z, r, rfl, h⟩ := xPrii_inv h
    obtain ⟨sh, hsh, h⟩ := xS_inv h
    
    obtain ⟨t1, t2, t3⟩ := sh
    simp only at h
    split at h
    next hq1 =>
      cases h
      have e := hn y hy
      rw [e] at kk
      obtain ⟨hq0, hq2⟩ := hq1
      have hq0' : t1 = 102 := hq0
      subst hq0'
      have he := xwl_get (B := B) (cA := cA) hsh
      refine va_zast hx hb hK hSt.1 xwl_D hSt.2 o 2 he rfl hq2 hd (fun H1 locs1 hP1 _ hS1 => ?_)
      rw [xwl_set (M' := (M.1, xup M.2.1 o j.toNatClampNeg (z &&& 1), M.2.2)) hsh (xset_self hsh) (fun _ h => xup_ne h) (fun _ h => rfl) (by rw [show vp_nar .boolean z = z &&& 1 from rfl, ← xup_at]; rfl)] at hP1
      exact kk ls H1 locs1 cells slots hL ⟨hP1, hS1⟩ hc hs
    next =>
      obtain ⟨hq1, h⟩ := xif_inv h
      cases h
      have e := hn y hy
      rw [e] at kk
      obtain ⟨hq0, hq2⟩ := hq1
      have hq0' : t1 = 103 := hq0
      subst hq0'
      have he := xwl_get (B := B) (cA := cA) hsh
      refine va_bast hx hb hK hSt.1 xwl_D hSt.2 o 3 he rfl hq2 hd (fun H1 locs1 hP1 _ hS1 => ?_)
      rw [xwl_set (M' := (M.1, xup M.2.1 o j.toNatClampNeg z.toInt8.toInt32, M.2.2)) hsh (xset_self hsh) (fun _ h => xup_ne h) (fun _ h => rfl) (by rw [show vp_nar .byte z = z.toInt8.toInt32 from rfl, ← xup_at]; rfl)] at hP1
      exact kk ls H1 locs1 cells slots hL ⟨hP1, hS1⟩ hc hs
  | aastore =>
    have hl : len = 1 := by simpa [xlenok] using hlen
    subst hl
    obtain ⟨o, j, z, r, rfl, h⟩ := xPrir_inv h
    obtain ⟨sh, hsh, h⟩ := xS_inv h
    obtain ⟨sq, hsq, h⟩ := xS_inv h
    obtain ⟨hq1, h⟩ := xif_inv h
    cases h
    have e := hn y hy
    rw [e] at kk
    obtain ⟨t1, t2, t3⟩ := sh
    obtain ⟨u1, u2, u3⟩ := sq
    obtain ⟨rfl, rfl, hq3, hq2⟩ := hq1
    have he := xwl_get (B := B) (cA := cA) hsh
    have hv := xwl_get (B := B) (cA := cA) hsq
    refine va_astq (r := (RX0, TX0, 5)) hx hb hK hSt.1 xwl_D hSt.2 o 4 z 0 he rfl hv rfl hq2 hd (fun H1 locs1 hP1 _ hS1 => ?_)
    have hP2 : va_P D vwCl (xwl B cA (M.1.set o (104, t2, t3.set j.toNatClampNeg (some z)), M.2.1, M.2.2)) H1 := by
      rw [← xwl_set (M := M) (M' := (M.1.set o (104, t2, t3.set j.toNatClampNeg (some z)), M.2.1, M.2.2)) (B := B) (cA := cA) (e := .inl (cA 4, t2, .inr (.inr (.inr (.inr (va_up (fun j => (t3.getD j none).map (B + ·)) j.toNatClampNeg (some (B + z)))))))) hsh (s' := (104, t2, t3.set j.toNatClampNeg (some z))) rfl (fun _ _ => rfl) (fun _ _ => rfl) ?_]
      · exact hP1
      · show _ = Sum.inl (cA 4, t2, Sum.inr (Sum.inr (Sum.inr (Sum.inr fun k => ((t3.set j.toNatClampNeg (some z)).getD k none).map (B + ·)))))
        have hf : va_up (fun j => (t3.getD j none).map (B + ·)) j.toNatClampNeg (some (B + z)) = fun k => ((t3.set j.toNatClampNeg (some z)).getD k none).map (B + ·) := by
          funext k
          simp only [va_up, List.getD_eq_getElem?_getD]
          by_cases hk : k = j.toNatClampNeg
          · subst hk
            rw [if_pos rfl, List.getElem?_set_self hq3]
            rfl
          · rw [if_neg hk, List.getElem?_set_ne (Ne.symm hk)]
        rw [hf]
    exact kk ls H1 locs1 cells slots hL ⟨hP2, hS1⟩ (by simpa using hc) (by show slots + s0 = xsl (M.1.set o (104, t2, t3.set j.toNatClampNeg (some z)), M.2.1, M.2.2); rw [xsl_set (s' := (104, t2, t3.set j.toNatClampNeg (some z))) hsh rfl]; exact hs)
  | arraylength =>
    have hl : len = 1 := by simpa [xlenok] using hlen
    subst hl
    obtain ⟨o, r, rfl, h⟩ := xPr_inv h
    obtain ⟨sh, hsh, h⟩ := xS_inv h
    obtain ⟨hq1, h⟩ := xif_inv h
    cases h
    have ey := hn y hy
    have k := kk ls H locs cells slots hL hSt hc hs
    rw [ey] at k
    have he := xwl_get (B := B) (cA := cA) hsh
    obtain ⟨t1, t2, t3⟩ := sh
    have h5 : t1 = 100 ∨ t1 = 101 ∨ t1 = 102 ∨ t1 = 103 ∨ t1 = 104 := by have := hq1.1; have := hq1.2; simp only at *; omega
    rcases h5 with rfl | rfl | rfl | rfl | rfl
    · exact va_alen hx hb hK hSt.1 o 0 he rfl rfl hd k
    · exact va_alen hx hb hK hSt.1 o 1 he rfl rfl hd k
    · exact va_alen hx hb hK hSt.1 o 2 he rfl rfl hd k
    · exact va_alen hx hb hK hSt.1 o 3 he rfl rfl hd k
    · exact va_alen hx hb hK hSt.1 o 4 he rfl rfl hd k
  | ldc idx =>
    have hl : len = 2 := by simpa [xlenok] using hlen
    subst hl
    cases h
    have ey := hn y hy
    have k := kk ls H locs cells slots hL hSt hc hs
    rw [ey] at k
    exact hldc p e R s m args below meth c H locs cells slots Q me n0 ls pc idx _ C hZs hd (List.mem_of_getElem? (of_decide_eq_true hlk)) k
  | new idx =>
    have hl : len = 3 := by simpa [xlenok] using hlen
    subst hl
    simp only [xstep] at h
    dsimp only at hlk
    split at h
    next q hq =>
      cases h
      rw [hq] at hlk
      simp only [Bool.and_eq_true, decide_eq_true_eq] at hlk
      obtain ⟨Cn, T, N⟩ := q
      obtain ⟨h50, hin, ⟨ty0, hty, hrf⟩, -⟩ := xcl a _ hq
      have ey := hn y hy
      rw [ey] at kk
      refine xsize C hSt hc (fun hH => ?_)
      have hKn := hK.1 a _ hq
      have hln : (M.1 ++ [(a, N, List.replicate N none)]).length = M.1.length + 1 := by simp
      have hsl : xsl (M.1 ++ [(a, N, List.replicate N none)], xz M.2.1 M.1.length 0, xz M.2.2 M.1.length 0) = xsl M + N := by simp [xsl]
      simp only [hsl] at hm2
      simp only [hln] at hm1
      refine W.newcK hx hb hown (hts _ (xg_lk hlk.1 rfl)) (hts _ (xg_of hlk.2.1 rfl)) (hts _ (xg_of hlk.2.2 rfl)) rfl hd (by omega) (by show slots + N ≤ _; omega) hKn.2.1 hH (fun H1 kC hkC e1 z1 o1 => ?_)
      have hP1 : va_P D vwCl (xwl B cA (M.1 ++ [(a, N, List.replicate N none)], xz M.2.1 M.1.length 0, xz M.2.2 M.1.length 0)) H1 := by
        rw [xwl_push (M := M) (s := (a, N, List.replicate N none)) rfl (fun c' h => xz_ne (Nat.ne_of_lt h)) (fun c' h => xz_ne (Nat.ne_of_lt h))]
        refine (hSt.1.kept (fun k x hx => o1 x.1 (by rw [← hH]; exact (hSt.1 k x hx).lt))).app (fun k x hx => ?_)
        have hz : k < 1 := (List.getElem?_eq_some_iff.mp hx).1
        rw [show k = 0 by omega] at hx
        cases hx
        rw [xcell, if_pos h50]
        refine ⟨_, hq, (u_born ty0 hts (fun w hw => xg_of (hin w hw) (xlays_good hw)) hKn hkC e1 hty).to (fun j hj => ?_)⟩
        have hj' : j < N := hj
        simp only [vp_V, List.getD_eq_getElem?_getD, List.getElem?_map, List.getElem?_range hj', Option.map_some, Option.getD_some]
        rcases hrf j hj with ⟨h1, h2⟩ | ⟨h1, h2⟩
        · rw [h1, h2]; simp [xz]; rfl
        · rw [h1]
          simp only [if_true]
          have : (List.replicate N (none : Option Nat))[j]? = some none := by rw [List.getElem?_replicate, if_pos hj']
          rw [this]
          revert h2
          cases ty0 j <;> intro h2 <;> first | (simp [xisR] at h2; done) | rfl
      exact kk ls H1 locs (cells + 1) (slots + N) hL ⟨hP1, Nat.le_trans hSt.2.1 (by omega), fun q h1 h2 => (o1 q (by rw [← hH]; exact Nat.lt_of_lt_of_le h1 hSt.2.1)).trans (hSt.2.2.1 q h1 h2), hSt.2.2.2⟩ (by simp only [hln]; omega) (by rw [hsl]; omega)
    next => cases h
  | newarray aty =>
    have hl : len = 2 := by simpa [xlenok] using hlen
    subst hl
    obtain ⟨n, r, rfl, h⟩ := xP1_inv h
    obtain ⟨hn1, h⟩ := xif_inv h
    cases h
    simp only [Bool.and_eq_true, decide_eq_true_eq] at hlk
    have ey := hn y hy
    rw [ey] at kk
    refine xsize C hSt hc (fun hH => ?_)
    have hln : (M.1 ++ [(a, n.toNatClampNeg, ([] : List (Option Nat)))]).length = M.1.length + 1 := by simp
    have hsl : xsl (M.1 ++ [(a, n.toNatClampNeg, ([] : List (Option Nat)))], xz M.2.1 M.1.length 0, xz M.2.2 M.1.length 0) = xsl M + n.toNatClampNeg := by simp [xsl]
    simp only [hsl] at hm2
    simp only [hln] at hm1
    refine va_newaK hx hb (hts _ (xg_of hlk.1 rfl)) rfl hd rfl hn1.1 rfl (Nat.le_trans (Nat.mul_le_mul hn1.2 (show componentBytes (newarray.typeOf aty) ≤ 8 by cases aty <;> decide)) (by decide)) (by omega) (by omega) hH (fun H1 cI e1 z1 o1 hAr hNm => ?_)
    have hP1 : va_P D vwCl (xwl B cA (M.1 ++ [(a, n.toNatClampNeg, ([] : List (Option Nat)))], xz M.2.1 M.1.length 0, xz M.2.2 M.1.length 0)) H1 := by
      rw [xwl_push (M := M) (s := (a, n.toNatClampNeg, ([] : List (Option Nat)))) rfl (fun c' h => xz_ne (Nat.ne_of_lt h)) (fun c' h => xz_ne (Nat.ne_of_lt h))]
      refine (hSt.1.kept (fun k x hx => o1 x.1 (by rw [← hH]; exact (hSt.1 k x hx).lt))).app (fun k x hx => ?_)
      have hz : k < 1 := (List.getElem?_eq_some_iff.mp hx).1
      rw [show k = 0 by omega] at hx
      cases hx
      have hK2 := hK.2
      rcases hlk.2 with ⟨rfl, ht⟩ | ⟨rfl, ht⟩ | ⟨rfl, ht⟩ | ⟨rfl, ht⟩
      · show H1[B + M.1.length]? = some (vp_cell (cA 0) (n.toNatClampNeg, .inl (xz M.2.1 M.1.length 0 M.1.length)))
        have h0 := (hK2 0 _ rfl).2
        rw [ht] at hNm e1
        cases (show s.vm.findClass ("[" ++ (FieldType.int).toString) = some (cA 0) from h0).symm.trans hNm
        rw [e1, vp_cell_i]
        congr 2
        funext j
        simp [xz, defaultValue]
      · show H1[B + M.1.length]? = some (vp_cell (cA 1) (n.toNatClampNeg, .inr (.inl (xz M.2.2 M.1.length 0 M.1.length))))
        have h0 := (hK2 1 _ rfl).2
        rw [ht] at hNm e1
        cases (show s.vm.findClass ("[" ++ (FieldType.long).toString) = some (cA 1) from h0).symm.trans hNm
        rw [e1, vp_cell_l]
        congr 2
        funext j
        simp [xz, defaultValue]
      · show H1[B + M.1.length]? = some (vp_cell (cA 2) (n.toNatClampNeg, .inl (xz M.2.1 M.1.length 0 M.1.length)))
        have h0 := (hK2 2 _ rfl).2
        rw [ht] at hNm e1
        cases (show s.vm.findClass ("[" ++ (FieldType.boolean).toString) = some (cA 2) from h0).symm.trans hNm
        rw [e1, vp_cell_i]
        congr 2
        funext j
        simp [xz, defaultValue]
      · show H1[B + M.1.length]? = some (vp_cell (cA 3) (n.toNatClampNeg, .inl (xz M.2.1 M.1.length 0 M.1.length)))
        have h0 := (hK2 3 _ rfl).2
        rw [ht] at hNm e1
        cases (show s.vm.findClass ("[" ++ (FieldType.byte).toString) = some (cA 3) from h0).symm.trans hNm
        rw [e1, vp_cell_i]
        congr 2
        funext j
        simp [xz, defaultValue]
    exact kk ls H1 locs (cells + 1) (slots + n.toNatClampNeg) hL ⟨hP1, Nat.le_trans hSt.2.1 (by omega), fun q h1 h2 => (o1 q (by rw [← hH]; exact Nat.lt_of_lt_of_le h1 hSt.2.1)).trans (hSt.2.2.1 q h1 h2), hSt.2.2.2⟩ (by simp only [hln]; omega) (by rw [hsl]; omega)
  | anewarray idx =>
    have hl : len = 3 := by simpa [xlenok] using hlen
    subst hl
    obtain ⟨n, r, rfl, h⟩ := xP1_inv h
    obtain ⟨hn1, h⟩ := xif_inv h
    cases h
    dsimp only at hlk
    have ey := hn y hy
    rw [ey] at kk
    refine xsize C hSt hc (fun hH => ?_)
    have hln : (M.1 ++ [(104, n.toNatClampNeg, List.replicate n.toNatClampNeg (none : Option Nat))]).length = M.1.length + 1 := by simp
    have hsl : xsl (M.1 ++ [(104, n.toNatClampNeg, List.replicate n.toNatClampNeg (none : Option Nat))], xz M.2.1 M.1.length 0, xz M.2.2 M.1.length 0) = xsl M + n.toNatClampNeg := by simp [xsl]
    simp only [hsl] at hm2
    simp only [hln] at hm1
    refine W.anew hx hb hown (hts _ (xg_lk hlk rfl)) (va_AO.use hE.1) rfl hd rfl hn1.1 (Nat.le_trans (Nat.mul_le_mul hn1.2.1 (Nat.le_refl 4)) (by decide)) (by omega) (by omega) (fun cI kA comp f1 f2 f3 f4 => ?_)
    generalize hH1 : H.push ({ cls := cI, slots := Array.replicate n.toNatClampNeg .null, vm := .none } : Cell) = H1
    have z1 : H1.size = H.size + 1 := by rw [← hH1, Array.size_push]
    have e1 : H1[H.size]? = some (arrV cI n.toNatClampNeg (fun _ => .null)) := by rw [← hH1, Array.getElem?_push_size, ← arrV_new]
    have o1 : ∀ q : Nat, q < H.size → H1[q]? = H[q]? := fun q hq => by rw [← hH1, Array.getElem?_push, if_neg (Nat.ne_of_lt hq)]
    have hP1 : va_P D vwCl (xwl B cA (M.1 ++ [(104, n.toNatClampNeg, List.replicate n.toNatClampNeg (none : Option Nat))], xz M.2.1 M.1.length 0, xz M.2.2 M.1.length 0)) H1 := by
      rw [xwl_push (M := M) (s := (104, n.toNatClampNeg, List.replicate n.toNatClampNeg (none : Option Nat))) rfl (fun c' h => xz_ne (Nat.ne_of_lt h)) (fun c' h => xz_ne (Nat.ne_of_lt h))]
      refine (hSt.1.kept (fun k x hx => o1 x.1 (hSt.1 k x hx).lt)).app (fun k x hx => ?_)
      have hz : k < 1 := (List.getElem?_eq_some_iff.mp hx).1
      rw [show k = 0 by omega] at hx
      cases hx
      show H1[B + M.1.length]? = some (vp_cell _ _)
      rw [← hH, e1]
      congr 1
      obtain ⟨kA2, comp2, g1, g2, g3, g4⟩ := (hK.2 4 _ rfl).2
      cases g4.symm.trans f1
      show _ = vp_cell (cA 4) (n.toNatClampNeg, .inr (.inr (.inr (.inr fun j => ((List.replicate n.toNatClampNeg (none : Option Nat)).getD j none).map (B + ·)))))
      rw [vp_cell_q]
      congr 1
      funext j
      have : (List.replicate n.toNatClampNeg (none : Option Nat)).getD j none = none := by
        rw [List.getD_eq_getElem?_getD, List.getElem?_replicate]
        split <;> rfl
      rw [this]
      rfl
    have k2 := kk ls H1 locs (cells + 1) (slots + n.toNatClampNeg) hL ⟨hP1, Nat.le_trans hSt.2.1 (by omega), fun q h1 h2 => (o1 q (Nat.lt_of_lt_of_le h1 hSt.2.1)).trans (hSt.2.2.1 q h1 h2), hSt.2.2.2⟩ (by simp only [hln]; omega) (by rw [hsl]; omega)
    rw [hH]
    exact k2
  | _ => simp [xstep] at h
end
