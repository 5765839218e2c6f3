theorem xobj_in : Cond.instanceMethod objectInit ∈ lw_tbl ∧ Cond.code objectInit ⟨#[0xb1]⟩ 1 none ∈ lw_tbl := by decide +kernel
theorem ev_some : ∀ {n d : Nat} {me : xMe} {i : Nat} {L : xL} {st : List Value} {M : xM} {q : Option Value × xM}, ev n d me i L st M = some q → ∃ y, me.2.2.2.2.2.2[i]? = some y := by
  intro n d me i L st M q h
  cases n with
  | zero => cases h
  | succ n =>
    unfold ev at h
    split at h
    · cases h
    next x hx => exact ⟨x, hx⟩
theorem xtake_recv {st : List Value} {b o : Nat} (h : st[b]? = some (.ref o)) : (st.take (b + 1)).reverse = .ref o :: (st.take b).reverse := by
  rw [List.take_succ, h]
  simp
theorem xstack_recv {st : List Value} {b o : Nat} (h : st[b]? = some (.ref o)) {B aS : Nat} : st.map (xlf B aS) = (((st.take b).reverse.map (xlf B aS)).reverse) ++ .ref (B + o) :: (st.drop (b + 1)).map (xlf B aS) := by
  have hl : b < st.length := (List.getElem?_eq_some_iff.mp h).1
  have h2 := xargs_drop (B := B) (aS := aS) (st := st) (k := b + 1) (by omega)
  rw [xtake_recv h] at h2
  rw [h2]
  simp [xlf]
theorem xtol {r : Option Value} {rest : List Value} {B aS : Nat} : (r.map (xlf B aS)).toList ++ rest.map (xlf B aS) = (r.toList ++ rest).map (xlf B aS) := by cases r <;> rfl
section
variable {p : Program} {l : Launch} {e : Env} {s : State} {m : MethodId} {args : Array Value} {below : List Frame} {meth : Method} {c : Code} {Q : State → Prop}
variable {me : xMe} {D : va_G} {B n0 s0 aS : Nat} {cA : Nat → ClassId} {Z : State → Prop} {mc ms : Nat} {r : Option Value} {M' : xM}
set_option maxHeartbeats 4000000 in
/-- a call of a method of the table -/
theorem xcallm_W {d n i : Nat} {R : Room} {L : xL} {st : List Value} {M : xM} {H : Heap} {locs : List Loc} {cells slots : Nat} {ls : Array Slot} {pc a b cf lk : Nat} {ts : List Nat} {v : Int64} {ins : Instr} {M2 : xM} {r2 : Option Value} {me' : xMe} (hR1 : d + 2 ≤ R.frames) (hR2 : 40 * (d + 2) ≤ R.locals)
    (hZ : xZok Z B) (ih : xMetAll l Z D B aS cA d) (C : xCx p s m args meth c me D B n0 cA) (hZs : Z s) (hi : me.2.2.2.2.2.2[i]? = some (pc, ins, 3, ts, a, b, cf, lk, v)) (hc2 : ¬ cf = 2) (hc3 : ¬ cf = 3) (hc4 : ¬ cf = 4) (h3 : xend2 ins = 3) (hme : xmt[a]? = some me') (hme2 : xokM me' = true)
    (hq : xna b me' ≤ st.length ∧ ((st.drop (xna b me')).map fun v => v.category).sum ≤ 8 ∧ (xflat (st.take (xna b me')).reverse).length ≤ me'.2.2.1 ∧ xrecv ts b me' st M = true)
    (hev : ev n d me' 0 (xentry me'.2.2.1 (st.take (xna b me')).reverse) [] M = some (r2, M2)) (hL : xhas B aS ls me.2.2.1 L) (hSt : xSt D B cA M s H locs) (hc : cells + n0 = M.1.length) (hs : slots + s0 = xsl M) (hm1 : M2.1.length ≤ n0 + R.cells) (hm2 : xsl M2 ≤ s0 + R.slots)
    (kk : ∀ (H1 : Heap) (locs1 : List Loc) (cells1 slots1 : Nat), xSt D B cA M2 s H1 locs1 → cells1 + n0 = M2.1.length → slots1 + s0 = xsl M2 → W p l e R s m args below meth c H1 locs1 cells1 slots1 Q (F0 m (pc + 3) ls ((r2.toList ++ st.drop (xna b me')).map (xlf B aS)))) :
    W p l e R s m args below meth c H locs cells slots Q (F0 m pc ls (st.map (xlf B aS))) := by
  have hI := xok_at C hi
  have hg := ev_grow _ _ _ _ _ _ _ _ _ hev
  obtain ⟨hx, hb, hml, hr, hlocks, hnm, hown, hts, hK, hsz, hE, -⟩ := id C
  simp only [xokI, Bool.and_eq_true, decide_eq_true_eq] at hI
  obtain ⟨hd, -, -, hlk⟩ := hI
  have hmem : me' ∈ xmt := List.mem_of_getElem? hme
  have hM := ih n me' _ M M2 r2 (M2.1.length - M.1.length) (xsl M2 - xsl M) hmem hq.2.2.1 hev (by omega) (by omega)
  have hok := hme2
  unfold xokM xokH at hok
  simp only [Bool.and_eq_true, decide_eq_true_eq] at hok
  obtain ⟨⟨hcode, hini, -, -, hmh, h21, hkind⟩, -⟩ := hok
  have hini' := hts _ (xg_of hini rfl)
  have hgood := xgood me' hme2 xg (fun _ h => h)
  refine xsize C hSt hc (fun hH => ?_)
  have hpre : ∀ U : State, U.heap = H → s.WarmedH U.vm → xPc Z D B aS cA (st.take (xna b me')).reverse M (((st.take (xna b me')).reverse).map (xlf B aS)).toArray U := fun U hU hW =>
    ⟨rfl, by rw [hU]; exact hH, by rw [hU]; exact hSt.1, va_K.moved hW.alike hK, hE.warm hW, hZ.1 s U hZs hW (fun q hq => by rw [hU]; exact hSt.2.2.1 q (by omega) (by omega))⟩
  have hroom : (xrm d (M2.1.length - M.1.length) (xsl M2 - xsl M)).frames + 1 ≤ R.frames ∧ 8 + (me'.2.2.1 + 11) + (xrm d (M2.1.length - M.1.length) (xsl M2 - xsl M)).locals ≤ R.locals := by
    refine ⟨hR1, ?_⟩
    show 8 + (me'.2.2.1 + 11) + 40 * (d + 1) ≤ R.locals
    omega
  have hf : cells + (M2.1.length - M.1.length) ≤ R.cells ∧ slots + (xsl M2 - xsl M) ≤ R.slots := by omega
  have hge : H.size ≤ B + M2.1.length := by omega
  have hrest : 2 * (F0 m pc ls (st.map (xlf B aS))).monitorRoom + (((st.drop (xna b me')).map (xlf B aS)).map fun v => v.category).sum ≤ 8 := lv_room (by rw [xcats]; exact hq.2.1)
  have fin : ∀ (H1 : Heap) (locs1 : List Loc), xSt D B cA M2 s H1 locs1 → W p l e R s m args below meth c H1 locs1 (cells + (M2.1.length - M.1.length)) (slots + (xsl M2 - xsl M)) Q (F0 m (pc + 3) ls ((r2.map (xlf B aS)).toList ++ (st.drop (xna b me')).map (xlf B aS))) := fun H1 locs1 h1 => by
    rw [xtol]
    exact kk H1 locs1 _ _ h1 (by omega) (by omega)
  have hlsz : (F0 m pc ls (st.map (xlf B aS))).locals.size = me.2.2.1 := hL.1
  cases ins with
  | invokevirtual idx =>
    simp only [hc3, hc4, if_false, hme, xokC, Bool.and_eq_true, decide_eq_true_eq] at hlk
    obtain ⟨⟨hl, hpar⟩, rfl, hk1, hts1⟩ := hlk
    rw [if_pos rfl] at hl
    have hna : xna b me' = b + 1 := by unfold xna; rw [if_neg (by rw [hk1]; decide)]
    have hrc := hq.2.2.2
    unfold xrecv at hrc
    rw [if_neg (by rw [hk1]; decide)] at hrc
    split at hrc
    next o ho =>
      rw [if_neg (by rw [hk1]; decide)] at hrc
      split at hrc
      next sh hsh =>
        rw [if_neg (by rw [hk1]; decide), if_pos hk1] at hkind
        simp only [Bool.and_eq_true, decide_eq_true_eq] at hkind hrc
        match ts, hts1 with
        | [t], hts1 =>
          dsimp only at hts1
          split at hts1
          next q hq2 =>
            have hqc := of_decide_eq_true hts1
            have hrc' : sh.1 = t := hrc
            obtain ⟨h50, -⟩ := xcl t q hq2
            have he := xwl_get (B := B) (cA := cA) hsh
            rw [xcell, if_pos (by rw [hrc']; exact h50), hrc'] at he
            have hrecv := va_recv hK hSt.1 hq2 he
            rw [hqc] at hrecv
            rw [hna] at hrest hpre hM fin
            rw [xtake_recv ho] at hpre hM
            refine xcallW (va_runV (As := (st.take b).reverse.map (xlf B aS)) (rest := (st.drop (b + 1)).map (xlf B aS)) ⟨hx, hb, hml, hown, hts⟩ hM ⟨callB_of b hts hgood rfl rfl rfl hini' (hts _ (xg_lk hl rfl)) ⟨hmh.1, hmh.2, hpar⟩ hroom, hts _ (xg_of hkind.1 rfl), hts _ (xg_of hkind.2 rfl)⟩ ⟨xPc_blind hZ, hrecv, hpre⟩ rfl ?_ hlsz (xstack_recv ho) hrest hd hf) hSt.2 fin hge (by omega)
            have : b < st.length := (List.getElem?_eq_some_iff.mp ho).1
            simp; omega
          · cases hts1
      · cases hrc
    · cases hrc
  | invokestatic idx =>
    simp only [hme, xokC, Bool.and_eq_true, decide_eq_true_eq] at hlk
    obtain ⟨⟨hl, hpar⟩, hcl, hk0⟩ := hlk
    have hna : xna b me' = b := by unfold xna; rw [if_pos hk0]
    rw [if_pos hk0] at hkind
    have hstt := hts _ (xg_of (of_decide_eq_true hkind) rfl)
    rw [hna] at hrest hpre hM fin
    have hlen : ((st.take b).reverse.map (xlf B aS)).length = b := by have := hq.1; rw [hna] at this; simp; omega
    have hstk := xargs_drop (B := B) (aS := aS) (st := st) (k := b) (by have := hq.1; rw [hna] at this; exact this)
    by_cases hc0 : cf = 0
    · rw [if_pos hc0] at hl
      exact xcallW (va_runS (As := (st.take b).reverse.map (xlf B aS)) (rest := (st.drop b).map (xlf B aS)) ⟨hx, hb, hml, hown, hts⟩ hM ⟨callB_of b hts hgood rfl rfl rfl hini' (hts _ (xg_lk hl rfl)) ⟨hmh.1, hmh.2, hpar⟩ hroom, hstt⟩ ⟨xPc_blind hZ, hpre⟩ rfl hlen hlsz hstk hrest hd hf) hSt.2 fin hge (by omega)
    · rw [if_neg hc0] at hl
      exact xcallW (va_runSN (As := (st.take b).reverse.map (xlf B aS)) (rest := (st.drop b).map (xlf B aS)) ⟨hx, hb, hml, hown, hts⟩ hM ⟨va_cnB b hts hgood rfl rfl rfl (hE.2 _ (List.mem_of_getElem? (of_decide_eq_true hl)) rfl) hini' ⟨hmh.1, hmh.2, hpar⟩ hroom, hstt, trivial⟩ ⟨xPc_blind hZ, hpre⟩ rfl hlen hlsz hstk hrest hd hf) hSt.2 fin hge (by omega)
  | invokespecial idx =>
    simp only [hc2, if_false, hme, xokC, Bool.and_eq_true, decide_eq_true_eq] at hlk
    obtain ⟨⟨hl, hpar⟩, hcl, hk2⟩ := hlk
    have hna : xna b me' = b + 1 := by unfold xna; rw [if_neg (by rw [hk2]; decide)]
    rw [if_neg (by rw [hk2]; decide), if_neg (by rw [hk2]; decide)] at hkind
    simp only [Bool.and_eq_true, decide_eq_true_eq] at hkind
    have hrc := hq.2.2.2
    unfold xrecv at hrc
    rw [if_neg (by rw [hk2]; decide)] at hrc
    split at hrc
    next o ho =>
      have hins := hts _ (xg_of hkind.2.2.1 rfl)
      rw [hna] at hrest hpre hM fin
      rw [xtake_recv ho] at hpre hM
      have hgood2 := hgood
      have hlen : ((st.take b).reverse.map (xlf B aS)).length = b := by have : b < st.length := (List.getElem?_eq_some_iff.mp ho).1; simp; omega
      have hret := hkind.2.2.2
      by_cases hc0 : cf = 0
      · rw [if_pos hc0] at hl
        have cb := callB_of (bytes := me'.2.1) (maxL := me'.2.2.1) (ret := me'.2.2.2.1) b hts hgood rfl (rm := xrm d (M2.1.length - M.1.length) (xsl M2 - xsl M)) rfl rfl hini' (hts _ (xg_lk hl rfl)) ⟨hmh.1, hmh.2, hpar⟩ hroom
        rw [hret] at cb
        exact xcallW (va_runI (As := (st.take b).reverse.map (xlf B aS)) (rest := (st.drop (b + 1)).map (xlf B aS)) ⟨hx, hb, hml, hown, hts⟩ hM ⟨cb, hkind.2.1, hins⟩ ⟨xPc_blind hZ, hpre⟩ rfl hlen hlsz (xstack_recv ho) hrest hd hf) hSt.2 fin hge (by omega)
      · rw [if_neg hc0] at hl
        have cb := va_cnB (bytes := me'.2.1) (maxL := me'.2.2.1) (ret := me'.2.2.2.1) b hts hgood rfl (rm := xrm d (M2.1.length - M.1.length) (xsl M2 - xsl M)) rfl rfl (hE.2 _ (List.mem_of_getElem? (of_decide_eq_true hl)) rfl) hini' ⟨hmh.1, hmh.2, hpar⟩ hroom
        rw [hret] at cb
        exact xcallW (va_runIN (As := (st.take b).reverse.map (xlf B aS)) (rest := (st.drop (b + 1)).map (xlf B aS)) ⟨hx, hb, hml, hown, hts⟩ hM ⟨cb, hkind.2.1, hins⟩ ⟨xPc_blind hZ, hpre⟩ rfl hlen hlsz (xstack_recv ho) hrest hd hf) hSt.2 fin hge (by omega)
    · cases hrc
  | _ => simp [xend2] at h3
theorem xretok_inv {ins : Instr} {ret : Option FieldType} {z : Value} (h : xretok ins ret z = true) : (ins = .ireturn ∧ ret = some .int ∧ ∃ v, z = .int v) ∨ (ins = .ireturn ∧ ret = some .boolean ∧ ∃ v, z = .int v ∧ (v = 0 ∨ v = 1)) ∨ (ins = .lreturn ∧ ret = some .long ∧ ∃ v, z = .long v) ∨ (ins = .areturn ∧ (∃ C, ret = some (.object C)) ∧ ((∃ a, z = .ref a) ∨ z = .null)) := by
  unfold xretok at h
  split at h
  · exact Or.inl ⟨rfl, rfl, _, rfl⟩
  · exact Or.inr (Or.inl ⟨rfl, rfl, _, rfl, of_decide_eq_true h⟩)
  · exact Or.inr (Or.inr (Or.inl ⟨rfl, rfl, _, rfl⟩))
  · exact Or.inr (Or.inr (Or.inr ⟨rfl, ⟨_, rfl⟩, Or.inl ⟨_, rfl⟩⟩))
  · exact Or.inr (Or.inr (Or.inr ⟨rfl, ⟨_, rfl⟩, Or.inr rfl⟩))
  · cases h
set_option maxHeartbeats 4000000 in
/-- a return with a value -/
theorem xret_W {R : Room} {i : Nat} {st : List Value} {H : Heap} {locs : List Loc} {ls : Array Slot} {x : xI} (C : xCx p s m args meth c me D B n0 cA) (hi : me.2.2.2.2.2.2[i]? = some x) (h : xret x.2.1 me st M' = some (r, M')) (hSt : xSt D B cA M' s H locs) (hc : mc + n0 = M'.1.length) :
    W p l e R s m args below meth c H locs mc ms (MQ below (xQc D B aS cA r M') args s mc ms (fun q => B ≤ q)) (F0 m x.1 ls (st.map (xlf B aS))) := by
  have hI := xok_at C hi
  obtain ⟨hx, hb, hml, hr, hlocks, hnm, hown, hts, hK, hsz, hE, -⟩ := id C
  obtain ⟨pc, ins, len, ts, a, b, cf, lk, v⟩ := x
  simp only [xokI, Bool.and_eq_true, decide_eq_true_eq] at hI
  obtain ⟨hd, hlen, -, -⟩ := hI
  refine xsize C hSt hc (fun hH => ?_)
  have hq : ∀ (v : Value), r = some v → ∀ t : State, t.heap = H → s.WarmedH t.vm → xQc D B aS cA r M' args s (.returned (some (xlf B aS v))) t := fun v hv t ht _ => ⟨by rw [hv]; rfl, by rw [ht]; exact hH, by rw [ht]; exact hSt.1, fun q hq => by rw [ht]; exact hSt.2.2.1 q (by omega) (by omega)⟩
  have hf : ∀ q ∈ locs, B ≤ q.base := hSt.2.2.2
  unfold xret at h
  split at h
  next z =>
    obtain ⟨h1, h⟩ := xif_inv h
    cases h
    have hq := hq z rfl
    show W p l e R s m args below meth c H locs mc ms _ (F0 m pc ls [xlf B aS z])
    rcases xretok_inv h1 with ⟨rfl, hret, v, rfl⟩ | ⟨rfl, hret, v, rfl, hv⟩ | ⟨rfl, hret, v, rfl⟩ | ⟨rfl, ⟨Cn, hret⟩, hz⟩
    · have hl : len = 1 := by simpa [xlenok] using hlen
      subst hl
      rw [hret] at hr
      exact W.iret hx hb hr hq hf hd hlocks
    · have hl : len = 1 := by simpa [xlenok] using hlen
      subst hl
      rw [hret] at hr
      exact W.zret hx hb hr (by rcases hv with rfl | rfl <;> rfl) hq hf hd hlocks
    · have hl : len = 1 := by simpa [xlenok] using hlen
      subst hl
      rw [hret] at hr
      exact W.lret hx hb hr hq hf hd hlocks
    · have hl : len = 1 := by simpa [xlenok] using hlen
      subst hl
      rw [hret] at hr
      rcases hz with ⟨a, rfl⟩ | rfl
      · exact W.aret hx hb hr (Or.inl ⟨_, rfl⟩) (Or.inr ⟨_, rfl⟩) hq hf hd hlocks
      · exact W.aret hx hb hr (Or.inl ⟨_, rfl⟩) (Or.inl rfl) hq hf hd hlocks
  · cases h
set_option maxHeartbeats 4000000 in
theorem xbody {d : Nat} (hZ : xZok Z B) (hldc : xLdc l Z D B aS cA) (hbi : xBI l Z D B aS cA) (ih : ∀ d', d = d' + 1 → xMetAll l Z D B aS cA d') (hall : ∀ me ∈ xmt, xokM me = true) (C : xCx p s m args meth c me D B n0 cA) (hZs : Z s) (hmc : mc + n0 = M'.1.length) (hms : ms + s0 = xsl M') :
    ∀ (n i : Nat) (L : xL) (st : List Value) (M : xM) (H : Heap) (locs : List Loc) (cells slots : Nat) (ls : Array Slot) (x : xI), ev n d me i L st M = some (r, M') → me.2.2.2.2.2.2[i]? = some x → xhas B aS ls me.2.2.1 L → xSt D B cA M s H locs → cells + n0 = M.1.length → slots + s0 = xsl M →
      W p l e (xrm d mc ms) s m args below meth c H locs cells slots (MQ below (xQc D B aS cA r M') args s mc ms (fun q => B ≤ q)) (F0 m x.1 ls (st.map (xlf B aS))) := by
  intro n
  induction n with
  | zero => intro i L st M H locs cells slots ls x h; cases h
  | succ n ihn =>
    intro i L st M H locs cells slots ls x h hi hL hSt hc hs
    have hgr := ev_grow _ _ _ _ _ _ _ _ _ h
    unfold ev at h
    rw [hi] at h
    dsimp only at h
    split at h
    · split at h
      next i' L' st' M1 h1 =>
        obtain ⟨y, hy⟩ := ev_some h
        have hg := ev_grow _ _ _ _ _ _ _ _ _ h
        refine xstep_W hldc hZs C hi h1 hy hL hSt hc hs (by show _ ≤ n0 + mc; omega) (by show _ ≤ s0 + ms; omega) (fun ls' H' locs' cells' slots' hL' hSt' hc' hs' => ?_)
        exact ihn i' L' st' M1 H' locs' cells' slots' ls' y h hy hL' hSt' hc' hs'
      · cases h
    · have hM : M = M' := by
        unfold xret at h
        split at h
        · obtain ⟨_, h⟩ := xif_inv h; cases h; rfl
        · cases h
      subst hM
      have e1 : cells = mc := by omega
      have e2 : slots = ms := by omega
      subst e1; subst e2
      exact xret_W C hi h hSt hc
    next h2 =>
      unfold xvret at h
      split at h
      next =>
        obtain ⟨hret, h⟩ := xif_inv h
        cases h
        have e1 : cells = mc := by omega
        have e2 : slots = ms := by omega
        subst e1; subst e2
        have hI := xok_at C hi
        obtain ⟨hx, hb, hml, hr, hlocks, hnm, hown, hts, hK, hsz, hE, -⟩ := id C
        obtain ⟨pc, ins, len, ts, a, b, cf, lk, v⟩ := x
        simp only [xokI, Bool.and_eq_true, decide_eq_true_eq] at hI
        obtain ⟨hd, hlen, -, -⟩ := hI
        refine xsize C hSt hc (fun hH => ?_)
        have hins : ins = .return_ := by
          revert h2
          cases ins <;> simp [xend2]
        subst hins
        have hl : len = 1 := by simpa [xlenok] using hlen
        subst hl
        rw [hret] at hr
        exact W.vret hx hb hr (fun t ht _ => ⟨rfl, by rw [ht]; exact hH, by rw [ht]; exact hSt.1, fun q hq => by rw [ht]; exact hSt.2.2.1 q (by omega) (by omega)⟩) hSt.2.2.2 hd hlocks
      · cases h
    next h0 h1 h2 =>
      have h3 : xend2 x.2.1 = 3 := by
        revert h0 h1 h2
        cases x.2.1 <;> simp [xend2]
      have hI := xok_at C hi
      obtain ⟨pc, ins, len, ts, a, b, cf, lk, v⟩ := x
      have hlen3 : len = 3 := by
        simp only [xokI, Bool.and_eq_true, decide_eq_true_eq] at hI
        have hlen := hI.2.1
        have h3' : xend2 ins = 3 := h3
        revert h3' hlen
        cases ins <;> simp [xend2, xlenok]
      subst hlen3
      have hnext : ∀ y : xI, me.2.2.2.2.2.2[i + 1]? = some y → y.1 = pc + 3 := fun y hy => by
        simp only [xokI, Bool.and_eq_true, decide_eq_true_eq] at hI
        have h5 := hI.2.2.1
        rw [hy] at h5
        exact of_decide_eq_true h5
      unfold xcallf at h
      dsimp only at h
      obtain ⟨hx, hb, hml, hr, hlocks, hnm, hown, hts, hK, hsz, hE, -⟩ := id C
      have hI' := hI
      simp only [xokI, Bool.and_eq_true, decide_eq_true_eq] at hI'
      obtain ⟨hd, -, -, hlk⟩ := hI'
      by_cases c2 : cf = 2
      · rw [if_pos c2] at h
        split at h
        next o rr =>
          obtain ⟨hcat, h⟩ := xif_inv h
          obtain ⟨y, hy⟩ := ev_some h
          have k := ihn (i + 1) L rr M H locs cells slots ls y h hy hL hSt hc hs
          rw [hnext y hy] at k
          have h3' : xend2 ins = 3 := h3
          cases ins with
          | invokespecial idx =>
            simp only [c2, if_true] at hlk
            refine W.objInit hx hb hown (hts _ (xg_lk hlk rfl)) (hts _ (xg_of xobj_in.1 rfl)) (hts _ (xg_of xobj_in.2 rfl)) rfl (hL.1.trans hml.symm) rfl hd (by show 1 ≤ d + 1; omega) ?_ k
            have := lv_room (m := m) (pc := pc) (ls := ls) (rest := (Value.ref o :: rr).map (xlf B aS)) (st := rr.map (xlf B aS)) (by rw [xcats]; exact hcat)
            show 2 * (F0 m pc ls ((Value.ref o :: rr).map (xlf B aS))).monitorRoom + ((rr.map (xlf B aS)).map fun v => v.category).sum + 12 ≤ 40 * (d + 1)
            omega
          | invokevirtual idx =>
            cases hx2 : xmt[a]? with
            | none => simp [c2, hx2] at hlk
            | some q => simp [c2, hx2] at hlk
          | invokestatic idx =>
            cases hx2 : xmt[a]? with
            | none => simp [c2, hx2] at hlk
            | some q => simp [c2, hx2] at hlk
          | _ => simp [xend2] at h3'
        · cases h
      · rw [if_neg c2] at h
        have h3' : xend2 ins = 3 := h3
        by_cases c3 : cf = 3
        · rw [if_pos c3] at h
          split at h
          next o rr =>
            obtain ⟨hcat, h⟩ := xif_inv h
            obtain ⟨y, hy⟩ := ev_some h
            have e1 := hnext y hy
            cases ins with
            | invokevirtual idx =>
              simp only [c3, if_true] at hlk
              refine (hbi p e (xrm d mc ms) s m args below meth c H locs cells slots _ me n0 ls pc idx (rr.map (xlf B aS)) C hZs hSt.2 hL.1 (by rw [xcats]; exact hcat.2) (by show 5 ≤ d + 1; omega) (by show 200 ≤ 40 * (d + 1); omega) (by show cells ≤ mc; omega) (by show slots ≤ ms; omega) hd).1 (List.mem_of_getElem? (of_decide_eq_true hlk)) (fun locs' hS' => ?_)
              have k := ihn (i + 1) L (.int (nI xtextLen) :: rr) M H locs' cells slots ls y h hy hL ⟨hSt.1, hS'⟩ hc hs
              rw [e1] at k
              exact k
            | invokespecial idx =>
              cases hx2 : xmt[a]? with
              | none => simp [c3, hx2] at hlk
              | some q => simp [c3, hx2] at hlk
            | invokestatic idx =>
              cases hx2 : xmt[a]? with
              | none => simp [c3, hx2] at hlk
              | some q => simp [c3, hx2] at hlk
            | _ => simp [xend2] at h3'
          · cases h
        · rw [if_neg c3] at h
          by_cases c4 : cf = 4
          · rw [if_pos c4] at h
            split at h
            next kx o rr =>
              obtain ⟨hcat, h⟩ := xif_inv h
              obtain ⟨y, hy⟩ := ev_some h
              have e1 := hnext y hy
              cases ins with
              | invokevirtual idx =>
                simp only [c4, if_true] at hlk
                refine (hbi p e (xrm d mc ms) s m args below meth c H locs cells slots _ me n0 ls pc idx (rr.map (xlf B aS)) C hZs hSt.2 hL.1 (by rw [xcats]; exact hcat.2.1) (by show 5 ≤ d + 1; omega) (by show 200 ≤ 40 * (d + 1); omega) (by show cells ≤ mc; omega) (by show slots ≤ ms; omega) hd).2 kx hcat.2.2 (List.mem_of_getElem? (of_decide_eq_true hlk)) (fun locs' hS' => ?_)
                have k := ihn (i + 1) L (.int (xtext.getD kx.toNatClampNeg 0) :: rr) M H locs' cells slots ls y h hy hL ⟨hSt.1, hS'⟩ hc hs
                rw [e1] at k
                exact k
              | invokespecial idx =>
                cases hx2 : xmt[a]? with
                | none => simp [c4, hx2] at hlk
                | some q => simp [c4, hx2] at hlk
              | invokestatic idx =>
                cases hx2 : xmt[a]? with
                | none => simp [c4, hx2] at hlk
                | some q => simp [c4, hx2] at hlk
              | _ => simp [xend2] at h3'
            · cases h
          · rw [if_neg c4] at h
            unfold xcallm at h
            split at h
            next d' me' hme =>
              obtain ⟨hq, h⟩ := xif_inv h
              split at h
              next r2 M2 h2' =>
                obtain ⟨y, hy⟩ := ev_some h
                have hg := ev_grow _ _ _ _ _ _ _ _ _ h
                have e1 := hnext y hy
                refine xcallm_W (s0 := s0) (by show d' + 2 ≤ d' + 1 + 1; omega) (by show 40 * (d' + 2) ≤ 40 * (d' + 1 + 1); omega) hZ (ih d' rfl) C hZs hi c2 c3 c4 h3 hme (hall me' (List.mem_of_getElem? hme)) hq h2' hL hSt hc hs (by show _ ≤ n0 + mc; omega) (by show _ ≤ s0 + ms; omega) (fun H1 locs1 cells1 slots1 hS1 hc1 hs1 => ?_)
                have k := ihn (i + 1) L _ M2 H1 locs1 cells1 slots1 ls y h hy hL hS1 hc1 hs1
                rw [e1] at k
                exact k
              · cases h
            · cases h
end
set_option maxHeartbeats 4000000 in
theorem xMet_of {l : Launch} {Z : State → Prop} {D : va_G} {B aS : Nat} {cA : Nat → ClassId} (hZ : xZok Z B) (hldc : xLdc l Z D B aS cA) (hbi : xBI l Z D B aS cA) (hall : ∀ me ∈ xmt, xokM me = true) (d : Nat) (ih : ∀ d', d = d' + 1 → xMetAll l Z D B aS cA d') : xMetAll l Z D B aS cA d := by
  intro n me av M M' r mc ms hmem hfl hev hmc hms
  have hok := hall me hmem
  have hok2 := hok
  unfold xokM xokH at hok
  simp only [Bool.and_eq_true, decide_eq_true_eq] at hok
  obtain ⟨⟨hcode, hini, hpl, hcls, hmh, h21, hkind⟩, hlen, h0, -⟩ := hok
  refine Met.ofW (cc := me.2.1) (maxL := me.2.2.1) (ret := me.2.2.2.1) hpl rfl ?_
  intro p e s m args below meth c s₁ Bd hml hv
  obtain ⟨rfl, hsz, hP, hK, hE, hZs⟩ := hv
  have hts0 := atoms_spec (ws := xws me) Bd.pre
  have hts : ∀ w ∈ xg, w.before (av.map (xlf B aS)).toArray s = true := fun w hw => hts0 w (List.mem_cons_of_mem _ hw)
  have hown : s.vm.findClass me.1.cls = some m.cls := findClass_of_methodNamed Bd.named
  have hin : meth.name = me.1.name := (name_of_methodNamed Bd.named Bd.method).1
  rw [hcls] at hown
  have C : xCx p s m (av.map (xlf B aS)).toArray meth c me D B M.1.length cA := ⟨Bd.exec, Bd.bytes, hml, Bd.returns, Bd.notSynchronized, hin, hown, hts, hK, hsz, hE, hok2⟩
  obtain ⟨x, hx⟩ := ev_some hev
  have hx0 : x.1 = 0 := by
    rw [hx] at h0
    exact of_decide_eq_true h0
  rw [lg_entry_eq]
  have := xbody (e := e) (below := below) (s0 := xsl M) hZ hldc hbi ih hall C hZs hmc hms n 0 _ [] M s.heap [] 0 0 _ x hev hx (xentry_has av hfl) ⟨hP, va_S.rf⟩ (by omega) (by omega)
  rw [hx0] at this
  exact this
set_option maxHeartbeats 4000000 in
/-- EVERY METHOD KEEPS ITS CONTRACT, at every depth -/
theorem xMet_all {l : Launch} {Z : State → Prop} {D : va_G} {B aS : Nat} {cA : Nat → ClassId} (hZ : xZok Z B) (hldc : xLdc l Z D B aS cA) (hbi : xBI l Z D B aS cA) (hall : ∀ me ∈ xmt, xokM me = true) : ∀ d : Nat, xMetAll l Z D B aS cA d := by
  intro d
  induction d with
  | zero => exact xMet_of hZ hldc hbi hall 0 (fun d' h => by omega)
  | succ d ih => exact xMet_of hZ hldc hbi hall (d + 1) (fun d' h => by cases h; exact ih)
