theorem xobj_in : Cond.instanceMethod objectInit ∈ lw_tbl ∧ Cond.code objectInit ⟨#[0xb1]⟩ 1 none ∈ lw_tbl := by decide +kernel
theorem ev_some : ∀ {n d : Nat} {me : xMe} {i : Nat} {L : xL} {st : List Value} {M : xM} {q : Option Value × xM}, ev n d me i L st M = some q → ∃ y, me.2.2.2.2.2.2[i]? = some y := by
  intro n d me i L st M q h
  cases n with
  | zero => cases h
  | succ n =>
    unfold ev at h
    split at h
    · cases h
    next x hx => exact ⟨x, hx⟩
theorem xtake_recv {st : List Value} {b o : Nat} (h : st[b]? = some (.ref o)) : (st.take (b + 1)).reverse = .ref o :: (st.take b).reverse := by
  rw [List.take_succ, h]
  simp
theorem xstack_recv {st : List Value} {b o : Nat} (h : st[b]? = some (.ref o)) {B aS : Nat} : st.map (xlf B aS) = (((st.take b).reverse.map (xlf B aS)).reverse) ++ .ref (B + o) :: (st.drop (b + 1)).map (xlf B aS) := by
  have hl : b < st.length := (List.getElem?_eq_some_iff.mp h).1
  have h2 := xargs_drop (B := B) (aS := aS) (st := st) (k := b + 1) (by omega)
  rw [xtake_recv h] at h2
  rw [h2]
  simp [xlf]
theorem xtol {r : Option Value} {rest : List Value} {B aS : Nat} : (r.map (xlf B aS)).toList ++ rest.map (xlf B aS) = (r.toList ++ rest).map (xlf B aS) := by cases r <;> rfl
section
variable {p : Program} {l : Launch} {e : Env} {s : State} {m : MethodId} {args : Array Value} {below : List Frame} {meth : Method} {c : Code} {Q : State → Prop}
variable {me : xMe} {D : va_G} {B n0 s0 aS : Nat} {cA : Nat → ClassId} {Z : State → Prop} {mc ms : Nat} {r : Option Value} {M' : xM}
set_option maxHeartbeats 4000000 in
/-- a call of a method of the table -/
theorem xcallm_W {d n i : Nat} {R : Room} {L : xL} {st : List Value} {M : xM} {H : Heap} {locs : List Loc} {cells slots : Nat} {ls : Array Slot} {pc a b cf lk : Nat} {ts : List Nat} {v : Int64} {ins : Instr} {y : xI} {M2 : xM} {r2 : Option Value} {me' : xMe} (hR1 : d + 2 ≤ R.frames) (hR2 : 40 * (d + 2) ≤ R.locals)
    (hZ : xZok Z B) (ih : xMetAll l Z D B aS cA d) (C : xCx p s m args meth c me D B n0 cA) (hZs : Z s) (hi : me.2.2.2.2.2.2[i]? = some (pc, ins, 3, ts, a, b, cf, lk, v)) (hc2 : ¬ cf = 2) (hc3 : ¬ cf = 3) (hc4 : ¬ cf = 4) (h3 : xend2 ins = 3) (hme : xmt[a]? = some me') (hme2 : xokM me' = true)
    (hq : xna b me' ≤ st.length ∧ ((st.drop (xna b me')).map fun v => v.category).sum ≤ 8 ∧ (xflat (st.take (xna b me')).reverse).length ≤ me'.2.2.1 ∧ xrecv ts b me' st M = true)
    (hev : ev n d me' 0 (xentry me'.2.2.1 (st.take (xna b me')).reverse) [] M = some (r2, M2)) (hL : xhas B aS ls me.2.2.1 L) (hSt : xSt D B cA M s H locs) (hc : cells + n0 = M.1.length) (hs : slots + s0 = xsl M) (hm1 : M2.1.length ≤ n0 + R.cells) (hm2 : xsl M2 ≤ s0 + R.slots)
    (kk : ∀ (H1 : Heap) (locs1 : List Loc) (cells1 slots1 : Nat), xSt D B cA M2 s H1 locs1 → cells1 + n0 = M2.1.length → slots1 + s0 = xsl M2 → W p l e R s m args below meth c H1 locs1 cells1 slots1 Q (F0 m (pc + 3) ls ((r2.toList ++ st.drop (xna b me')).map (xlf B aS)))) :
    W p l e R s m args below meth c H locs cells slots Q (F0 m pc ls (st.map (xlf B aS))) := by
  have hI := xok_at C hi
  have hg := ev_grow _ _ _ _ _ _ _ _ _ hev
  obtain ⟨hx, hb, hml, hr, hlocks, hnm, hown, hts, hK, hsz, hE, -⟩ := id C
  simp only [xokI, Bool.and_eq_true, decide_eq_true_eq] at hI
  obtain ⟨hd, -, -, hlk⟩ := hI
  have hmem : me' ∈ xmt := List.mem_of_getElem? hme
  have hM := ih n me' _ M M2 r2 (M2.1.length - M.1.length) (xsl M2 - xsl M) hmem hq.2.2.1 hev (by omega) (by omega)
  have hok := hme2
  unfold xokM xokH at hok
  simp only [Bool.and_eq_true, decide_eq_true_eq] at hok
  obtain ⟨⟨hcode, hini, -, -, hmh, h21, hkind⟩, -⟩ := hok
  have hini' := hts _ (xg_of hini rfl)
  have hgood := xgood me' hme2 xg (fun _ h => h)
  refine xsize C hSt hc (fun hH => ?_)
  have hpre : ∀ U : State, U.heap = H → s.WarmedH U.vm → xPc Z D B aS cA (st.take (xna b me')).reverse M (((st.take (xna b me')).reverse).map (xlf B aS)).toArray U := fun U hU hW =>
    ⟨rfl, by rw [hU]; exact hH, by rw [hU]; exact hSt.1, va_K.moved hW.alike hK, hE.warm hW, hZ.1 s U hZs hW (fun q hq => by rw [hU]; exact hSt.2.2.1 q (by omega) (by omega))⟩
  have hroom : (xrm d (M2.1.length - M.1.length) (xsl M2 - xsl M)).frames + 1 ≤ R.frames ∧ 8 + (me'.2.2.1 + 11) + (xrm d (M2.1.length - M.1.length) (xsl M2 - xsl M)).locals ≤ R.locals := by
    refine ⟨hR1, ?_⟩
    show 8 + (me'.2.2.1 + 11) + 40 * (d + 1) ≤ R.locals
    omega
  have hf : cells + (M2.1.length - M.1.length) ≤ R.cells ∧ slots + (xsl M2 - xsl M) ≤ R.slots := by omega
  have hge : H.size ≤ B + M2.1.length := by omega
  have hrest : 2 * (F0 m pc ls (st.map (xlf B aS))).monitorRoom + (((st.drop (xna b me')).map (xlf B aS)).map fun v => v.category).sum ≤ 8 := lv_room (by rw [xcats]; exact hq.2.1)
  have fin : ∀ (H1 : Heap) (locs1 : List Loc), xSt D B cA M2 s H1 locs1 → W p l e R s m args below meth c H1 locs1 (cells + (M2.1.length - M.1.length)) (slots + (xsl M2 - xsl M)) Q (F0 m (pc + 3) ls ((r2.map (xlf B aS)).toList ++ (st.drop (xna b me')).map (xlf B aS))) := fun H1 locs1 h1 => by
    rw [xtol]
    exact kk H1 locs1 _ _ h1 (by omega) (by omega)
  have hlsz : (F0 m pc ls (st.map (xlf B aS))).locals.size = me.2.2.1 := hL.1
  cases ins with
  | invokevirtual idx =>
    simp only [hc3, hc4, if_false, hme, xokC, Bool.and_eq_true, decide_eq_true_eq] at hlk
    obtain ⟨⟨hl, hpar⟩, rfl, hk1, hts1⟩ := hlk
    rw [if_pos rfl] at hl
    have hna : xna b me' = b + 1 := by unfold xna; rw [if_neg (by rw [hk1]; decide)]
    have hrc := hq.2.2.2
    unfold xrecv at hrc
    rw [if_neg (by rw [hk1]; decide)] at hrc
    split at hrc
    next o ho =>
      rw [if_neg (by rw [hk1]; decide)] at hrc
      split at hrc
      next sh hsh =>
        rw [if_neg (by rw [hk1]; decide), if_pos hk1] at hkind
        simp only [Bool.and_eq_true, decide_eq_true_eq] at hkind hrc
        match ts, hts1 with
        | [t], hts1 =>
          split at hts1
          next q hq2 =>
            have hqc := of_decide_eq_true hts1
            have hrc' : sh.1 = t := hrc
            obtain ⟨h50, -⟩ := xcl t q hq2
            have he := xwl_get (B := B) (cA := cA) hsh
            rw [xcell, if_pos (by rw [hrc']; exact h50), hrc'] at he
            have hrecv := va_recv hK hSt.1 hq2 he
            rw [hqc] at hrecv
            rw [hna] at hrest hpre hM fin
            rw [xtake_recv ho] at hpre hM
            refine xcallW (va_runV (As := (st.take b).reverse.map (xlf B aS)) (rest := (st.drop (b + 1)).map (xlf B aS)) ⟨hx, hb, hml, hown, hts⟩ hM ⟨callB_of b hts hgood rfl rfl rfl hini' (hts _ (xg_lk hl rfl)) ⟨hmh.1, hmh.2, hpar⟩ hroom, hts _ (xg_of hkind.1 rfl), hts _ (xg_of hkind.2 rfl)⟩ ⟨xPc_blind hZ, hrecv, hpre⟩ rfl ?_ hlsz (xstack_recv ho) hrest hd hf) hSt.2 fin hge (by omega)
            have : b < st.length := (List.getElem?_eq_some_iff.mp ho).1
            simp; omega
          · cases hts1
      · cases hrc
    · cases hrc
  | invokestatic idx =>
    simp only [hme, xokC, Bool.and_eq_true, decide_eq_true_eq] at hlk
    obtain ⟨⟨hl, hpar⟩, hcl, hk0⟩ := hlk
    have hna : xna b me' = b := by unfold xna; rw [if_pos hk0]
    rw [if_pos hk0] at hkind
    have hstt := hts _ (xg_of (of_decide_eq_true hkind) rfl)
    rw [hna] at hrest hpre hM fin
    have hlen : ((st.take b).reverse.map (xlf B aS)).length = b := by have := hq.1; rw [hna] at this; simp; omega
    have hstk := xargs_drop (B := B) (aS := aS) (st := st) (k := b) (by have := hq.1; rw [hna] at this; exact this)
    by_cases hc0 : cf = 0
    · rw [if_pos hc0] at hl
      exact xcallW (va_runS (As := (st.take b).reverse.map (xlf B aS)) (rest := (st.drop b).map (xlf B aS)) ⟨hx, hb, hml, hown, hts⟩ hM ⟨callB_of b hts hgood rfl rfl rfl hini' (hts _ (xg_lk hl rfl)) ⟨hmh.1, hmh.2, hpar⟩ hroom, hstt⟩ ⟨xPc_blind hZ, hpre⟩ rfl hlen hlsz hstk hrest hd hf) hSt.2 fin hge (by omega)
    · rw [if_neg hc0] at hl
      exact xcallW (va_runSN (As := (st.take b).reverse.map (xlf B aS)) (rest := (st.drop b).map (xlf B aS)) ⟨hx, hb, hml, hown, hts⟩ hM ⟨va_cnB b hts hgood rfl rfl rfl (hE.2 _ (List.mem_of_getElem? (of_decide_eq_true hl)) rfl) hini' ⟨hmh.1, hmh.2, hpar⟩ hroom, hstt, trivial⟩ ⟨xPc_blind hZ, hpre⟩ rfl hlen hlsz hstk hrest hd hf) hSt.2 fin hge (by omega)
  | invokespecial idx =>
    simp only [hc2, if_false, hme, xokC, Bool.and_eq_true, decide_eq_true_eq] at hlk
    obtain ⟨⟨hl, hpar⟩, hcl, hk2⟩ := hlk
    have hna : xna b me' = b + 1 := by unfold xna; rw [if_neg (by rw [hk2]; decide)]
    rw [if_neg (by rw [hk2]; decide), if_neg (by rw [hk2]; decide)] at hkind
    simp only [Bool.and_eq_true, decide_eq_true_eq] at hkind
    have hrc := hq.2.2.2
    unfold xrecv at hrc
    rw [if_neg (by rw [hk2]; decide)] at hrc
    split at hrc
    next o ho =>
      have hins := hts _ (xg_of hkind.2.2.1 rfl)
      rw [hna] at hrest hpre hM fin
      rw [xtake_recv ho] at hpre hM
      have hgood2 := hgood
      have hlen : ((st.take b).reverse.map (xlf B aS)).length = b := by have : b < st.length := (List.getElem?_eq_some_iff.mp ho).1; simp; omega
      have hret := hkind.2.2.2
      by_cases hc0 : cf = 0
      · rw [if_pos hc0] at hl
        have cb := callB_of (bytes := me'.2.1) (maxL := me'.2.2.1) (ret := me'.2.2.2.1) b hts hgood rfl (rm := xrm d (M2.1.length - M.1.length) (xsl M2 - xsl M)) rfl rfl hini' (hts _ (xg_lk hl rfl)) ⟨hmh.1, hmh.2, hpar⟩ hroom
        rw [hret] at cb
        exact xcallW (va_runI (As := (st.take b).reverse.map (xlf B aS)) (rest := (st.drop (b + 1)).map (xlf B aS)) ⟨hx, hb, hml, hown, hts⟩ hM ⟨cb, hkind.2.1, hins⟩ ⟨xPc_blind hZ, hpre⟩ rfl hlen hlsz (xstack_recv ho) hrest hd hf) hSt.2 fin hge (by omega)
      · rw [if_neg hc0] at hl
        have cb := va_cnB (bytes := me'.2.1) (maxL := me'.2.2.1) (ret := me'.2.2.2.1) b hts hgood rfl (rm := xrm d (M2.1.length - M.1.length) (xsl M2 - xsl M)) rfl rfl (hE.2 _ (List.mem_of_getElem? (of_decide_eq_true hl)) rfl) hini' ⟨hmh.1, hmh.2, hpar⟩ hroom
        rw [hret] at cb
        exact xcallW (va_runIN (As := (st.take b).reverse.map (xlf B aS)) (rest := (st.drop (b + 1)).map (xlf B aS)) ⟨hx, hb, hml, hown, hts⟩ hM ⟨cb, hkind.2.1, hins⟩ ⟨xPc_blind hZ, hpre⟩ rfl hlen hlsz (xstack_recv ho) hrest hd hf) hSt.2 fin hge (by omega)
    · cases hrc
  | _ => simp [xend2] at h3
end
