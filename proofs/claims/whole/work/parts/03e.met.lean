def xws (me : xMe) : List Cond := Cond.code me.1 me.2.1 me.2.2.1 me.2.2.2.1 :: xg
def xrm (d mc ms : Nat) : Room := { frames := d + 1, cells := mc, slots := ms, locals := 40 * (d + 1) }
/-- a contract's start and end -/
def xPc (Z : State → Prop) (D : va_G) (B aS : Nat) (cA : Nat → ClassId) (av : List Value) (M : xM) : Array Value → State → Prop := fun v U => v = (av.map (xlf B aS)).toArray ∧ U.heap.size = B + M.1.length ∧ va_P D vwCl (xwl B cA M) U.heap ∧ va_K D vwCl (xtys cA) U ∧ xE U ∧ Z U
def xQc (D : va_G) (B aS : Nat) (cA : Nat → ClassId) (r : Option Value) (M' : xM) : Array Value → State → Outcome → State → Prop := fun _ st o t => o = .returned (r.map (xlf B aS)) ∧ t.heap.size = B + M'.1.length ∧ va_P D vwCl (xwl B cA M') t.heap ∧ ∀ q, q < B → t.heap[q]? = st.heap[q]?
/-- what Z must keep: from a state to what is called there -/
def xZok (Z : State → Prop) (B : Nat) : Prop := (∀ s U : State, Z s → s.WarmedH U.vm → (∀ q, q < B → U.heap[q]? = s.heap[q]?) → Z U) ∧ ∀ (U : State) (g : JFrame) (mk : MethodId) (a : Array Value), Z U → Z (U.calling g mk a)
section
variable {p : Program} {l : Launch} {e : Env} {R : Room} {s : State} {m : MethodId} {args : Array Value} {below : List Frame} {meth : Method} {c : Code} {H : Heap} {locs : List Loc} {cells slots : Nat} {Q : State → Prop}
variable {me : xMe} {D : va_G} {B n0 s0 aS : Nat} {cA : Nat → ClassId} {M M1 : xM} {ls : Array Slot} {L L' : xL} {st st' : List Value} {i i' : Nat} {y : xI}
theorem xPc_blind {Z : State → Prop} (hZ : xZok Z B) {av : List Value} : FrameBlind (xPc Z D B aS cA av M) := by
  intro a U g mk h
  obtain ⟨h1, h2, h3, h4, h5, h6⟩ := h
  exact ⟨h1, h2, h3, va_K.moved (u := U) (U := U.calling g mk a) (Vm.Alike.refl U.vm) h4, ⟨h5.1.moved (u := U) (U := U.calling g mk a) (Vm.Alike.refl U.vm), fun w hw hn => va_Nw.same (by cases w <;> first | (simp [xnest] at hn; done) | rfl) (u := U) (U := U.calling g mk a) rfl (h5.2 w hw hn)⟩, hZ.2 U g mk a h6⟩
/-- behind a call -/
theorem xcallW {pc mc ms : Nat} {st0 rest : List Value} {a : Array Value} {r : Option Value} {M' : xM} (hr : va_Run p l e R s m args below meth c H locs cells slots mc ms (F0 m pc ls st0) rest (xQc D B aS cA r M' a) (fun q => B ≤ q)) (hSt : va_S (fun q => B ≤ q) s.heap H locs)
    (kk : ∀ (H1 : Heap) (locs1 : List Loc), xSt D B cA M' s H1 locs1 → W p l e R s m args below meth c H1 locs1 (cells + mc) (slots + ms) Q (F0 m (pc + 3) ls ((r.map (xlf B aS)).toList ++ rest))) (hge : H.size ≤ B + M'.1.length) (hB : B ≤ s.heap.size) : W p l e R s m args below meth c H locs cells slots Q (F0 m pc ls st0) := by
  intro T hT X
  obtain ⟨v, st₀, t, T', L, h0, X', hL, e1, e2, ⟨hv, hz, hp, hk⟩, st⟩ := hr T hT X
  cases hv
  rw [h0] at hk
  obtain ⟨t2, a1, b1⟩ := kk T'.heap (locs ++ L) ⟨by rw [e1]; exact hp, Nat.le_trans hSt.1 (by rw [e1, hz]; exact hge), fun q h1 h2 => by
      rw [e1, hk q (Nat.lt_of_not_le h2)]; exact hSt.2.1 q h1 h2, fun q hq => by
      rcases List.mem_append.mp hq with h | h
      · exact hSt.2.2 q h
      · exact hL q h⟩ T' rfl X'
  exact ⟨t2, st t2 a1, b1⟩
end
set_option maxHeartbeats 1000000 in
theorem xstep_grow {x : xI} {i i' : Nat} {L L' : xL} {st st' : List Value} {M M1 : xM} (h : xstep x i L st M = some (i', L', st', M1)) : M.1.length ≤ M1.1.length ∧ xsl M ≤ xsl M1 := by
  obtain ⟨pc, ins, len, ts, a, b, cf, lk, v⟩ := x
  cases ins with
  | iconst n =>
    cases h
    exact ⟨Nat.le_refl _, Nat.le_refl _⟩
  | bipush n =>
    cases h
    exact ⟨Nat.le_refl _, Nat.le_refl _⟩
  | sipush n =>
    cases h
    exact ⟨Nat.le_refl _, Nat.le_refl _⟩
  | lconst n =>
    cases h
    exact ⟨Nat.le_refl _, Nat.le_refl _⟩
  | aconst_null =>
    cases h
    exact ⟨Nat.le_refl _, Nat.le_refl _⟩
  | ldc2_w idx =>
    cases h
    exact ⟨Nat.le_refl _, Nat.le_refl _⟩
  | goto off =>
    cases h
    exact ⟨Nat.le_refl _, Nat.le_refl _⟩
  | ldc idx =>
    cases h
    exact ⟨Nat.le_refl _, Nat.le_refl _⟩
  | iload k =>
    obtain ⟨_, _, h⟩ := xldI_inv h
    cases h
    exact ⟨Nat.le_refl _, Nat.le_refl _⟩
  | iload_n k =>
    obtain ⟨_, _, h⟩ := xldI_inv h
    cases h
    exact ⟨Nat.le_refl _, Nat.le_refl _⟩
  | lload k =>
    obtain ⟨_, _, h⟩ := xldL_inv h
    cases h
    exact ⟨Nat.le_refl _, Nat.le_refl _⟩
  | lload_n k =>
    obtain ⟨_, _, h⟩ := xldL_inv h
    cases h
    exact ⟨Nat.le_refl _, Nat.le_refl _⟩
  | aload k =>
    simp only [xstep] at h
    obtain ⟨_, _, _, h⟩ := xldR_inv h
    cases h
    exact ⟨Nat.le_refl _, Nat.le_refl _⟩
  | aload_n k =>
    simp only [xstep] at h
    obtain ⟨_, _, _, h⟩ := xldR_inv h
    cases h
    exact ⟨Nat.le_refl _, Nat.le_refl _⟩
  | istore k =>
    obtain ⟨_, _, rfl, h2⟩ := xP1_inv h
    obtain ⟨_, _, h2⟩ := xbind_inv h2
    cases h2
    exact ⟨Nat.le_refl _, Nat.le_refl _⟩
  | istore_n k =>
    obtain ⟨_, _, rfl, h2⟩ := xP1_inv h
    obtain ⟨_, _, h2⟩ := xbind_inv h2
    cases h2
    exact ⟨Nat.le_refl _, Nat.le_refl _⟩
  | lstore k =>
    obtain ⟨_, _, rfl, h2⟩ := xPl_inv h
    obtain ⟨_, _, h2⟩ := xbind_inv h2
    cases h2
    exact ⟨Nat.le_refl _, Nat.le_refl _⟩
  | lstore_n k =>
    obtain ⟨_, _, rfl, h2⟩ := xPl_inv h
    obtain ⟨_, _, h2⟩ := xbind_inv h2
    cases h2
    exact ⟨Nat.le_refl _, Nat.le_refl _⟩
  | astore k =>
    simp only [xstep] at h
    obtain ⟨_, _, _, rfl, h2⟩ := xpR_inv h
    obtain ⟨_, _, h2⟩ := xbind_inv h2
    cases h2
    exact ⟨Nat.le_refl _, Nat.le_refl _⟩
  | astore_n k =>
    simp only [xstep] at h
    obtain ⟨_, _, _, rfl, h2⟩ := xpR_inv h
    obtain ⟨_, _, h2⟩ := xbind_inv h2
    cases h2
    exact ⟨Nat.le_refl _, Nat.le_refl _⟩
  | iinc k n =>
    obtain ⟨_, _, h⟩ := xldI_inv h
    obtain ⟨_, _, h⟩ := xbind_inv h
    cases h
    exact ⟨Nat.le_refl _, Nat.le_refl _⟩
  | iadd =>
    obtain ⟨_, _, _, rfl, h⟩ := xP2_inv h
    cases h
    exact ⟨Nat.le_refl _, Nat.le_refl _⟩
  | isub =>
    obtain ⟨_, _, _, rfl, h⟩ := xP2_inv h
    cases h
    exact ⟨Nat.le_refl _, Nat.le_refl _⟩
  | imul =>
    obtain ⟨_, _, _, rfl, h⟩ := xP2_inv h
    cases h
    exact ⟨Nat.le_refl _, Nat.le_refl _⟩
  | iand =>
    obtain ⟨_, _, _, rfl, h⟩ := xP2_inv h
    cases h
    exact ⟨Nat.le_refl _, Nat.le_refl _⟩
  | ior =>
    obtain ⟨_, _, _, rfl, h⟩ := xP2_inv h
    cases h
    exact ⟨Nat.le_refl _, Nat.le_refl _⟩
  | ixor =>
    obtain ⟨_, _, _, rfl, h⟩ := xP2_inv h
    cases h
    exact ⟨Nat.le_refl _, Nat.le_refl _⟩
  | ishl =>
    obtain ⟨_, _, _, rfl, h⟩ := xP2_inv h
    cases h
    exact ⟨Nat.le_refl _, Nat.le_refl _⟩
  | ishr =>
    obtain ⟨_, _, _, rfl, h⟩ := xP2_inv h
    cases h
    exact ⟨Nat.le_refl _, Nat.le_refl _⟩
  | ladd =>
    obtain ⟨_, _, _, rfl, h⟩ := xPll_inv h
    cases h
    exact ⟨Nat.le_refl _, Nat.le_refl _⟩
  | lmul =>
    obtain ⟨_, _, _, rfl, h⟩ := xPll_inv h
    cases h
    exact ⟨Nat.le_refl _, Nat.le_refl _⟩
  | land =>
    obtain ⟨_, _, _, rfl, h⟩ := xPll_inv h
    cases h
    exact ⟨Nat.le_refl _, Nat.le_refl _⟩
  | lor =>
    obtain ⟨_, _, _, rfl, h⟩ := xPll_inv h
    cases h
    exact ⟨Nat.le_refl _, Nat.le_refl _⟩
  | lcmp =>
    obtain ⟨_, _, _, rfl, h⟩ := xPll_inv h
    cases h
    exact ⟨Nat.le_refl _, Nat.le_refl _⟩
  | lshl =>
    obtain ⟨_, _, _, rfl, h⟩ := xPil_inv h
    cases h
    exact ⟨Nat.le_refl _, Nat.le_refl _⟩
  | lshr =>
    obtain ⟨_, _, _, rfl, h⟩ := xPil_inv h
    cases h
    exact ⟨Nat.le_refl _, Nat.le_refl _⟩
  | i2l =>
    obtain ⟨_, _, rfl, h⟩ := xP1_inv h
    cases h
    exact ⟨Nat.le_refl _, Nat.le_refl _⟩
  | i2b =>
    obtain ⟨_, _, rfl, h⟩ := xP1_inv h
    cases h
    exact ⟨Nat.le_refl _, Nat.le_refl _⟩
  | l2i =>
    obtain ⟨_, _, rfl, h⟩ := xPl_inv h
    cases h
    exact ⟨Nat.le_refl _, Nat.le_refl _⟩
  | ifCond cnd off =>
    obtain ⟨_, _, rfl, h⟩ := xP1_inv h
    cases h
    exact ⟨Nat.le_refl _, Nat.le_refl _⟩
  | tableswitch d lo hh offs =>
    obtain ⟨_, _, rfl, h⟩ := xP1_inv h
    cases h
    exact ⟨Nat.le_refl _, Nat.le_refl _⟩
  | lookupswitch d ps =>
    obtain ⟨_, _, rfl, h⟩ := xP1_inv h
    cases h
    exact ⟨Nat.le_refl _, Nat.le_refl _⟩
  | if_icmp cnd off =>
    obtain ⟨_, _, _, rfl, h⟩ := xP2_inv h
    cases h
    exact ⟨Nat.le_refl _, Nat.le_refl _⟩
  | dup =>
    simp only [xstep] at h
    split at h
    · obtain ⟨_, h⟩ := xif_inv h
      cases h
      exact ⟨Nat.le_refl _, Nat.le_refl _⟩
    · cases h
  | dup2 =>
    simp only [xstep] at h
    split at h
    · obtain ⟨_, h⟩ := xif_inv h
      cases h
      exact ⟨Nat.le_refl _, Nat.le_refl _⟩
    · cases h
  | pop =>
    simp only [xstep] at h
    split at h
    · obtain ⟨_, h⟩ := xif_inv h
      cases h
      exact ⟨Nat.le_refl _, Nat.le_refl _⟩
    · cases h
  | ifnull off =>
    simp only [xstep] at h
    split at h
    · cases h; exact ⟨Nat.le_refl _, Nat.le_refl _⟩
    · cases h; exact ⟨Nat.le_refl _, Nat.le_refl _⟩
    · cases h
  | ifnonnull off =>
    simp only [xstep] at h
    split at h
    · cases h; exact ⟨Nat.le_refl _, Nat.le_refl _⟩
    · cases h; exact ⟨Nat.le_refl _, Nat.le_refl _⟩
    · cases h
  | getfield idx =>
    obtain ⟨_, _, rfl, h⟩ := xPr_inv h
    obtain ⟨sh, hsh, h⟩ := xS_inv h
    obtain ⟨_, h⟩ := xif_inv h
    cases h
    exact ⟨Nat.le_refl _, Nat.le_refl _⟩
  | arraylength =>
    obtain ⟨_, _, rfl, h⟩ := xPr_inv h
    obtain ⟨sh, hsh, h⟩ := xS_inv h
    obtain ⟨_, h⟩ := xif_inv h
    cases h
    exact ⟨Nat.le_refl _, Nat.le_refl _⟩
  | iaload =>
    obtain ⟨_, _, _, rfl, h⟩ := xPri_inv h
    obtain ⟨sh, hsh, h⟩ := xS_inv h
    obtain ⟨_, h⟩ := xif_inv h
    cases h
    exact ⟨Nat.le_refl _, Nat.le_refl _⟩
  | baload =>
    obtain ⟨_, _, _, rfl, h⟩ := xPri_inv h
    obtain ⟨sh, hsh, h⟩ := xS_inv h
    obtain ⟨_, h⟩ := xif_inv h
    cases h
    exact ⟨Nat.le_refl _, Nat.le_refl _⟩
  | laload =>
    obtain ⟨_, _, _, rfl, h⟩ := xPri_inv h
    obtain ⟨sh, hsh, h⟩ := xS_inv h
    obtain ⟨_, h⟩ := xif_inv h
    cases h
    exact ⟨Nat.le_refl _, Nat.le_refl _⟩
  | aaload =>
    obtain ⟨_, _, _, rfl, h⟩ := xPri_inv h
    obtain ⟨sh, hsh, h⟩ := xS_inv h
    obtain ⟨_, h⟩ := xif_inv h
    cases h
    exact ⟨Nat.le_refl _, Nat.le_refl _⟩
  | iastore =>
    obtain ⟨_, _, _, _, rfl, h⟩ := xPrii_inv h
    obtain ⟨sh, hsh, h⟩ := xS_inv h
    obtain ⟨_, h⟩ := xif_inv h
    cases h
    exact ⟨Nat.le_refl _, Nat.le_refl _⟩
  | lastore =>
    obtain ⟨_, _, _, _, rfl, h⟩ := xPril_inv h
    obtain ⟨sh, hsh, h⟩ := xS_inv h
    obtain ⟨_, h⟩ := xif_inv h
    cases h
    exact ⟨Nat.le_refl _, Nat.le_refl _⟩
  | bastore =>
    obtain ⟨_, _, _, _, rfl, h⟩ := xPrii_inv h
    obtain ⟨sh, hsh, h⟩ := xS_inv h
    split at h
    · cases h; exact ⟨Nat.le_refl _, Nat.le_refl _⟩
    · obtain ⟨_, h⟩ := xif_inv h
      cases h
      exact ⟨Nat.le_refl _, Nat.le_refl _⟩
  | aastore =>
    obtain ⟨_, _, _, _, rfl, h⟩ := xPrir_inv h
    obtain ⟨sh, hsh, h⟩ := xS_inv h
    obtain ⟨sq, hsq, h⟩ := xS_inv h
    obtain ⟨_, h⟩ := xif_inv h
    cases h
    exact ⟨by simp, Nat.le_of_eq (xsl_set hsh (by rfl) _ _).symm⟩
  | putfield idx =>
    simp only [xstep] at h
    split at h
    · obtain ⟨_, _, _, rfl, h⟩ := xPrr_inv h
      obtain ⟨sh, hsh, h⟩ := xS_inv h
      obtain ⟨_, h⟩ := xif_inv h
      cases h
      exact ⟨by simp, Nat.le_of_eq (xsl_set hsh (by rfl) _ _).symm⟩
    · obtain ⟨_, _, _, rfl, h⟩ := xPri'_inv h
      obtain ⟨sh, hsh, h⟩ := xS_inv h
      obtain ⟨_, h⟩ := xif_inv h
      cases h
      exact ⟨Nat.le_refl _, Nat.le_refl _⟩
  | new idx =>
    simp only [xstep] at h
    split at h
    · cases h; exact ⟨by simp, by simp [xsl]⟩
    · cases h
  | newarray aty =>
    obtain ⟨_, _, rfl, h⟩ := xP1_inv h
    obtain ⟨_, h⟩ := xif_inv h
    cases h
    exact ⟨by simp, by simp [xsl]⟩
  | anewarray idx =>
    obtain ⟨_, _, rfl, h⟩ := xP1_inv h
    obtain ⟨_, h⟩ := xif_inv h
    cases h
    exact ⟨by simp, by simp [xsl]⟩
  | _ => simp [xstep] at h
theorem ev_grow : ∀ (n d : Nat) (me : xMe) (i : Nat) (L : xL) (st : List Value) (M : xM) (r : Option Value) (M' : xM), ev n d me i L st M = some (r, M') → M.1.length ≤ M'.1.length ∧ xsl M ≤ xsl M' := by
  intro n
  induction n with
  | zero => intro d me i L st M r M' h; cases h
  | succ n ih =>
    intro d me i L st M r M' h
    unfold ev at h
    split at h
    · cases h
    next x hx =>
      split at h
      · split at h
        next i' L' st' M1 h1 =>
          have g := xstep_grow h1
          have g2 := ih _ _ _ _ _ _ _ _ h
          exact ⟨Nat.le_trans g.1 g2.1, Nat.le_trans g.2 g2.2⟩
        · cases h
      · unfold xret at h
        split at h
        · obtain ⟨_, h⟩ := xif_inv h
          cases h
          exact ⟨Nat.le_refl _, Nat.le_refl _⟩
        · cases h
      · unfold xvret at h
        split at h
        · obtain ⟨_, h⟩ := xif_inv h
          cases h
          exact ⟨Nat.le_refl _, Nat.le_refl _⟩
        · cases h
      · unfold xcallf at h
        split at h
        split at h
        · split at h
          · obtain ⟨_, h⟩ := xif_inv h
            exact ih _ _ _ _ _ _ _ _ h
          · cases h
        · split at h
          · split at h
            · obtain ⟨_, h⟩ := xif_inv h
              exact ih _ _ _ _ _ _ _ _ h
            · cases h
          · split at h
            · split at h
              · obtain ⟨_, h⟩ := xif_inv h
                exact ih _ _ _ _ _ _ _ _ h
              · cases h
            · unfold xcallm at h
              split at h
              · obtain ⟨_, h⟩ := xif_inv h
                split at h
                next r2 M2 h2 =>
                  have g := ih _ _ _ _ _ _ _ _ h2
                  have g2 := ih _ _ _ _ _ _ _ _ h
                  exact ⟨Nat.le_trans g.1 g2.1, Nat.le_trans g.2 g2.2⟩
                · cases h
              · cases h
/-- all methods keep their contracts at depth d -/
def xMetAll (l : Launch) (Z : State → Prop) (D : va_G) (B aS : Nat) (cA : Nat → ClassId) (d : Nat) : Prop :=
  ∀ (n : Nat) (me : xMe) (av : List Value) (M M' : xM) (r : Option Value) (mc ms : Nat), me ∈ xmt → (xflat av).length ≤ me.2.2.1 → ev n d me 0 (xentry me.2.2.1 av) [] M = some (r, M') → mc + M.1.length = M'.1.length → ms + xsl M = xsl M' →
    Met l me.1 (xws me) (xrm d mc ms) (xPc Z D B aS cA av M) (xQc D B aS cA r M') mc ms (fun q => B ≤ q)
/-- the two calls of the JDK's text -/
def xBI (l : Launch) (Z : State → Prop) (D : va_G) (B aS : Nat) (cA : Nat → ClassId) : Prop :=
  ∀ (p : Program) (e : Env) (R : Room) (s : State) (m : MethodId) (args : Array Value) (below : List Frame) (meth : Method) (c : Code) (H : Heap) (locs : List Loc) (cells slots : Nat) (Q : State → Prop) (me : xMe) (n0 : Nat) (ls : Array Slot) (pc idx : Nat) (r : List Value),
    xCx p s m args meth c me D B n0 cA → Z s → va_S (fun q => B ≤ q) s.heap H locs → ls.size = me.2.2.1 → (r.map fun v => v.category).sum ≤ 8 → 5 ≤ R.frames → 200 ≤ R.locals → cells ≤ R.cells → slots ≤ R.slots → decode me.2.1 pc = .ok (.invokevirtual idx, 3) →
    ((Cond.methodLink me.2.2.2.2.1 idx ⟨"java/lang/String", "length", "()I"⟩ ∈ lw_tbl → (∀ locs', va_S (fun q => B ≤ q) s.heap H locs' → W p l e R s m args below meth c H locs' cells slots Q (F0 m (pc + 3) ls (.int (nI xtextLen) :: r))) → W p l e R s m args below meth c H locs cells slots Q (F0 m pc ls (.ref aS :: r))) ∧
     (∀ k : Int32, ¬ (k < 0 ∨ xtextLen ≤ k.toNatClampNeg) → Cond.methodLink me.2.2.2.2.1 idx ⟨"java/lang/String", "charAt", "(I)C"⟩ ∈ lw_tbl → (∀ locs', va_S (fun q => B ≤ q) s.heap H locs' → W p l e R s m args below meth c H locs' cells slots Q (F0 m (pc + 3) ls (.int (xtext.getD k.toNatClampNeg 0) :: r))) → W p l e R s m args below meth c H locs cells slots Q (F0 m pc ls (.int k :: .ref aS :: r))))
theorem xargs_drop {st : List Value} {k : Nat} (h : k ≤ st.length) {B aS : Nat} : st.map (xlf B aS) = ((st.take k).reverse.map (xlf B aS)).reverse ++ (st.drop k).map (xlf B aS) := by
  rw [List.map_reverse, List.reverse_reverse, ← List.map_append, List.take_append_drop]
theorem xcats {B aS : Nat} (r : List Value) : ((r.map (xlf B aS)).map fun v => v.category) = r.map fun v => v.category := by
  rw [List.map_map]
  congr 1
  funext v
  exact xlf_cat v
theorem xgood (me' : xMe) (h : xokM me' = true) : ∀ Ts : List Cond, (∀ w ∈ xg, w ∈ Ts) → GoodIn Ts (xws me') := by
  intro Ts hT w hw
  unfold xws at hw
  unfold xokM xokH at h
  simp only [Bool.and_eq_true, decide_eq_true_eq] at h
  rcases List.mem_cons.mp hw with rfl | hw
  · exact ⟨hT _ (xg_of h.1.1 rfl), Or.inl rfl⟩
  · exact ⟨hT _ hw, good_of_word (xg_good w hw)⟩

