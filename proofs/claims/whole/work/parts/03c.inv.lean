/-- the words that hold at every callee too -/
def xg : List Cond := lw_tbl.filter goodWord
def xnest (w : Cond) : Bool := match w with
  | .methodLinkNest .. => true
  | _ => false
/-- what else is known of the tables -/
def xE (U : State) : Prop := va_AO "PronounOrders$Order" U ∧ ∀ w ∈ lw_tbl, xnest w = true → va_Nw w U
theorem xE.warm {s U : State} (hW : s.WarmedH U.vm) (h : xE s) : xE U := by
  refine ⟨h.1.moved hW.alike, fun w hw hn => ?_⟩
  have := h.2 w hw hn
  cases w <;> first | (simp [xnest] at hn; done) | exact va_Nw.warmM hW this
theorem xg_of {w : Cond} (h : w ∈ lw_tbl) (hg : goodWord w = true) : w ∈ xg := List.mem_filter.mpr ⟨h, hg⟩
theorem xg_lk {lk : Nat} {w : Cond} (h : xW lk w = true) (hg : goodWord w = true) : w ∈ xg := xg_of (List.mem_of_getElem? (of_decide_eq_true h)) hg
theorem xg_good : ∀ w ∈ xg, goodWord w = true := fun _ h => (List.mem_filter.mp h).2
theorem xlays_good {C : String} {T : u_T} {N : Nat} {w : Cond} (h : w ∈ u_ws C T N) : goodWord w = true := by
  obtain ⟨k, -, rfl⟩ := List.mem_map.mp h
  unfold u_lay
  split <;> rfl
/-- a method's frame, and what is known there -/
def xCx (p : Program) (s : State) (m : MethodId) (args : Array Value) (meth : Method) (c : Code) (me : xMe) (D : va_G) (B n0 : Nat) (cA : Nat → ClassId) : Prop :=
  p.tables.exec = Jvm.exec ∧ c.code = me.2.1 ∧ c.maxLocals = me.2.2.1 ∧ meth.sig.returnType = me.2.2.2.1 ∧ meth.locks = false ∧ meth.name = me.1.name ∧ s.vm.findClass me.2.2.2.2.1 = some m.cls ∧ (∀ w ∈ xg, w.before args s = true) ∧ va_K D vwCl (xtys cA) s ∧ s.heap.size = B + n0 ∧ xE s ∧ xokM me = true
def xSt (D : va_G) (B : Nat) (cA : Nat → ClassId) (M : xM) (s : State) (H : Heap) (locs : List Loc) : Prop := va_P D vwCl (xwl B cA M) H ∧ va_S (fun q => B ≤ q) s.heap H locs
section
variable {α : Type} {st : List Value} {a : α}

theorem xP1_inv {f : Int32 → List Value → Option α} (h : xP1 st f = some a) : ∃ (x : Int32) (r : List Value), st = .int x :: r ∧ f x r = some a := by
  unfold xP1 at h
  split at h
  · exact ⟨_, _, rfl, h⟩
  · cases h
theorem xP2_inv {f : Int32 → Int32 → List Value → Option α} (h : xP2 st f = some a) : ∃ (x y : Int32) (r : List Value), st = .int y :: .int x :: r ∧ f x y r = some a := by
  unfold xP2 at h
  split at h
  · exact ⟨_, _, _, rfl, h⟩
  · cases h
theorem xPl_inv {f : Int64 → List Value → Option α} (h : xPl st f = some a) : ∃ (x : Int64) (r : List Value), st = .long x :: r ∧ f x r = some a := by
  unfold xPl at h
  split at h
  · exact ⟨_, _, rfl, h⟩
  · cases h
theorem xPll_inv {f : Int64 → Int64 → List Value → Option α} (h : xPll st f = some a) : ∃ (x y : Int64) (r : List Value), st = .long y :: .long x :: r ∧ f x y r = some a := by
  unfold xPll at h
  split at h
  · exact ⟨_, _, _, rfl, h⟩
  · cases h
theorem xPil_inv {f : Int64 → Int32 → List Value → Option α} (h : xPil st f = some a) : ∃ (x : Int64) (y : Int32) (r : List Value), st = .int y :: .long x :: r ∧ f x y r = some a := by
  unfold xPil at h
  split at h
  · exact ⟨_, _, _, rfl, h⟩
  · cases h
theorem xPr_inv {f : Nat → List Value → Option α} (h : xPr st f = some a) : ∃ (x : Nat) (r : List Value), st = .ref x :: r ∧ f x r = some a := by
  unfold xPr at h
  split at h
  · exact ⟨_, _, rfl, h⟩
  · cases h
theorem xPri_inv {f : Nat → Int32 → List Value → Option α} (h : xPri st f = some a) : ∃ (o : Nat) (j : Int32) (r : List Value), st = .int j :: .ref o :: r ∧ f o j r = some a := by
  unfold xPri at h
  split at h
  · exact ⟨_, _, _, rfl, h⟩
  · cases h
theorem xPri'_inv {f : Nat → Int32 → List Value → Option α} (h : xPri' st f = some a) : ∃ (o : Nat) (j : Int32) (r : List Value), st = .int j :: .ref o :: r ∧ f o j r = some a := by
  unfold xPri' at h
  split at h
  · exact ⟨_, _, _, rfl, h⟩
  · cases h
theorem xPrii_inv {f : Nat → Int32 → Int32 → List Value → Option α} (h : xPrii st f = some a) : ∃ (o : Nat) (j z : Int32) (r : List Value), st = .int z :: .int j :: .ref o :: r ∧ f o j z r = some a := by
  unfold xPrii at h
  split at h
  · exact ⟨_, _, _, _, rfl, h⟩
  · cases h
theorem xPril_inv {f : Nat → Int32 → Int64 → List Value → Option α} (h : xPril st f = some a) : ∃ (o : Nat) (j : Int32) (z : Int64) (r : List Value), st = .long z :: .int j :: .ref o :: r ∧ f o j z r = some a := by
  unfold xPril at h
  split at h
  · exact ⟨_, _, _, _, rfl, h⟩
  · cases h
theorem xPrir_inv {f : Nat → Int32 → Nat → List Value → Option α} (h : xPrir st f = some a) : ∃ (o : Nat) (j : Int32) (z : Nat) (r : List Value), st = .ref z :: .int j :: .ref o :: r ∧ f o j z r = some a := by
  unfold xPrir at h
  split at h
  · exact ⟨_, _, _, _, rfl, h⟩
  · cases h
theorem xPrr_inv {f : Nat → Nat → List Value → Option α} (h : xPrr st f = some a) : ∃ (o z : Nat) (r : List Value), st = .ref z :: .ref o :: r ∧ f o z r = some a := by
  unfold xPrr at h
  split at h
  · exact ⟨_, _, _, rfl, h⟩
  · cases h
theorem xpR_inv {f : Value → List Value → Option α} (h : xpR st f = some a) : ∃ (v : Value) (r : List Value), ((∃ x, v = .ref x) ∨ v = .null) ∧ st = v :: r ∧ f v r = some a := by
  unfold xpR at h
  split at h
  · exact ⟨_, _, Or.inl ⟨_, rfl⟩, rfl, h⟩
  · exact ⟨_, _, Or.inr rfl, rfl, h⟩
  · cases h
theorem xldI_inv {L : xL} {i : Nat} {f : Int32 → Option α} (h : xldI L i f = some a) : ∃ x, xld L i = some (.int x) ∧ f x = some a := by
  unfold xldI at h
  split at h
  next x e => exact ⟨x, e, h⟩
  · cases h
theorem xldL_inv {L : xL} {i : Nat} {f : Int64 → Option α} (h : xldL L i f = some a) : ∃ x, xld L i = some (.long x) ∧ f x = some a := by
  unfold xldL at h
  split at h
  next x e => exact ⟨x, e, h⟩
  · cases h
theorem xldR_inv {L : xL} {i : Nat} {f : Value → Option α} (h : xldR L i f = some a) : ∃ v, ((∃ x, v = .ref x) ∨ v = .null) ∧ xld L i = some v ∧ f v = some a := by
  unfold xldR at h
  split at h
  next x e => exact ⟨_, Or.inl ⟨x, rfl⟩, e, h⟩
  next e => exact ⟨_, Or.inr rfl, e, h⟩
  · cases h
theorem xS_inv {M : xM} {o : Nat} {f : xSh → Option α} (h : xS M o f = some a) : ∃ s, M.1[o]? = some s ∧ f s = some a := by
  unfold xS at h
  split at h
  next s e => exact ⟨s, e, h⟩
  · cases h
theorem xbind_inv {β : Type} {x : Option β} {f : β → Option α} (h : x.bind f = some a) : ∃ y, x = some y ∧ f y = some a := Option.bind_eq_some_iff.mp h
theorem xif_inv {P : Prop} [Decidable P] {x : Option α} (h : (if P then x else none) = some a) : P ∧ x = some a := by
  split at h
  next q => exact ⟨q, h⟩
  · cases h
end
theorem xokIs_get {own : String} {cc : ByteArray} {name : String} {P : List xI} : ∀ (xs : List xI) (o j : Nat) (x : xI), xokIs own cc name P o xs = true → xs[j]? = some x → xokI own cc name P (o + j) x = true
  | [], o, j, x, h, hx => by simp at hx
  | y :: xs, o, j, x, h, hx => by
    simp only [xokIs, Bool.and_eq_true] at h
    match j, hx with
    | 0, hx => cases hx; exact h.1
    | j + 1, hx =>
      have := xokIs_get xs (o + 1) j x h.2 (by simpa using hx)
      rwa [show o + (j + 1) = o + 1 + j by omega]
theorem xjmps_at {P : List xI} {pc : Nat} : ∀ (ts : List Nat) (os : List Int) (k : Nat) (o : Int) (y : xI), xjmps P pc ts os = true → os[k]? = some o → P[ts.getD k 0]? = some y → (pc : Int) + o = (y.1 : Int)
  | [], [], k, o, y, h, ho, hy => by simp at ho
  | [], _ :: _, k, o, y, h, ho, hy => by simp [xjmps] at h
  | _ :: _, [], k, o, y, h, ho, hy => by simp at ho
  | t :: ts, q :: os, k, o, y, h, ho, hy => by
    simp only [xjmps, Bool.and_eq_true] at h
    match k, ho, hy with
    | 0, ho, hy =>
      cases ho
      have hy' : P[t]? = some y := hy
      have h1 := h.1
      unfold xjmp at h1
      rw [hy'] at h1
      exact of_decide_eq_true h1
    | k + 1, ho, hy => exact xjmps_at ts os k o y h.2 (by simpa using ho) (by simpa using hy)
theorem xjmps_ex {P : List xI} {pc : Nat} : ∀ (ts : List Nat) (os : List Int) (k : Nat) (o : Int), xjmps P pc ts os = true → os[k]? = some o → ∃ t : Nat, (pc : Int) + o = (t : Int)
  | [], [], k, o, h, ho => by simp at ho
  | [], _ :: _, k, o, h, ho => by simp [xjmps] at h
  | _ :: _, [], k, o, h, ho => by simp at ho
  | t :: ts, q :: os, k, o, h, ho => by
    simp only [xjmps, Bool.and_eq_true] at h
    match k, ho with
    | 0, ho =>
      cases ho
      have h1 := h.1
      unfold xjmp at h1
      split at h1
      next y _ => exact ⟨y.1, of_decide_eq_true h1⟩
      · cases h1
    | k + 1, ho => exact xjmps_ex ts os k o h.2 (by simpa using ho)
theorem xrange_set {n b : Nat} {f g : Nat → Value} {v : Value} (hg : ∀ j, j < n → g j = if j = b then v else f j) : ((List.range n).map f).set b v = (List.range n).map g := by
  apply List.ext_getElem?
  intro k
  by_cases hk : k < n
  · by_cases hb : k = b
    · subst hb
      rw [List.getElem?_set_self (by simpa using hk), List.getElem?_map, List.getElem?_range hk, Option.map_some, hg k hk, if_pos rfl]
    · rw [List.getElem?_set_ne (Ne.symm hb), List.getElem?_map, List.getElem?_map, List.getElem?_range hk, Option.map_some, Option.map_some, hg k hk, if_neg hb]
  · rw [List.getElem?_eq_none (by simpa using hk), List.getElem?_eq_none (by simpa using hk)]
theorem xsl_set {M : xM} {o : Nat} {s s' : xSh} (h : M.1[o]? = some s) (he : s'.2.1 = s.2.1) (a : Nat → Nat → Int32) (b : Nat → Nat → Int64) : xsl (M.1.set o s', a, b) = xsl M := by
  unfold xsl
  have : (M.1.set o s').map (fun s => s.2.1) = M.1.map (fun s => s.2.1) := by
    apply List.ext_getElem?
    intro k
    by_cases hk : k = o
    · subst hk
      rw [List.getElem?_map, List.getElem?_map, List.getElem?_set_self (List.getElem?_eq_some_iff.mp h).1, h, Option.map_some, Option.map_some, he]
    · rw [List.getElem?_map, List.getElem?_map, List.getElem?_set_ne (Ne.symm hk)]
  show ((M.1.set o s').map (fun s => s.2.1)).sum = _
  rw [this]
theorem xlk_off : ∀ (ps : List (Int × Int)) (ts : List Nat) (P : List xI) (pc d : Nat) (dflt : Int) (v : Int) (y : xI), xjmps P pc ts (ps.map Prod.snd) = true → (∀ y, P[d]? = some y → (pc : Int) + dflt = (y.1 : Int)) → P[xlk ps ts d v]? = some y → (pc : Int) + Op.lookupswitch.offset ps dflt v = (y.1 : Int)
  | [], ts, P, pc, d, dflt, v, y, h, hd, hy => by
    have : xlk [] ts d v = d := by cases ts <;> rfl
    rw [this] at hy
    exact hd y hy
  | (a, o) :: ps, [], P, pc, d, dflt, v, y, h, hd, hy => by simp [xjmps] at h
  | (a, o) :: ps, t :: ts, P, pc, d, dflt, v, y, h, hd, hy => by
    simp only [List.map_cons, xjmps, Bool.and_eq_true] at h
    unfold xlk at hy
    rw [Op.lookupswitch.offset_cons]
    by_cases hv : a = v
    · rw [if_pos hv] at hy
      rw [if_pos hv]
      have h1 := h.1
      unfold xjmp at h1
      rw [hy] at h1
      exact of_decide_eq_true h1
    · rw [if_neg hv] at hy
      rw [if_neg hv]
      exact xlk_off ps ts P pc d dflt v y h.2 hd hy

def xLdc (l : Launch) (Z : State → Prop) (D : va_G) (B aS : Nat) (cA : Nat → ClassId) : Prop :=
  ∀ (p : Program) (e : Env) (R : Room) (s : State) (m : MethodId) (args : Array Value) (below : List Frame) (meth : Method) (c : Code) (H : Heap) (locs : List Loc) (cells slots : Nat) (Q : State → Prop) (me : xMe) (n0 : Nat) (ls : Array Slot) (pc idx : Nat) (r : List Value),
    xCx p s m args meth c me D B n0 cA → Z s → decode me.2.1 pc = .ok (.ldc idx, 2) → Cond.stringRef me.2.2.2.2.1 idx "the a an and then tell to again it him her them me myself yourself his its their my all but" ∈ lw_tbl →
    W p l e R s m args below meth c H locs cells slots Q (F0 m (pc + 2) ls (.ref aS :: r)) → W p l e R s m args below meth c H locs cells slots Q (F0 m pc ls r)

