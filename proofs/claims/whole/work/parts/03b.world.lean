def xlf (B aS : Nat) (v : Value) : Value := match v with
  | .ref r => .ref (B + r)
  | .retAddr _ => .ref aS
  | v => v
def xcell (B : Nat) (cA : Nat → ClassId) (M : xM) (c : Nat) (s : xSh) : va_E :=
  if s.1 < 50 then .inr (s.1, (List.range s.2.1).map fun j => if xfr s.1 j then va_rf ((s.2.2.getD j none).map (B + ·)) else .int (M.2.1 c j))
  else if s.1 = 101 then .inl (cA 1, s.2.1, .inr (.inl (M.2.2 c)))
  else if s.1 = 104 then .inl (cA 4, s.2.1, .inr (.inr (.inr (.inr fun j => (s.2.2.getD j none).map (B + ·)))))
  else .inl (cA (s.1 - 100), s.2.1, .inl (M.2.1 c))
def xwl (B : Nat) (cA : Nat → ClassId) (M : xM) : va_W := M.1.mapIdx fun c s => (B + c, xcell B cA M c s)
def xtys (cA : Nat → ClassId) : List (ClassId × FieldType) := [(cA 0, .int), (cA 1, .long), (cA 2, .boolean), (cA 3, .byte), (cA 4, .object "PronounOrders$Order")]
/-- how many fields and elements the memory has -/
def xsl (M : xM) : Nat := (M.1.map fun s => s.2.1).sum
section
variable {B aS : Nat} {cA : Nat → ClassId} {M M' : xM} {c : Nat} {s s' : xSh}
theorem xwl_get (h : M.1[c]? = some s) : (xwl B cA M)[c]? = some (B + c, xcell B cA M c s) := by
  simp [xwl, List.getElem?_mapIdx, h]
theorem xwl_inv {k : Nat} {q : Nat × va_E} (h : (xwl B cA M)[k]? = some q) : ∃ s, M.1[k]? = some s ∧ q = (B + k, xcell B cA M k s) := by
  simp only [xwl, List.getElem?_mapIdx, Option.map_eq_some_iff] at h
  obtain ⟨s, h1, h2⟩ := h
  exact ⟨s, h1, h2.symm⟩
theorem xwl_len : (xwl B cA M).length = M.1.length := by simp [xwl]
theorem xwl_D : va_D (fun q => B ≤ q) (xwl B cA M) := by
  refine ⟨fun i j p q hi hj e => ?_, fun k q hk => ?_⟩
  · obtain ⟨s, _, rfl⟩ := xwl_inv hi
    obtain ⟨t, _, rfl⟩ := xwl_inv hj
    have e' : B + i = B + j := e
    omega
  · obtain ⟨s, _, rfl⟩ := xwl_inv hk
    exact Nat.le_add_right B k
theorem xcell_congr (h2 : M'.2.1 c = M.2.1 c) (h3 : M'.2.2 c = M.2.2 c) (s : xSh) : xcell B cA M' c s = xcell B cA M c s := by
  unfold xcell; rw [h2, h3]
theorem xwl_set (h : M.1[c]? = some s) (h1 : M'.1 = M.1.set c s') (h2 : ∀ c', c' ≠ c → M'.2.1 c' = M.2.1 c') (h3 : ∀ c', c' ≠ c → M'.2.2 c' = M.2.2 c') {e : va_E} (he : e = xcell B cA M' c s') : (xwl B cA M).set c (B + c, e) = xwl B cA M' := by
  subst he
  apply List.ext_getElem?
  intro k
  have hl : c < M.1.length := (List.getElem?_eq_some_iff.mp h).1
  by_cases hk : k = c
  · subst hk
    rw [List.getElem?_set_self (by rw [xwl_len]; exact hl)]
    exact (xwl_get (by rw [h1, List.getElem?_set_self hl])).symm
  · rw [List.getElem?_set_ne (Ne.symm hk)]
    simp only [xwl, List.getElem?_mapIdx, h1, List.getElem?_set_ne (Ne.symm hk)]
    cases M.1[k]? with
    | none => rfl
    | some t => simp only [Option.map_some]; rw [xcell_congr (h2 k hk) (h3 k hk)]
theorem xset_self (h : M.1[c]? = some s) : M.1 = M.1.set c s := by
  apply List.ext_getElem?
  intro k
  have hl : c < M.1.length := (List.getElem?_eq_some_iff.mp h).1
  by_cases hk : k = c
  · subst hk; rw [List.getElem?_set_self hl, h]
  · rw [List.getElem?_set_ne (Ne.symm hk)]
theorem xup_ne {α : Type} {f : Nat → Nat → α} {c j : Nat} {x : α} {c' : Nat} (h : c' ≠ c) : xup f c j x c' = f c' := by
  funext j'; simp [xup, h]
theorem xup_at (f : Nat → Nat → Int32) (c j : Nat) (x : Int32) : xup f c j x c = upd (f c) j x := by
  funext j'; simp [xup, upd]
theorem xup_atL (f : Nat → Nat → Int64) (c j : Nat) (x : Int64) : xup f c j x c = vp_updL (f c) j x := by
  funext j'; simp [xup, vp_updL]
/-- a new cell at the end -/
theorem xwl_push (h1 : M'.1 = M.1 ++ [s]) (h2 : ∀ c', c' < M.1.length → M'.2.1 c' = M.2.1 c') (h3 : ∀ c', c' < M.1.length → M'.2.2 c' = M.2.2 c') : xwl B cA M' = xwl B cA M ++ [(B + M.1.length, xcell B cA M' M.1.length s)] := by
  apply List.ext_getElem?
  intro k
  by_cases hk : k < M.1.length
  · rw [List.getElem?_append_left (by rw [xwl_len]; exact hk)]
    simp only [xwl, List.getElem?_mapIdx, h1, List.getElem?_append_left hk]
    cases M.1[k]? with
    | none => rfl
    | some t => simp only [Option.map_some]; rw [xcell_congr (h2 k hk) (h3 k hk)]
  · rw [List.getElem?_append_right (by rw [xwl_len]; omega), xwl_len]
    simp only [xwl, List.getElem?_mapIdx, h1, List.getElem?_append_right (Nat.le_of_not_lt hk)]
    by_cases hk2 : k = M.1.length
    · subst hk2; simp
    · have : ∃ z, k - M.1.length = z + 1 := ⟨k - M.1.length - 1, by omega⟩
      obtain ⟨z, hz⟩ := this
      rw [hz]; simp
theorem xz_ne {α : Type} {f : Nat → Nat → α} {c : Nat} {x : α} {c' : Nat} (h : c' ≠ c) : xz f c x c' = f c' := by
  funext j'; simp [xz, h]
theorem xlf_cat (v : Value) : (xlf B aS v).category = v.category := by cases v <;> rfl
theorem xlf_vr (r : Option Nat) : xlf B aS (xVr r) = va_rf (r.map (B + ·)) := by cases r <;> rfl
theorem xobj (h50 : s.1 < 50) {j : Nat} (hj : j < s.2.1) : ((List.range s.2.1).map fun j => if xfr s.1 j then va_rf ((s.2.2.getD j none).map (B + ·)) else Value.int (M.2.1 c j))[j]? = some (xlf B aS (if xfr s.1 j then xVr (s.2.2.getD j none) else .int (M.2.1 c j))) := by
  rw [List.getElem?_map, List.getElem?_range hj]
  simp only [Option.map_some]
  split
  · rw [xlf_vr]
  · rfl
end
/-- the locals as the memory's words have them -/
def xhas (B aS : Nat) (ls : Array Slot) (nL : Nat) (L : xL) : Prop := ls.size = nL ∧ lv_wf ls ∧ L.length = nL ∧ ∀ (i : Nat) (v : Value), L[i]? = some (some v) → ls[i]? = some (.val (xlf B aS v))
def xas (B aS : Nat) (L : xL) : List (Nat × Value) := (List.range L.length).filterMap fun i => (xld L i).map fun v => (i, xlf B aS v)
section
variable {B aS nL : Nat} {ls ls' : Array Slot} {L L' : xL} {i : Nat} {v : Value}
theorem xld_iff : xld L i = some v ↔ L[i]? = some (some v) := by
  unfold xld
  rw [List.getD_eq_getElem?_getD]
  cases L[i]? with
  | none => simp
  | some o => simp
theorem xhas_at (h : xhas B aS ls nL L) (hv : xld L i = some v) : ls[i]? = some (.val (xlf B aS v)) := h.2.2.2 i v (xld_iff.mp hv)
theorem xas_mem {q : Nat × Value} : q ∈ xas B aS L ↔ ∃ v, L[q.1]? = some (some v) ∧ q.2 = xlf B aS v := by
  unfold xas
  rw [List.mem_filterMap]
  constructor
  · rintro ⟨a, -, h⟩
    obtain ⟨v, h1, h2⟩ := Option.map_eq_some_iff.mp h
    subst h2
    exact ⟨v, xld_iff.mp h1, rfl⟩
  · rintro ⟨v, h1, h2⟩
    obtain ⟨a, b⟩ := q
    exact ⟨a, List.mem_range.mpr (List.getElem?_eq_some_iff.mp h1).1, by
      have h3 : xld L a = some v := xld_iff.mpr h1
      have h4 : b = xlf B aS v := h2
      rw [h3, h4]; rfl⟩
theorem xhas_lv (h : xhas B aS ls nL L) : lv_has ls nL (xas B aS L) := by
  refine ⟨h.1, h.2.1, fun q hq => ?_⟩
  obtain ⟨v, h1, h2⟩ := xas_mem.mp hq
  rw [h2]
  exact h.2.2.2 _ v h1
theorem xlong_cat (h : xlong (some v) = false) : ¬ v.category = 2 := by
  cases v <;> simp [xlong, Value.category] at h ⊢
theorem xst1_back (h0 : xhas B aS ls nL L) (hs : xst1 L i v = some L') (h : lv_has ls' nL ((i, xlf B aS v) :: (xas B aS L).filter (fun q => !(q.1 == i) && !(q.1 + 1 == i && q.2.category == 2)))) : xhas B aS ls' nL L' := by
  unfold xst1 at hs
  split at hs
  case isFalse => cases hs
  case isTrue hc =>
    cases hs
    refine ⟨h.1, h.2.1, by rw [List.length_set]; exact h0.2.2.1, fun j w hj => ?_⟩
    by_cases hji : j = i
    · subst hji
      rw [List.getElem?_set_self hc.1] at hj
      cases hj
      exact h.2.2 _ List.mem_cons_self
    · rw [List.getElem?_set_ne (Ne.symm hji)] at hj
      refine h.2.2 (j, xlf B aS w) (List.mem_cons_of_mem _ (List.mem_filter.mpr ⟨xas_mem.mpr ⟨w, hj, rfl⟩, ?_⟩))
      simp only [Bool.and_eq_true, Bool.not_eq_true', beq_eq_false_iff_ne, ne_eq, Bool.and_eq_false_iff]
      refine ⟨hji, ?_⟩
      by_cases hj1 : j + 1 = i
      · refine Or.inr ?_
        rcases hc.2 with hz | hz
        · omega
        · have hz' : xlong (some w) = false := by
            rw [List.getD_eq_getElem?_getD, show i - 1 = j by omega, hj] at hz
            exact hz
          rw [xlf_cat]
          exact xlong_cat hz'
      · exact Or.inl hj1
theorem xst1_lt (h0 : xhas B aS ls nL L) (hs : xst1 L i v = some L') : i < nL := by
  unfold xst1 at hs
  split at hs
  case isFalse => cases hs
  case isTrue hc => rw [← h0.2.2.1]; exact hc.1
theorem xst2_lt (h0 : xhas B aS ls nL L) (hs : xst2 L i v = some L') : i + 1 < nL := by
  unfold xst2 at hs
  split at hs
  case isFalse => cases hs
  case isTrue hc => rw [← h0.2.2.1]; exact hc.1
theorem xst2_back (h0 : xhas B aS ls nL L) (hs : xst2 L i v = some L') (h : lv_has ls' nL ((i, xlf B aS v) :: (xas B aS L).filter (fun q => !(q.1 == i) && (!(q.1 == i + 1) && !(q.1 + 1 == i && q.2.category == 2))))) : xhas B aS ls' nL L' := by
  unfold xst2 at hs
  split at hs
  case isFalse => cases hs
  case isTrue hc =>
    cases hs
    refine ⟨h.1, h.2.1, by rw [List.length_set, List.length_set]; exact h0.2.2.1, fun j w hj => ?_⟩
    by_cases hji' : j = i + 1
    · subst hji'
      rw [List.getElem?_set_self (by rw [List.length_set]; exact hc.1)] at hj
      cases hj
    · rw [List.getElem?_set_ne (Ne.symm hji')] at hj
      by_cases hji : j = i
      · subst hji
        rw [List.getElem?_set_self (by omega)] at hj
        cases hj
        exact h.2.2 _ List.mem_cons_self
      · rw [List.getElem?_set_ne (Ne.symm hji)] at hj
        refine h.2.2 (j, xlf B aS w) (List.mem_cons_of_mem _ (List.mem_filter.mpr ⟨xas_mem.mpr ⟨w, hj, rfl⟩, ?_⟩))
        simp only [Bool.and_eq_true, Bool.not_eq_true', beq_eq_false_iff_ne, ne_eq, Bool.and_eq_false_iff]
        refine ⟨hji, hji', ?_⟩
        by_cases hj1 : j + 1 = i
        · refine Or.inr ?_
          rcases hc.2 with hz | hz
          · omega
          · have hz' : xlong (some w) = false := by
              rw [List.getD_eq_getElem?_getD, show i - 1 = j by omega, hj] at hz
              exact hz
            rw [xlf_cat]
            exact xlong_cat hz'
        · exact Or.inl hj1
theorem xargs_mem : ∀ (av : List Value) (o j : Nat) (w : Value), (xflat av)[j]? = some (some w) → (o + j, xlf B aS w) ∈ lv_args o (av.map (xlf B aS))
  | [], o, j, w, h => by simp [xflat] at h
  | v :: av, o, j, w, h => by
    have e : xflat (v :: av) = (if v.category = 2 then [some v, none] else [some v]) ++ xflat av := by simp [xflat]
    rw [e] at h
    rw [List.map_cons, lv_args, xlf_cat]
    by_cases hv : v.category = 2
    · rw [if_pos hv] at h
      rw [if_pos hv]
      match j, h with
      | 0, h => cases h; exact List.mem_cons_self
      | 1, h => cases h
      | j + 2, h =>
        have h' : (xflat av)[j]? = some (some w) := by simpa using h
        have := xargs_mem av (o + 2) j w h'
        rw [show o + (j + 2) = o + 2 + j by omega]
        exact List.mem_cons_of_mem _ this
    · rw [if_neg hv] at h
      rw [if_neg hv]
      match j, h with
      | 0, h => cases h; exact List.mem_cons_self
      | j + 1, h =>
        have h' : (xflat av)[j]? = some (some w) := by simpa using h
        have := xargs_mem av (o + 1) j w h'
        rw [show o + (j + 1) = o + 1 + j by omega]
        exact List.mem_cons_of_mem _ this
theorem xflat_len (av : List Value) : (lg_sl (av.map (xlf B aS))).length = (xflat av).length := by
  induction av with
  | nil => rfl
  | cons v av ih =>
    have e : xflat (v :: av) = (if v.category = 2 then [some v, none] else [some v]) ++ xflat av := by simp [xflat]
    have e2 : lg_sl ((v :: av).map (xlf B aS)) = (if (xlf B aS v).category = 2 then [Slot.val (xlf B aS v), Slot.second] else [Slot.val (xlf B aS v)]) ++ lg_sl (av.map (xlf B aS)) := by simp [lg_sl]
    rw [e, e2, List.length_append, List.length_append, ih, xlf_cat]
    by_cases hv : v.category = 2
    · rw [if_pos hv, if_pos hv]; rfl
    · rw [if_neg hv, if_neg hv]; rfl
theorem xentry_has (av : List Value) {mL : Nat} (hl : (xflat av).length ≤ mL) : xhas B aS ((lg_sl (av.map (xlf B aS)) ++ List.replicate (mL - (lg_sl (av.map (xlf B aS))).length) Slot.unset).toArray) mL (xentry mL av) := by
  have h := lv_entry (av.map (xlf B aS)) (n := mL) (by rw [xflat_len]; exact hl)
  refine ⟨h.1, h.2.1, by simp [xentry]; omega, fun j w hj => ?_⟩
  have hj' : (xflat av)[j]? = some (some w) := by
    unfold xentry at hj
    by_cases hlt : j < (xflat av).length
    · rwa [List.getElem?_append_left hlt] at hj
    · rw [List.getElem?_append_right (by omega), List.getElem?_replicate] at hj
      split at hj <;> cases hj
  have := xargs_mem (B := B) (aS := aS) av 0 j w hj'
  rw [Nat.zero_add] at this
  exact h.2.2 _ this
end
def xisR (t : FieldType) : Bool := match t with
  | .object _ => true
  | .array _ => true
  | _ => false
theorem xisR_nf {t : FieldType} (h : xisR t = true) (a : Nat) : narrow t (.ref a) = .ref a ∧ fits t (.ref a) = true := by
  cases t <;> simp [xisR] at h <;> exact ⟨rfl, rfl⟩
/-- what is known of each class -/
theorem xcl : ∀ (ci : Nat) (q : vw_C), vwCl[ci]? = some q → ci < 50 ∧ (∀ w ∈ u_ws q.1 q.2.1 q.2.2, w ∈ lw_tbl) ∧ (∃ ty0 : Nat → FieldType, (∀ k, k < q.2.2 → parseFieldDescriptor (q.2.1 k).2.2.1 = some (ty0 k)) ∧ ∀ j, j < q.2.2 → (xfr ci j = false ∧ ty0 j = .int) ∨ (xfr ci j = true ∧ xisR (ty0 j) = true)) ∧ (∀ a, a < q.2.2 → ∀ b, b < q.2.2 → a ≠ b → (q.2.1 a).2.1 ≠ (q.2.1 b).2.1) := by
  intro ci q h
  match ci, h with
  | 0, h => cases h; exact ⟨by decide, inX0, ⟨tyX0, tyX0_ok, by decide +kernel⟩, nmX0⟩
  | 1, h => cases h; exact ⟨by decide, inX1, ⟨tyX1, tyX1_ok, by decide +kernel⟩, nmX1⟩
  | 2, h => cases h; exact ⟨by decide, inX2, ⟨tyX2, tyX2_ok, by decide +kernel⟩, nmX2⟩
  | 3, h => cases h; exact ⟨by decide, inX3, ⟨tyX3, tyX3_ok, by decide +kernel⟩, nmX3⟩
  | 4, h => cases h; exact ⟨by decide, inX4, ⟨tyX4, tyX4_ok, by decide +kernel⟩, nmX4⟩
  | 5, h => cases h; exact ⟨by decide, inX5, ⟨tyX5, tyX5_ok, by decide +kernel⟩, nmX5⟩
  | 6, h => cases h; exact ⟨by decide, inX6, ⟨tyX6, tyX6_ok, by decide +kernel⟩, nmX6⟩
  | 7, h => cases h; exact ⟨by decide, inX7, ⟨tyX7, tyX7_ok, by decide +kernel⟩, nmX7⟩
  | 8, h => cases h; exact ⟨by decide, inX8, ⟨tyX8, tyX8_ok, by decide +kernel⟩, nmX8⟩
  | 9, h => cases h; exact ⟨by decide, inX9, ⟨tyX9, tyX9_ok, by decide +kernel⟩, nmX9⟩
  | 10, h => cases h; exact ⟨by decide, inX10, ⟨tyX10, tyX10_ok, by decide +kernel⟩, nmX10⟩
  | n + 11, h => simp [vwCl] at h
