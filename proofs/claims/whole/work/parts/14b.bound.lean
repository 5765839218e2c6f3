/-! a fault is told at a token of the line, or at its end -/
section
variable {E : LEnv} {T : Nat → List Nat} {actor a b : Nat}
theorem sNames_er {ow : Nat → Bool} {e : Nat × Nat} (h : sNames E ow a = .error e) : e.2 = a := by
  rw [sNames_eq] at h
  by_cases k : ek E a = 23
  · rw [if_pos k] at h
    generalize cands E ow a (nend E 201 a) = l at h
    match l, h with
    | [], h => cases h; rfl
    | [x], h => cases h
    | x :: y :: r, h => cases h; rfl
  · rw [if_neg k] at h; cases h; rfl
theorem sItem_er {e : Nat × Nat} (hE : EOK E) (ha : a ≤ em E) (h : sItem E T actor a = .error e) : e.2 ≤ em E := by
  unfold sItem at h
  split at h
  · cases h; exact ha
  split at h
  · cases h; exact ha
  split at h
  · split at h
    · cases h; exact ha
    · cases h
  split at h
  · have := sNames_er h
    split at this
    · have := em_lt hE (a := a) (by omega); omega
    · omega
  · cases h
theorem sItems_er (hE : EOK E) (hT : TOK E T) (hal : actor < eT E) : ∀ f a acc e, a ≤ em E → sItems E T actor f a acc = .error e → e.2 ≤ em E := by
  intro f
  induction f with
  | zero => intro a acc e ha h; cases h; exact Nat.zero_le _
  | succ f ih =>
    intro a acc e ha h
    unfold sItems at h
    cases hi : sItem E T actor a with
    | error e' => rw [hi] at h; cases h; exact sItem_er hE ha hi
    | ok q =>
      obtain ⟨l, b⟩ := q
      rw [hi] at h
      have hq := sItem_ok hE hT hal hi
      have hs := sSep_le hE hq.2.1
      dsimp only at h
      split at h
      · cases h
      · exact ih _ _ _ hs.2 h
theorem sList_er {e : Nat × Nat} (hE : EOK E) (hT : TOK E T) (hal : actor < eT E) (ha : a ≤ em E) (h : sList E T actor a = .error e) : e.2 ≤ em E := by
  unfold sList at h
  cases hi : sItems E T actor 300 a [] with
  | error e' => rw [hi] at h; cases h; exact sItems_er hE hT hal 300 a [] _ ha hi
  | ok q =>
    obtain ⟨l, b⟩ := q
    rw [hi] at h
    obtain ⟨o1, o2, -⟩ := sItems_ok hE hT hal 300 a [] l b hi (by simp)
    dsimp only at h
    split at h
    · rename_i k
      have hm := em_lt hE (a := b) (by omega)
      cases hi2 : sItems E T actor 300 (b + 1) [] with
      | error e' => rw [hi2] at h; cases h; exact sItems_er hE hT hal 300 (b + 1) [] _ (by omega) hi2
      | ok q =>
        obtain ⟨x, c⟩ := q
        rw [hi2] at h
        dsimp only at h
        split at h
        · cases h; exact o2
        · cases h
    · cases h
theorem sCmd_er {no : Nat} {e : Nat × Nat} (hE : EOK E) (hT : TOK E T) (hal : actor < eT E) (ha : a ≤ em E) (h : sCmd E T no actor a = .error e) : e.2 ≤ em E := by
  unfold sCmd at h
  split at h
  · rename_i k
    have hm := em_lt hE (a := a) (by omega)
    split at h
    · cases h; exact ha
    split at h
    · cases h
    cases hi : sList E T actor (a + 1) with
    | error e' => rw [hi] at h; cases h; exact sList_er hE hT hal (by omega) hi
    | ok q =>
      obtain ⟨l, b⟩ := q
      rw [hi] at h
      obtain ⟨o1, o2, -⟩ := sList_ok hE hT hal hi
      dsimp only at h
      split at h
      · cases h
      split at h
      · rename_i k2
        have hm := em_lt hE (a := b) (by omega)
        cases hi2 : sList E T actor (b + 1) with
        | error e' => rw [hi2] at h; cases h; exact sList_er hE hT hal (by omega) hi2
        | ok q => rw [hi2] at h; cases h
      split at h
      · cases h
      · cases h; exact o2
  · cases h; exact ha
theorem sCmds_er (hE : EOK E) (hal : actor < eT E) : ∀ f (A : Ab) ad a e, AOK E A → ad.Nodup → (∀ x ∈ ad, x < eT E) → a ≤ em E → (sCmds E actor f A ad a).2 = .error e → e.2 ≤ em E := by
  intro f
  induction f with
  | zero => intro A ad a e _ _ _ ha h; cases h; exact Nat.zero_le _
  | succ f ih =>
    intro A ad a e hA had hlt ha h
    unfold sCmds at h
    cases hc : sCmd E A.1 A.2.1.length actor a with
    | error e' => rw [hc] at h; cases h; exact sCmd_er hE hA.1 hal ha hc
    | ok q =>
      obtain ⟨c, b⟩ := q
      obtain ⟨q1, q2, q3, q4, q5, q6⟩ := sCmd_ok hE hA.1 hal hc
      have hT : TOK E (learn E (learn E (learn E A.1 ad) c.2.2.1) c.2.2.2) := TOK_learn hE (TOK_learn hE (TOK_learn hE hA.1 had hlt) q5.1 q5.2) q6.1 q6.2
      have hK := AOK_keep (r := (actor, c)) hA hT ⟨hal, q5, q6⟩
      rw [hc] at h
      dsimp only at h
      by_cases k1 : ek E b = 3 ∧ ek E (b + 1) = 24
      · rw [if_pos k1] at h
        have hm := em_lt hE (a := b) (by omega)
        exact ih _ [] (b + 1) e hK List.nodup_nil (by simp) (by omega) h
      · rw [if_neg k1] at h
        by_cases k2 : ek E b = 28 ∨ ek E b = 22 ∨ ek E b = 4
        · rw [if_pos k2] at h; cases h
        · rw [if_neg k2] at h; cases h; exact q4
theorem sAgain_er {A : Ab} {e : Nat × Nat} (hE : EOK E) (ha : ek E a = 7) (h : (sAgain E A a).2 = .error e) : e.2 ≤ em E := by
  have hm := em_lt hE (a := a) (by omega)
  unfold sAgain at h
  split at h
  · cases h; show a ≤ _; omega
  split at h
  · cases h; show a ≤ _; omega
  split at h
  · cases h; show a ≤ _; omega
  split at h
  · cases h
  · cases h; show a + 1 ≤ _; omega
theorem sWho_er {A : Ab} {bh : Nat} {e : Nat × Nat} (hE : EOK E) (hA : AOK E A) (ha : a ≤ em E) (hbh : bh < 28) (h : (sWho E A a bh).2 = .error e) : e.2 ≤ em E := by
  unfold sWho at h
  cases hi : sItem E A.1 0 a with
  | error e' => rw [hi] at h; cases h; exact sItem_er hE ha hi
  | ok q =>
    obtain ⟨l, b⟩ := q
    rw [hi] at h
    obtain ⟨o1, o2, o3, o4, o5⟩ := sItem_ok hE hA.1 hE.1 hi
    dsimp only at h
    match l, o3, o5, h with
    | [x], _, o5, h =>
      dsimp only at h
      have hx := o5 x (by simp)
      by_cases k1 : x = 0 ∨ ¬ (eK E x = 1 ∨ eK E x = 2)
      · rw [if_pos k1] at h; cases h; exact ha
      · rw [if_neg k1] at h
        by_cases k2 : ek E b = bh
        · rw [if_pos k2] at h
          have hm := em_lt hE (a := b) (by omega)
          exact sCmds_er hE hx 300 A [x] (b + 1) e hA (by simp) (by simp; exact hx) (by omega) h
        · rw [if_neg k2] at h; cases h; exact o2
    | x :: y :: r, _, _, h => cases h; exact ha
theorem sOrd_er {A : Ab} {e : Nat × Nat} (hE : EOK E) (hA : AOK E A) (ha : a ≤ em E) (h : (sOrd E A a).2 = .error e) : e.2 ≤ em E := by
  unfold sOrd at h
  by_cases k7 : ek E a = 7
  · rw [if_pos k7] at h; exact sAgain_er hE k7 h
  rw [if_neg k7] at h
  by_cases k24 : ek E a = 24
  · rw [if_pos k24] at h; exact sCmds_er hE hE.1 300 A [] a e hA List.nodup_nil (by simp) ha h
  rw [if_neg k24] at h
  by_cases k5 : ek E a = 5
  · rw [if_pos k5] at h
    have hm := em_lt hE (a := a) (by omega)
    exact sWho_er hE hA (by omega) (by omega) h
  · rw [if_neg k5] at h; exact sWho_er hE hA ha (by omega) h
theorem sLine_ok (hE : EOK E) : ∀ f (A : Ab) a, AOK E A → a ≤ em E → AOK E (sLine E f A a).1 ∧ ∀ e, (sLine E f A a).2 = some e → e.2 ≤ em E := by
  intro f
  induction f with
  | zero => intro A a hA ha; exact ⟨hA, fun e h => by cases h⟩
  | succ f ih =>
    intro A a hA ha
    obtain ⟨k1, k2, k3⟩ := sSkip_le hE 300 a ha
    unfold sLine
    by_cases k28 : ek E (sSkip E 300 a) = 28
    · rw [if_pos k28]; exact ⟨hA, fun e h => by cases h⟩
    rw [if_neg k28]
    obtain ⟨o1, o2⟩ := sOrd_ok hE k28 hA
    cases hr : (sOrd E A (sSkip E 300 a)).2 with
    | error e =>
      have e1 : sOrd E A (sSkip E 300 a) = ((sOrd E A (sSkip E 300 a)).1, .error e) := by rw [← hr]
      rw [e1]
      exact ⟨o1, fun e' h => by cases h; exact sOrd_er hE hA k2 hr⟩
    | ok b =>
      have e1 : sOrd E A (sSkip E 300 a) = ((sOrd E A (sSkip E 300 a)).1, .ok b) := by rw [← hr]
      rw [e1]
      exact ih _ b o1 (o2 b hr).2.1
end
/-! lists in both -/
theorem LSt_of {s : St} {o nT : Nat} {f : Nat → Int32} {z : Int32} {l : List Nat} (h : CL s o l) (m : ML f z l) (hlt : ∀ x ∈ l, x < nT) : LSt s o nT f z := by
  have hlen := CL_len h
  obtain ⟨h1, h2, h3, h4, h5⟩ := h
  refine ⟨l.length, hlen, h1, m.1, fun k hk => ?_, fun j k hj hk e => ?_, fun t ht => ?_⟩
  · have hx : l[k]? = some l[k] := List.getElem?_eq_getElem hk
    exact ⟨l[k], hlt _ (List.getElem_mem hk), h2 k _ hx, m.2 k _ hx⟩
  · rw [h2 j _ (List.getElem?_eq_getElem hj), h2 k _ (List.getElem?_eq_getElem hk)] at e
    have a1 := h4 _ (List.getElem_mem hj)
    have a2 := h4 _ (List.getElem_mem hk)
    have := nI_inj (by omega) (by omega) e
    exact (List.getElem_inj h3).mp this
  · rw [h5 t ht, decide_eq_true_iff]
    constructor
    · intro hm
      obtain ⟨k, hk, e⟩ := List.mem_iff_getElem.mp hm
      exact ⟨k, hk, by rw [h2 k _ (List.getElem?_eq_getElem hk), e]⟩
    · rintro ⟨k, hk, e⟩
      rw [h2 k _ (List.getElem?_eq_getElem hk)] at e
      have a1 := h4 _ (List.getElem_mem hk)
      rw [← nI_inj (by omega) (by omega) e]
      exact List.getElem_mem hk
theorem LSt_to {s : St} {o nT : Nat} {f : Nat → Int32} {z : Int32} (h : LSt s o nT f z) (hT : nT ≤ 24) : ∃ l, CL s o l ∧ ML f z l ∧ ∀ x ∈ l, x < nT := by
  obtain ⟨n, h1, h2, h3, h4, h5, h6⟩ := h
  have hl : ((List.range n).map (fun k => (f k).toNatClampNeg)).length = n := by simp
  have hg : ∀ k x, ((List.range n).map (fun k => (f k).toNatClampNeg))[k]? = some x → k < n ∧ x < nT ∧ s.1 (o + 1) k = nI x ∧ f k = nI x := by
    intro k x hx
    have hk : k < n := by have := (List.getElem?_eq_some_iff.mp hx).1; rw [hl] at this; exact this
    obtain ⟨t, t1, t2, t3⟩ := h4 k hk
    rw [List.getElem?_map, List.getElem?_range hk] at hx
    have hx : (f k).toNatClampNeg = x := by simpa using hx
    rw [t3, nI_clamp (by omega)] at hx
    rw [← hx]
    exact ⟨hk, t1, t2, t3⟩
  have hmem : ∀ x ∈ (List.range n).map (fun k => (f k).toNatClampNeg), ∃ k, k < n ∧ s.1 (o + 1) k = nI x ∧ x < nT := by
    intro x hx
    obtain ⟨k, hk, e⟩ := List.mem_iff_getElem.mp hx
    obtain ⟨q1, q2, q3, q4⟩ := hg k x (by rw [List.getElem?_eq_getElem hk, e])
    exact ⟨k, q1, q3, q2⟩
  refine ⟨(List.range n).map (fun k => (f k).toNatClampNeg), ⟨by rw [hl]; exact h2, fun k x hx => (hg k x hx).2.2.1, ?_, fun x hx => ?_, fun t ht => ?_⟩, ⟨by rw [hl]; exact h3, fun k x hx => (hg k x hx).2.2.2⟩, fun x hx => (hmem x hx).choose_spec.2.2⟩
  · unfold List.Nodup
    rw [List.pairwise_iff_getElem]
    intro j k hj hk hjk e
    have a1 := hg j _ (List.getElem?_eq_getElem hj)
    have a2 := hg k _ (List.getElem?_eq_getElem hk)
    have := h5 j k a1.1 a2.1 (by rw [a1.2.2.1, a2.2.2.1, e])
    omega
  · obtain ⟨k, -, -, q⟩ := hmem x hx; omega
  · by_cases c : t ∈ (List.range n).map (fun k => (f k).toNatClampNeg)
    · obtain ⟨k, q1, q2, q3⟩ := hmem t c
      rw [(h6 t ht).mpr ⟨k, q1, q2⟩]; simp [c]
    · have : bt (s.1 o 2) t = false := by
        rw [← Bool.not_eq_true, h6 t ht]
        rintro ⟨k, hk, e⟩
        apply c
        obtain ⟨t', u1, u2, u3⟩ := h4 k hk
        rw [u2] at e
        have := nI_inj (by omega) (by omega) e
        rw [List.mem_map]
        exact ⟨k, List.mem_range.mpr hk, by rw [u3, nI_clamp (by omega)]; exact this⟩
      rw [this]; simp [c]
