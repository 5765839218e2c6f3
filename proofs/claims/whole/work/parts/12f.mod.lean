/-! lists in the model -/
def MF2 (s s' : St) : Prop := s'.2 = s.2 ∧ (∀ c, c ≠ 94 → c ≠ 116 → c ≠ 117 → s'.1 c = s.1 c) ∧ (∀ j, j ≠ 16 → j ≠ 17 → j ≠ 18 → j ≠ 34 → j ≠ 36 → s'.1 94 j = s.1 94 j)
def MEr2 (s s' : St) (e : Nat × Nat) : Prop := MF2 s s' ∧ s'.1 94 17 = nI e.1 ∧ s'.1 94 18 = s.1 106 e.2
def MOk2 (s s' : St) (b : Nat) : Prop := MF2 s s' ∧ s'.1 94 17 = s.1 94 17 ∧ s'.1 94 16 = nI b
def FolL (s : St) (F : Option (Int32 × St)) (R : Except (Nat × Nat) (List Nat × Nat)) : Prop :=
  (∀ e, R = .error e → ∃ s', F = some (0, s') ∧ MEr2 s s' e) ∧ (∀ l b, R = .ok (l, b) → ∃ s', F = some (1, s') ∧ MOk2 s s' b ∧ ML (s'.1 117) (s'.1 94 36) l)
theorem MF2_refl (s : St) : MF2 s s := ⟨rfl, fun _ _ _ _ => rfl, fun _ _ _ _ _ _ => rfl⟩
theorem MF2_trans {s s1 s2 : St} (h : MF2 s s1) (h' : MF2 s1 s2) : MF2 s s2 :=
  ⟨h'.1.trans h.1, fun c a b d => (h'.2.1 c a b d).trans (h.2.1 c a b d), fun j a b c d e => (h'.2.2 j a b c d e).trans (h.2.2 j a b c d e)⟩
theorem MF2_of {s s' : St} (h : MF s s') : MF2 s s' := ⟨h.1, fun c a b _ => h.2.1 c a b, fun j a b c d _ => h.2.2 j a b c d⟩
theorem ME_MF2 {s s' : St} {E : LEnv} (h : ME s E) (m : MF2 s s') : ME s' E := ME_congr h (fun c a b => m.2.1 c (by omega) (by omega) (by omega)) (m.2.2 1 (by omega) (by omega) (by omega) (by omega) (by omega))
theorem MT_MF2 {s s' : St} {T : Nat → List Nat} (h : MT s T) (m : MF2 s s') : MT s' T := by
  unfold MT at h ⊢; rw [m.2.1 114 (by omega) (by omega) (by omega), m.2.1 115 (by omega) (by omega) (by omega)]; exact h
theorem FolL_of {s s1 : St} {F : Option (Int32 × St)} {R : Except (Nat × Nat) (List Nat × Nat)} (m : MF2 s s1) (h17 : s1.1 94 17 = s.1 94 17) (h : FolL s1 F R) : FolL s F R := by
  refine ⟨fun e he => ?_, fun l b he => ?_⟩
  · obtain ⟨s', q1, q2, q3, q4⟩ := h.1 e he
    exact ⟨s', q1, MF2_trans m q2, q3, by rw [q4, m.2.1 106 (by omega) (by omega) (by omega)]⟩
  · obtain ⟨s', q1, ⟨q2, q3, q4⟩, q5⟩ := h.2 l b he
    exact ⟨s', q1, ⟨MF2_trans m q2, by rw [q3, h17], q4⟩, q5⟩
/-- only the list itself -/
def MG (s s' : St) : Prop := s'.2 = s.2 ∧ (∀ c, c ≠ 94 → c ≠ 117 → s'.1 c = s.1 c) ∧ (∀ j, j ≠ 36 → s'.1 94 j = s.1 94 j)
theorem MG_trans {s s1 s2 : St} (h : MG s s1) (h' : MG s1 s2) : MG s s2 :=
  ⟨h'.1.trans h.1, fun c a b => (h'.2.1 c a b).trans (h.2.1 c a b), fun j a => (h'.2.2 j a).trans (h.2.2 j a)⟩
theorem MG_refl (s : St) : MG s s := ⟨rfl, fun _ _ _ => rfl, fun _ _ => rfl⟩
theorem MF2_MG {s s' : St} (h : MG s s') : MF2 s s' := ⟨h.1, fun c a _ b => h.2.1 c a b, fun j _ _ _ _ a => h.2.2 j a⟩
section
variable {s : St} {E : LEnv} {T : Nat → List Nat} {a b p actor : Nat} {l M : List Nat}
theorem placeIn_k {x : Nat} (hx : x < 24) (h : ML (s.1 117) (s.1 94 36) l) (hl : l.length ≤ 24) (hlt : ∀ y ∈ l, y < 24) : ∀ f k, k ≤ l.length → l.length < f + k → (∀ i, i < k → l[i]? ≠ some x) →
    ∃ r, L_X10_placeIn_2 f (nI x) (nI k) s = some (r, s) ∧ ((x ∉ l ∧ r = -4) ∨ ∃ i, l[i]? = some x ∧ r = nI i) := by
  intro f
  induction f with
  | zero => intro k h1 h2; omega
  | succ f ih =>
    intro k h1 h2 hno
    unfold L_X10_placeIn_2
    rw [h.1]
    by_cases e : k = l.length
    · rw [if_pos (nI_le (by omega) (by omega))]
      refine ⟨-4, rfl, Or.inl ⟨fun hm => ?_, rfl⟩⟩
      obtain ⟨i, hi, he⟩ := List.mem_iff_getElem.mp hm
      exact hno i (by omega) (by rw [List.getElem?_eq_getElem hi, he])
    · have hk : k < l.length := by omega
      have hv := h.2 k _ (List.getElem?_eq_getElem hk)
      have h24 := hlt _ (List.getElem_mem hk)
      rw [if_neg (nI_ge hk (by omega)), if_neg (grd (n := 24) (by omega) (by omega)), nI_clamp (by omega), hv]
      by_cases c : l[k] = x
      · rw [if_pos (by rw [c])]
        exact ⟨nI k, rfl, Or.inr ⟨k, by rw [List.getElem?_eq_getElem hk, c], rfl⟩⟩
      · rw [if_neg (nI_ne c (by omega) (by omega)), nI_s]
        apply ih (k + 1) (by omega) (by omega)
        intro i hi
        by_cases ei : i = k
        · rw [ei, List.getElem?_eq_getElem hk]; intro q; exact c (Option.some.inj q)
        · exact hno i (by omega)
theorem add1_of {x : Nat} (h : ML (s.1 117) (s.1 94 36) l) (hx : x ∉ l) : MG s (xup (xup s.1 117 l.length (nI x)) 94 36 (nI (l.length + 1)), s.2) ∧ ML ((xup (xup s.1 117 l.length (nI x)) 94 36 (nI (l.length + 1)), s.2).1 117) ((xup (xup s.1 117 l.length (nI x)) 94 36 (nI (l.length + 1)), s.2).1 94 36) (add1 l x) := by
  refine ⟨⟨rfl, fun c q1 q2 => ?_, fun j q => ?_⟩, ?_⟩
  · dsimp only; rw [xup_ne q1, xup_ne q2]
  · dsimp only; rw [xup_j q, xup_ne (by omega)]
  · dsimp only; rw [xup_eq, if_pos rfl]
    unfold add1; rw [if_neg hx]
    exact ML_push h (by rw [xup_ne (by omega), xup_eq, if_pos rfl]) (fun k q => by rw [xup_ne (by omega), xup_j q])
theorem it12_in (hM : M.length ≤ 24) (hMx : ∀ x ∈ M, x < 24) {l1 : Int32} : ∀ f k (s : St) (l : List Nat), ML (s.1 117) (s.1 94 36) l → l.Nodup → (∀ y ∈ l, y < 24) → ML (s.1 116) (s.1 94 34) M → k ≤ M.length → M.length < f + k →
    ∃ s', L_X10_items_12 f l1 0 (nI k) s = some s' ∧ MG s s' ∧ ML (s'.1 117) (s'.1 94 36) (addAll l (M.drop k)) := by
  intro f
  induction f with
  | zero => intro k s l _ _ _ _ h1 h2; omega
  | succ f ih =>
    intro k s l hl hnd hlt hm h1 h2
    have hlen := pig 24 l hnd hlt
    unfold L_X10_items_12
    rw [hm.1]
    by_cases e : k = M.length
    · rw [if_pos (nI_le (by omega) (by omega)), e, List.drop_length]
      exact ⟨s, rfl, MG_refl s, hl⟩
    · have hk : k < M.length := by omega
      have hx := hMx _ (List.getElem_mem hk)
      obtain ⟨r, q1, q2⟩ := placeIn_k hx hl hlen hlt 300 0 (by omega) (by omega) (fun i hi => by omega)
      rw [nI_0] at q1
      have hv := hm.2 k _ (List.getElem?_eq_getElem hk)
      rw [if_neg (nI_ge hk (by omega)), if_neg (grd (n := 24) (by omega) (by omega)), nI_clamp (by omega), hv, F_X10_placeIn, q1, Option.bind_some]
      dsimp only
      rw [if_pos rfl, List.drop_eq_getElem_cons hk, nI_s]
      show ∃ s', _ ∧ _ ∧ ML _ _ (addAll (add1 l M[k]) (M.drop (k + 1)))
      rcases q2 with ⟨c, rfl⟩ | ⟨i, hi, rfl⟩
      · have hl23 : l.length < 24 := by
          have := pig 24 (M[k] :: l) (List.nodup_cons.mpr ⟨c, hnd⟩) (fun y hy => by
            rcases List.mem_cons.mp hy with rfl | hy
            · exact hx
            · exact hlt y hy)
          simp at this; omega
        obtain ⟨w1, w2⟩ := add1_of hl c
        rw [if_pos rfl, hl.1, if_neg (grd (n := 24) (by omega) (by omega)), nI_clamp (by omega), hv, xup_ne (show 94 ≠ 117 by omega), hl.1, nI_s]
        obtain ⟨s', p1, p2, p3⟩ := ih (k + 1) _ (add1 l M[k]) w2 (add1_nodup hnd) (fun y hy => by
            rcases add1_mem.mp hy with hy | rfl
            · exact hlt y hy
            · exact hx) (by rw [w1.2.1 116 (by omega) (by omega), w1.2.2 34 (by omega)]; exact hm) (by omega) (by omega)
        exact ⟨s', p1, MG_trans w1 p2, p3⟩
      · have hil := (List.getElem?_eq_some_iff.mp hi).1
        rw [if_neg (nI_m4 (by omega))]
        have ea : add1 l M[k] = l := by unfold add1; rw [if_pos (List.mem_of_getElem? hi)]
        rw [ea]
        exact ih (k + 1) s l hl hnd hlt hm (by omega) (by omega)
theorem erase_f : ∀ {l : List Nat} {i x : Nat}, l.Nodup → l[i]? = some x → l.eraseIdx i = l.filter (fun t => !decide (t = x))
  | [], i, x, _, h => by simp at h
  | y :: l, 0, x, hn, h => by
    have h : some y = some x := h
    cases h
    rw [List.nodup_cons] at hn
    rw [List.eraseIdx_cons_zero, List.filter_cons_of_neg (by simp)]
    rw [List.filter_eq_self.mpr]
    intro z hz
    have : z ≠ y := fun q => hn.1 (q ▸ hz)
    simp [this]
  | y :: l, i + 1, x, hn, h => by
    rw [List.nodup_cons] at hn
    have h : l[i]? = some x := h
    have : y ≠ x := fun q => hn.1 (q ▸ List.mem_of_getElem? h)
    rw [List.eraseIdx_cons_succ, List.filter_cons_of_pos (by simp [this]), erase_f hn.2 h]
theorem it36 {i : Nat} (hi : i < l.length) (hl : l.length ≤ 24) (h36 : s.1 94 36 = nI (l.length - 1)) {l1 l2 l4 : Int32} : ∀ f k (s' : St), i ≤ k → k + 1 ≤ l.length → l.length < f + k → MG s s' → s'.1 94 36 = s.1 94 36 → (∀ j, k ≤ j → j < l.length → ∀ x, l[j]? = some x → s'.1 117 j = nI x) → (∀ j, j < k → ∀ x, (l.eraseIdx i)[j]? = some x → s'.1 117 j = nI x) →
    ∃ s'', L_X10_items_36 f l1 l2 l4 (nI k) s' = some s'' ∧ MG s s'' ∧ ML (s''.1 117) (s''.1 94 36) (l.eraseIdx i) := by
  have hle : (l.eraseIdx i).length = l.length - 1 := List.length_eraseIdx_of_lt hi
  intro f
  induction f with
  | zero => intro k s' h1 h2 h3; omega
  | succ f ih =>
    intro k s' h1 h2 h3 hg hz ha hb
    unfold L_X10_items_36
    rw [hz, h36]
    by_cases e : k = l.length - 1
    · rw [if_pos (nI_le (by omega) (by omega))]
      refine ⟨s', rfl, hg, by rw [hz, h36, hle], fun j x hx => hb j ?_ x hx⟩
      have := (List.getElem?_eq_some_iff.mp hx).1
      omega
    · rw [if_neg (nI_ge (by omega) (by omega)), nI_s, if_neg (grd (n := 24) (by omega) (by omega)), if_neg (grd (n := 24) (by omega) (by omega)), nI_clamp (by omega), nI_clamp (by omega)]
      have hk1 : k + 1 < l.length := by omega
      have hv := ha (k + 1) (by omega) hk1 _ (List.getElem?_eq_getElem hk1)
      rw [hv]
      apply ih (k + 1) _ (by omega) (by omega) (by omega)
      · exact MG_trans hg ⟨rfl, fun c q1 q2 => by dsimp only; rw [xup_ne q2], fun j q => by dsimp only; rw [xup_ne (by omega)]⟩
      · dsimp only; rw [xup_ne (by omega)]; exact hz
      · intro j q1 q2 x hx
        dsimp only; rw [xup_j (by omega)]
        exact ha j (by omega) q2 x hx
      · intro j q x hx
        dsimp only
        rw [xup_eq]
        by_cases ej : j = k
        · rw [if_pos ej]
          rw [ej, List.getElem?_eraseIdx, if_neg (by omega), List.getElem?_eq_getElem hk1] at hx
          rw [Option.some.inj hx]
        · rw [if_neg ej]
          exact hb j (by omega) x hx
theorem it12_out (hM : M.length ≤ 24) (hMx : ∀ x ∈ M, x < 24) {l1 : Int32} : ∀ f k (s : St) (l : List Nat), ML (s.1 117) (s.1 94 36) l → l.Nodup → (∀ y ∈ l, y < 24) → ML (s.1 116) (s.1 94 34) M → k ≤ M.length → M.length < f + k →
    ∃ s', L_X10_items_12 f l1 1 (nI k) s = some s' ∧ MG s s' ∧ ML (s'.1 117) (s'.1 94 36) (l.filter (fun t => !decide (t ∈ M.drop k))) := by
  intro f
  induction f with
  | zero => intro k s l _ _ _ _ h1 h2; omega
  | succ f ih =>
    intro k s l hl hnd hlt hm h1 h2
    have hlen := pig 24 l hnd hlt
    unfold L_X10_items_12
    rw [hm.1]
    by_cases e : k = M.length
    · rw [if_pos (nI_le (by omega) (by omega)), e, List.drop_length]
      exact ⟨s, rfl, MG_refl s, by rw [List.filter_eq_self.mpr (by simp)]; exact hl⟩
    · have hk : k < M.length := by omega
      have hx := hMx _ (List.getElem_mem hk)
      obtain ⟨r, q1, q2⟩ := placeIn_k hx hl hlen hlt 300 0 (by omega) (by omega) (fun i hi => by omega)
      rw [nI_0] at q1
      have hv := hm.2 k _ (List.getElem?_eq_getElem hk)
      rw [if_neg (nI_ge hk (by omega)), if_neg (grd (n := 24) (by omega) (by omega)), nI_clamp (by omega), hv, F_X10_placeIn, q1, Option.bind_some]
      dsimp only
      rw [if_neg (by decide), List.drop_eq_getElem_cons hk, nI_s]
      have hff : l.filter (fun t => !decide (t ∈ M[k] :: M.drop (k + 1))) = (l.filter (fun t => !decide (t = M[k]))).filter (fun t => !decide (t ∈ M.drop (k + 1))) := by
        rw [List.filter_filter]
        congr 1
        funext t
        rw [decide_eq_decide.mpr (List.mem_cons (a := t) (b := M[k]) (l := M.drop (k + 1))), Bool.decide_or, Bool.not_or, Bool.and_comm]
      rw [hff]
      rcases q2 with ⟨c, rfl⟩ | ⟨i, hi, rfl⟩
      · rw [if_pos rfl]
        have : l.filter (fun t => !decide (t = M[k])) = l := by
          rw [List.filter_eq_self.mpr]
          intro z hz
          have : z ≠ M[k] := fun q => c (q ▸ hz)
          simp [this]
        rw [this]
        exact ih (k + 1) s l hl hnd hlt hm (by omega) (by omega)
      · have hil := (List.getElem?_eq_some_iff.mp hi).1
        have h1' : s.1 94 36 - 1 = nI (l.length - 1) := by rw [hl.1, show (1 : Int32) = nI 1 from rfl, pk_sub (by omega)]
        rw [if_neg (nI_m4 (by omega)), h1']
        have hg0 : MG s (xup s.1 94 36 (nI (l.length - 1)), s.2) := ⟨rfl, fun c q1 q2 => by dsimp only; rw [xup_ne q1], fun j q => by dsimp only; rw [xup_j q]⟩
        obtain ⟨s1, w1, w2, w3⟩ := it36 (s := (xup s.1 94 36 (nI (l.length - 1)), s.2)) (l1 := l1) (l2 := 1) (l4 := nI k) hil hlen (by dsimp only; rw [xup_eq, if_pos rfl]) 300 i _ (Nat.le_refl _) (by omega) (by omega) (MG_refl _) rfl (fun j q1 q2 x hx => by dsimp only; rw [xup_ne (by omega)]; exact hl.2 j x hx) (fun j q x hx => by
          dsimp only; rw [xup_ne (by omega)]
          rw [List.getElem?_eraseIdx, if_pos q] at hx
          exact hl.2 j x hx)
        rw [w1, Option.bind_some]
        rw [erase_f hnd hi] at w3
        have hg := MG_trans hg0 w2
        obtain ⟨s', p1, p2, p3⟩ := ih (k + 1) s1 _ w3 (hnd.filter _) (fun y hy => hlt y (List.mem_filter.mp hy).1) (by rw [hg.2.1 116 (by omega) (by omega), hg.2.2 34 (by omega)]; exact hm) (by omega) (by omega)
        exact ⟨s', p1, MG_trans hg p2, p3⟩
end
