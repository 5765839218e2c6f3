/-! lists of things -/
theorem pig : ∀ (n : Nat) (l : List Nat), l.Nodup → (∀ x ∈ l, x < n) → l.length ≤ n
  | 0, l, _, h => by
    cases l with
    | nil => simp
    | cons x l => exact absurd (h x (by simp)) (by omega)
  | n + 1, l, hn, h => by
    by_cases e : n ∈ l
    · have := pig n (l.erase n) (hn.erase n) (fun x hx => by
        have h2 := hn.mem_erase_iff.mp hx
        have := h x h2.2
        have := h2.1
        omega)
      rw [List.length_erase_of_mem e] at this
      omega
    · have := pig n l hn (fun x hx => by
        have h1 := h x hx
        have : x ≠ n := fun q => e (q ▸ hx)
        omega)
      omega
def add1 (a : List Nat) (x : Nat) : List Nat := if x ∈ a then a else a ++ [x]
def addAll (a l : List Nat) : List Nat := l.foldl add1 a
theorem add1_nodup {a : List Nat} {x : Nat} (h : a.Nodup) : (add1 a x).Nodup := by
  unfold add1; split
  · exact h
  · rename_i e
    rw [List.nodup_append]
    exact ⟨h, by simp, by simp; intro y hy q; exact e (q ▸ hy)⟩
theorem add1_mem {a : List Nat} {x y : Nat} : y ∈ add1 a x ↔ y ∈ a ∨ y = x := by
  unfold add1; split
  · rename_i e
    constructor
    · exact Or.inl
    · rintro (h | rfl)
      · exact h
      · exact e
  · simp
theorem addAll_mem {l : List Nat} : ∀ {a : List Nat} {y : Nat}, y ∈ addAll a l ↔ y ∈ a ∨ y ∈ l := by
  induction l with
  | nil => intro a y; simp [addAll]
  | cons x l ih =>
    intro a y
    show y ∈ addAll (add1 a x) l ↔ _
    rw [ih, add1_mem, List.mem_cons, or_assoc]
theorem addAll_nodup {l : List Nat} : ∀ {a : List Nat}, a.Nodup → (addAll a l).Nodup := by
  induction l with
  | nil => intro a h; exact h
  | cons x l ih => intro a h; exact ih (add1_nodup h)
theorem addAll_app (a l l' : List Nat) : addAll a (l ++ l') = addAll (addAll a l) l' := List.foldl_append
/-- a list of the class at o -/
def CL (s : St) (o : Nat) (l : List Nat) : Prop := s.1 o 1 = nI l.length ∧ (∀ k x, l[k]? = some x → s.1 (o + 1) k = nI x) ∧ l.Nodup ∧ (∀ x ∈ l, x < 24) ∧ ∀ t, t < 32 → bt (s.1 o 2) t = decide (t ∈ l)
theorem CL_len {s : St} {o : Nat} {l : List Nat} (h : CL s o l) : l.length ≤ 24 := pig 24 l h.2.2.1 h.2.2.2.1
theorem CL_congr {s s' : St} {o : Nat} {l : List Nat} (h : CL s o l) (e : s'.1 o = s.1 o) (e1 : s'.1 (o + 1) = s.1 (o + 1)) : CL s' o l := by
  unfold CL at h ⊢; rw [e, e1]; exact h
theorem b_tst {x : Int32} {n : Nat} (hn : n < 32) : (x &&& ((1 : Int32) <<< (nI n &&& 31))) = 0 ↔ bt x n = false := by
  rw [b_zero]
  constructor
  · intro h
    have := h n hn
    rw [b_and, b_one n hn n hn] at this
    simpa using this
  · intro h i hi
    rw [b_and, b_one n hn i hi]
    by_cases e : i = n
    · subst e; simp [h]
    · simp [e]
/-- cells other than those of a list -/
def Fr (I I' : Nat → Nat → Int32) (o : Nat) : Prop := ∀ c, c ≠ o → c ≠ o + 1 → I' c = I c
section
variable {s : St} {o x a : Nat} {l : List Nat}
theorem add_k (h : CL s o l) (hx : x < 24) : ∃ I', F_X5_add o (nI x) s = some (I', s.2) ∧ CL (I', s.2) o (add1 l x) ∧ Fr s.1 I' o := by
  have hlen := CL_len h
  obtain ⟨h1, h2, h3, h4, h5⟩ := id h
  unfold F_X5_add
  rw [if_neg (nI_pos (by omega)), if_neg (show ¬ (24 : Int32) ≤ nI x from nI_ge (b := 24) hx (by omega)), h1]
  by_cases e : x ∈ l
  · have hb : ¬ ((s.1 o 2 &&& ((1 : Int32) <<< (nI x &&& 31))) = 0) := by
      rw [b_tst (by omega), h5 x (by omega)]; simp [e]
    refine ⟨s.1, ?_, ?_, fun _ _ _ => rfl⟩
    · by_cases q : nI l.length < 24
      · rw [if_pos q, if_neg hb]
      · rw [if_neg q]
    · unfold add1; rw [if_pos e]; exact h
  · have hb : (s.1 o 2 &&& ((1 : Int32) <<< (nI x &&& 31))) = 0 := by
      rw [b_tst (by omega), h5 x (by omega)]; simp [e]
    have hl : l.length < 24 := by
      have := pig 24 (x :: l) (List.nodup_cons.mpr ⟨e, h3⟩) (fun y hy => by
        rcases List.mem_cons.mp hy with rfl | hy
        · exact hx
        · exact h4 y hy)
      simp at this; omega
    rw [if_pos (show nI l.length < 24 from nI_lt (b := 24) hl (by omega)), if_pos hb, if_neg (grd (n := 24) hl (by omega)), nI_clamp (by omega)]
    refine ⟨_, rfl, ?_, fun c q1 q2 => by rw [xup_ne q1, xup_ne q1, xup_ne q2]⟩
    have no : o ≠ o + 1 := by omega
    have no' : o + 1 ≠ o := by omega
    have ea : add1 l x = l ++ [x] := by unfold add1; rw [if_neg e]
    refine ⟨?_, fun k y hy => ?_, add1_nodup h3, fun y hy => ?_, fun t ht => ?_⟩
    · dsimp only
      rw [ea, xup_j (by omega), xup_eq, if_pos rfl, xup_ne no, h1, nI_s]; simp
    · dsimp only
      rw [xup_ne no', xup_ne no', xup_eq]
      rw [ea] at hy
      by_cases ek : k = l.length
      · rw [if_pos ek]; rw [ek] at hy; simp at hy; rw [hy]
      · rw [if_neg ek]
        apply h2
        rw [List.getElem?_append] at hy
        by_cases hk : k < l.length
        · rwa [if_pos hk] at hy
        · rw [if_neg hk] at hy
          have : ([x] : List Nat)[k - l.length]? = none := by apply List.getElem?_eq_none; simp; omega
          rw [this] at hy; cases hy
    · rcases add1_mem.mp hy with hy | rfl
      · exact h4 y hy
      · exact hx
    · dsimp only
      rw [xup_eq, if_pos rfl, xup_j (by omega), xup_ne no, b_set (by omega) ht, h5 t ht]
      by_cases q1 : t ∈ l <;> by_cases q2 : t = x <;> simp [q1, q2, add1_mem, e] <;> simp_all
theorem clear_k : ∃ I', F_X5_clear o s = some (I', s.2) ∧ CL (I', s.2) o [] ∧ Fr s.1 I' o ∧ I' (o + 1) = s.1 (o + 1) := by
  refine ⟨_, rfl, ⟨?_, fun k y hy => by simp at hy, List.nodup_nil, fun y hy => by simp at hy, fun t ht => ?_⟩, fun c q1 q2 => by rw [xup_ne q1, xup_ne q1], by rw [xup_ne (by omega), xup_ne (by omega)]⟩
  · dsimp only; rw [xup_j (by omega), xup_eq]; rfl
  · dsimp only; rw [xup_eq, if_pos rfl, b_0]; simp
theorem copy_loop (ha : s.1 a 1 = nI l.length) (hl : l.length ≤ 24) (hel : ∀ k x, l[k]? = some x → s.1 (a + 1) k = nI x) (hoa : o = a ∨ (o + 1 ≠ a ∧ o ≠ a)) : ∀ f i (s' : St), i ≤ l.length → l.length < f + i → s'.2 = s.2 → (∀ c, c ≠ o + 1 → s'.1 c = s.1 c) → (∀ k x, l[k]? = some x → (k < i ∨ o = a) → s'.1 (o + 1) k = nI x) →
    ∃ I', L_X5_copyFrom_2 o a f (nI i) s' = some (I', s.2) ∧ (∀ c, c ≠ o + 1 → I' c = s.1 c) ∧ (∀ k x, l[k]? = some x → I' (o + 1) k = nI x) := by
  intro f
  induction f with
  | zero => intro i s' h1 h2; omega
  | succ f ih =>
    intro i s' h1 h2 hs hc hk
    unfold L_X5_copyFrom_2
    rw [hc a (by omega), ha]
    by_cases e : i = l.length
    · rw [if_pos (nI_le (by omega) (by omega))]
      refine ⟨s'.1, by rw [← hs], hc, fun k x hx => hk k x hx (Or.inl ?_)⟩
      have := (List.getElem?_eq_some_iff.mp hx).1; omega
    · have hi : i < l.length := by omega
      rw [if_neg (nI_ge hi (by omega)), if_neg (grd (n := 24) (by omega) (by omega)), nI_clamp (by omega), nI_s]
      have hx : l[i]? = some l[i] := List.getElem?_eq_getElem hi
      have hv : s'.1 (a + 1) i = nI l[i] := by
        rcases hoa with rfl | hoa
        · exact hk i _ hx (Or.inr rfl)
        · rw [hc (a + 1) (by omega)]; exact hel i _ hx
      rw [hv]
      apply ih (i + 1) (xup s'.1 (o + 1) i (nI l[i]), s'.2) (by omega) (by omega) hs
      · intro c q; dsimp only; rw [xup_ne q]; exact hc c q
      · intro k x q1 q2
        dsimp only
        rw [xup_eq]
        by_cases ek : k = i
        · rw [if_pos ek]; subst ek; rw [hx] at q1; rw [Option.some.inj q1]
        · rw [if_neg ek]; exact hk k x q1 (by rcases q2 with q2 | q2; exact Or.inl (by omega); exact Or.inr q2)
theorem copy_k (h : CL s a l) (hoa : o = a ∨ (o + 1 ≠ a ∧ o ≠ a ∧ o ≠ a + 1)) : ∃ I', F_X5_copyFrom o a s = some (I', s.2) ∧ CL (I', s.2) o l ∧ Fr s.1 I' o ∧ (∀ j, j ≠ 1 → j ≠ 2 → I' o j = s.1 o j) := by
  have hlen := CL_len h
  obtain ⟨h1, h2, h3, h4, h5⟩ := id h
  obtain ⟨I', q1, q2, q3⟩ := copy_loop (o := o) h1 hlen h2 (by omega) 300 0 s (by omega) (by omega) rfl (fun _ _ => rfl) (fun k x hx q => by
    rcases q with q | q
    · omega
    · rw [q]; exact h2 k x hx)
  rw [nI_0] at q1
  unfold F_X5_copyFrom
  rw [q1]
  simp only [Option.bind_some]
  have no' : o + 1 ≠ o := by omega
  have ea : I' a = s.1 a := q2 a (by omega)
  have eo : I' o = s.1 o := q2 o (by omega)
  refine ⟨_, rfl, ⟨?_, fun k x hx => ?_, h3, h4, fun t ht => ?_⟩, fun c w1 w2 => ?_, fun j w1 w2 => ?_⟩
  · dsimp only; rw [xup_j (by omega), xup_eq, if_pos rfl, ea]; exact h1
  · dsimp only; rw [xup_ne no', xup_ne no']; exact q3 k x hx
  · dsimp only; rw [xup_eq, if_pos rfl]
    by_cases eoa : a = o
    · subst eoa; rw [xup_j (by omega), ea]; exact h5 t ht
    · rw [xup_ne eoa, ea]; exact h5 t ht
  · rw [xup_ne w1, xup_ne w1]; exact q2 c w2
  · rw [xup_j w2, xup_j w1, eo]
theorem remove_loop {X : Int32} {ex : List Nat} (hlen : l.length ≤ 24) (hX : ∀ t, t < 24 → bt X t = decide (t ∈ ex)) (h1 : s.1 o 1 = nI l.length) (h4 : ∀ x ∈ l, x < 24) : ∀ f i (pre : List Nat) (s' : St), i ≤ l.length → l.length < f + i → pre.length ≤ i → s'.2 = s.2 → (∀ c, c ≠ o + 1 → s'.1 c = s.1 c) → (∀ k x, pre[k]? = some x → s'.1 (o + 1) k = nI x) → (∀ k x, i ≤ k → l[k]? = some x → s'.1 (o + 1) k = nI x) →
    ∃ I', L_X5_remove_4 o f X (nI pre.length) (nI i) s' = some (nI (pre ++ (l.drop i).filter (fun x => !decide (x ∈ ex))).length, (I', s.2)) ∧ (∀ c, c ≠ o + 1 → I' c = s.1 c) ∧ (∀ k x, (pre ++ (l.drop i).filter (fun x => !decide (x ∈ ex)))[k]? = some x → I' (o + 1) k = nI x) := by
  intro f
  induction f with
  | zero => intro i pre s' a b; omega
  | succ f ih =>
    intro i pre s' g1 g2 g3 hs hc hp hr
    unfold L_X5_remove_4
    rw [hc o (by omega), h1]
    by_cases e : i = l.length
    · rw [if_pos (nI_le (by omega) (by omega)), e, List.drop_length]
      refine ⟨s'.1, by simp [← hs], hc, fun k x hx => hp k x (by simpa using hx)⟩
    · have hi : i < l.length := by omega
      have hx : l[i]? = some l[i] := List.getElem?_eq_getElem hi
      have hv := hr i _ (Nat.le_refl _) hx
      have h24 := h4 _ (List.getElem_mem hi)
      rw [if_neg (nI_ge hi (by omega)), if_neg (grd (n := 24) (by omega) (by omega)), nI_clamp (by omega), hv, isIn9_k h24, hX _ h24]
      simp only [Option.bind_some, nI_s]
      rw [List.drop_eq_getElem_cons hi]
      by_cases em : l[i] ∈ ex
      · rw [if_neg (by simp [em]), List.filter_cons_of_neg (by simp [em])]
        exact ih (i + 1) pre s' (by omega) (by omega) (by omega) hs hc hp (fun k x a b => hr k x (by omega) b)
      · rw [if_pos (by simp [em]), if_neg (grd (n := 24) (by omega) (by omega)), nI_clamp (by omega), List.filter_cons_of_pos (by simp [em])]
        have ep : pre ++ l[i] :: (l.drop (i + 1)).filter (fun x => !decide (x ∈ ex)) = (pre ++ [l[i]]) ++ (l.drop (i + 1)).filter (fun x => !decide (x ∈ ex)) := by simp
        have el : pre.length + 1 = (pre ++ [l[i]]).length := by simp
        rw [ep, el]
        rw [hv]
        apply ih (i + 1) (pre ++ [l[i]]) (xup s'.1 (o + 1) pre.length (nI l[i]), s'.2) (by omega) (by omega) (by simp; omega) hs
        · intro c q; dsimp only; rw [xup_ne q]; exact hc c q
        · intro k x q
          dsimp only
          rw [xup_eq]
          by_cases ek : k = pre.length
          · rw [if_pos ek]; rw [ek] at q; simp at q; rw [q]
          · rw [if_neg ek]
            apply hp
            rw [List.getElem?_append] at q
            by_cases hk : k < pre.length
            · rwa [if_pos hk] at q
            · rw [if_neg hk] at q
              have : ([l[i]] : List Nat)[k - pre.length]? = none := by apply List.getElem?_eq_none; simp; omega
              rw [this] at q; cases q
        · intro k x q1 q2
          dsimp only
          rw [xup_j (by omega)]
          exact hr k x (by omega) q2
theorem remove_k {X : Int32} {ex : List Nat} (h : CL s o l) (hX : ∀ t, t < 32 → bt X t = decide (t ∈ ex)) : ∃ I', F_X5_remove o X s = some (I', s.2) ∧ CL (I', s.2) o (l.filter (fun x => !decide (x ∈ ex))) ∧ Fr s.1 I' o := by
  have hlen := CL_len h
  obtain ⟨h1, h2, h3, h4, h5⟩ := id h
  obtain ⟨I', q1, q2, q3⟩ := remove_loop (o := o) hlen (fun t ht => hX t (by omega)) h1 h4 300 0 [] s (by omega) (by omega) (by simp) rfl (fun _ _ => rfl) (fun k x hx => by simp at hx) (fun k x _ hx => h2 k x hx)
  simp only [List.length_nil, List.nil_append, List.drop_zero] at q1 q3
  rw [nI_0] at q1
  unfold F_X5_remove
  rw [q1]
  simp only [Option.bind_some]
  have no' : o + 1 ≠ o := by omega
  have eo : I' o = s.1 o := q2 o (by omega)
  refine ⟨_, rfl, ⟨?_, fun k x hx => ?_, h3.filter _, fun x hx => h4 x (List.mem_filter.mp hx).1, fun t ht => ?_⟩, fun c w1 w2 => ?_⟩
  · dsimp only; rw [xup_j (by omega), xup_eq, if_pos rfl]
  · dsimp only; rw [xup_ne no', xup_ne no']; exact q3 k x hx
  · dsimp only
    rw [xup_eq, if_pos rfl, xup_j (by omega), eo, b_and, b_xor, b_m1 t ht, h5 t ht, hX t ht]
    by_cases m1 : t ∈ l <;> by_cases m2 : t ∈ ex <;> simp [m1, m2]
  · rw [xup_ne w1, xup_ne w1]; exact q2 c w2
theorem lat_k {k : Nat} (h : CL s o l) (hk : l[k]? = some x) : F_X5_at o (nI k) s = some (nI x, s) := by
  have hl := (List.getElem?_eq_some_iff.mp hk).1
  rw [at_k (CL_len h) h.1 hl, h.2.1 k x hk]
end
