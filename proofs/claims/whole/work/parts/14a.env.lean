/-! the environment of a line, out of the cells -/
def mkE (s : St) (nT : Nat) (W : Wd) (L : List Tok) : LEnv := (nT, fun t => bt (s.1 1 2) t, fun t => (s.1 96 t).toNatClampNeg, fun t => if s.1 98 t = -4 then 99 else (s.1 98 t).toNatClampNeg, fun w t => bt (s.1 9 w) t, fun w t => bt (s.1 10 w) t, fun w => (s.1 101 w).toNatClampNeg, L.length, fun i => (match L[i]? with
    | some t => t.1
    | none => 28), fun i => (match L[i]? with
    | some t => t.2.1
    | none => 0), W.2.1)
def TkOK (W : Wd) (L : List Tok) : Prop := ∀ t ∈ L, t.1 < 27 ∧ (23 ≤ t.1 → t.1 ≤ 25 → t.2.1 < W.2.1 ∧ W.2.2.2 t.2.1 = t.1 - 23)
section
variable {s : St} {W : Wd} {bc : Nat → Nat} {n nT : Nat} {L : List Tok}
theorem tokOf_ok {l : List Nat} {t : Nat × Nat} (hW : WK s W) (hl : isW l) (h : tokOf W l = some t) : t.1 < 27 ∧ (23 ≤ t.1 → t.1 ≤ 25 → t.2 < W.2.1 ∧ W.2.2.2 t.2 = t.1 - 23) := by
  have h60 := hW.1
  rcases find_cases hW hl with ⟨j, hj, e1, e2⟩ | ⟨e1, e2⟩ | ⟨e1, w, hw, e2⟩
  · rw [tokOf_fix hj e1] at h; cases h
    exact ⟨by show j < 27; omega, fun x _ => by have x : 23 ≤ j := x; omega⟩
  · rw [tokOf_no e1 e2] at h; cases h
    exact ⟨by show 26 < 27; omega, fun _ y => by have y : 26 ≤ 25 := y; omega⟩
  · obtain ⟨t1, t2, t3⟩ := hW.2.2.2.2.2.1 w hw
    obtain ⟨u1, u2, u3⟩ := hW.2.2.2.2.2.2 _ t1
    rw [tokOf_w (by omega) e1 e2] at h
    by_cases c3 : W.2.2.2 (W.2.2.1 w) = 3
    · rw [if_pos c3] at h; cases h
    · rw [if_neg c3] at h; cases h
      refine ⟨by show 23 + W.2.2.2 (W.2.2.1 w) < 27; omega, fun _ _ => ⟨t1, ?_⟩⟩
      show W.2.2.2 (W.2.2.1 w) = 23 + W.2.2.2 (W.2.2.1 w) - 23
      omega
theorem TkL_ok (hW : WK s W) (bc : Nat → Nat) (n : Nat) : TkOK W (TkL W bc n n) := by
  intro t ht
  unfold TkL at ht
  obtain ⟨i, hi, e⟩ := List.mem_filterMap.mp ht
  have hi := List.mem_range.mp hi
  unfold tokAt at e
  by_cases c0 : lt (bc i) ≠ 0
  · rw [if_pos c0] at e
    by_cases c1 : 0 < i ∧ lt (bc (i - 1)) ≠ 0
    · rw [if_pos c1] at e; cases e
    · rw [if_neg c1] at e
      cases ho : tokOf W (rowL bc n 8 i) with
      | none => rw [ho] at e; cases e
      | some u =>
        rw [ho] at e; cases e
        exact tokOf_ok hW (rowL_W (by omega) hi c0) ho
  · rw [if_neg c0] at e
    by_cases c1 : bc i = 44
    · rw [if_pos c1] at e; cases e
      exact ⟨by show 21 < 27; omega, fun x _ => by have x : 23 ≤ 21 := x; omega⟩
    · rw [if_neg c1] at e
      by_cases c2 : bc i = 46
      · rw [if_pos c2] at e; cases e
        exact ⟨by show 22 < 27; omega, fun x _ => by have x : 23 ≤ 22 := x; omega⟩
      · rw [if_neg c2] at e; cases e
theorem mkE_k {i : Nat} {t : Tok} (h : L[i]? = some t) : ek (mkE s nT W L) i = t.1 ∧ ew (mkE s nT W L) i = t.2.1 := by
  constructor
  · show (match L[i]? with | some t => t.1 | none => 28) = t.1
    rw [h]
  · show (match L[i]? with | some t => t.2.1 | none => 0) = t.2.1
    rw [h]
theorem mkE_e {i : Nat} (h : L.length ≤ i) : ek (mkE s nT W L) i = 28 := by
  show (match L[i]? with | some t => t.1 | none => 28) = 28
  rw [List.getElem?_eq_none h]
theorem EOK_mk (hT : IT s nT) (hWw : IW s W.2.1) (hL : TkOK W L) (hl : L.length ≤ 200) : EOK (mkE s nT W L) := by
  obtain ⟨a1, a2, a3, a4, a5, a6, a7, a8⟩ := hT
  obtain ⟨b1, b2, b3, b4, -⟩ := hWw
  refine ⟨a1, a2, ?_, fun t ht => ?_, fun t ht => ?_, hl, fun i hi => mkE_e hi, fun i hi => ?_, fun i x y => ?_, b1, fun w hw => ?_⟩
  · show (s.1 96 0).toNatClampNeg = 1
    rw [a6]; rfl
  · obtain ⟨-, ⟨k, k1, k2⟩, -⟩ := a5 t ht
    show (s.1 96 t).toNatClampNeg < 4
    rw [k2, nI_clamp (by omega)]; exact k1
  · obtain ⟨-, -, -, ho, -⟩ := a5 t ht
    show (if s.1 98 t = -4 then 99 else (s.1 98 t).toNatClampNeg) < nT ∨ (if s.1 98 t = -4 then 99 else (s.1 98 t).toNatClampNeg) = 99
    rcases ho with ho | ⟨o, o1, o2⟩
    · rw [if_pos ho]; exact Or.inr rfl
    · rw [o2, if_neg (nI_m4 (by omega)), nI_clamp (by omega)]; exact Or.inl o1
  · have hx : L[i]? = some L[i] := List.getElem?_eq_getElem hi
    rw [(mkE_k hx).1]
    exact (hL _ (List.getElem_mem hi)).1
  · have hi : i < L.length := by
      rcases Nat.lt_or_ge i L.length with q | q
      · exact q
      · rw [mkE_e q] at y; omega
    have hx : L[i]? = some L[i] := List.getElem?_eq_getElem hi
    rw [(mkE_k hx).1] at x y
    rw [(mkE_k hx).2]
    exact ((hL _ (List.getElem_mem hi)).2 x y).1
  · obtain ⟨-, -, -, ⟨k, k1, k2⟩, -⟩ := b4 w hw
    show (s.1 101 w).toNatClampNeg < 4
    rw [k2, nI_clamp (by omega)]; exact k1
theorem CE_mk {s1 : St} (hT : IT s nT) (hWw : IW s W.2.1) (e : ∀ c, c ≤ 11 → s1.1 c = s.1 c) (hC : TC s1 L) : CE s1 (mkE s nT W L) := by
  obtain ⟨a1, a2, a3, a4, a5, a6, a7, a8⟩ := hT
  obtain ⟨b1, b2, b3, b4, -⟩ := hWw
  unfold CE
  rw [e 1 (by omega), e 2 (by omega), e 3 (by omega), e 4 (by omega), e 8 (by omega), e 9 (by omega), e 10 (by omega)]
  refine ⟨a3, fun t ht => ?_, fun t ht => rfl, fun t ht => ?_, b2, fun w t hw ht => ⟨rfl, rfl⟩, fun w hw => ?_, hC.1, fun i hi => ?_, fun i x y => ?_⟩
  · obtain ⟨h1, ⟨k, k1, k2⟩, -⟩ := a5 t ht
    show _ = nI (s.1 96 t).toNatClampNeg
    rw [h1, k2, nI_clamp (by omega)]
  · obtain ⟨-, -, h3, ho, -⟩ := a5 t ht
    show s.1 3 t = if (if s.1 98 t = -4 then 99 else (s.1 98 t).toNatClampNeg) = 99 then -4 else nI (if s.1 98 t = -4 then 99 else (s.1 98 t).toNatClampNeg)
    rw [h3]
    rcases ho with ho | ⟨o, o1, o2⟩
    · rw [if_pos ho, if_pos rfl]; exact ho
    · rw [o2, if_neg (nI_m4 (by omega)), nI_clamp (by omega), if_neg (by omega)]
  · obtain ⟨-, -, h8, ⟨k, k1, k2⟩, -⟩ := b4 w hw
    show _ = nI (s.1 101 w).toNatClampNeg
    rw [h8, k2, nI_clamp (by omega)]
  · have hx : L[i]? = some L[i] := List.getElem?_eq_getElem hi
    rw [(mkE_k hx).1]
    exact (hC.2 i _ hx).1
  · have hi : i < L.length := by
      rcases Nat.lt_or_ge i L.length with q | q
      · exact q
      · rw [mkE_e q] at y; omega
    have hx : L[i]? = some L[i] := List.getElem?_eq_getElem hi
    rw [(mkE_k hx).1] at x y
    rw [(mkE_k hx).2]
    exact (hC.2 i _ hx).2.1 x y
theorem ME_mk {s2 : St} (hT : IT s nT) (hWw : IW s W.2.1) (hW : WK s W) (hL : TkOK W L) (e : ∀ c, 96 ≤ c → c ≤ 103 → s2.1 c = s.1 c) (e1 : s2.1 94 1 = s.1 94 1) (hM : TM s2 (L ++ [(28, 0, n)])) : ME s2 (mkE s nT W L) := by
  obtain ⟨a1, a2, a3, a4, a5, a6, a7, a8⟩ := hT
  obtain ⟨b1, b2, b3, b4, b5, b6, -⟩ := hWw
  unfold ME
  rw [e 96 (by omega) (by omega), e 97 (by omega) (by omega), e 98 (by omega) (by omega), e 100 (by omega) (by omega), e 101 (by omega) (by omega), e 103 (by omega) (by omega), e1]
  refine ⟨a4, fun t ht => ?_, fun t ht => (a5 t ht).2.2.2.2, fun t ht => ?_, fun w hw => ?_, fun w t hw ht => ?_, fun i hi => ?_, fun i x y => ?_⟩
  · obtain ⟨h1, ⟨k, k1, k2⟩, -⟩ := a5 t ht
    show _ = nI (s.1 96 t).toNatClampNeg
    rw [k2, nI_clamp (by omega)]
  · obtain ⟨-, -, h3, ho, -⟩ := a5 t ht
    show s.1 98 t = if (if s.1 98 t = -4 then 99 else (s.1 98 t).toNatClampNeg) = 99 then -4 else nI (if s.1 98 t = -4 then 99 else (s.1 98 t).toNatClampNeg)
    rcases ho with ho | ⟨o, o1, o2⟩
    · rw [if_pos ho, if_pos rfl]; exact ho
    · rw [o2, if_neg (nI_m4 (by omega)), nI_clamp (by omega), if_neg (by omega)]
  · obtain ⟨-, -, h8, ⟨k, k1, k2⟩, -⟩ := b4 w hw
    show _ = nI (s.1 101 w).toNatClampNeg
    rw [k2, nI_clamp (by omega)]
  · have hw : w < W.2.1 := hw
    exact b6 w t (by omega) ht
  · have hi : i ≤ L.length := hi
    rcases Nat.lt_or_ge i L.length with q | q
    · have hx : L[i]? = some L[i] := List.getElem?_eq_getElem q
      have := (hM.2 i L[i] (by rw [List.getElem?_append_left q]; exact hx)).1
      rw [this]
      unfold encT encN
      rw [(mkE_k hx).1, (mkE_k hx).2]
    · have e : i = L.length := by omega
      have := (hM.2 i (28, 0, n) (by rw [e]; simp)).1
      rw [this]
      unfold encN
      rw [mkE_e q]
      rfl
  · have hi : i < L.length := by
      rcases Nat.lt_or_ge i L.length with q | q
      · exact q
      · rw [mkE_e q] at y; omega
    have hx : L[i]? = some L[i] := List.getElem?_eq_getElem hi
    rw [(mkE_k hx).1] at x y
    rw [(mkE_k hx).2, (mkE_k hx).1]
    obtain ⟨u1, u2⟩ := (hL _ (List.getElem_mem hi)).2 x y
    rw [← u2]
    exact (hW.2.2.2.2.2.2 _ u1).2.2
end
