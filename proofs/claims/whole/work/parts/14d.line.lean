section
variable {s : St} {W : Wd} {bc : Nat → Nat} {n nT : Nat} {L : List Tok}
/-- the class begins a line -/
theorem begin_k (hb : BY s n bc) (hW : WK s W) (hc : s.1 12 1 = nI n) : ∃ s1, (∀ {α : Type} (K : St → Option α), ((F_X2_begin s).bind fun q1 => (F_X4_clear q1).bind K) = K s1) ∧ s1.2 = s.2 ∧ (∀ c, c ≠ 12 → c ≠ 23 → c ≠ 80 → ¬ (81 ≤ c ∧ c ≤ 84) → s1.1 c = s.1 c) ∧ s1.1 12 1 = 0 ∧ s1.1 23 2 = 0 ∧ s1.1 23 3 = s.1 23 3 ∧ s1.1 80 8 = 0 ∧ s1.1 80 9 = 0 ∧ s1.1 81 4 = nI n ∧
    ((∀ j, j < n → okB (bc j)) → TC s1 (TkL W bc n n)) ∧ (∀ j, j < n → (∀ j', j' < j → okB (bc j')) → ¬ okB (bc j) → s1.1 81 3 = 1 ∧ s1.1 82 0 = 27 ∧ s1.1 84 0 = nI j) := by
  have h200 := hb.1
  obtain ⟨I, hI⟩ : ∃ I : Nat → Nat → Int32, I = xup (xup s.1 81 3 0) 81 4 (nI n) := ⟨_, rfl⟩
  have ic : ∀ c, c ≠ 81 → I c = s.1 c := fun c x => by rw [hI, xup_ne x, xup_ne x]
  have i4 : I 81 4 = nI n := by rw [hI, xup_eq, if_pos rfl]
  have i3 : I 81 3 = 0 := by rw [hI, xup_j (by omega), xup_eq, if_pos rfl]
  have hsp : F_X7_split s = L_X7_split_9 300 0 (I, s.2) := by
    unfold F_X7_split
    dsimp only
    rw [xup_ne (show 12 ≠ 81 by omega), hc, hI]
  have hbI : BY (I, s.2) n bc := BY_congr hb (ic 13 (by omega)) (ic 104 (by omega))
  have hWI : WK (I, s.2) W := WK_congr hW rfl (fun c x => ic c (by omega)) (by dsimp only; rw [ic 94 (by omega)])
  obtain ⟨s2, q1, q2, q3, q4⟩ := split_k hb 300 0 (I, s.2) hbI (by dsimp only; rw [ic 12 (by omega)]; exact hc) i4 hWI (by omega) (by omega) ⟨by dsimp only; rw [i3]; rfl, fun i t h => by simp [TkL] at h⟩
  rw [nI_0] at q1
  refine ⟨(xup (xup (xup (xup (xup s2.1 23 2 0) 80 8 0) 80 9 0) 80 10 0) 12 1 0, s2.2), fun K => ?_, q2.1, fun c x y z w => ?_, ?_, ?_, ?_, ?_, ?_, ?_, fun h => ?_, fun j x y z => ?_⟩
  · unfold F_X2_begin
    rw [hsp, q1]
    rfl
  · dsimp only; rw [xup_ne x, xup_ne z, xup_ne z, xup_ne z, xup_ne y, q2.2.1 c w]; exact ic c (by omega)
  · dsimp only; rw [xup_eq, if_pos rfl]
  · dsimp only; rw [xup_ne (by omega), xup_ne (by omega), xup_ne (by omega), xup_ne (by omega), xup_eq, if_pos rfl]
  · dsimp only; rw [xup_ne (by omega), xup_ne (by omega), xup_ne (by omega), xup_ne (by omega), xup_j (by omega), q2.2.1 23 (by omega)]; dsimp only; rw [ic 23 (by omega)]
  · dsimp only; rw [xup_ne (by omega), xup_j (by omega), xup_j (by omega), xup_eq, if_pos rfl]
  · dsimp only; rw [xup_ne (by omega), xup_j (by omega), xup_eq, if_pos rfl]
  · dsimp only; rw [xup_ne (by omega), xup_ne (by omega), xup_ne (by omega), xup_ne (by omega), xup_ne (by omega), q2.2.2 4 (by omega)]; exact i4
  · have := q3 (fun j _ y => h j y)
    unfold TC at this ⊢
    dsimp only
    rw [xup_ne (show 81 ≠ 12 by omega), xup_ne (show 81 ≠ 80 by omega), xup_ne (show 81 ≠ 80 by omega), xup_ne (show 81 ≠ 80 by omega), xup_ne (show 81 ≠ 23 by omega), xup_ne (show 82 ≠ 12 by omega), xup_ne (show 82 ≠ 80 by omega), xup_ne (show 82 ≠ 80 by omega), xup_ne (show 82 ≠ 80 by omega), xup_ne (show 82 ≠ 23 by omega), xup_ne (show 83 ≠ 12 by omega), xup_ne (show 83 ≠ 80 by omega), xup_ne (show 83 ≠ 80 by omega), xup_ne (show 83 ≠ 80 by omega), xup_ne (show 83 ≠ 23 by omega), xup_ne (show 84 ≠ 12 by omega), xup_ne (show 84 ≠ 80 by omega), xup_ne (show 84 ≠ 80 by omega), xup_ne (show 84 ≠ 80 by omega), xup_ne (show 84 ≠ 23 by omega)]
    exact this
  · have := q4 j (by omega) x (fun j' _ b => y j' b) z
    dsimp only
    rw [xup_ne (show 81 ≠ 12 by omega), xup_ne (show 81 ≠ 80 by omega), xup_ne (show 81 ≠ 80 by omega), xup_ne (show 81 ≠ 80 by omega), xup_ne (show 81 ≠ 23 by omega), xup_ne (show 82 ≠ 12 by omega), xup_ne (show 82 ≠ 80 by omega), xup_ne (show 82 ≠ 80 by omega), xup_ne (show 82 ≠ 80 by omega), xup_ne (show 82 ≠ 23 by omega), xup_ne (show 84 ≠ 12 by omega), xup_ne (show 84 ≠ 80 by omega), xup_ne (show 84 ≠ 80 by omega), xup_ne (show 84 ≠ 80 by omega), xup_ne (show 84 ≠ 23 by omega)]
    exact this
/-- the model begins a line -/
theorem cut_k (hb : BY s n bc) (hW : WK s W) : ((∀ j, j < n → okB (bc j)) → ∃ s1, F_X10_cuts (nI n) s = some (1, s1) ∧ FM s s1 ∧ TM s1 (TkL W bc n n ++ [(28, 0, n)])) ∧
    (∀ j, j < n → (∀ j', j' < j → okB (bc j')) → ¬ okB (bc j) → ∃ s1, F_X10_cuts (nI n) s = some (0, s1) ∧ s1.2 = s.2 ∧ (∀ c, c ≠ 94 → s1.1 c = s.1 c) ∧ (∀ i, i ≠ 15 → i ≠ 17 → i ≠ 18 → s1.1 94 i = s.1 94 i) ∧ s1.1 94 17 = 1 ∧ s1.1 94 18 = nI j) := by
  have h200 := hb.1
  have f0 : FM s (xup s.1 94 15 0, s.2) := ⟨rfl, fun c x _ _ => by dsimp only; rw [xup_ne x], fun j x => by dsimp only; rw [xup_j x]⟩
  have hb0 : BY (xup s.1 94 15 0, s.2) n bc := BY_congr hb (by dsimp only; rw [xup_ne (by omega)]) (by dsimp only; rw [xup_ne (by omega)])
  have hW0 : WK (xup s.1 94 15 0, s.2) W := WK_congr hW rfl (fun c x => by dsimp only; rw [xup_ne (by omega)]) (by dsimp only; rw [xup_j (by omega)])
  obtain ⟨g1, g2⟩ := cuts5 hb0 300 0 (by omega) (by omega)
  have he : F_X10_cuts (nI n) s = L_X10_cuts_5 300 (nI n) (nI 0) (xup s.1 94 15 0, s.2) := rfl
  refine ⟨fun h => ?_, fun j x y z => ?_⟩
  · obtain ⟨s1, q1, q2, q3⟩ := cuts36 (W := W) h200 h 300 0 (xup s.1 94 15 0, s.2) hb0 hW0 (by omega) (by omega) (Or.inr (Or.inr (Or.inl rfl))) ⟨by dsimp only; rw [xup_eq, if_pos rfl]; rfl, fun i t h => by simp [TkL] at h⟩
    rw [nI_0] at q1
    obtain ⟨s2, p1, p2, p3⟩ := comes_k (t := (28, 0, n)) (v := 33) q3 (by have := TkL_len W bc n n; omega) rfl
    dsimp only at p1
    rw [he, g1 (fun j _ y => h j y), q1, Option.bind_some, p1, Option.bind_some]
    exact ⟨s2, rfl, FM_trans f0 (FM_trans q2 p3), p2⟩
  · rw [he, g2 j (by omega) x (fun j' _ b => y j' b) z]
    refine ⟨_, rfl, rfl, fun c hc => ?_, fun i x y z => ?_, ?_, ?_⟩
    · dsimp only; rw [xup_ne hc, xup_ne hc, xup_ne hc]
    · dsimp only; rw [xup_j z, xup_j y, xup_j x]
    · dsimp only; rw [xup_j (by omega), xup_eq, if_pos rfl]
    · dsimp only; rw [xup_eq, if_pos rfl]
/-- the invariant after a line -/
theorem INV_line {s s' : St} {E : LEnv} {A : Ab} {nW : Nat} (hT : IT s nT) (hW : IW s nW) (hX : IX s) (e2 : s'.2 = s.2) (ec : ∀ c, c ≤ 11 ∨ (96 ≤ c ∧ c ≤ 103) → s'.1 c = s.1 c) (e1 : s'.1 94 1 = s.1 94 1) (e5 : s'.1 94 5 = s.1 94 5) (e12 : s'.1 12 1 = 0) (e94 : s'.1 94 12 = 0) (hC : CA s' A) (hM : MA s' A) (hok : AOK E A) (hE : eT E = nT) (hF : s'.1 80 9 = s'.1 94 17) : INV s' := by
  refine ⟨nT, nW, 0, A.2.1.length, IT_congr hT (ec _ (by omega)) (ec _ (by omega)) (ec _ (by omega)) (ec _ (by omega)) (ec _ (by omega)) (ec _ (by omega)) e1, IW_congr hW (fun c a b => ec c (by omega)) (fun c a b => ec c (by omega)) e5 (by rw [e2]) (by rw [e2]), IX_congr hX (by rw [e2]) (by rw [e2]), ⟨by omega, e12, e94, fun i hi => by omega⟩, IP_of hC hM hok hE, IO_of hC hM hok hE, hF⟩
end
