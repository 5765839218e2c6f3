def runm : Option (Option Value × xM) := match runx with
  | some (none, M) => ev 4000 10 mX10_init 0 (xentry mX10_init.2.2.1 [.ref 94]) [] (M.1 ++ [(10, 37, List.replicate 37 none)], xz M.2.1 M.1.length 0, xz M.2.2 M.1.length 0)
  | _ => none
def chkm : Bool := match runm with
  | some (none, M) => decide (M.1 = SH) && chkMem M 0 SH
  | _ => false
set_option maxRecDepth 1000000 in
theorem chkm_ok : chkm = true := by decide +kernel
theorem chkCell_spec {M : xM} {c : Nat} : ∀ (n : Nat), chkCell M c n = true → ∀ j, j < n → M.2.1 c j = expI c j ∧ M.2.2 c j = expJ c j
  | 0, _, j, h => by omega
  | n + 1, h, j, hj => by
    simp only [chkCell, Bool.and_eq_true, decide_eq_true_eq] at h
    by_cases e : j = n
    · subst e; exact ⟨h.1, h.2.1⟩
    · exact chkCell_spec n h.2.2 j (by omega)
theorem chkMem_spec {M : xM} : ∀ (sh : List xSh) (c0 : Nat), chkMem M c0 sh = true → ∀ (c : Nat) (s : xSh), sh[c]? = some s → ∀ j, j < s.2.1 → M.2.1 (c0 + c) j = expI (c0 + c) j ∧ M.2.2 (c0 + c) j = expJ (c0 + c) j
  | [], c0, _, c, s, h, j, hj => by simp at h
  | x :: sh, c0, h, c, s, hs, j, hj => by
    simp only [chkMem, Bool.and_eq_true] at h
    match c, hs with
    | 0, hs => cases hs; exact chkCell_spec _ h.1 j hj
    | c + 1, hs =>
      have := chkMem_spec sh (c0 + 1) h.2 c s (by simpa using hs) j hj
      rwa [show c0 + (c + 1) = c0 + 1 + c by omega]
/-- both constructors, run -/
theorem init_runs : ∃ (M1 M2 : xM), ev 4000 10 mX9_init 0 (xentry mX9_init.2.2.1 [.ref 0]) [] M0x = some (none, M1) ∧ M1.1 = SH.take 94 ∧ ev 4000 10 mX10_init 0 (xentry mX10_init.2.2.1 [.ref 94]) [] (M1.1 ++ [(10, 37, List.replicate 37 none)], xz M1.2.1 M1.1.length 0, xz M1.2.2 M1.1.length 0) = some (none, M2) ∧ M2.1 = SH ∧ ∀ (c : Nat) (s : xSh), SH[c]? = some s → ∀ j, j < s.2.1 → M2.2.1 c j = expI c j ∧ M2.2.2 c j = expJ c j := by
  have h1 := chkx_ok
  have h2 := chkm_ok
  unfold chkx at h1
  unfold chkm at h2
  split at h1
  next M1 hr =>
    simp only [Bool.and_eq_true, decide_eq_true_eq] at h1
    split at h2
    next M2 hm =>
      simp only [Bool.and_eq_true, decide_eq_true_eq] at h2
      unfold runm at hm
      rw [hr] at hm
      refine ⟨M1, M2, hr, h1.1, hm, h2.1, fun c s hs j hj => ?_⟩
      have := chkMem_spec SH 0 h2.2 c s hs j hj
      rwa [Nat.zero_add] at this
    · cases h2
  · cases h1
