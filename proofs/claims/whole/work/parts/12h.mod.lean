/-- an order of the model -/
def MOg (za zv zp : Int32) (f g : Nat → Int32) (zf zg : Int32) (r : Ord) : Prop := za = nI r.1 ∧ zv = nI r.2.1 ∧ zp = r.2.2.1 ∧ ML f zf r.2.2.2.1 ∧ ML g zg r.2.2.2.2
def MOr (s : St) (i : Nat) (r : Ord) : Prop := MOg (s.1 107 i) (s.1 108 i) (s.1 109 i) (fun k => s.1 110 (48 * i + k)) (fun k => s.1 110 (48 * i + 24 + k)) (s.1 111 (2 * i)) (s.1 111 (2 * i + 1)) r
def MLa (s : St) (r : Ord) : Prop := MOg (s.1 94 26) (s.1 94 27) (s.1 94 28) (fun k => s.1 112 k) (fun k => s.1 112 (24 + k)) (s.1 113 0) (s.1 113 1) r
/-- all that the model keeps -/
def MA (s : St) (A : Ab) : Prop := MT s A.1 ∧ s.1 94 24 = nI A.2.1.length ∧ A.2.1.length ≤ 10 ∧ s.1 94 25 = A.2.2.2 ∧ (∀ i r, A.2.1[i]? = some r → MOr s i r) ∧ MLa s A.2.2.1
/-- the same, but for the table, and a draft behind the orders -/
def MB (s : St) (A : Ab) (T : Nat → List Nat) (r : Ord) : Prop := MA s (T, A.2) ∧ MOr s A.2.1.length r
theorem ML_f {f f' : Nat → Int32} {z z' : Int32} {l : List Nat} (h : ML f z l) (hz : z' = z) (hf : ∀ k, k < 24 → f' k = f k) (hl : l.length ≤ 24) : ML f' z' l := by
  refine ⟨hz.trans h.1, fun k x hx => ?_⟩
  rw [hf k (by have := (List.getElem?_eq_some_iff.mp hx).1; omega)]
  exact h.2 k x hx
theorem MOr_congr {s s' : St} {i : Nat} {r : Ord} (h : MOr s i r) (e : ∀ c, 107 ≤ c → c ≤ 111 → s'.1 c = s.1 c) : MOr s' i r := by
  unfold MOr at h ⊢
  rw [e 107 (by omega) (by omega), e 108 (by omega) (by omega), e 109 (by omega) (by omega), e 110 (by omega) (by omega), e 111 (by omega) (by omega)]
  exact h
theorem MLa_congr {s s' : St} {r : Ord} (h : MLa s r) (e2 : s'.1 112 = s.1 112) (e3 : s'.1 113 = s.1 113) (e4 : ∀ j, 26 ≤ j → j ≤ 28 → s'.1 94 j = s.1 94 j) : MLa s' r := by
  unfold MLa at h ⊢
  rw [e2, e3, e4 26 (by omega) (by omega), e4 27 (by omega) (by omega), e4 28 (by omega) (by omega)]
  exact h
theorem MA_congr {s s' : St} {A : Ab} (h : MA s A) (e : ∀ c, 107 ≤ c → c ≤ 115 → s'.1 c = s.1 c) (e4 : ∀ j, 24 ≤ j → j ≤ 28 → s'.1 94 j = s.1 94 j) : MA s' A := by
  obtain ⟨h1, h2, h3, h4, h5, h6⟩ := h
  refine ⟨?_, by rw [e4 24 (by omega) (by omega)]; exact h2, h3, by rw [e4 25 (by omega) (by omega)]; exact h4, fun i r hr => MOr_congr (h5 i r hr) (fun c a b => e c a (by omega)), MLa_congr h6 (e _ (by omega) (by omega)) (e _ (by omega) (by omega)) (fun j a b => e4 j (by omega) b)⟩
  unfold MT at h1 ⊢
  rw [e 114 (by omega) (by omega), e 115 (by omega) (by omega)]
  exact h1
theorem MB_congr {s s' : St} {A : Ab} {T : Nat → List Nat} {r : Ord} (h : MB s A T r) (e : ∀ c, 107 ≤ c → c ≤ 115 → s'.1 c = s.1 c) (e4 : ∀ j, 24 ≤ j → j ≤ 28 → s'.1 94 j = s.1 94 j) : MB s' A T r :=
  ⟨MA_congr h.1 e e4, MOr_congr h.2 (fun c a b => e c a (by omega))⟩
theorem MB_MF2 {s s' : St} {A : Ab} {T : Nat → List Nat} {r : Ord} (h : MB s A T r) (m : MF2 s s') : MB s' A T r :=
  MB_congr h (fun c a b => m.2.1 c (by omega) (by omega) (by omega)) (fun j a b => m.2.2 j (by omega) (by omega) (by omega) (by omega) (by omega))
theorem MA_MF2 {s s' : St} {A : Ab} (h : MA s A) (m : MF2 s s') : MA s' A :=
  MA_congr h (fun c a b => m.2.1 c (by omega) (by omega) (by omega)) (fun j a b => m.2.2 j (by omega) (by omega) (by omega) (by omega) (by omega))
/-- copied so far, to the cell d from bd on -/
def CP (s s' : St) (d bd : Nat) (l : List Nat) (k : Nat) : Prop := s'.2 = s.2 ∧ (∀ c, c ≠ d → s'.1 c = s.1 c) ∧ (∀ j, (j < bd ∨ bd + 24 ≤ j) → s'.1 d j = s.1 d j) ∧ (∀ i x, i < k → l[i]? = some x → s'.1 d (bd + i) = nI x)
theorem CP_0 (s : St) (d bd : Nat) (l : List Nat) : CP s s d bd l 0 := ⟨rfl, fun _ _ => rfl, fun _ _ => rfl, fun i x h => by omega⟩
theorem CP_step {s s' : St} {d bd k x : Nat} {l : List Nat} (h : CP s s' d bd l k) (hx : l[k]? = some x) (hk : k < 24) : CP s (xup s'.1 d (bd + k) (nI x), s'.2) d bd l (k + 1) := by
  obtain ⟨h1, h2, h3, h4⟩ := h
  refine ⟨h1, fun c q => ?_, fun j q => ?_, fun i y q1 q2 => ?_⟩
  · dsimp only; rw [xup_ne q]; exact h2 c q
  · dsimp only; rw [xup_j (by omega)]; exact h3 j q
  · dsimp only; rw [xup_eq]
    by_cases e : i = k
    · rw [if_pos (by rw [e])]
      rw [e, hx] at q2; rw [Option.some.inj q2]
    · rw [if_neg (by omega)]; exact h4 i y (by omega) q2
theorem CP_end {s s' : St} {d bd k x : Nat} {l : List Nat} (h : CP s s' d bd l l.length) (hx : l[k]? = some x) : s'.1 d (bd + k) = nI x := h.2.2.2 k x (List.getElem?_eq_some_iff.mp hx).1 hx
section
variable {s : St} {E : LEnv} {T : Nat → List Nat} {a b p actor n sd : Nat} {l : List Nat}
theorem nI4824 {n sd k : Nat} : (48 : Int32) * nI n + (24 : Int32) * nI sd + nI k = nI (48 * n + 24 * sd + k) := by rw [nI48, nI24, nI_add, nI_add]
theorem keeps13 (hn : n < 10) (hsd : sd < 2) (h24 : s.1 94 24 = nI n) (hl : ML (s.1 117) (s.1 94 36) l) (hlen : l.length ≤ 24) : ∀ f k (s' : St), k ≤ l.length → l.length < f + k → CP s s' 110 (48 * n + 24 * sd) l k →
    ∃ s'', L_X10_keeps_13 f (nI sd) (nI k) s' = some s'' ∧ CP s s'' 110 (48 * n + 24 * sd) l l.length := by
  intro f
  induction f with
  | zero => intro k s' h1 h2; omega
  | succ f ih =>
    intro k s' h1 h2 hc
    unfold L_X10_keeps_13
    rw [hc.2.1 94 (by omega), hl.1]
    by_cases e : k = l.length
    · rw [if_pos (nI_le (by omega) (by omega))]
      subst e
      exact ⟨s', rfl, hc⟩
    · have hk : k < l.length := by omega
      have hx : l[k]? = some l[k] := List.getElem?_eq_getElem hk
      rw [if_neg (nI_ge hk (by omega)), if_neg (grd (n := 24) (by omega) (by omega)), h24, nI4824, if_neg (grd (n := 480) (by omega) (by omega)), nI_clamp (by omega), nI_clamp (by omega), hc.2.1 117 (by omega), hl.2 k _ hx, nI_s]
      exact ih (k + 1) _ (by omega) (by omega) (CP_step hc hx (by omega))
/-- the list is kept in the draft -/
theorem keeps_k (hn : n < 10) (hsd : sd < 2) (h24 : s.1 94 24 = nI n) (hl : ML (s.1 117) (s.1 94 36) l) (hlen : l.length ≤ 24) :
    ∃ s', F_X10_keeps (nI sd) s = some s' ∧ s'.2 = s.2 ∧ (∀ c, c ≠ 110 → c ≠ 111 → s'.1 c = s.1 c) ∧ (∀ j, j ≠ 2 * n + sd → s'.1 111 j = s.1 111 j) ∧ (∀ j, (j < 48 * n + 24 * sd ∨ 48 * n + 24 * sd + 24 ≤ j) → s'.1 110 j = s.1 110 j) ∧ ML (fun k => s'.1 110 (48 * n + 24 * sd + k)) (s'.1 111 (2 * n + sd)) l := by
  unfold F_X10_keeps
  rw [h24, nI2, nI_add, if_neg (grd (n := 20) (by omega) (by omega)), nI_clamp (by omega)]
  dsimp only
  have hl' : ML ((xup s.1 111 (2 * n + sd) (s.1 94 36), s.2).1 117) ((xup s.1 111 (2 * n + sd) (s.1 94 36), s.2).1 94 36) l := by
    dsimp only; rw [xup_ne (by omega), xup_ne (by omega)]; exact hl
  obtain ⟨s', q1, q2⟩ := keeps13 (s := (xup s.1 111 (2 * n + sd) (s.1 94 36), s.2)) (n := n) hn hsd (by dsimp only; rw [xup_ne (by omega)]; exact h24) hl' hlen 300 0 _ (by omega) (by omega) (CP_0 _ _ _ _)
  rw [nI_0] at q1
  rw [q1]
  refine ⟨s', rfl, q2.1, fun c c1 c2 => ?_, fun j hj => ?_, fun j hj => ?_, ?_, fun k x hx => CP_end q2 hx⟩
  · rw [q2.2.1 c c1]; dsimp only; rw [xup_ne c2]
  · rw [q2.2.1 111 (by omega)]; dsimp only; rw [xup_j hj]
  · rw [q2.2.2.1 j hj]; dsimp only; rw [xup_ne (by omega)]
  · rw [q2.2.1 111 (by omega)]; dsimp only; rw [xup_eq, if_pos rfl]; exact hl.1
theorem sets50 {at_ : Nat} (hp : p < 4) (hat : at_ + 24 ≤ 480) (hl : ∀ k x, l[k]? = some x → s.1 110 (at_ + k) = nI x) (hlen : l.length ≤ 24) : ∀ f k (s' : St), k ≤ l.length → l.length < f + k → CP s s' 114 (24 * p) l k →
    ∃ s'', L_X10_sets_50 f (nI l.length) (nI at_) (nI p) (nI k) s' = some s'' ∧ CP s s'' 114 (24 * p) l l.length := by
  intro f
  induction f with
  | zero => intro k s' h1 h2; omega
  | succ f ih =>
    intro k s' h1 h2 hc
    unfold L_X10_sets_50
    by_cases e : k = l.length
    · rw [if_pos (nI_le (by omega) (by omega))]
      subst e
      exact ⟨s', rfl, hc⟩
    · have hk : k < l.length := by omega
      have hx : l[k]? = some l[k] := List.getElem?_eq_getElem hk
      rw [if_neg (nI_ge hk (by omega)), nI_add, if_neg (grd (n := 480) (by omega) (by omega)), nI24, nI_add, if_neg (grd (n := 96) (by omega) (by omega)), nI_clamp (by omega), nI_clamp (by omega), hc.2.1 110 (by omega), hl k _ hx, nI_s]
      exact ih (k + 1) _ (by omega) (by omega) (CP_step hc hx (by omega))
/-- the table with one line changed -/
theorem MT_up {s' : St} (hT : MT s T) (hp : p < 4) (h5 : s'.1 115 p = nI l.length) (h5' : ∀ q, q ≠ p → s'.1 115 q = s.1 115 q) (h4 : ∀ k x, l[k]? = some x → s'.1 114 (24 * p + k) = nI x) (h4' : ∀ j, (j < 24 * p ∨ 24 * p + 24 ≤ j) → s'.1 114 j = s.1 114 j) (hlen : ∀ q, q < 4 → (T q).length ≤ 24) : MT s' (up T p l) := by
  intro q hq
  unfold up
  by_cases e : q = p
  · rw [if_pos e, e]; exact ⟨h5, h4⟩
  · rw [if_neg e]
    exact ML_f (hT q hq) (h5' q e) (fun k hk => h4' _ (by omega)) (hlen q hq)
theorem sets30 {at_ : Nat} (hE : EOK E) (hs : ME s E) (hT : MT s T) (hTo : TOK E T) (hat : at_ + 24 ≤ 480) (hl : ∀ k x, l[k]? = some x → s.1 110 (at_ + k) = nI x) (hn : l.Nodup) (hlt : ∀ x ∈ l, x < eT E) (hne : l ≠ []) (h0 : l ≠ [0]) :
    ∃ s', J_X10_sets_30 (nI l.length) (nI at_) s = some s' ∧ s'.2 = s.2 ∧ (∀ c, c ≠ 114 → c ≠ 115 → s'.1 c = s.1 c) ∧ MT s' (learn E T l) := by
  have h24 := hE.2.1
  have hlen : l.length ≤ 24 := by have := pig (eT E) l hn hlt; omega
  have hTl : ∀ q, q < 4 → (T q).length ≤ 24 := fun q hq => TOK_len hE hTo hq
  have key : ∀ p, p < 4 → ∃ s', ((L_X10_sets_50 300 (nI l.length) (nI at_) (nI p) 0 (xup s.1 115 p (nI l.length), s.2)).bind fun q15 => some q15) = some s' ∧ s'.2 = s.2 ∧ (∀ c, c ≠ 114 → c ≠ 115 → s'.1 c = s.1 c) ∧ MT s' (up T p l) := by
    intro p hp
    obtain ⟨s', q1, q2⟩ := sets50 (s := (xup s.1 115 p (nI l.length), s.2)) hp hat (fun k x hx => by dsimp only; rw [xup_ne (by omega)]; exact hl k x hx) hlen 300 0 _ (by omega) (by omega) (CP_0 _ _ _ _)
    rw [nI_0] at q1
    rw [q1]
    refine ⟨s', rfl, q2.1, fun c c1 c2 => by rw [q2.2.1 c c1]; dsimp only; rw [xup_ne c2], MT_up hT hp ?_ (fun q hq => ?_) (fun k x hx => CP_end q2 hx) (fun j hj => ?_) hTl⟩
    · rw [q2.2.1 115 (by omega)]; dsimp only; rw [xup_eq, if_pos rfl]
    · rw [q2.2.1 115 (by omega)]; dsimp only; rw [xup_j hq]
    · rw [q2.2.2.1 j hj]; dsimp only; rw [xup_ne (by omega)]
  unfold J_X10_sets_30
  match l, hne, h0, hn, hlt, hl, hlen, key with
  | [x], _, h0, _, hlt, hl, _, key =>
    have hx := hlt x (by simp)
    have hk := hE.2.2.2.1 x hx
    have hx0 : x ≠ 0 := fun q => h0 (by rw [q])
    have e110 : s.1 110 at_ = nI x := hl 0 x rfl
    rw [if_pos (by rfl), if_neg (grd (n := 480) (by omega) (by omega)), nI_clamp (by omega), e110, if_neg (grd (n := 24) (by omega) (by omega)), nI_clamp (by omega), hs.2.1 x hx, if_neg (grd (n := 4) hk (by omega)), nI_clamp (by omega)]
    obtain ⟨s', q1, q2, q3, q4⟩ := key (eK E x) hk
    refine ⟨s', q1, q2, q3, ?_⟩
    show MT s' (if x = 0 then T else up T (eK E x) [x])
    rw [if_neg hx0]; exact q4
  | x :: y :: r, _, _, _, _, _, hlen, key =>
    have hn2 : (x :: y :: r).length ≥ 2 := by simp
    rw [if_neg (show ¬ nI (x :: y :: r).length = 1 from nI_ne (b := 1) (by omega) (by omega) (by omega))]
    exact key 3 (by omega)
/-- a list of the draft goes into the table -/
theorem sets_k {A : Ab} {r : Ord} (hE : EOK E) (hs : ME s E) (hB : MB s A T r) (hn : A.2.1.length < 10) (hTo : TOK E T) (hr : ROK E r) (hsd : sd < 2) :
    ∃ s', F_X10_sets (nI sd) s = some s' ∧ s'.2 = s.2 ∧ (∀ c, c ≠ 114 → c ≠ 115 → s'.1 c = s.1 c) ∧ MT s' (learn E T (if sd = 0 then r.2.2.2.1 else r.2.2.2.2)) := by
  have h24 := hE.2.1
  have h9424 : s.1 94 24 = nI A.2.1.length := hB.1.2.1
  have hT : MT s T := hB.1.1
  obtain ⟨l, hlE, hlN, hlT, hlM⟩ : ∃ l, (if sd = 0 then r.2.2.2.1 else r.2.2.2.2) = l ∧ l.Nodup ∧ (∀ x ∈ l, x < eT E) ∧ ML (fun k => s.1 110 (48 * A.2.1.length + 24 * sd + k)) (s.1 111 (2 * A.2.1.length + sd)) l := by
    refine ⟨_, rfl, ?_⟩
    by_cases e : sd = 0
    · rw [if_pos e]; subst e; exact ⟨hr.2.1.1, hr.2.1.2, hB.2.2.2.2.1⟩
    · have : sd = 1 := by omega
      rw [if_neg e]; subst this; exact ⟨hr.2.2.1, hr.2.2.2, hB.2.2.2.2.2⟩
  rw [hlE]
  have hlen : l.length ≤ 24 := by have := pig (eT E) l hlN hlT; omega
  unfold F_X10_sets
  rw [h9424, nI2, nI48, nI24, nI_add, nI_add, if_neg (grd (n := 20) (by omega) (by omega)), nI_clamp (n := 2 * A.2.1.length + sd) (by omega), hlM.1]
  by_cases c0 : l = []
  · rw [c0, if_pos (by rfl)]
    exact ⟨s, rfl, rfl, fun _ _ _ => rfl, hT⟩
  have hl0 : 0 < l.length := List.length_pos_iff.mpr c0
  rw [if_neg (nI_ne0 hl0 (by omega))]
  have h30 : l ≠ [0] → _ := fun h0 => sets30 (at_ := 48 * A.2.1.length + 24 * sd) hE hs hT hTo (by omega) hlM.2 hlN hlT c0 h0
  by_cases c1 : l.length = 1
  · obtain ⟨x, hx⟩ := List.length_eq_one_iff.mp c1
    have e110 : s.1 110 (48 * A.2.1.length + 24 * sd) = nI x := hlM.2 0 x (by rw [hx]; rfl)
    have hxT := hlT x (by rw [hx]; simp)
    rw [if_pos (show nI l.length = 1 by rw [c1]; rfl), if_neg (grd (n := 480) (by omega) (by omega)), nI_clamp (by omega), e110]
    by_cases c2 : x = 0
    · rw [if_pos (by rw [c2]; rfl)]
      refine ⟨s, rfl, rfl, fun _ _ _ => rfl, ?_⟩
      rw [hx, c2]; exact hT
    · rw [if_neg (nI_ne0 (by omega) (by omega))]
      exact h30 (fun q => c2 (by rw [hx] at q; simpa using q))
  · rw [if_neg (show ¬ nI l.length = 1 from nI_ne (b := 1) c1 (by omega) (by omega))]
    exact h30 (fun q => c1 (by rw [q]; rfl))
end
