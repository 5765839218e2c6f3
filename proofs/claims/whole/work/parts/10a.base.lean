def bt (x : Int32) (i : Nat) : Bool := x.toBitVec.getLsbD i
theorem b_ext {x y : Int32} (h : ∀ i, i < 32 → bt x i = bt y i) : x = y := Int32.toBitVec_inj.mp (BitVec.eq_of_getLsbD_eq (fun i hi => h i hi))
theorem b_or (x y : Int32) (i : Nat) : bt (x ||| y) i = (bt x i || bt y i) := by unfold bt; rw [Int32.toBitVec_or, BitVec.getLsbD_or]
theorem b_and (x y : Int32) (i : Nat) : bt (x &&& y) i = (bt x i && bt y i) := by unfold bt; rw [Int32.toBitVec_and, BitVec.getLsbD_and]
theorem b_xor (x y : Int32) (i : Nat) : bt (x ^^^ y) i = (bt x i ^^ bt y i) := by unfold bt; rw [Int32.toBitVec_xor, BitVec.getLsbD_xor]
theorem b_big {x : Int32} {i : Nat} (h : 32 ≤ i) : bt x i = false := BitVec.getLsbD_of_ge _ _ h
theorem b_m1 : ∀ i, i < 32 → bt (-1) i = true := by decide +kernel
theorem b_0 (i : Nat) : bt 0 i = false := BitVec.getLsbD_zero
theorem s_l : ∀ n, n < 32 → ((nI n &&& 31).toBitVec.smod 32).toNat = n := by decide +kernel
theorem b_sshr (n : Nat) (hn : n < 32) (x : Int32) {i : Nat} (hi : i < 32) : bt (x >>> (nI n &&& 31)) i = if n + i < 32 then bt x (n + i) else bt x 31 := by
  unfold bt
  rw [Int32.toBitVec_shiftRight]
  show (x.toBitVec.sshiftRight ((nI n &&& 31).toBitVec.smod 32).toNat).getLsbD i = _
  rw [s_l n hn, BitVec.getLsbD_sshiftRight, BitVec.msb_eq_getLsbD_last]
  simp [hi]
/-- the one bit -/
theorem b_one : ∀ n, n < 32 → ∀ i, i < 32 → bt ((1 : Int32) <<< (nI n &&& 31)) i = decide (i = n) := by decide +kernel
theorem b_1 : ∀ i, i < 32 → bt (1 : Int32) i = decide (i = 0) := by decide +kernel
theorem b_test {x : Int32} {n : Nat} (hn : n < 32) : ((x >>> (nI n &&& 31)) &&& 1) = 0 ↔ bt x n = false := by
  constructor
  · intro h
    have h1 : bt ((x >>> (nI n &&& 31)) &&& 1) 0 = false := by rw [h]; exact b_0 0
    rw [b_and, b_sshr n hn x (by omega), b_1 0 (by omega)] at h1
    simpa [hn] using h1
  · intro h
    apply b_ext
    intro i hi
    rw [b_and, b_0, b_1 i hi]
    by_cases e : i = 0
    · subst e
      rw [b_sshr n hn x (by omega)]
      simp [hn, h]
    · simp [e]
theorem b_test1 {x : Int32} {n : Nat} (hn : n < 32) : ((x >>> (nI n &&& 31)) &&& 1) = 1 ↔ bt x n = true := by
  constructor
  · intro h
    have h1 : bt ((x >>> (nI n &&& 31)) &&& 1) 0 = true := by rw [h]; exact b_1 0 (by omega)
    rw [b_and, b_sshr n hn x (by omega), b_1 0 (by omega)] at h1
    simpa [hn] using h1
  · intro h
    apply b_ext
    intro i hi
    rw [b_and, b_1 i hi]
    by_cases e : i = 0
    · subst e
      rw [b_sshr n hn x (by omega)]
      simp [hn, h]
    · simp [e]
theorem b_set {x : Int32} {n i : Nat} (hn : n < 32) (hi : i < 32) : bt (x ||| ((1 : Int32) <<< (nI n &&& 31))) i = (bt x i || decide (i = n)) := by
  rw [b_or, b_one n hn i hi]
theorem b_clr {x : Int32} {n i : Nat} (hn : n < 32) (hi : i < 32) : bt (x &&& (((1 : Int32) <<< (nI n &&& 31)) ^^^ (-1))) i = (bt x i && !decide (i = n)) := by
  rw [b_and, b_xor, b_one n hn i hi, b_m1 i hi]
  simp
theorem b_zero {x : Int32} : x = 0 ↔ ∀ i, i < 32 → bt x i = false := by
  constructor
  · intro h i _; rw [h]; exact b_0 i
  · intro h; apply b_ext; intro i hi; rw [h i hi, b_0]
/-! numbers -/
theorem ge_pos {a : Int32} {n : Nat} (hn : n < 2 ^ 31) (h : nI n ≤ a) : ¬ a < 0 := by
  rw [Int32.le_iff_toInt_le, nI_toInt hn] at h
  rw [Int32.lt_iff_toInt_lt, Int32.toInt_zero]
  omega
theorem m1_toInt {n : Nat} (hn : n < 2 ^ 30) : (nI n - 1).toInt = (n : Int) - 1 := pk_sub_toInt (a := n) (b := 1) hn (by omega)
theorem ge_m1 {a : Int32} {n : Nat} (hn : n < 2 ^ 30) (h : nI n ≤ a) : nI n - 1 < a := by
  rw [Int32.le_iff_toInt_le, nI_toInt (by omega)] at h
  rw [Int32.lt_iff_toInt_lt, m1_toInt hn]
  omega
theorem lt_m1 {k n : Nat} (hn : n < 2 ^ 30) (h : k < n) : ¬ nI n - 1 < nI k := by
  rw [Int32.lt_iff_toInt_lt, m1_toInt hn, nI_toInt (by omega)]
  omega
theorem nI_m4 {n : Nat} (h : n < 2 ^ 31) : ¬ nI n = -4 := by
  intro e
  have := congrArg Int32.toInt e
  rw [nI_toInt h] at this
  have e4 : (-4 : Int32).toInt = -4 := rfl
  rw [e4] at this
  omega
theorem nI_inj {a b : Nat} (ha : a < 2 ^ 31) (hb : b < 2 ^ 31) (h : nI a = nI b) : a = b := (nI_eq ha hb).mp h
theorem nI_eq0 {n : Nat} (h : n < 2 ^ 31) : nI n = 0 ↔ n = 0 := by rw [← nI_0]; exact nI_eq h (by omega)
/-- an index, in three ways -/
theorem ix_out {a : Int32} {n m : Nat} (hm : m < 2 ^ 31) (hnm : n ≤ m) : (∃ k, k < n ∧ a = nI k) ∨ ((a < 0 ∨ (¬ a < 0 ∧ nI n ≤ a))) := by
  rcases pk_ix a (n := n) (by omega) with h | h | h
  · exact Or.inr (Or.inl h)
  · exact Or.inr (Or.inr ⟨ge_pos (by omega) h, h⟩)
  · exact Or.inl h
/-! the same cells -/
def agr (I I' : Nat → Nat → Int32) (cs : List Nat) : Prop := ∀ c ∈ cs, I' c = I c
/-- things: n of them; class cells 1 2 3, model cells 94 96 97 98 -/
def IT (s : St) (n : Nat) : Prop := 1 ≤ n ∧ n ≤ 24 ∧ s.1 1 3 = nI n ∧ s.1 94 1 = nI n ∧
  (∀ t, t < n → s.1 2 t = s.1 96 t ∧ (∃ k, k < 4 ∧ s.1 96 t = nI k) ∧ s.1 3 t = s.1 98 t ∧ (s.1 98 t = -4 ∨ ∃ o, o < n ∧ s.1 98 t = nI o) ∧ s.1 97 t = (if bt (s.1 1 2) t then 1 else 0)) ∧
  s.1 96 0 = 1 ∧ bt (s.1 1 2) 0 = true ∧ ∀ t, n ≤ t → t < 24 → s.1 3 t = -4
/-- letters 1 .. 26 as numbers by 27 and by bytes -/
def k27 (l : List Nat) : Nat := l.foldl (fun a c => a * 27 + c) 0
def k256 (l : List Nat) : Nat := l.foldl (fun a c => a * 256 + (c + 96)) 0
def isW (l : List Nat) : Prop := 1 ≤ l.length ∧ l.length ≤ 8 ∧ ∀ c ∈ l, 1 ≤ c ∧ c ≤ 26
/-- the fixed words, letter by letter -/
def fixW : List (List Nat) := [[20, 8, 5], [1], [1, 14], [1, 14, 4], [20, 8, 5, 14], [20, 5, 12, 12], [20, 15], [1, 7, 1, 9, 14], [9, 20], [8, 9, 13], [8, 5, 18], [20, 8, 5, 13], [13, 5], [13, 25, 19, 5, 12, 6], [25, 15, 21, 18, 19, 5, 12, 6], [8, 9, 19], [9, 20, 19], [20, 8, 5, 9, 18], [13, 25], [1, 12, 12], [2, 21, 20]]
/-- words: class cells 4 .. 11, model cells 94 99 .. 103 -/
def IW (s : St) (n : Nat) : Prop := n ≤ 60 ∧ s.1 4 7 = nI n ∧ s.1 94 5 = nI n ∧
  (∀ w, w < n → s.1 7 w = s.1 100 w ∧ (∃ k, k < 4 ∧ s.1 100 w = nI k) ∧ s.1 8 w = s.1 101 w ∧ (∃ k, k < 4 ∧ s.1 101 w = nI k) ∧ s.1 11 w = (if s.1 102 w = -4 then nI w else s.1 102 w) ∧ (s.1 102 w = -4 ∨ ∃ v, v < w ∧ s.1 102 w = nI v ∧ s.1 102 v = -4 ∧ s.1 100 v = s.1 100 w) ∧ ∃ l, isW l ∧ ¬ l ∈ fixW ∧ s.2 6 w = lN (k27 l) ∧ s.2 99 w = lN (k256 l)) ∧
  (∀ w, n ≤ w → w < 60 → s.1 8 w = 0 ∧ s.1 101 w = 0 ∧ s.1 9 w = 0 ∧ s.1 10 w = 0) ∧
  (∀ w t, w < 60 → t < 24 → s.1 103 (24 * w + t) = nI ((if bt (s.1 9 w) t then 1 else 0) + (if bt (s.1 10 w) t then 2 else 0))) ∧
  (∀ w t, w < 60 → 24 ≤ t → bt (s.1 9 w) t = false ∧ bt (s.1 10 w) t = false)
/-- the fixed words -/
def IX (s : St) : Prop := ∀ j, j < 21 → s.2 5 j = fix27.getD j 0 ∧ s.2 95 j = fix256.getD j 0
/-- the tape: class cells 12 13, model cells 94 104 -/
def IB (s : St) (n : Nat) : Prop := n ≤ 200 ∧ s.1 12 1 = nI n ∧ s.1 94 12 = nI n ∧ ∀ i, i < n → ∃ c, c < 256 ∧ s.1 13 i = nI c ∧ s.1 104 i = (nI c).toInt8.toInt32
/-- a list of the class at o beside one of the model: f its things, z how many -/
def LSt (s : St) (o nT : Nat) (f : Nat → Int32) (z : Int32) : Prop := ∃ n, n ≤ 24 ∧ s.1 o 1 = nI n ∧ z = nI n ∧
  (∀ k, k < n → ∃ t, t < nT ∧ s.1 (o + 1) k = nI t ∧ f k = nI t) ∧ (∀ j k, j < n → k < n → s.1 (o + 1) j = s.1 (o + 1) k → j = k) ∧
  ∀ t, t < 32 → (bt (s.1 o 2) t = true ↔ ∃ k, k < n ∧ s.1 (o + 1) k = nI t)
/-- what each pronoun means: class cells 15 .. 22, model cells 114 115 -/
def IP (s : St) (nT : Nat) : Prop := ∀ p, p < 4 → LSt s (15 + 2 * p) nT (fun k => s.1 114 (24 * p + k)) (s.1 115 p)
/-- an order of the class at o -/
def OS (s : St) (o nT : Nat) (za zv zp : Int32) (f g : Nat → Int32) (zf zg : Int32) : Prop := s.1 o 2 = za ∧ s.1 o 3 = zv ∧ s.1 o 4 = zp ∧ (∃ t, t < nT ∧ za = nI t) ∧ LSt s (o + 1) nT f zf ∧ LSt s (o + 3) nT g zg
/-- orders: class cells 23 25 .. 79, model cells 94 107 .. 113 -/
def IO (s : St) (nT n : Nat) : Prop := n ≤ 10 ∧ s.1 23 2 = nI n ∧ s.1 94 24 = nI n ∧ s.1 23 3 = s.1 94 25 ∧
  (∀ i, i < n → OS s (30 + 5 * i) nT (s.1 107 i) (s.1 108 i) (s.1 109 i) (fun k => s.1 110 (48 * i + k)) (fun k => s.1 110 (48 * i + 24 + k)) (s.1 111 (2 * i)) (s.1 111 (2 * i + 1))) ∧
  OS s 25 nT (s.1 94 26) (s.1 94 27) (s.1 94 28) (fun k => s.1 112 k) (fun k => s.1 112 (24 + k)) (s.1 113 0) (s.1 113 1)
def INV (s : St) : Prop := ∃ nT nW nB nO, IT s nT ∧ IW s nW ∧ IX s ∧ IB s nB ∧ IP s nT ∧ IO s nT nO ∧ s.1 80 9 = s.1 94 17
theorem xup_eq {α : Type} (f : Nat → Nat → α) (c j : Nat) (x : α) (j' : Nat) : xup f c j x c j' = if j' = j then x else f c j' := by simp [xup]
theorem xup_ap {α : Type} (f : Nat → Nat → α) (c j : Nat) (x : α) (c' j' : Nat) : xup f c j x c' j' = if c' = c then (if j' = j then x else f c' j') else f c' j' := rfl
theorem xup_j {α : Type} {f : Nat → Nat → α} {c j c' j' : Nat} {x : α} (h : j' ≠ j) : xup f c j x c' j' = f c' j' := by simp [xup, h]
theorem IT_congr {s s' : St} {n : Nat} (h : IT s n) (e1 : s'.1 1 = s.1 1) (e2 : s'.1 2 = s.1 2) (e3 : s'.1 3 = s.1 3) (e6 : s'.1 96 = s.1 96) (e7 : s'.1 97 = s.1 97) (e8 : s'.1 98 = s.1 98) (e4 : s'.1 94 1 = s.1 94 1) : IT s' n := by
  unfold IT at h ⊢
  rw [e1, e2, e3, e6, e7, e8, e4]
  exact h
theorem IW_congr {s s' : St} {n : Nat} (h : IW s n) (e : ∀ c, 4 ≤ c → c ≤ 11 → s'.1 c = s.1 c) (e1 : ∀ c, 100 ≤ c → c ≤ 103 → s'.1 c = s.1 c) (e4 : s'.1 94 5 = s.1 94 5) (e6 : s'.2 6 = s.2 6) (e9 : s'.2 99 = s.2 99) : IW s' n := by
  unfold IW at h ⊢
  rw [e 4 (by omega) (by omega), e 7 (by omega) (by omega), e 8 (by omega) (by omega), e 9 (by omega) (by omega), e 10 (by omega) (by omega), e 11 (by omega) (by omega), e1 100 (by omega) (by omega), e1 101 (by omega) (by omega), e1 102 (by omega) (by omega), e1 103 (by omega) (by omega), e4, e6, e9]
  exact h
theorem IX_congr {s s' : St} (h : IX s) (e5 : s'.2 5 = s.2 5) (e9 : s'.2 95 = s.2 95) : IX s' := by
  unfold IX at h ⊢
  rw [e5, e9]
  exact h
theorem IB_congr {s s' : St} {n : Nat} (h : IB s n) (e2 : s'.1 12 = s.1 12) (e3 : s'.1 13 = s.1 13) (e4 : s'.1 104 = s.1 104) (e9 : s'.1 94 12 = s.1 94 12) : IB s' n := by
  unfold IB at h ⊢
  rw [e2, e3, e4, e9]
  exact h
theorem LSt_congr {s s' : St} {o nT : Nat} {f f' : Nat → Int32} {z z' : Int32} (h : LSt s o nT f z) (e : s'.1 o = s.1 o) (e1 : s'.1 (o + 1) = s.1 (o + 1)) (ef : f' = f) (ez : z' = z) : LSt s' o nT f' z' := by
  unfold LSt at h ⊢
  rw [e, e1, ef, ez]
  exact h
theorem LSt_mono {s : St} {o nT nT' : Nat} {f : Nat → Int32} {z : Int32} (h : LSt s o nT f z) (hn : nT ≤ nT') : LSt s o nT' f z := by
  obtain ⟨n, h1, h2, h3, h4, h5⟩ := h
  exact ⟨n, h1, h2, h3, fun k hk => by obtain ⟨t, a, b⟩ := h4 k hk; exact ⟨t, by omega, b⟩, h5⟩
theorem IP_congr {s s' : St} {nT : Nat} (h : IP s nT) (e : ∀ c, 15 ≤ c → c ≤ 22 → s'.1 c = s.1 c) (e4 : s'.1 114 = s.1 114) (e5 : s'.1 115 = s.1 115) : IP s' nT := fun p hp =>
  LSt_congr (h p hp) (e _ (by omega) (by omega)) (e _ (by omega) (by omega)) (by rw [e4]) (by rw [e5])
theorem OS_congr {s s' : St} {o nT : Nat} {za zv zp za' zv' zp' : Int32} {f g f' g' : Nat → Int32} {zf zg zf' zg' : Int32} (h : OS s o nT za zv zp f g zf zg) (e : ∀ c, o ≤ c → c ≤ o + 4 → s'.1 c = s.1 c) (a : za' = za) (v : zv' = zv) (p : zp' = zp) (hf : f' = f) (hg : g' = g) (hzf : zf' = zf) (hzg : zg' = zg) : OS s' o nT za' zv' zp' f' g' zf' zg' := by
  subst a; subst v; subst p; subst hf; subst hg; subst hzf; subst hzg
  obtain ⟨h1, h2, h3, h4, h5, h6⟩ := h
  exact ⟨by rw [e o (by omega) (by omega)]; exact h1, by rw [e o (by omega) (by omega)]; exact h2, by rw [e o (by omega) (by omega)]; exact h3, h4, LSt_congr h5 (e _ (by omega) (by omega)) (e _ (by omega) (by omega)) rfl rfl, LSt_congr h6 (e _ (by omega) (by omega)) (e _ (by omega) (by omega)) rfl rfl⟩
theorem IO_congr {s s' : St} {nT n : Nat} (h : IO s nT n) (e3 : s'.1 23 = s.1 23) (e : ∀ c, 25 ≤ c → c ≤ 79 → s'.1 c = s.1 c) (e1 : ∀ c, 107 ≤ c → c ≤ 113 → s'.1 c = s.1 c) (e9 : ∀ j, 24 ≤ j → j ≤ 28 → s'.1 94 j = s.1 94 j) : IO s' nT n := by
  obtain ⟨h1, h2, h3, h4, h5, h6⟩ := h
  refine ⟨h1, by rw [e3]; exact h2, by rw [e9 24 (by omega) (by omega)]; exact h3, by rw [e3, e9 25 (by omega) (by omega)]; exact h4, fun i hi => OS_congr (h5 i hi) (fun c a b => e c (by omega) (by omega)) ?_ ?_ ?_ ?_ ?_ ?_ ?_, OS_congr h6 (fun c a b => e c (by omega) (by omega)) ?_ ?_ ?_ ?_ ?_ ?_ ?_⟩
  all_goals first
    | rw [e1 107 (by omega) (by omega)]
    | rw [e1 108 (by omega) (by omega)]
    | rw [e1 109 (by omega) (by omega)]
    | rw [e1 110 (by omega) (by omega)]
    | rw [e1 111 (by omega) (by omega)]
    | rw [e1 112 (by omega) (by omega)]
    | rw [e1 113 (by omega) (by omega)]
    | rw [e9 26 (by omega) (by omega)]
    | rw [e9 27 (by omega) (by omega)]
    | rw [e9 28 (by omega) (by omega)]
theorem IP_mono {s : St} {nT nT' : Nat} (h : IP s nT) (hn : nT ≤ nT') : IP s nT' := fun p hp => LSt_mono (h p hp) hn
theorem OS_mono {s : St} {o nT nT' : Nat} {za zv zp : Int32} {f g : Nat → Int32} {zf zg : Int32} (h : OS s o nT za zv zp f g zf zg) (hn : nT ≤ nT') : OS s o nT' za zv zp f g zf zg := by
  obtain ⟨h1, h2, h3, ⟨t, ht, h4⟩, h5, h6⟩ := h
  exact ⟨h1, h2, h3, ⟨t, by omega, h4⟩, LSt_mono h5 hn, LSt_mono h6 hn⟩
theorem IO_mono {s : St} {nT nT' n : Nat} (h : IO s nT n) (hn : nT ≤ nT') : IO s nT' n := by
  obtain ⟨h1, h2, h3, h4, h5, h6⟩ := h
  exact ⟨h1, h2, h3, h4, fun i hi => OS_mono (h5 i hi) hn, OS_mono h6 hn⟩
/-! indices -/
theorem kf {k n : Nat} (h : k < n) (hn : n ≤ 200) : (¬ nI k < 0) ∧ (¬ nI n ≤ nI k) ∧ (¬ nI n - 1 < nI k) ∧ (nI k).toNatClampNeg = k := ⟨nI_pos (by omega), nI_ge h (by omega), lt_m1 (by omega) h, nI_clamp (by omega)⟩
theorem of_out {a : Int32} {n : Nat} (hn : n ≤ 200) (h : a < 0 ∨ (¬ a < 0 ∧ nI n ≤ a)) : a < 0 ∨ (¬ a < 0 ∧ nI n ≤ a ∧ nI n - 1 < a) := by
  rcases h with h | ⟨h1, h2⟩
  · exact Or.inl h
  · exact Or.inr ⟨h1, h2, ge_m1 (by omega) h2⟩
section
variable {s : St} {n k : Nat} {a : Int32}
theorem has_k (hc : s.1 1 3 = nI n) (hk : k < n) (hn : n ≤ 200) : F_X6_has (nI k) s = some (1, s) := by
  obtain ⟨h1, h2, h3, h4⟩ := kf hk hn
  unfold F_X6_has; rw [hc, if_neg h1, if_neg h2]
theorem has_o (hc : s.1 1 3 = nI n) (ho : a < 0 ∨ (¬ a < 0 ∧ nI n ≤ a)) : F_X6_has a s = some (0, s) := by
  unfold F_X6_has; rw [hc]
  rcases ho with h | ⟨h, h2⟩
  · rw [if_pos h]
  · rw [if_neg h, if_pos h2]
theorem isIn_k {m : Int32} (hm : m = nI n - 1) (hk : k < n) (hn : n ≤ 200) : F_X10_isIn (nI k) 0 m s = some (1, s) := by
  obtain ⟨h1, h2, h3, h4⟩ := kf hk hn
  unfold F_X10_isIn; rw [hm, if_neg h1, if_neg h3]
theorem isIn_o {m : Int32} (hm : m = nI n - 1) (hn : n ≤ 200) (ho : a < 0 ∨ (¬ a < 0 ∧ nI n ≤ a)) : F_X10_isIn a 0 m s = some (0, s) := by
  unfold F_X10_isIn; rw [hm]
  rcases of_out hn ho with h | ⟨h, h2, h3⟩
  · rw [if_pos h]
  · rw [if_neg h, if_pos h3]
theorem isThing_k (hc : s.1 94 1 = nI n) (hk : k < n) (hn : n ≤ 200) : F_X10_isThing (nI k) s = some (1, s) := by
  unfold F_X10_isThing; rw [hc, isIn_k rfl hk hn]; rfl
theorem isThing_o (hc : s.1 94 1 = nI n) (hn : n ≤ 200) (ho : a < 0 ∨ (¬ a < 0 ∧ nI n ≤ a)) : F_X10_isThing a s = some (0, s) := by
  unfold F_X10_isThing; rw [hc, isIn_o rfl hn ho]; rfl
theorem isWord_k (hc : s.1 94 5 = nI n) (hk : k < n) (hn : n ≤ 200) : F_X10_isWord (nI k) s = some (1, s) := by
  unfold F_X10_isWord; rw [hc, isIn_k rfl hk hn]; rfl
theorem isWord_o (hc : s.1 94 5 = nI n) (hn : n ≤ 200) (ho : a < 0 ∨ (¬ a < 0 ∧ nI n ≤ a)) : F_X10_isWord a s = some (0, s) := by
  unfold F_X10_isWord; rw [hc, isIn_o rfl hn ho]; rfl
theorem whas_k (hc : s.1 4 7 = nI n) (hk : k < n) (hn : n ≤ 200) : F_X8_has (nI k) s = some (1, s) := by
  obtain ⟨h1, h2, h3, h4⟩ := kf hk hn
  unfold F_X8_has; rw [hc, if_neg h1, if_neg h2]
theorem whas_o (hc : s.1 4 7 = nI n) (ho : a < 0 ∨ (¬ a < 0 ∧ nI n ≤ a)) : F_X8_has a s = some (0, s) := by
  unfold F_X8_has; rw [hc]
  rcases ho with h | ⟨h, h2⟩
  · rw [if_pos h]
  · rw [if_neg h, if_pos h2]
theorem isBelow_k (hk : k < n) (hn : n ≤ 200) : F_X9_isBelow (nI k) (nI n) s = some (1, s) := by
  obtain ⟨h1, h2, h3, h4⟩ := kf hk hn
  unfold F_X9_isBelow; rw [if_neg h1, if_neg h2]
theorem isBelow_o (ho : a < 0 ∨ (¬ a < 0 ∧ nI n ≤ a)) : F_X9_isBelow a (nI n) s = some (0, s) := by
  unfold F_X9_isBelow
  rcases ho with h | ⟨h, h2⟩
  · rw [if_pos h]
  · rw [if_neg h, if_pos h2]
theorem bitOf_k (hk : k < 24) : F_X9_bitOf (nI k) s = some ((1 : Int32) <<< (nI k &&& 31), s) := by
  obtain ⟨h1, h2, h3, h4⟩ := kf hk (by omega)
  unfold F_X9_bitOf; rw [if_neg h1, if_neg (show ¬ (24 : Int32) ≤ nI k from h2)]
theorem isSeen_k (hc : s.1 1 3 = nI n) (hk : k < n) (hn : n ≤ 24) : F_X6_isSeen (nI k) s = some (if bt (s.1 1 2) k then 1 else 0, s) := by
  obtain ⟨h1, h2, h3, h4⟩ := kf hk (by omega)
  unfold F_X6_isSeen; rw [hc, if_neg h1, if_neg h2]
  by_cases hb : bt (s.1 1 2) k = true
  · rw [if_neg (fun q => by rw [(b_test (by omega)).mp q] at hb; cases hb), if_pos hb]
  · rw [if_pos ((b_test (by omega)).mpr (by simpa using hb)), if_neg hb]
theorem isIn9_k {set : Int32} (hk : k < 24) : F_X9_isIn set (nI k) s = some (if bt set k then 1 else 0, s) := by
  obtain ⟨h1, h2, h3, h4⟩ := kf hk (by omega)
  unfold F_X9_isIn; rw [if_neg h1, if_neg (show ¬ (24 : Int32) ≤ nI k from h2)]
  by_cases hb : bt set k = true
  · rw [if_neg (fun q => by rw [(b_test (by omega)).mp q] at hb; cases hb), if_pos hb]
  · rw [if_pos ((b_test (by omega)).mpr (by simpa using hb)), if_neg hb]
end
