/-! keys of words -/
theorem lg_eq {x y : Int64} : lg_cmp x y = 0 ↔ x = y := by
  unfold lg_cmp
  by_cases h : x > y
  · rw [if_pos h]
    constructor
    · intro q; exact absurd q (by decide)
    · intro q; subst q; rw [gt_iff_lt, Int64.lt_iff_toInt_lt] at h; omega
  · rw [if_neg h]
    by_cases e : x = y
    · simp [e]
    · rw [if_neg e]; constructor
      · intro q; exact absurd q (by decide)
      · intro q; exact absurd q e
theorem lN_inj {a b : Nat} (ha : a < 2 ^ 64) (hb : b < 2 ^ 64) (h : lN a = lN b) : a = b := by
  have := congrArg (fun x => x.toBitVec.toNat) h
  have e : ∀ n, (lN n).toBitVec.toNat = n % 2 ^ 64 := fun n => by
    show (BitVec.ofNat 64 n).toNat = _
    rw [BitVec.toNat_ofNat]
  simp only [e] at this
  omega
def g27 (l : List Nat) (a : Nat) : Nat := l.foldl (fun a c => a * 27 + c) a
def g256 (l : List Nat) (a : Nat) : Nat := l.foldl (fun a c => a * 256 + (c + 96)) a
def r27 (l : List Nat) : Nat := l.foldr (fun c a => a * 27 + c) 0
def r256 (l : List Nat) : Nat := l.foldr (fun c a => a * 256 + (c + 96)) 0
theorem k27_r (l : List Nat) : k27 l = r27 l.reverse := by unfold k27 r27; rw [List.foldr_reverse]
theorem k256_r (l : List Nat) : k256 l = r256 l.reverse := by unfold k256 r256; rw [List.foldr_reverse]
theorem r27_inj : ∀ (l l' : List Nat), (∀ c ∈ l, 1 ≤ c ∧ c ≤ 26) → (∀ c ∈ l', 1 ≤ c ∧ c ≤ 26) → r27 l = r27 l' → l = l'
  | [], [], _, _, _ => rfl
  | [], c :: l', _, h', e => by have := h' c (by simp); simp [r27] at e; omega
  | c :: l, [], h, _, e => by have := h c (by simp); simp [r27] at e; omega
  | c :: l, c' :: l', h, h', e => by
    have h1 := h c (by simp)
    have h2 := h' c' (by simp)
    have e : r27 l * 27 + c = r27 l' * 27 + c' := e
    have e1 : c = c' := by omega
    have e2 : r27 l = r27 l' := by omega
    rw [e1, r27_inj l l' (fun x hx => h x (by simp [hx])) (fun x hx => h' x (by simp [hx])) e2]
theorem r256_inj : ∀ (l l' : List Nat), (∀ c ∈ l, 1 ≤ c ∧ c ≤ 26) → (∀ c ∈ l', 1 ≤ c ∧ c ≤ 26) → r256 l = r256 l' → l = l'
  | [], [], _, _, _ => rfl
  | [], c :: l', _, h', e => by have := h' c (by simp); simp [r256] at e
  | c :: l, [], h, _, e => by have := h c (by simp); simp [r256] at e
  | c :: l, c' :: l', h, h', e => by
    have h1 := h c (by simp)
    have h2 := h' c' (by simp)
    have e : r256 l * 256 + (c + 96) = r256 l' * 256 + (c' + 96) := e
    have e1 : c = c' := by omega
    have e2 : r256 l = r256 l' := by omega
    rw [e1, r256_inj l l' (fun x hx => h x (by simp [hx])) (fun x hx => h' x (by simp [hx])) e2]
theorem r27_lt : ∀ (l : List Nat), (∀ c ∈ l, 1 ≤ c ∧ c ≤ 26) → r27 l < 27 ^ l.length
  | [], _ => by simp [r27]
  | c :: l, h => by
    have h1 := h c (by simp)
    have := r27_lt l (fun x hx => h x (by simp [hx]))
    show r27 l * 27 + c < 27 ^ (l.length + 1)
    rw [Nat.pow_succ]; omega
theorem r256_lt : ∀ (l : List Nat), (∀ c ∈ l, 1 ≤ c ∧ c ≤ 26) → r256 l < 256 ^ l.length
  | [], _ => by simp [r256]
  | c :: l, h => by
    have h1 := h c (by simp)
    have := r256_lt l (fun x hx => h x (by simp [hx]))
    show r256 l * 256 + (c + 96) < 256 ^ (l.length + 1)
    rw [Nat.pow_succ]; omega
theorem pow8 {b n : Nat} (hb : 1 ≤ b) (h : n ≤ 8) : b ^ n ≤ b ^ 8 := Nat.pow_le_pow_right hb h
theorem key27 {l l' : List Nat} (h : isW l) (h' : isW l') : lN (k27 l) = lN (k27 l') ↔ l = l' := by
  constructor
  · intro e
    rw [k27_r, k27_r] at e
    have b1 := r27_lt l.reverse (fun c hc => h.2.2 c (by simpa using hc))
    have b2 := r27_lt l'.reverse (fun c hc => h'.2.2 c (by simpa using hc))
    have p1 := pow8 (b := 27) (by omega) h.2.1
    have p2 := pow8 (b := 27) (by omega) h'.2.1
    rw [List.length_reverse] at b1 b2
    have e8 : 27 ^ 8 < 2 ^ 64 := by decide
    have := r27_inj _ _ (fun c hc => h.2.2 c (by simpa using hc)) (fun c hc => h'.2.2 c (by simpa using hc)) (lN_inj (by omega) (by omega) e)
    exact List.reverse_inj.mp this
  · intro e; rw [e]
theorem key256 {l l' : List Nat} (h : isW l) (h' : isW l') : lN (k256 l) = lN (k256 l') ↔ l = l' := by
  constructor
  · intro e
    rw [k256_r, k256_r] at e
    have b1 := r256_lt l.reverse (fun c hc => h.2.2 c (by simpa using hc))
    have b2 := r256_lt l'.reverse (fun c hc => h'.2.2 c (by simpa using hc))
    have p1 := pow8 (b := 256) (by omega) h.2.1
    have p2 := pow8 (b := 256) (by omega) h'.2.1
    rw [List.length_reverse] at b1 b2
    have e8 : 256 ^ 8 = 2 ^ 64 := by decide
    have := r256_inj _ _ (fun c hc => h.2.2 c (by simpa using hc)) (fun c hc => h'.2.2 c (by simpa using hc)) (lN_inj (by omega) (by omega) e)
    exact List.reverse_inj.mp this
  · intro e; rw [e]
theorem fix_ok' : ∀ j, j < 21 → (1 ≤ (fixW.getD j []).length ∧ (fixW.getD j []).length ≤ 8 ∧ ∀ c ∈ fixW.getD j [], 1 ≤ c ∧ c ≤ 26) ∧ fix27.getD j 0 = lN (k27 (fixW.getD j [])) ∧ fix256.getD j 0 = lN (k256 (fixW.getD j [])) := by decide +kernel
theorem fix_ok (j : Nat) (h : j < 21) : isW (fixW.getD j []) ∧ fix27.getD j 0 = lN (k27 (fixW.getD j [])) ∧ fix256.getD j 0 = lN (k256 (fixW.getD j [])) := fix_ok' j h
/-- the first of the places from i on, f of them, that is so -/
def scan (p : Nat → Bool) : Nat → Nat → Int32
  | 0, _ => -4
  | f + 1, i => if p i then nI i else scan p f (i + 1)
theorem scan_spec {p : Nat → Bool} : ∀ f i, i + f < 2 ^ 31 → (scan p f i = -4 ∧ ∀ j, i ≤ j → j < i + f → p j = false) ∨ ∃ j, i ≤ j ∧ j < i + f ∧ p j = true ∧ scan p f i = nI j
  | 0, i, _ => Or.inl ⟨rfl, fun j a b => by omega⟩
  | f + 1, i, h => by
    unfold scan
    cases hp : p i
    · simp only [Bool.false_eq_true, if_false]
      rcases scan_spec f (i + 1) (by omega) with ⟨a, b⟩ | ⟨j, a, b, c, d⟩
      · refine Or.inl ⟨a, fun j x y => ?_⟩
        by_cases e : j = i
        · rw [e]; exact hp
        · exact b j (by omega) (by omega)
      · exact Or.inr ⟨j, by omega, by omega, c, d⟩
    · exact Or.inr ⟨i, by omega, by omega, hp, by simp⟩
section
variable {s : St} {p : Nat → Bool} {key : Int64} {n : Nat}
theorem scan_fixC (hp : ∀ j, j < 21 → (s.2 5 j = key ↔ p j = true)) : ∀ f i, i ≤ 21 → 21 < f + i → L_X8_fixedNumber_2 f key (nI i) s = some (scan p (21 - i) i, s) := by
  intro f
  induction f with
  | zero => intro i h1 h2; omega
  | succ f ih =>
    intro i h1 h2
    unfold L_X8_fixedNumber_2
    by_cases e : i = 21
    · subst e
      rw [if_pos (show (21 : Int32) ≤ nI 21 by decide)]; rfl
    · rw [if_neg (show ¬ (21 : Int32) ≤ nI i from nI_ge (b := 21) (by omega) (by omega)), if_neg (grd (n := 21) (by omega) (by omega)), nI_clamp (by omega), nI_s, show 21 - i = (20 - i) + 1 by omega]
      unfold scan
      by_cases h : s.2 5 i = key
      · rw [if_pos (lg_eq.mpr h), if_pos ((hp i (by omega)).mp h)]
      · rw [if_neg (fun q => h (lg_eq.mp q)), if_neg (fun q => h ((hp i (by omega)).mpr q)), ih (i + 1) (by omega) (by omega), show 21 - (i + 1) = 20 - i by omega]
theorem scan_fixM (hp : ∀ j, j < 21 → (s.2 95 j = key ↔ p j = true)) : ∀ f i, i ≤ 21 → 21 < f + i → L_X10_fixedOf_2 f key (nI i) s = some (scan p (21 - i) i, s) := by
  intro f
  induction f with
  | zero => intro i h1 h2; omega
  | succ f ih =>
    intro i h1 h2
    unfold L_X10_fixedOf_2
    by_cases e : i = 21
    · subst e
      rw [if_pos (show (21 : Int32) ≤ nI 21 by decide)]; rfl
    · rw [if_neg (show ¬ (21 : Int32) ≤ nI i from nI_ge (b := 21) (by omega) (by omega)), if_neg (grd (n := 21) (by omega) (by omega)), nI_clamp (by omega), nI_s, show 21 - i = (20 - i) + 1 by omega]
      unfold scan
      by_cases h : s.2 95 i = key
      · rw [if_pos (lg_eq.mpr h), if_pos ((hp i (by omega)).mp h)]
      · rw [if_neg (fun q => h (lg_eq.mp q)), if_neg (fun q => h ((hp i (by omega)).mpr q)), ih (i + 1) (by omega) (by omega), show 21 - (i + 1) = 20 - i by omega]
theorem scan_find (hn : n ≤ 60) (hc : s.1 4 7 = nI n) (hp : ∀ j, j < n → (s.2 6 j = key ↔ p j = true)) : ∀ f i, i ≤ n → n < f + i → L_X8_find_2 f key (nI i) s = some (scan p (n - i) i, s) := by
  intro f
  induction f with
  | zero => intro i h1 h2; omega
  | succ f ih =>
    intro i h1 h2
    unfold L_X8_find_2
    rw [hc]
    by_cases e : i = n
    · subst e
      rw [if_pos (nI_le (Nat.le_refl _) (by omega)), show i - i = 0 by omega]; rfl
    · rw [if_neg (nI_ge (b := n) (by omega) (by omega)), if_neg (grd (n := 60) (by omega) (by omega)), nI_clamp (by omega), nI_s, show n - i = (n - i - 1) + 1 by omega]
      unfold scan
      by_cases h : s.2 6 i = key
      · rw [if_pos (lg_eq.mpr h), if_pos ((hp i (by omega)).mp h)]
      · rw [if_neg (fun q => h (lg_eq.mp q)), if_neg (fun q => h ((hp i (by omega)).mpr q)), ih (i + 1) (by omega) (by omega), show n - (i + 1) = n - i - 1 by omega]
theorem scan_wordM (hn : n ≤ 60) (hc : s.1 94 5 = nI n) (hp : ∀ j, j < n → (s.2 99 j = key ↔ p j = true)) : ∀ f i, i ≤ n → n < f + i → L_X10_wordOf_2 f key (nI i) s = some (scan p (n - i) i, s) := by
  intro f
  induction f with
  | zero => intro i h1 h2; omega
  | succ f ih =>
    intro i h1 h2
    unfold L_X10_wordOf_2
    rw [hc]
    by_cases e : i = n
    · subst e
      rw [if_pos (nI_le (Nat.le_refl _) (by omega)), show i - i = 0 by omega]; rfl
    · rw [if_neg (nI_ge (b := n) (by omega) (by omega)), if_neg (grd (n := 60) (by omega) (by omega)), nI_clamp (by omega), nI_s, show n - i = (n - i - 1) + 1 by omega]
      unfold scan
      by_cases h : s.2 99 i = key
      · rw [if_pos (lg_eq.mpr h), if_pos ((hp i (by omega)).mp h)]
      · rw [if_neg (fun q => h (lg_eq.mp q)), if_neg (fun q => h ((hp i (by omega)).mpr q)), ih (i + 1) (by omega) (by omega), show n - (i + 1) = n - i - 1 by omega]
/-- a word of letters is found alike: pf among the fixed, pw among the told -/
def pf (l : List Nat) (j : Nat) : Bool := decide (fixW.getD j [] = l)
theorem fixC_l {l : List Nat} (hX : IX s) (hl : isW l) : F_X8_fixedNumber (lN (k27 l)) s = some (scan (pf l) 21 0, s) := by
  have := scan_fixC (s := s) (p := pf l) (key := lN (k27 l)) (fun j hj => by
    rw [(hX j hj).1, (fix_ok j hj).2.1, key27 (fix_ok j hj).1 hl]; simp [pf]) 300 0 (by omega) (by omega)
  rw [nI_0] at this
  unfold F_X8_fixedNumber; exact this
theorem fixM_l {l : List Nat} (hX : IX s) (hl : isW l) : F_X10_fixedOf (lN (k256 l)) s = some (scan (pf l) 21 0, s) := by
  have := scan_fixM (s := s) (p := pf l) (key := lN (k256 l)) (fun j hj => by
    rw [(hX j hj).2, (fix_ok j hj).2.2, key256 (fix_ok j hj).1 hl]; simp [pf]) 300 0 (by omega) (by omega)
  rw [nI_0] at this
  unfold F_X10_fixedOf; exact this
/-- the letters of every word -/
theorem words_l (hW : IW s n) : ∃ wl : Nat → List Nat, ∀ w, w < n → isW (wl w) ∧ ¬ wl w ∈ fixW ∧ s.2 6 w = lN (k27 (wl w)) ∧ s.2 99 w = lN (k256 (wl w)) := by
  have h : ∀ w, ∃ l, w < n → isW l ∧ ¬ l ∈ fixW ∧ s.2 6 w = lN (k27 l) ∧ s.2 99 w = lN (k256 l) := by
    intro w
    by_cases hw : w < n
    · obtain ⟨-, -, -, -, -, -, l, h⟩ := hW.2.2.2.1 w hw
      exact ⟨l, fun _ => h⟩
    · exact ⟨[], fun q => absurd q hw⟩
  exact ⟨fun w => Classical.choose (h w), fun w hw => Classical.choose_spec (h w) hw⟩
def pw (wl : Nat → List Nat) (l : List Nat) (j : Nat) : Bool := decide (wl j = l)
variable {wl : Nat → List Nat}
theorem findC_l {l : List Nat} (hn : n ≤ 60) (hc : s.1 4 7 = nI n) (hwl : ∀ w, w < n → isW (wl w) ∧ ¬ wl w ∈ fixW ∧ s.2 6 w = lN (k27 (wl w)) ∧ s.2 99 w = lN (k256 (wl w))) (hl : isW l) : F_X8_find (lN (k27 l)) s = some (scan (pw wl l) n 0, s) := by
  have := scan_find (s := s) (p := pw wl l) (key := lN (k27 l)) hn hc (fun j hj => by
    rw [(hwl j hj).2.2.1, key27 (hwl j hj).1 hl]; simp [pw]) 300 0 (by omega) (by omega)
  rw [nI_0] at this
  unfold F_X8_find; exact this
theorem wordM_l {l : List Nat} (hn : n ≤ 60) (hc : s.1 94 5 = nI n) (hwl : ∀ w, w < n → isW (wl w) ∧ ¬ wl w ∈ fixW ∧ s.2 6 w = lN (k27 (wl w)) ∧ s.2 99 w = lN (k256 (wl w))) (hl : isW l) : F_X10_wordOf (lN (k256 l)) s = some (scan (pw wl l) n 0, s) := by
  have := scan_wordM (s := s) (p := pw wl l) (key := lN (k256 l)) hn hc (fun j hj => by
    rw [(hwl j hj).2.2.2, key256 (hwl j hj).1 hl]; simp [pw]) 300 0 (by omega) (by omega)
  rw [nI_0] at this
  unfold F_X10_wordOf; exact this
end
/-! letters of the tape -/
def lt (c : Nat) : Nat := if 97 ≤ c ∧ c ≤ 122 then c - 96 else if 65 ≤ c ∧ c ≤ 90 then c - 64 else 0
theorem lt_le (c : Nat) : lt c ≤ 26 := by unfold lt; split; omega; split <;> omega
/-- the letters from i on, at most k -/
def rowL (bc : Nat → Nat) (n : Nat) : Nat → Nat → List Nat
  | 0, _ => []
  | k + 1, i => if i < n ∧ lt (bc i) ≠ 0 then lt (bc i) :: rowL bc n k (i + 1) else []
theorem rowL_len (bc : Nat → Nat) (n : Nat) : ∀ k i, (rowL bc n k i).length ≤ k
  | 0, _ => by simp [rowL]
  | k + 1, i => by
    unfold rowL; split
    · simp; exact rowL_len bc n k (i + 1)
    · simp
theorem rowL_in (bc : Nat → Nat) (n : Nat) : ∀ k i, ∀ c ∈ rowL bc n k i, 1 ≤ c ∧ c ≤ 26
  | 0, _ => by simp [rowL]
  | k + 1, i => by
    unfold rowL; split
    · rename_i h
      intro c hc
      rcases List.mem_cons.mp hc with rfl | hc
      · have := lt_le (bc i); omega
      · exact rowL_in bc n k (i + 1) c hc
    · simp
theorem rowL_W {bc : Nat → Nat} {n k i : Nat} (hk : k + 1 ≤ 8) (hi : i < n) (h : lt (bc i) ≠ 0) : isW (rowL bc n (k + 1) i) := by
  refine ⟨?_, Nat.le_trans (rowL_len _ _ _ _) hk, rowL_in _ _ _ _⟩
  unfold rowL; rw [if_pos ⟨hi, h⟩]; simp
/-- the bytes of both tapes -/
def BY (s : St) (n : Nat) (bc : Nat → Nat) : Prop := n ≤ 200 ∧ ∀ i, i < n → bc i < 256 ∧ s.1 13 i = nI (bc i) ∧ s.1 104 i = (nI (bc i)).toInt8.toInt32
theorem by_of {s : St} {n : Nat} (h : IB s n) : ∃ bc, BY s n bc := by
  have h' : ∀ i, ∃ c, i < n → c < 256 ∧ s.1 13 i = nI c ∧ s.1 104 i = (nI c).toInt8.toInt32 := by
    intro i
    by_cases hi : i < n
    · obtain ⟨c, h⟩ := h.2.2.2 i hi; exact ⟨c, fun _ => h⟩
    · exact ⟨0, fun q => absurd q hi⟩
  exact ⟨fun i => Classical.choose (h' i), h.1, fun i hi => Classical.choose_spec (h' i) hi⟩
theorem by_letter : ∀ c, c < 256 → ((if nI c < (97 : Int32) then (if nI c < (65 : Int32) then (0 : Int32) else (if (90 : Int32) < nI c then (0 : Int32) else ((nI c - (65 : Int32)) + (1 : Int32)))) else (if (122 : Int32) < nI c then (if nI c < (65 : Int32) then (0 : Int32) else (if (90 : Int32) < nI c then (0 : Int32) else ((nI c - (65 : Int32)) + (1 : Int32)))) else ((nI c - (97 : Int32)) + (1 : Int32)))) = nI (lt c)) := by decide +kernel
section
variable {s : St} {n : Nat} {bc : Nat → Nat}
theorem letterAt_k {i : Nat} (hb : BY s n bc) (hc : s.1 12 1 = nI n) (hi : i < 2 ^ 20) : F_X4_letterAt (nI i) s = some (nI (if i < n then lt (bc i) else 0), s) := by
  obtain ⟨h200, hb⟩ := hb
  by_cases h : i < n
  · rw [if_pos h]
    obtain ⟨b1, b2, -⟩ := hb i h
    unfold F_X4_letterAt F_X4_at
    rw [hc, if_neg (nI_pos (by omega)), if_neg (nI_ge h (by omega)), if_neg (grd (n := 200) (by omega) (by omega)), nI_clamp (by omega), b2]
    simp only [Option.bind_some]
    rw [← by_letter _ b1]
    split <;> (try split) <;> (try split) <;> (try split) <;> rfl
  · rw [if_neg h]
    unfold F_X4_letterAt F_X4_at
    rw [hc, if_neg (nI_pos (by omega)), if_pos (nI_le (by omega) (by omega))]
    rfl
theorem keyAt_loop {p : Nat} (hb : BY s n bc) (hc : s.1 12 1 = nI n) (hp : p ≤ 200) : ∀ f i a, i ≤ 8 → 8 < f + i → L_X4_keyAt_4 f (nI p) (lN a) (nI i) s = some (lN (g27 (rowL bc n (8 - i) (p + i)) a), s) := by
  intro f
  induction f with
  | zero => intro i a h1 h2; omega
  | succ f ih =>
    intro i a h1 h2
    unfold L_X4_keyAt_4
    by_cases e : i = 8
    · subst e
      rw [if_pos (show (8 : Int32) ≤ nI 8 by decide)]; rfl
    · rw [if_neg (show ¬ (8 : Int32) ≤ nI i from nI_ge (b := 8) (by omega) (by omega)), nI_add, letterAt_k hb hc (by omega), show 8 - i = (7 - i) + 1 by omega]
      simp only [Option.bind_some]
      unfold rowL
      by_cases h : p + i < n
      · rw [if_pos h]
        by_cases h0 : lt (bc (p + i)) = 0
        · rw [if_pos (by rw [h0]; rfl), if_neg (fun q => q.2 h0)]; rfl
        · have := lt_le (bc (p + i))
          rw [if_neg (nI_ne0 (by omega) (by omega)), if_pos ⟨h, h0⟩, nI_l (by omega), nI_s, show (27 : Int64) = lN 27 from rfl, lN_mul, lN_add, ih (i + 1) _ (by omega) (by omega), show 8 - (i + 1) = 7 - i by omega, show p + (i + 1) = p + i + 1 by omega]
          rfl
      · rw [if_neg h, if_pos nI_0, if_neg (fun q => h q.1)]; rfl
theorem keyAt_k {p : Nat} (hb : BY s n bc) (hc : s.1 12 1 = nI n) (hp : p ≤ 200) : F_X4_keyAt (nI p) s = some (lN (k27 (rowL bc n 8 p)), s) := by
  have := keyAt_loop (p := p) hb hc hp 300 0 0 (by omega) (by omega)
  rw [nI_0] at this
  unfold F_X4_keyAt; exact this
end
