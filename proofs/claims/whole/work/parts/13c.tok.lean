theorem by_upr : ∀ c, c < 256 → ((¬ (nI c).toInt8.toInt32 < 65 ∧ ¬ 90 < (nI c).toInt8.toInt32) ↔ (65 ≤ c ∧ c ≤ 90)) := by decide +kernel
theorem by_sym : ∀ c, c < 256 → ((nI c).toInt8.toInt32 = 44 ↔ c = 44) ∧ ((nI c).toInt8.toInt32 = 46 ↔ c = 46) ∧ ((nI c).toInt8.toInt32 = 32 ↔ c = 32) := by decide +kernel
def wend (bc : Nat → Nat) (n : Nat) : Nat → Nat → Nat
  | 0, k => k
  | f + 1, k => if k < n ∧ lt (bc k) ≠ 0 then wend bc n f (k + 1) else k
theorem wend_spec (bc : Nat → Nat) (n : Nat) : ∀ f k, k ≤ n → n ≤ f + k → k ≤ wend bc n f k ∧ wend bc n f k ≤ n ∧ (∀ j, k ≤ j → j < wend bc n f k → lt (bc j) ≠ 0) ∧ (wend bc n f k = n ∨ lt (bc (wend bc n f k)) = 0) := by
  intro f
  induction f with
  | zero => intro k h1 h2; exact ⟨Nat.le_refl _, h1, fun j a b => by have b : j < k := b; omega, Or.inl (by show k = n; omega)⟩
  | succ f ih =>
    intro k h1 h2
    unfold wend
    by_cases c : k < n ∧ lt (bc k) ≠ 0
    · rw [if_pos c]
      obtain ⟨q1, q2, q3, q4⟩ := ih (k + 1) (by omega) (by omega)
      refine ⟨by omega, q2, fun j a b => ?_, q4⟩
      by_cases e : j = k
      · rw [e]; exact c.2
      · exact q3 j (by omega) b
    · rw [if_neg c]
      refine ⟨Nat.le_refl _, h1, fun j a b => by omega, ?_⟩
      rcases Nat.lt_or_ge k n with q | q
      · right
        rcases Nat.eq_zero_or_pos (lt (bc k)) with w | w
        · exact w
        · exact absurd ⟨q, by omega⟩ c
      · left; omega
section
variable {s : St} {W : Wd} {bc : Nat → Nat} {n : Nat} {l : List Nat}
theorem upIn {c : Nat} (hc : c < 256) : F_X10_isIn ((nI c).toInt8.toInt32) 65 90 s = some (if 65 ≤ c ∧ c ≤ 90 then 1 else 0, s) := by
  have h := by_upr c hc
  unfold F_X10_isIn
  by_cases g : (nI c).toInt8.toInt32 < 65
  · rw [if_pos g, if_neg (fun q => (h.mpr q).1 g)]
  · rw [if_neg g]
    by_cases g' : 90 < (nI c).toInt8.toInt32
    · rw [if_pos g', if_neg (fun q => (h.mpr q).2 g')]
    · rw [if_neg g', if_pos (h.mp ⟨g, g'⟩)]
theorem isLet_y {c : Nat} (hc : c < 256) (h : lt c ≠ 0) : F_X10_isLetter ((nI c).toInt8.toInt32) s = some (1, s) := by
  unfold F_X10_isLetter
  rw [lowIn hc, Option.bind_some]
  dsimp only
  by_cases g : 97 ≤ c ∧ c ≤ 122
  · rw [if_pos g, if_neg (by decide)]
  · rw [if_neg g, if_pos rfl, upIn hc, Option.bind_some]
    dsimp only
    have : 65 ≤ c ∧ c ≤ 90 := by
      unfold lt at h; rw [if_neg g] at h
      by_cases q : 65 ≤ c ∧ c ≤ 90
      · exact q
      · rw [if_neg q] at h; exact absurd rfl h
    rw [if_pos this, if_neg (by decide)]
theorem isLet_n {c : Nat} (hc : c < 256) (h : lt c = 0) : F_X10_isLetter ((nI c).toInt8.toInt32) s = some (0, s) := by
  unfold F_X10_isLetter
  rw [lowIn hc, Option.bind_some]
  dsimp only
  have h1 : ¬ (97 ≤ c ∧ c ≤ 122) := fun q => by unfold lt at h; rw [if_pos q] at h; omega
  have h2 : ¬ (65 ≤ c ∧ c ≤ 90) := fun q => by unfold lt at h; rw [if_neg h1, if_pos q] at h; omega
  rw [if_neg h1, if_pos rfl, upIn hc, Option.bind_some]
  dsimp only
  rw [if_neg h2, if_pos rfl]
/-- the first look at the bytes -/
theorem cuts5 (hb : BY s n bc) : ∀ f k, k ≤ n → n < f + k →
    ((∀ j, k ≤ j → j < n → okB (bc j)) → L_X10_cuts_5 f (nI n) (nI k) s = (L_X10_cuts_36 300 (nI n) 0 s).bind fun q37 => (F_X10_comes 33 (nI n) q37).bind fun q44 => some ((1 : Int32), q44)) ∧
    (∀ j, k ≤ j → j < n → (∀ j', k ≤ j' → j' < j → okB (bc j')) → ¬ okB (bc j) → L_X10_cuts_5 f (nI n) (nI k) s = some (0, (xup (xup s.1 94 17 1) 94 18 (nI j), s.2))) := by
  have h200 := hb.1
  intro f
  induction f with
  | zero => intro k h1 h2; omega
  | succ f ih =>
    intro k h1 h2
    unfold L_X10_cuts_5
    by_cases e : k = n
    · rw [if_pos (nI_le (by omega) (by omega))]
      exact ⟨fun _ => rfl, fun j a b => by omega⟩
    have hk : k < n := by omega
    obtain ⟨b1, -, b3⟩ := hb.2 k hk
    obtain ⟨y1, y2, y3⟩ := by_sym _ b1
    obtain ⟨i1, i2⟩ := ih (k + 1) (by omega) (by omega)
    rw [if_neg (nI_ge hk (by omega)), if_neg (grd (n := 200) (by omega) (by omega)), nI_clamp (by omega), b3, nI_s]
    have go : okB (bc k) → ((∀ j, k ≤ j → j < n → okB (bc j)) → L_X10_cuts_5 f (nI n) (nI (k + 1)) s = (L_X10_cuts_36 300 (nI n) 0 s).bind fun q37 => (F_X10_comes 33 (nI n) q37).bind fun q44 => some ((1 : Int32), q44)) ∧
        (∀ j, k ≤ j → j < n → (∀ j', k ≤ j' → j' < j → okB (bc j')) → ¬ okB (bc j) → L_X10_cuts_5 f (nI n) (nI (k + 1)) s = some (0, (xup (xup s.1 94 17 1) 94 18 (nI j), s.2))) := by
      intro hok
      refine ⟨fun h => i1 (fun j a b => h j (by omega) b), fun j x y h h' => ?_⟩
      by_cases ej : j = k
      · subst ej; exact absurd hok h'
      · exact i2 j (by omega) y (fun j' a b => h j' (by omega) b) h'
    by_cases c0 : lt (bc k) = 0
    · rw [isLet_n b1 c0, Option.bind_some]
      dsimp only
      rw [if_pos rfl]
      by_cases k44 : bc k = 44
      · rw [if_pos (y1.mpr k44)]; exact go (Or.inr (Or.inl k44))
      rw [if_neg (fun q => k44 (y1.mp q))]
      by_cases k46 : bc k = 46
      · rw [if_pos (y2.mpr k46)]; exact go (Or.inr (Or.inr (Or.inl k46)))
      rw [if_neg (fun q => k46 (y2.mp q))]
      by_cases k32 : bc k = 32
      · rw [if_pos (y3.mpr k32)]; exact go (Or.inr (Or.inr (Or.inr k32)))
      rw [if_neg (fun q => k32 (y3.mp q))]
      have hbad : ¬ okB (bc k) := by unfold okB; omega
      refine ⟨fun h => absurd (h k (by omega) hk) hbad, fun j x y h h' => ?_⟩
      by_cases ej : j = k
      · subst ej; rfl
      · exact absurd (h k (by omega) (by omega)) hbad
    · rw [isLet_y b1 c0, Option.bind_some]
      dsimp only
      rw [if_neg (by decide)]
      exact go (Or.inl c0)
theorem lt_low {c : Nat} (h : lt c ≠ 0) : c < 128 ∧ (97 ≤ c → lt c + 96 = c) ∧ (¬ 97 ≤ c → lt c + 96 = c + 32) := by
  unfold lt at h ⊢
  by_cases g : 97 ≤ c ∧ c ≤ 122
  · rw [if_pos g]; omega
  · rw [if_neg g] at h ⊢
    by_cases g' : 65 ≤ c ∧ c ≤ 90
    · rw [if_pos g']; omega
    · rw [if_neg g'] at h; exact absurd rfl h
/-- a row of letters, to its end -/
theorem cuts49 {b0 : Nat} (hb : BY s n bc) : ∀ f k g a, b0 ≤ k → k ≤ n → n < f + k → n ≤ g + k → L_X10_cuts_49 f (nI n) (nI k) (nI b0) (lN a) s = some (nI (wend bc n g k), lN (g256 (rowL bc n (8 - (k - b0)) k) a), s) := by
  have h200 := hb.1
  intro f
  induction f with
  | zero => intro k g a h0 h1 h2; omega
  | succ f ih =>
    intro k g a h0 h1 h2 h3
    unfold L_X10_cuts_49
    by_cases e : k = n
    · rw [if_pos (nI_le (by omega) (by omega))]
      have e1 : wend bc n g k = k := by
        cases g with
        | zero => rfl
        | succ g => unfold wend; rw [if_neg (by omega)]
      have e2 : rowL bc n (8 - (k - b0)) k = [] := by
        cases 8 - (k - b0) with
        | zero => rfl
        | succ m => unfold rowL; rw [if_neg (by omega)]
      rw [e1, e2]; rfl
    have hk : k < n := by omega
    obtain ⟨b1, -, b3⟩ := hb.2 k hk
    obtain ⟨g', rfl⟩ : ∃ g', g = g' + 1 := ⟨g - 1, by omega⟩
    rw [if_neg (nI_ge hk (by omega)), if_neg (grd (n := 200) (by omega) (by omega)), nI_clamp (by omega), b3, nI_s]
    by_cases c0 : lt (bc k) = 0
    · rw [isLet_n b1 c0, Option.bind_some]
      dsimp only
      rw [if_pos rfl]
      have e1 : wend bc n (g' + 1) k = k := by unfold wend; rw [if_neg (fun q => q.2 c0)]
      have e2 : rowL bc n (8 - (k - b0)) k = [] := by
        cases 8 - (k - b0) with
        | zero => rfl
        | succ m => unfold rowL; rw [if_neg (fun q => q.2 c0)]
      rw [e1, e2]; rfl
    · obtain ⟨l1, l2, l3⟩ := lt_low c0
      rw [isLet_y b1 c0, Option.bind_some]
      dsimp only
      rw [if_neg (by decide), b3]
      have e1 : wend bc n (g' + 1) k = wend bc n g' (k + 1) := by conv => lhs; unfold wend
                                                                  rw [if_pos ⟨hk, c0⟩]
      have e8 : nI b0 + (8 : Int32) = nI (b0 + 8) := by rw [show (8 : Int32) = nI 8 from rfl, nI_add]
      rw [e1, e8]
      by_cases c8 : b0 + 8 ≤ k
      · rw [if_pos (nI_le c8 (by omega)), ih (k + 1) g' a (by omega) (by omega) (by omega) (by omega), show 8 - (k - b0) = 0 by omega, show 8 - (k + 1 - b0) = 0 by omega]
        rfl
      · rw [if_neg (nI_ge (by omega) (by omega)), (by_low _ b1).2 l1]
        have hrow : rowL bc n (8 - (k - b0)) k = lt (bc k) :: rowL bc n (8 - (k + 1 - b0)) (k + 1) := by
          rw [show 8 - (k - b0) = (8 - (k + 1 - b0)) + 1 by omega]
          conv => lhs; unfold rowL
          rw [if_pos ⟨hk, c0⟩]
        rw [hrow]
        show _ = some (_, lN (g256 _ (a * 256 + (lt (bc k) + 96))), s)
        by_cases c97 : 97 ≤ bc k
        · rw [if_pos (show (97 : Int32) ≤ nI (bc k) from nI_le (a := 97) c97 (by omega)), nI_l (by omega), shl8 a _ (by omega), ih (k + 1) g' _ (by omega) (by omega) (by omega) (by omega), l2 c97]
        · rw [if_neg (show ¬ (97 : Int32) ≤ nI (bc k) from nI_ge (b := 97) (by omega) (by omega)), show (32 : Int32) = nI 32 from rfl, nI_add, nI_l (by omega), shl8 a _ (by omega), ih (k + 1) g' _ (by omega) (by omega) (by omega) (by omega), l3 c97]
/-- the model's tokens -/
def encT (t : Tok) : Nat := if t.1 < 21 then t.1 else if t.1 = 21 then 30 else if t.1 = 22 then 31 else if t.1 = 26 then 32 else if t.1 = 28 then 33 else 100 + t.2.1
def TM (s : St) (L : List Tok) : Prop := s.1 94 15 = nI L.length ∧ ∀ i t, L[i]? = some t → s.1 105 i = nI (encT t) ∧ s.1 106 i = nI t.2.2
def FM (s s' : St) : Prop := s'.2 = s.2 ∧ (∀ c, c ≠ 94 → c ≠ 105 → c ≠ 106 → s'.1 c = s.1 c) ∧ ∀ j, j ≠ 15 → s'.1 94 j = s.1 94 j
theorem FM_refl (s : St) : FM s s := ⟨rfl, fun _ _ _ _ => rfl, fun _ _ => rfl⟩
theorem FM_trans {s s1 s2 : St} (h : FM s s1) (h' : FM s1 s2) : FM s s2 := ⟨h'.1.trans h.1, fun c a b d => (h'.2.1 c a b d).trans (h.2.1 c a b d), fun j a => (h'.2.2 j a).trans (h.2.2 j a)⟩
theorem comes_k {L : List Tok} {t : Tok} {v : Int32} (h : TM s L) (hL : L.length ≤ 200) (hv : v = nI (encT t)) : ∃ s', F_X10_comes v (nI t.2.2) s = some s' ∧ TM s' (L ++ [t]) ∧ FM s s' := by
  obtain ⟨h1, h2⟩ := h
  unfold F_X10_comes
  rw [h1, if_neg (grd (n := 201) (by omega) (by omega))]
  dsimp only
  rw [xup_ne (show 94 ≠ 106 by omega), xup_ne (show 94 ≠ 105 by omega), h1, if_neg (grd (n := 201) (by omega) (by omega)), nI_clamp (by omega), nI_s]
  refine ⟨_, rfl, ⟨?_, fun i t' ht => ?_⟩, rfl, fun c c1 c2 c3 => ?_, fun j hj => ?_⟩
  · dsimp only; rw [xup_eq, if_pos rfl]; simp
  · dsimp only
    rw [xup_ne (show 105 ≠ 94 by omega), xup_ne (show 105 ≠ 106 by omega), xup_ne (show 106 ≠ 94 by omega), xup_eq, xup_eq]
    rcases gl_app ht with ⟨rfl, rfl⟩ | ⟨hi, ht⟩
    · rw [if_pos rfl, if_pos rfl]; exact ⟨hv, rfl⟩
    · rw [if_neg (by omega), if_neg (by omega), xup_ne (by omega)]
      exact h2 i t' ht
  · dsimp only; rw [xup_ne c1, xup_ne c3, xup_ne c2]
  · dsimp only; rw [xup_j hj, xup_ne (by omega), xup_ne (by omega)]
end
