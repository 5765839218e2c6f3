theorem by_low : ∀ c, c < 256 → ((¬ (nI c).toInt8.toInt32 < 97 ∧ ¬ 122 < (nI c).toInt8.toInt32) ↔ (97 ≤ c ∧ c ≤ 122)) ∧ (c < 128 → (nI c).toInt8.toInt32 = nI c) := by decide +kernel
theorem shl8 (a c : Nat) (hc : c < 256) : (lN a <<< ((8 : Int32).toInt64 &&& 63)) ||| lN c = lN (a * 256 + c) := by
  apply Int64.toBitVec_inj.mp
  apply BitVec.eq_of_getLsbD_eq
  intro i hi
  have e8 : (((8 : Int32).toInt64 &&& 63).toBitVec.smod 64) = 8#64 := by decide +kernel
  have e : ∀ n, (lN n).toBitVec = BitVec.ofNat 64 n := fun n => rfl
  rw [Int64.toBitVec_or, BitVec.getLsbD_or, Int64.toBitVec_shiftLeft]
  show (((lN a).toBitVec <<< (((8 : Int32).toInt64 &&& 63).toBitVec.smod 64)).getLsbD i || (lN c).toBitVec.getLsbD i) = _
  rw [e8, e, e, e, BitVec.shiftLeft_eq', show (8#64).toNat = 8 from rfl, BitVec.getLsbD_shiftLeft, BitVec.getLsbD_ofNat, BitVec.getLsbD_ofNat, BitVec.getLsbD_ofNat, Nat.mul_comm a 256, show 256 = 2 ^ 8 from rfl, Nat.testBit_two_pow_mul_add _ (by omega)]
  by_cases h : i < 8
  · simp [h, hi]
  · have : c.testBit i = false := Nat.testBit_lt_two_pow (Nat.lt_of_lt_of_le (show c < 2 ^ 8 by omega) (Nat.pow_le_pow_right (by omega) (by omega)))
    have h' : i - 8 < 64 := by omega
    simp [h, hi, this, h']
section
variable {s : St} {n : Nat} {bc : Nat → Nat}
theorem plainC (hb : BY s n bc) (hc : s.1 12 1 = nI n) : ∀ f i, i ≤ n → n < f + i → ∃ b : Bool, L_X4_isPlainWord_2 f (nI i) s = some (if b then 1 else 0, s) ∧ (b = true ↔ (∀ j, i ≤ j → j < n → 97 ≤ bc j ∧ bc j ≤ 122) ∧ 1 ≤ n ∧ n ≤ 8) := by
  have h200 := hb.1
  intro f
  induction f with
  | zero => intro i h1 h2; omega
  | succ f ih =>
    intro i h1 h2
    unfold L_X4_isPlainWord_2
    rw [hc]
    by_cases e : i = n
    · subst e
      rw [if_pos (nI_le (Nat.le_refl _) (by omega))]
      by_cases g1 : i < 1
      · rw [if_pos (show nI i < 1 from nI_lt (b := 1) g1 (by omega))]
        exact ⟨false, rfl, by simp; intro _ _; omega⟩
      · rw [if_neg (show ¬ nI i < 1 from nI_nlt (b := 1) (by omega) (by omega))]
        by_cases g8 : 8 < i
        · rw [if_pos (show 8 < nI i from nI_lt (a := 8) g8 (by omega))]
          exact ⟨false, rfl, by simp; intro _ _; omega⟩
        · rw [if_neg (show ¬ 8 < nI i from nI_nlt (a := 8) (by omega) (by omega))]
          exact ⟨true, rfl, by simp; exact ⟨fun j a b => by omega, by omega, by omega⟩⟩
    · have hi : i < n := by omega
      obtain ⟨b1, b2, -⟩ := hb.2 i hi
      rw [if_neg (nI_ge hi (by omega)), if_neg (grd (n := 200) (by omega) (by omega)), nI_clamp (by omega), b2, nI_s]
      by_cases g : bc i < 97
      · rw [if_pos (show nI (bc i) < 97 from nI_lt (b := 97) g (by omega))]
        exact ⟨false, rfl, by simp; intro q; have := q i (by omega) hi; omega⟩
      · rw [if_neg (show ¬ nI (bc i) < 97 from nI_nlt (b := 97) (by omega) (by omega))]
        by_cases g' : bc i ≤ 122
        · rw [if_pos (show nI (bc i) ≤ 122 from nI_le (b := 122) g' (by omega))]
          obtain ⟨b, q1, q2⟩ := ih (i + 1) (by omega) (by omega)
          refine ⟨b, q1, q2.trans ⟨fun q => ⟨fun j x y => ?_, q.2⟩, fun q => ⟨fun j x y => q.1 j (by omega) y, q.2⟩⟩⟩
          by_cases ej : j = i
          · subst ej; exact ⟨by omega, g'⟩
          · exact q.1 j (by omega) y
        · rw [if_neg (show ¬ nI (bc i) ≤ 122 from nI_ge (a := 122) (by omega) (by omega))]
          exact ⟨false, rfl, by simp; intro q; have := q i (by omega) hi; omega⟩
theorem word0 {l1 l2 l6 : Int32} {l3 : Int64} {f : Nat} : L_X10_word_24 (f + 1) l1 l2 l3 0 l6 s = some (l3, 0, s) := by
  unfold L_X10_word_24
  split
  · rfl
  · rw [if_pos rfl]
theorem lowIn {c : Nat} (hc : c < 256) : F_X10_isIn ((nI c).toInt8.toInt32) 97 122 s = some (if 97 ≤ c ∧ c ≤ 122 then 1 else 0, s) := by
  have h := (by_low c hc).1
  unfold F_X10_isIn
  by_cases g : (nI c).toInt8.toInt32 < 97
  · rw [if_pos g, if_neg (fun q => (h.mpr q).1 g)]
  · rw [if_neg g]
    by_cases g' : 122 < (nI c).toInt8.toInt32
    · rw [if_pos g', if_neg (fun q => (h.mpr q).2 g')]
    · rw [if_neg g', if_pos (h.mp ⟨g, g'⟩)]
theorem wordM {l1 : Int32} (hb : BY s n bc) (h8 : n ≤ 8) : ∀ f i a, i ≤ n → n < f + i → ∃ (key : Int64) (b : Bool), L_X10_word_24 (f + 1) l1 (nI n) (lN a) 1 (nI i) s = some (key, if b then 1 else 0, s) ∧ (b = true ↔ ∀ j, i ≤ j → j < n → 97 ≤ bc j ∧ bc j ≤ 122) ∧ (b = true → key = lN (g256 (rowL bc n (8 - i) i) a)) := by
  intro f
  induction f with
  | zero => intro i a h1 h2; omega
  | succ f ih =>
    intro i a h1 h2
    unfold L_X10_word_24
    by_cases e : i = n
    · subst e
      rw [if_pos (nI_le (Nat.le_refl _) (by omega))]
      refine ⟨lN a, true, rfl, by simp; intro j x y; omega, fun _ => ?_⟩
      cases h : 8 - i
      · rfl
      · unfold rowL; rw [if_neg (by omega)]; rfl
    · have hi : i < n := by omega
      obtain ⟨b1, -, b3⟩ := hb.2 i hi
      rw [if_neg (nI_ge hi (by omega)), if_neg (by decide), if_neg (grd (n := 200) (by omega) (by omega)), nI_clamp (by omega), b3, lowIn b1, nI_s]
      simp only [Option.bind_some]
      rw [b3]
      by_cases g : 97 ≤ bc i ∧ bc i ≤ 122
      · rw [if_pos g, (by_low _ b1).2 (by omega), nI_l (by omega), shl8 a _ b1]
        obtain ⟨key, b, q1, q2, q3⟩ := ih (i + 1) (a * 256 + bc i) (by omega) (by omega)
        refine ⟨key, b, q1, q2.trans ⟨fun q j x y => ?_, fun q j x y => q j (by omega) y⟩, fun q => ?_⟩
        · by_cases ej : j = i
          · subst ej; exact g
          · exact q j (by omega) y
        · have hl : lt (bc i) = bc i - 96 := by unfold lt; rw [if_pos g]
          rw [q3 q, show 8 - i = (8 - (i + 1)) + 1 by omega]
          conv => rhs; unfold rowL
          rw [if_pos ⟨hi, by omega⟩]
          show _ = lN (g256 _ (a * 256 + (lt (bc i) + 96)))
          rw [hl, show bc i - 96 + 96 = bc i by omega]
      · rw [if_neg g, word0]
        exact ⟨_, false, rfl, by simp; exact ⟨i, by omega, hi, by omega⟩, by simp⟩
end
theorem plain_row {n : Nat} {bc : Nat → Nat} (h : ∀ j, j < n → 97 ≤ bc j ∧ bc j ≤ 122) (h1 : 1 ≤ n) : isW (rowL bc n 8 0) :=
  rowL_W (by omega) (by omega) (by have := h 0 (by omega); unfold lt; rw [if_pos this]; omega)
theorem INV_word {s : St} {I' : Nat → Nat → Int32} {J' : Nat → Nat → Int64} {nT nW nO v : Nat} {l : List Nat} (hT : IT s nT) (hW : IW s nW) (hX : IX s) (hP : IP s nT) (hO : IO s nT nO) (hF : s.1 80 9 = s.1 94 17) (g3 : nW < 60) (hv : v < 4) (hl : isW l) (hnf : ¬ l ∈ fixW)
    (hI : ∀ d, d ≠ 4 → d ≠ 7 → d ≠ 11 → d ≠ 12 → d ≠ 94 → d ≠ 100 → d ≠ 102 → I' d = s.1 d) (h94 : ∀ j, j ≠ 5 → j ≠ 12 → I' 94 j = s.1 94 j) (h5 : I' 94 5 = nI (nW + 1)) (h12 : I' 94 12 = 0) (ht : I' 12 1 = 0) (h4 : I' 4 7 = nI (nW + 1))
    (h7 : ∀ w, I' 7 w = if w = nW then nI v else s.1 7 w) (h11 : ∀ w, I' 11 w = if w = nW then nI nW else s.1 11 w) (h100 : ∀ w, I' 100 w = if w = nW then nI v else s.1 100 w) (h102 : ∀ w, I' 102 w = if w = nW then -4 else s.1 102 w)
    (hJ : ∀ d, d ≠ 6 → d ≠ 99 → J' d = s.2 d) (h6 : ∀ w, J' 6 w = if w = nW then lN (k27 l) else s.2 6 w) (h99 : ∀ w, J' 99 w = if w = nW then lN (k256 l) else s.2 99 w) : INV (I', J') := by
  obtain ⟨h60, wc, wm, hw, hz, hb, hbb⟩ := hW
  refine ⟨nT, nW + 1, 0, nO, ?_, ⟨by omega, h4, h5, fun w hwn => ?_, fun w a b => ?_, fun w t a b => ?_, fun w t a b => ?_⟩, ?_, ⟨by omega, ht, h12, fun i hi => by omega⟩, ?_, ?_, ?_⟩
  · exact IT_congr hT (hI 1 (by omega) (by omega) (by omega) (by omega) (by omega) (by omega) (by omega)) (hI 2 (by omega) (by omega) (by omega) (by omega) (by omega) (by omega) (by omega)) (hI 3 (by omega) (by omega) (by omega) (by omega) (by omega) (by omega) (by omega)) (hI 96 (by omega) (by omega) (by omega) (by omega) (by omega) (by omega) (by omega)) (hI 97 (by omega) (by omega) (by omega) (by omega) (by omega) (by omega) (by omega)) (hI 98 (by omega) (by omega) (by omega) (by omega) (by omega) (by omega) (by omega)) (h94 1 (by omega) (by omega))
  · simp only [hI 8 (by omega) (by omega) (by omega) (by omega) (by omega) (by omega) (by omega), hI 101 (by omega) (by omega) (by omega) (by omega) (by omega) (by omega) (by omega), h7, h11, h100, h102, h6, h99]
    by_cases e : w = nW
    · subst e
      obtain ⟨z1, z2, -, -⟩ := hz w (by omega) g3
      simp only [if_true]
      exact ⟨trivial, ⟨v, hv, rfl⟩, by rw [z1, z2], ⟨0, by omega, by rw [z2]; rfl⟩, trivial, Or.inl trivial, l, hl, hnf, rfl, rfl⟩
    · obtain ⟨a1, a2, a3, a4, a5, a6, a7⟩ := hw w (by omega)
      simp only [if_neg e]
      refine ⟨a1, a2, a3, a4, a5, ?_, a7⟩
      rcases a6 with a6 | ⟨x, x1, x2, x3, x4⟩
      · exact Or.inl a6
      · refine Or.inr ⟨x, x1, x2, ?_, ?_⟩
        · rw [if_neg (by omega)]; exact x3
        · rw [if_neg (by omega)]; exact x4
  · simp only [hI 8 (by omega) (by omega) (by omega) (by omega) (by omega) (by omega) (by omega), hI 101 (by omega) (by omega) (by omega) (by omega) (by omega) (by omega) (by omega), hI 9 (by omega) (by omega) (by omega) (by omega) (by omega) (by omega) (by omega), hI 10 (by omega) (by omega) (by omega) (by omega) (by omega) (by omega) (by omega)]
    exact hz w (by omega) b
  · simp only [hI 103 (by omega) (by omega) (by omega) (by omega) (by omega) (by omega) (by omega), hI 9 (by omega) (by omega) (by omega) (by omega) (by omega) (by omega) (by omega), hI 10 (by omega) (by omega) (by omega) (by omega) (by omega) (by omega) (by omega)]
    exact hb w t a b
  · simp only [hI 9 (by omega) (by omega) (by omega) (by omega) (by omega) (by omega) (by omega), hI 10 (by omega) (by omega) (by omega) (by omega) (by omega) (by omega) (by omega)]
    exact hbb w t a b
  · exact IX_congr hX (hJ 5 (by omega) (by omega)) (hJ 95 (by omega) (by omega))
  · exact IP_congr hP (fun c a b => hI c (by omega) (by omega) (by omega) (by omega) (by omega) (by omega) (by omega)) (hI 114 (by omega) (by omega) (by omega) (by omega) (by omega) (by omega) (by omega)) (hI 115 (by omega) (by omega) (by omega) (by omega) (by omega) (by omega) (by omega))
  · exact IO_congr hO (hI 23 (by omega) (by omega) (by omega) (by omega) (by omega) (by omega) (by omega)) (fun c a b => hI c (by omega) (by omega) (by omega) (by omega) (by omega) (by omega) (by omega)) (fun c a b => hI c (by omega) (by omega) (by omega) (by omega) (by omega) (by omega) (by omega)) (fun j a b => h94 j (by omega) (by omega))
  · show I' 80 9 = I' 94 17
    rw [hI 80 (by omega) (by omega) (by omega) (by omega) (by omega) (by omega) (by omega), h94 17 (by omega) (by omega)]; exact hF
theorem op_word : Op_word INV := by
  intro s a1 hinv
  obtain ⟨nT, nW, nB, nO, hT, hW, hX, hB, hP, hO, hF⟩ := id hinv
  obtain ⟨h200, hc, hm, hby⟩ := id hB
  obtain ⟨h60, wc, wm, hw, hz, hb, hbb⟩ := id hW
  obtain ⟨bc, hbc⟩ := by_of hB
  obtain ⟨wl, hwl⟩ := words_l hW
  obtain ⟨pb, hp1, hp2⟩ := plainC hbc hc 300 0 (by omega) (by omega)
  rw [nI_0] at hp1
  have hk := keyAt_k (p := 0) hbc hc (by omega)
  rw [nI_0] at hk
  have hB0 : IB (xup (xup s.1 12 1 0) 94 12 0, s.2) 0 := ⟨by omega, by show xup (xup s.1 12 1 0) 94 12 0 12 1 = _; rw [xup_ne (by omega), xup_eq]; rfl, by show xup (xup s.1 12 1 0) 94 12 0 94 12 = _; rw [xup_eq]; rfl, fun i hi => by omega⟩
  have hinv0 : INV (xup (xup s.1 12 1 0) 94 12 0, s.2) := INV_tape (nT := nT) (nW := nW) (nB := 0) (nO := nO) hT hW hX hB0 hP hO hF (fun c x _ y _ => by rw [xup_ne y, xup_ne x]) (fun j hj => by rw [xup_j hj, xup_ne (by omega)])
  have c1 : ∀ z : Option (Int32 × St), ((F_X9_isBelow a1 (4 : Int32) (xup s.1 12 1 0, s.2)).bind fun q4 => if q4.1 = (0 : Int32) then (some ((-1 : Int32), q4.2)) else (if pb = false then (some ((-1 : Int32), q4.2)) else ((F_X8_fixedNumber (lN (k27 (rowL bc nB 8 0))) q4.2).bind fun q7 => if q7.1 = (-4 : Int32) then ((F_X8_find (lN (k27 (rowL bc nB 8 0))) q7.2).bind fun q9 => if q9.1 = (-4 : Int32) then ((F_X8_add (lN (k27 (rowL bc nB 8 0))) a1 q9.2).bind fun q11 => some (q11.1, q11.2)) else (some ((-2 : Int32), q9.2))) else (some ((-1 : Int32), q7.2))))) = z → F_X9_word a1 s = z := by
    intro z hz
    unfold F_X9_word F_X4_isPlainWord
    rw [hp1]
    simp only [Option.bind_some]
    rw [hk]
    simp only [Option.bind_some, F_X4_clear]
    rw [← hz]
    cases pb <;> rfl
  have hm' : xup s.1 12 1 0 94 12 = nI nB := by rw [xup_ne (by omega)]; exact hm
  rcases ix_out (a := a1) (n := 4) (m := 24) (by omega) (by omega) with ⟨v, hv, rfl⟩ | hout
  · by_cases hn : 1 ≤ nB ∧ nB ≤ 8
    · -- the model, after whatever the class did
      have hM : ∀ s1 : St, (∀ d, d ≠ 4 → d ≠ 7 → d ≠ 11 → d ≠ 12 → s1.1 d = s.1 d) → (∀ d, d ≠ 6 → s1.2 d = s.2 d) → (∀ w, w < nW → s1.2 6 w = s.2 6 w) →
          ∃ (key : Int64) (mb : Bool), F_X10_word (nI v) s1 = J_X10_word_49 (nI v) key (if mb then 1 else 0) (xup s1.1 94 12 0, s1.2) ∧ (mb = true ↔ ∀ j, 0 ≤ j → j < nB → 97 ≤ bc j ∧ bc j ≤ 122) ∧ (mb = true → key = lN (k256 (rowL bc nB 8 0))) ∧
          (isW (rowL bc nB 8 0) → J_X10_word_49 (nI v) (lN (k256 (rowL bc nB 8 0))) 1 (xup s1.1 94 12 0, s1.2) = (if scan (pf (rowL bc nB 8 0)) 21 0 = (-4 : Int32) then (if scan (pw wl (rowL bc nB 8 0)) nW 0 = (-4 : Int32) then (if nI nW = 60 then some (-3, (xup s1.1 94 12 0, s1.2)) else some (nI nW, (xup (xup (xup (xup s1.1 94 12 0) 100 nW (nI v)) 102 nW (-4)) 94 5 (nI (nW + 1)), xup s1.2 99 nW (lN (k256 (rowL bc nB 8 0)))))) else some (-2, (xup s1.1 94 12 0, s1.2))) else some (-1, (xup s1.1 94 12 0, s1.2)))) := by
        intro s1 d1 d2 d3
        have hI1 : BY (xup s1.1 94 12 0, s1.2) nB bc := ⟨h200, fun i hi => by
          obtain ⟨x, y, z⟩ := hbc.2 i hi
          exact ⟨x, by show xup s1.1 94 12 0 13 i = _; rw [xup_ne (by omega), d1 13 (by omega) (by omega) (by omega) (by omega)]; exact y, by show xup s1.1 94 12 0 104 i = _; rw [xup_ne (by omega), d1 104 (by omega) (by omega) (by omega) (by omega)]; exact z⟩⟩
        have hin : F_X10_isIn (nI nB) 1 8 (xup s1.1 94 12 0, s1.2) = some (1, (xup s1.1 94 12 0, s1.2)) := by
          unfold F_X10_isIn
          rw [if_neg (show ¬ nI nB < 1 from nI_nlt (b := 1) hn.1 (by omega)), if_neg (show ¬ 8 < nI nB from nI_nlt (a := 8) hn.2 (by omega))]
        obtain ⟨key, mb, m1, m2, m3⟩ := wordM (l1 := nI v) hI1 hn.2 299 0 0 (by omega) (by omega)
        rw [nI_0] at m1
        refine ⟨key, mb, ?_, m2, m3, fun hrow => ?_⟩
        · unfold F_X10_word
          simp only [d1 94 (by omega) (by omega) (by omega) (by omega), hm]
          rw [isIn_k nI3 hv (by omega)]
          simp only [Option.bind_some, if_neg (show ¬ (1 : Int32) = 0 by decide)]
          rw [hin]
          simp only [Option.bind_some, if_neg (show ¬ (1 : Int32) = 0 by decide)]
          rw [show (0 : Int64) = lN 0 from rfl, m1]
          rfl
        · generalize rowL bc nB 8 0 = l at hrow
          have hX2 : IX (xup s1.1 94 12 0, s1.2) := IX_congr hX (d2 5 (by omega)) (d2 95 (by omega))
          have fm := fixM_l hX2 hrow
          have wm' : xup s1.1 94 12 0 94 5 = nI nW := by rw [xup_j (by omega), d1 94 (by omega) (by omega) (by omega) (by omega)]; exact wm
          have gm := wordM_l (s := (xup s1.1 94 12 0, s1.2)) (wl := wl) h60 wm' (fun w hw => by
            obtain ⟨x1, x2, x3, x4⟩ := hwl w hw
            exact ⟨x1, x2, by show s1.2 6 w = _; rw [d3 w hw]; exact x3, by show s1.2 99 w = _; rw [d2 99 (by omega)]; exact x4⟩) hrow
          unfold J_X10_word_49
          rw [if_neg (by decide), fm]
          simp only [Option.bind_some]
          rw [gm]
          simp only [Option.bind_some]
          by_cases g1 : scan (pf l) 21 0 = (-4 : Int32)
          · rw [if_pos g1, if_pos g1]
            by_cases g2 : scan (pw wl l) nW 0 = (-4 : Int32)
            · rw [if_pos g2, if_pos g2, wm']
              by_cases g3 : nI nW = 60
              · rw [if_pos g3, if_pos g3]
              · have : nW ≠ 60 := fun q => g3 (by rw [q]; rfl)
                rw [if_neg g3, if_neg g3, if_neg (grd (n := 60) (by omega) (by omega)), nI_clamp (by omega)]
                simp only [xup_ne (show (94 : Nat) ≠ 100 by omega), xup_ne (show (94 : Nat) ≠ 102 by omega), wm', xup_eq, if_true]
                rw [if_neg (grd (n := 60) (by omega) (by omega)), nI_clamp (by omega), nI_s, nI_pred]
            · rw [if_neg g2, if_neg g2]
          · rw [if_neg g1, if_neg g1]
      obtain ⟨key, mb, m1, m2, m3, m4⟩ := hM (xup s.1 12 1 0, s.2) (fun d _ _ _ x => by show xup s.1 12 1 0 d = _; rw [xup_ne x]) (fun _ _ => rfl) (fun _ _ => rfl)
      cases hmb : mb
      · have hpb : pb = false := by
          cases hh : pb
          · rfl
          · have := m2.mpr (hp2.mp hh).1; rw [hmb] at this; cases this
        refine ⟨-1, (xup s.1 12 1 0, s.2), (xup (xup s.1 12 1 0) 94 12 0, s.2), c1 _ ?_, m1.trans ?_, hinv0⟩
        · rw [isBelow4_k hv, hpb]; rfl
        · rw [hmb]; rfl
      · have hall := m2.mp hmb
        have hpb : pb = true := hp2.mpr ⟨hall, hn⟩
        have hrow : isW (rowL bc nB 8 0) := plain_row (fun j hj => hall j (by omega) hj) hn.1
        rw [hmb, m3 hmb] at m1
        have m1 := m1.trans (m4 hrow)
        have fin : ∀ s1 : St, (∀ d, d ≠ 4 → d ≠ 7 → d ≠ 11 → d ≠ 12 → s1.1 d = s.1 d) → (∀ d, d ≠ 6 → s1.2 d = s.2 d) → (∀ w, w < nW → s1.2 6 w = s.2 6 w) → F_X10_word (nI v) s1 = (if scan (pf (rowL bc nB 8 0)) 21 0 = (-4 : Int32) then (if scan (pw wl (rowL bc nB 8 0)) nW 0 = (-4 : Int32) then (if nI nW = 60 then some (-3, (xup s1.1 94 12 0, s1.2)) else some (nI nW, (xup (xup (xup (xup s1.1 94 12 0) 100 nW (nI v)) 102 nW (-4)) 94 5 (nI (nW + 1)), xup s1.2 99 nW (lN (k256 (rowL bc nB 8 0)))))) else some (-2, (xup s1.1 94 12 0, s1.2))) else some (-1, (xup s1.1 94 12 0, s1.2))) := by
          intro s1 d1 d2 d3
          obtain ⟨key', mb', p1, p2, p3, p4⟩ := hM s1 d1 d2 d3
          have hmb' : mb' = true := p2.mpr hall
          rw [hmb', p3 hmb'] at p1
          exact p1.trans (p4 hrow)
        clear hM m4 m3
        generalize rowL bc nB 8 0 = l at hrow c1 m1 fin
        have hX1 : IX (xup s.1 12 1 0, s.2) := IX_congr hX rfl rfl
        have fc := fixC_l hX1 hrow
        have wc' : xup s.1 12 1 0 4 7 = nI nW := by rw [xup_ne (by omega)]; exact wc
        have gc := findC_l (s := (xup s.1 12 1 0, s.2)) (wl := wl) h60 wc' hwl hrow
        have c1' : ∀ z : Option (Int32 × St), (if scan (pf l) 21 0 = (-4 : Int32) then (if scan (pw wl l) nW 0 = (-4 : Int32) then (F_X8_add (lN (k27 l)) (nI v) (xup s.1 12 1 0, s.2)).bind fun q11 => some (q11.1, q11.2) else some (-2, (xup s.1 12 1 0, s.2))) else some (-1, (xup s.1 12 1 0, s.2))) = z → F_X9_word (nI v) s = z := by
          intro z hz
          apply c1
          rw [isBelow4_k hv, hpb]
          simp only [Option.bind_some, if_neg (show ¬ (1 : Int32) = 0 by decide), Bool.true_eq_false, if_false]
          rw [fc]
          simp only [Option.bind_some]
          rw [gc]
          simp only [Option.bind_some]
          exact hz
        by_cases g1 : scan (pf l) 21 0 = (-4 : Int32)
        · by_cases g2 : scan (pw wl l) nW 0 = (-4 : Int32)
          · by_cases g3 : nW < 60
            · have e60 : ¬ nI nW = 60 := fun q => by have := nI_inj (b := 60) (by omega) (by omega) q; omega
              have hnf : ¬ l ∈ fixW := by
                intro hmem
                obtain ⟨j, hj, hjl⟩ := List.mem_iff_getElem.mp hmem
                have hj21 : j < 21 := hj
                rcases scan_spec (p := pf l) 21 0 (by omega) with ⟨-, q⟩ | ⟨j', x, y, z, t⟩
                · have := q j (by omega) (by omega)
                  unfold pf at this
                  simp [hj, hjl] at this
                · rw [t] at g1; exact nI_m4 (by omega) g1
              refine ⟨nI nW, (xup (xup (xup (xup s.1 12 1 0) 7 nW (nI v)) 11 nW (nI nW)) 4 7 (nI (nW + 1)), xup s.2 6 nW (lN (k27 l))), _, c1' _ ?_, (fin _ ?_ ?_ ?_).trans (by rw [if_pos g1, if_pos g2, if_neg e60]), ?_⟩
              · rw [if_pos g1, if_pos g2]
                unfold F_X8_add
                simp only [wc']
                rw [if_pos (show nI nW < 60 from nI_lt (b := 60) g3 (by omega)), if_neg (grd (n := 60) g3 (by omega)), nI_clamp (by omega)]
                simp only [xup_ne (show (4 : Nat) ≠ 7 by omega), xup_ne (show (4 : Nat) ≠ 11 by omega), wc', xup_eq, if_true]
                rw [if_neg (grd (n := 60) g3 (by omega)), nI_clamp (by omega), nI_s, nI_pred]
                rfl
              · intro d x1 x2 x3 x4; dsimp only; rw [xup_ne x1, xup_ne x3, xup_ne x2, xup_ne x4]
              · intro d x; dsimp only; rw [xup_ne x]
              · intro w hw; dsimp only; rw [xup_j (by omega)]
              · refine INV_word (v := v) (l := l) hT hW hX hP hO hF g3 hv hrow hnf ?_ ?_ ?_ ?_ ?_ ?_ ?_ ?_ ?_ ?_ ?_ ?_ ?_
                · intro d x1 x2 x3 x4 x5 x6 x7
                  dsimp only
                  rw [xup_ne x5, xup_ne x7, xup_ne x6, xup_ne x5, xup_ne x1, xup_ne x3, xup_ne x2, xup_ne x4]
                rotate_left 9
                · intro d x1 x2; dsimp only; rw [xup_ne x2, xup_ne x1]
                all_goals (intros; simp [xup_ap, *])
            · have e : nW = 60 := by omega
              refine ⟨-3, (xup s.1 12 1 0, s.2), (xup (xup s.1 12 1 0) 94 12 0, s.2), c1' _ ?_, m1.trans (by rw [if_pos g1, if_pos g2, if_pos (by rw [e]; rfl)]), hinv0⟩
              rw [if_pos g1, if_pos g2]
              unfold F_X8_add
              simp only [wc']
              rw [if_neg (show ¬ nI nW < 60 from nI_nlt (b := 60) (by omega) (by omega))]; rfl
          · exact ⟨-2, (xup s.1 12 1 0, s.2), (xup (xup s.1 12 1 0) 94 12 0, s.2), c1' _ (by rw [if_pos g1, if_neg g2]), m1.trans (by rw [if_pos g1, if_neg g2]), hinv0⟩
        · exact ⟨-1, (xup s.1 12 1 0, s.2), (xup (xup s.1 12 1 0) 94 12 0, s.2), c1' _ (by rw [if_neg g1]), m1.trans (by rw [if_neg g1]), hinv0⟩
    · have hpb : pb = false := by
        cases hh : pb
        · rfl
        · exact absurd (hp2.mp hh).2 hn
      refine ⟨-1, (xup s.1 12 1 0, s.2), (xup (xup s.1 12 1 0) 94 12 0, s.2), c1 _ ?_, ?_, hinv0⟩
      · rw [isBelow4_k hv, hpb]; rfl
      · have hin : F_X10_isIn (nI nB) 1 8 (xup (xup s.1 12 1 0) 94 12 0, s.2) = some (0, (xup (xup s.1 12 1 0) 94 12 0, s.2)) := by
          unfold F_X10_isIn
          by_cases q : nB < 1
          · rw [if_pos (show nI nB < 1 from nI_lt (b := 1) q (by omega))]
          · rw [if_neg (show ¬ nI nB < 1 from nI_nlt (b := 1) (by omega) (by omega)), if_pos (show 8 < nI nB from nI_lt (a := 8) (by omega) (by omega))]
        unfold F_X10_word
        simp only [hm']
        rw [isIn_k nI3 hv (by omega)]
        simp only [Option.bind_some, if_neg (show ¬ (1 : Int32) = 0 by decide)]
        rw [hin]
        simp only [Option.bind_some, if_true]
        rw [word0]; rfl
  · refine ⟨-1, (xup s.1 12 1 0, s.2), (xup (xup s.1 12 1 0) 94 12 0, s.2), c1 _ ?_, ?_, hinv0⟩
    · rw [isBelow4_o hout]; rfl
    · unfold F_X10_word
      simp only [hm']
      rw [isIn_o nI3 (by omega) hout]
      simp only [Option.bind_some, if_true]
      rw [word0]; rfl
