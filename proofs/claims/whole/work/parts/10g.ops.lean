theorem byte_n (x : Int64) : ∃ c, c < 256 ∧ ((x &&& 255) : Int64).toInt32 = nI c ∧ ((x.toInt32).toInt8.toInt32).toInt8.toInt32 = (nI c).toInt8.toInt32 := by
  refine ⟨x.toBitVec.toNat % 2 ^ 8, by omega, ?_, ?_⟩
  · apply Int32.toBitVec_inj.mp
    apply BitVec.eq_of_getLsbD_eq
    intro i hi
    have e : (nI (x.toBitVec.toNat % 2 ^ 8)).toBitVec = BitVec.ofNat 32 (x.toBitVec.toNat % 2 ^ 8) := rfl
    have h255 : ∀ j, j < 32 → (255 : Int64).toBitVec.getLsbD j = decide (j < 8) := by decide +kernel
    rw [e, Int64.toBitVec_toInt32, BitVec.getLsbD_signExtend, BitVec.getLsbD_ofNat, Nat.testBit_mod_two_pow, Int64.toBitVec_and, BitVec.getLsbD_and, h255 i hi]
    have h64 : i < 64 := by omega
    simp [hi, h64, BitVec.getLsbD]
    exact Bool.and_comm _ _
  · rw [Int8.toInt8_toInt32]
    congr 1
    apply Int8.toBitVec_inj.mp
    apply BitVec.eq_of_getLsbD_eq
    intro i hi
    have e : (nI (x.toBitVec.toNat % 2 ^ 8)).toBitVec = BitVec.ofNat 32 (x.toBitVec.toNat % 2 ^ 8) := rfl
    rw [Int32.toBitVec_toInt8, Int32.toBitVec_toInt8, BitVec.getLsbD_signExtend, BitVec.getLsbD_signExtend, Int64.toBitVec_toInt32, BitVec.getLsbD_signExtend, e, BitVec.getLsbD_ofNat, Nat.testBit_mod_two_pow]
    have h32 : i < 32 := by omega
    have h64 : i < 64 := by omega
    simp [hi, h32, h64, BitVec.getLsbD]
/-- the i-th byte of what is fed -/
def byC (l2 : Int64) (i : Nat) : Int32 := (((l2 >>> (((8 : Int32) * nI i).toInt64 &&& 63)) &&& (255 : Int64))).toInt32
def byM (l2 : Int64) (i : Nat) : Int32 := (((((l2 >>> (((8 : Int32) * nI i).toInt64 &&& 63))).toInt32).toInt8.toInt32).toInt8.toInt32)
theorem fedC {l2 : Int64} {m n0 : Nat} (hm : m ≤ 8) (hn : n0 + m ≤ 200) : ∀ f i (s : St), i ≤ m → m < f + i → s.1 12 1 = nI (n0 + i) → ∃ I', L_X4_append_10 f (nI m) l2 (nI i) s = some (I', s.2) ∧ I' 12 1 = nI (n0 + m) ∧ (∀ d, d ≠ 12 → d ≠ 13 → I' d = s.1 d) ∧ (∀ j, j < n0 + i → I' 13 j = s.1 13 j) ∧ ∀ j, i ≤ j → j < m → I' 13 (n0 + j) = byC l2 j := by
  intro f
  induction f with
  | zero => intro i s h1 h2; omega
  | succ f ih =>
    intro i s h1 h2 h3
    unfold L_X4_append_10
    by_cases e : i = m
    · subst e
      exact ⟨s.1, by rw [if_pos (nI_le (Nat.le_refl _) (by omega))], h3, fun _ _ _ => rfl, fun _ _ => rfl, fun j a b => by omega⟩
    · have hi : i < m := by omega
      rw [if_neg (nI_ge hi (by omega)), h3, if_neg (grd (n := 200) (by omega) (by omega)), nI_clamp (by omega), nI_s]
      obtain ⟨I', q1, q2, q3, q4, q5⟩ := ih (i + 1) (xup (xup s.1 13 (n0 + i) (byC l2 i)) 12 1 (nI (n0 + i) + 1), s.2) (by omega) (by omega) (by dsimp only; rw [xup_eq, if_pos rfl, nI_s]; rfl)
      refine ⟨I', ?_, q2, fun d a b => ?_, fun j hj => ?_, fun j a b => ?_⟩
      · rw [← q1]
        simp only [byC, xup_ne (show (12 : Nat) ≠ 13 by omega), h3]
      · rw [q3 d a b]; dsimp only; rw [xup_ne a, xup_ne b]
      · rw [q4 j (by omega)]; dsimp only; rw [xup_ne (by omega), xup_j (by omega)]
      · by_cases ej : j = i
        · subst ej
          rw [q4 (n0 + j) (by omega)]; dsimp only; rw [xup_ne (by omega), xup_eq, if_pos rfl]
        · exact q5 j (by omega) b
theorem fedM {l2 : Int64} {m n0 : Nat} (hm : m ≤ 8) (hn : n0 + m ≤ 200) : ∀ f i (s : St), i ≤ m → m < f + i → s.1 94 12 = nI (n0 + i) → ∃ I', L_X10_feed_17 f (nI m) l2 (nI i) s = some (I', s.2) ∧ I' 94 12 = nI (n0 + m) ∧ (∀ d, d ≠ 94 → d ≠ 104 → I' d = s.1 d) ∧ (∀ j, j ≠ 12 → I' 94 j = s.1 94 j) ∧ (∀ j, j < n0 + i → I' 104 j = s.1 104 j) ∧ ∀ j, i ≤ j → j < m → I' 104 (n0 + j) = byM l2 j := by
  intro f
  induction f with
  | zero => intro i s h1 h2; omega
  | succ f ih =>
    intro i s h1 h2 h3
    unfold L_X10_feed_17
    by_cases e : i = m
    · subst e
      exact ⟨s.1, by rw [if_pos (nI_le (Nat.le_refl _) (by omega))], h3, fun _ _ _ => rfl, fun _ _ => rfl, fun _ _ => rfl, fun j a b => by omega⟩
    · have hi : i < m := by omega
      rw [if_neg (nI_ge hi (by omega)), h3, if_neg (grd (n := 200) (by omega) (by omega)), nI_clamp (by omega), nI_s]
      obtain ⟨I', q1, q2, q3, q6, q4, q5⟩ := ih (i + 1) (xup (xup s.1 104 (n0 + i) (byM l2 i)) 94 12 (nI (n0 + i) + 1), s.2) (by omega) (by omega) (by dsimp only; rw [xup_eq, if_pos rfl, nI_s]; rfl)
      refine ⟨I', ?_, q2, fun d a b => ?_, fun j hj => ?_, fun j hj => ?_, fun j a b => ?_⟩
      · rw [← q1]
        simp only [byM, xup_ne (show (94 : Nat) ≠ 104 by omega), h3]
      · rw [q3 d a b]; dsimp only; rw [xup_ne a, xup_ne b]
      · rw [q6 j hj]; dsimp only; rw [xup_j hj, xup_ne (by omega)]
      · rw [q4 j (by omega)]; dsimp only; rw [xup_ne (by omega), xup_j (by omega)]
      · by_cases ej : j = i
        · subst ej
          rw [q4 (n0 + j) (by omega)]; dsimp only; rw [xup_ne (by omega), xup_eq, if_pos rfl]
        · exact q5 j (by omega) b
/-- what stays when only the tapes change -/
theorem INV_tape {s : St} {I' : Nat → Nat → Int32} {nT nW nB nO : Nat} (hT : IT s nT) (hW : IW s nW) (hX : IX s) (hB : IB (I', s.2) nB) (hP : IP s nT) (hO : IO s nT nO) (hF : s.1 80 9 = s.1 94 17)
    (h : ∀ c, c ≠ 12 → c ≠ 13 → c ≠ 94 → c ≠ 104 → I' c = s.1 c) (h4 : ∀ j, j ≠ 12 → I' 94 j = s.1 94 j) : INV (I', s.2) :=
  ⟨nT, nW, nB, nO, IT_congr hT (h 1 (by omega) (by omega) (by omega) (by omega)) (h 2 (by omega) (by omega) (by omega) (by omega)) (h 3 (by omega) (by omega) (by omega) (by omega)) (h 96 (by omega) (by omega) (by omega) (by omega)) (h 97 (by omega) (by omega) (by omega) (by omega)) (h 98 (by omega) (by omega) (by omega) (by omega)) (h4 1 (by omega)),
    IW_congr hW (fun c a b => h c (by omega) (by omega) (by omega) (by omega)) (fun c a b => h c (by omega) (by omega) (by omega) (by omega)) (h4 5 (by omega)) rfl rfl, IX_congr hX rfl rfl, hB,
    IP_congr hP (fun c a b => h c (by omega) (by omega) (by omega) (by omega)) (h 114 (by omega) (by omega) (by omega) (by omega)) (h 115 (by omega) (by omega) (by omega) (by omega)),
    IO_congr hO (h 23 (by omega) (by omega) (by omega) (by omega)) (fun c a b => h c (by omega) (by omega) (by omega) (by omega)) (fun c a b => h c (by omega) (by omega) (by omega) (by omega)) (fun j a b => h4 j (by omega)),
    by show I' 80 9 = I' 94 17; rw [h 80 (by omega) (by omega) (by omega) (by omega), h4 17 (by omega)]; exact hF⟩
theorem op_feed : Op_feed INV := by
  intro s a1 j2 hinv
  obtain ⟨nT, nW, nB, nO, hT, hW, hX, hB, hP, hO, hF⟩ := id hinv
  obtain ⟨h200, hc, hm, hby⟩ := id hB
  by_cases h1 : a1 < 1
  · refine ⟨-1, s, s, ?_, ?_, hinv⟩
    · unfold F_X9_feed; rw [if_pos h1]
    · unfold F_X10_feed F_X10_isIn; rw [if_pos h1]; rfl
  · by_cases h8 : a1 ≤ 8
    · have hp : ¬ a1 < 0 := by
        rw [Int32.lt_iff_toInt_lt, show (1 : Int32).toInt = 1 from rfl] at h1
        rw [Int32.lt_iff_toInt_lt, Int32.toInt_zero]; omega
      obtain ⟨m, hm8, rfl⟩ := nI_of2 (x := a1) (M := 8) (n := 8) rfl hp h8
      have hg : F_X10_isIn (nI m) 1 8 s = some (1, s) := by
        unfold F_X10_isIn
        rw [if_neg h1, if_neg (by rw [Int32.lt_iff_toInt_lt]; rw [Int32.le_iff_toInt_le] at h8; omega)]
      have hle : nI m ≤ 200 - nI nB ↔ nB + m ≤ 200 := by
        have : (200 - nI nB : Int32) = nI (200 - nB) := by
          rw [show (200 : Int32) = nI 200 from rfl]
          apply Int32.toInt_inj.mp
          rw [pk_sub_toInt (by omega) (by omega), nI_toInt (by omega)]; omega
        rw [this, nI_leI (by omega) (by omega)]; omega
      have hle2 : nI nB + nI m ≤ 200 ↔ nB + m ≤ 200 := by
        rw [nI_add, show (200 : Int32) = nI 200 from rfl, nI_leI (by omega) (by omega)]
      by_cases hf : nB + m ≤ 200
      · obtain ⟨I1, q1, q2, q3, q4, q5⟩ := fedC (l2 := j2) (m := m) hm8 hf 300 0 s (by omega) (by omega) hc
        obtain ⟨I2, p1, p2, p3, p6, p4, p5⟩ := fedM (l2 := j2) (m := m) hm8 hf 300 0 (I1, s.2) (by omega) (by omega) (by show I1 94 12 = _; rw [q3 94 (by omega) (by omega)]; exact hm)
        refine ⟨nI (nB + m), (I1, s.2), (I2, s.2), ?_, ?_, INV_tape (nT := nT) (nW := nW) (nB := nB + m) (nO := nO) hT hW hX ⟨hf, ?_, ?_, fun i hi => ?_⟩ hP hO hF ?_ ?_⟩
        · unfold F_X9_feed
          rw [if_neg h1, if_pos h8]
          unfold F_X4_append
          rw [hc, if_pos (hle.mpr hf)]
          rw [nI_0] at q1
          rw [q1]
          simp [q2]
        · have hg' : F_X10_isIn (nI m) 1 8 (I1, s.2) = some (1, (I1, s.2)) := by
            unfold F_X10_isIn
            rw [if_neg h1, if_neg (by rw [Int32.lt_iff_toInt_lt]; rw [Int32.le_iff_toInt_le] at h8; omega)]
          unfold F_X10_feed
          rw [hg']
          simp only [Option.bind_some, if_neg (show ¬ (1 : Int32) = 0 by decide)]
          rw [q3 94 (by omega) (by omega), hm, if_pos (hle2.mpr hf)]
          rw [nI_0] at p1
          rw [p1]
          simp [p2]
        · show I2 12 1 = _
          rw [p3 12 (by omega) (by omega)]; exact q2
        · exact p2
        · show ∃ c, c < 256 ∧ I2 13 i = nI c ∧ I2 104 i = (nI c).toInt8.toInt32
          rw [p3 13 (by omega) (by omega)]
          dsimp only
          by_cases hi2 : i < nB
          · rw [q4 i (by omega), p4 i (by omega)]
            obtain ⟨c, x, y, z⟩ := hby i hi2
            exact ⟨c, x, y, by show I1 104 i = _; rw [q3 104 (by omega) (by omega)]; exact z⟩
          · obtain ⟨j, rfl⟩ : ∃ j, i = nB + j := ⟨i - nB, by omega⟩
            rw [q5 j (by omega) (by omega), p5 j (by omega) (by omega)]
            exact byte_n _
        · intro c a b d e
          rw [p3 c d e]; exact q3 c a b
        · intro j hj
          rw [p6 j hj]; show I1 94 j = _; rw [q3 94 (by omega) (by omega)]
      · refine ⟨-3, s, s, ?_, ?_, hinv⟩
        · unfold F_X9_feed
          rw [if_neg h1, if_pos h8]
          unfold F_X4_append
          rw [hc, if_neg (fun q => hf (hle.mp q))]; rfl
        · unfold F_X10_feed
          rw [hg]
          simp only [Option.bind_some, if_neg (show ¬ (1 : Int32) = 0 by decide)]
          rw [hm, if_neg (fun q => hf (hle2.mp q))]
    · refine ⟨-1, s, s, ?_, ?_, hinv⟩
      · unfold F_X9_feed; rw [if_neg h1, if_neg h8]
      · have : (8 : Int32) < a1 := by rw [Int32.lt_iff_toInt_lt]; rw [Int32.le_iff_toInt_le] at h8; omega
        unfold F_X10_feed F_X10_isIn; rw [if_neg h1, if_pos this]; rfl
