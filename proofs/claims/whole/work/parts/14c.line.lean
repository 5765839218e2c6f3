section
variable {s : St} {E : LEnv} {A : Ab} {nT n : Nat}
theorem OS_of {o : Nat} {za zv zp : Int32} {f g : Nat → Int32} {zf zg : Int32} {r : Ord} (hc : CO s o r) (hm : MOg za zv zp f g zf zg r) (h1 : r.1 < nT) (h2 : ∀ x ∈ r.2.2.2.1, x < nT) (h3 : ∀ x ∈ r.2.2.2.2, x < nT) : OS s o nT za zv zp f g zf zg := by
  obtain ⟨c1, c2, c3, c4, c5⟩ := hc
  obtain ⟨m1, m2, m3, m4, m5⟩ := hm
  exact ⟨by rw [c1, m1], by rw [c2, m2], by rw [c3, m3], ⟨r.1, h1, m1⟩, LSt_of c4 m4 h2, LSt_of c5 m5 h3⟩
theorem IP_of (hC : CA s A) (hM : MA s A) (hok : AOK E A) (hE : eT E = nT) : IP s nT := fun p hp => LSt_of (hC.1 p hp) (hM.1 p hp) (by rw [← hE]; exact (hok.1 p hp).2)
theorem IO_of (hC : CA s A) (hM : MA s A) (hok : AOK E A) (hE : eT E = nT) : IO s nT A.2.1.length := by
  obtain ⟨c1, c2, c3, c4, c5, c6⟩ := hC
  obtain ⟨m1, m2, m3, m4, m5, m6⟩ := hM
  obtain ⟨k1, k2, k3⟩ := hok
  subst hE
  refine ⟨c3, c2, m2, by rw [c4, m4], fun i hi => ?_, OS_of c6 m6 k3.1 k3.2.1.2 k3.2.2.2⟩
  have hx : A.2.1[i]? = some A.2.1[i] := List.getElem?_eq_getElem hi
  have hr := k2 _ (List.getElem_mem hi)
  exact OS_of (c5 i _ hx) (m5 i _ hx) hr.1 hr.2.1.2 hr.2.2.2
/-- what both keep, out of the invariant: the table and the latest -/
theorem Ab_of {nO : Nat} (hP : IP s nT) (hO : IO s nT nO) (hT : nT ≤ 24) : ∃ (T : Nat → List Nat) (r : Ord), CT s T ∧ MT s T ∧ (∀ p, p < 4 → (T p).Nodup ∧ ∀ x ∈ T p, x < nT) ∧ CO s 25 r ∧ MLa s r ∧ r.1 < nT ∧ (r.2.2.2.1.Nodup ∧ ∀ x ∈ r.2.2.2.1, x < nT) ∧ (r.2.2.2.2.Nodup ∧ ∀ x ∈ r.2.2.2.2, x < nT) := by
  have hp : ∀ p, ∃ l, p < 4 → CL s (15 + 2 * p) l ∧ ML (fun k => s.1 114 (24 * p + k)) (s.1 115 p) l ∧ ∀ x ∈ l, x < nT := by
    intro p
    by_cases h : p < 4
    · obtain ⟨l, q⟩ := LSt_to (hP p h) hT
      exact ⟨l, fun _ => q⟩
    · exact ⟨[], fun q => absurd q h⟩
  obtain ⟨o1, o2, o3, ⟨t, o4, o4'⟩, o5, o6⟩ := hO.2.2.2.2.2
  obtain ⟨l1, a1, a2, a3⟩ := LSt_to o5 hT
  obtain ⟨l2, b1, b2, b3⟩ := LSt_to o6 hT
  have hv : nI (s.1 94 27).toBitVec.toNat = s.1 94 27 := by
    apply Int32.toBitVec_inj.mp
    show BitVec.ofNat 32 (s.1 94 27).toBitVec.toNat = _
    rw [BitVec.ofNat_toNat, BitVec.setWidth_eq]
  refine ⟨fun p => Classical.choose (hp p), (t, (s.1 94 27).toBitVec.toNat, s.1 94 28, l1, l2), fun p h => (Classical.choose_spec (hp p) h).1, fun p h => (Classical.choose_spec (hp p) h).2.1, fun p h => ⟨(Classical.choose_spec (hp p) h).1.2.2.1, (Classical.choose_spec (hp p) h).2.2⟩, ⟨by rw [o1, o4'], by rw [o2]; exact hv.symm, o3, a1, b1⟩, ⟨o4', hv.symm, rfl, a2, b2⟩, o4, ⟨a1.2.2.1, a3⟩, ⟨b1.2.2.1, b3⟩⟩
/-- the strange byte, in the class -/
theorem strange_k (h8 : s.1 80 8 = 0) (h3 : s.1 81 3 = 1) (h2 : s.1 82 0 = 27) : ∃ s', F_X2_readOrder s = some (0, s') ∧ s'.2 = s.2 ∧ (∀ c, c ≠ 80 → c ≠ 85 → c ≠ 92 → c ≠ 93 → s'.1 c = s.1 c) ∧ s'.1 80 9 = 1 ∧ s'.1 80 10 = 0 := by
  have kd : ∀ s : St, s.1 81 3 = 1 → s.1 82 0 = 27 → F_X7_kindAt 0 s = some (27, s) := by
    intro s h3 h2
    unfold F_X7_kindAt
    rw [h3, if_neg (by decide), if_neg (by decide), if_neg (by decide), show (0 : Int32).toNatClampNeg = 0 from rfl, h2]
  have sk : F_X2_skipStops s = some s := by
    unfold F_X2_skipStops L_X2_skipStops_2
    rw [if_neg (by decide), h8, kd s h3 h2, Option.bind_some]
    dsimp only
    rw [show F_X2_isStop 27 s = some (0, s) from rfl, Option.bind_some]
    dsimp only
    rw [if_pos rfl, Option.bind_some]
  obtain ⟨I, c1, c2, c3, c4⟩ := clear_k (s := (xup s.1 85 2 0, s.2)) (o := 92)
  dsimp only at c1 c3
  have i8 : I 80 8 = 0 := by rw [c3 80 (by omega) (by omega), xup_ne (by omega)]; exact h8
  have i3 : I 81 3 = 1 := by rw [c3 81 (by omega) (by omega), xup_ne (by omega)]; exact h3
  have i2 : I 82 0 = 27 := by rw [c3 82 (by omega) (by omega), xup_ne (by omega)]; exact h2
  have k1 : F_X7_kindAt 0 (I, s.2) = some (27, (I, s.2)) := kd (I, s.2) i3 i2
  have fm : F_X2_failMisplaced (I, s.2) = some (0, (xup (xup I 80 9 1) 80 10 0, s.2)) := by
    unfold F_X2_failMisplaced
    dsimp only
    rw [i8, k1, Option.bind_some]
    dsimp only
    rw [if_neg (by decide), if_pos rfl, i8]
    rfl
  have ri : F_X2_readItem 92 (I, s.2) = some (0, (xup (xup I 80 9 1) 80 10 0, s.2)) := by
    unfold F_X2_readItem
    dsimp only
    rw [i8, k1, Option.bind_some]
    dsimp only
    rw [show F_X2_isFromTable 27 (I, s.2) = some (0, (I, s.2)) from rfl, Option.bind_some]
    dsimp only
    rw [if_pos rfl]
    unfold J_X2_readItem_16
    rw [if_neg (by decide), show F_X2_isWhose 27 (I, s.2) = some (0, (I, s.2)) from rfl, Option.bind_some]
    dsimp only
    rw [if_pos rfl, if_neg (by decide)]
    unfold J_X2_readItem_40 J_X2_readItem_41
    rw [if_pos rfl, show F_X2_isPronoun 27 (I, s.2) = some (0, (I, s.2)) from rfl, Option.bind_some]
    dsimp only
    rw [if_pos rfl]
    unfold J_X2_readItem_53
    rw [if_pos rfl]
    unfold J_X2_readItem_68
    rw [if_pos rfl, if_neg (by decide), if_neg (by decide), if_neg (by decide)]
    unfold J_X2_readItem_84
    dsimp only
    rw [i8, k1, Option.bind_some]
    dsimp only
    rw [if_neg (by decide), fm, Option.bind_some]
    rfl
  have ra : F_X2_readActor (I, s.2) = some (0, (xup (xup I 80 9 1) 80 10 0, s.2)) := by
    unfold F_X2_readActor
    dsimp only
    rw [i8, k1, Option.bind_some]
    dsimp only
    rw [if_neg (by decide)]
    unfold J_X2_readActor_10
    rw [if_pos rfl]
    unfold J_X2_readActor_19
    rw [ri, Option.bind_some]
    rfl
  refine ⟨(xup (xup I 80 9 1) 80 10 0, s.2), ?_, rfl, fun c x y z w => ?_, ?_, ?_⟩
  · unfold F_X2_readOrder
    rw [sk, Option.bind_some, h8, kd s h3 h2, Option.bind_some]
    dsimp only
    rw [if_neg (by decide), if_neg (by decide), c1, Option.bind_some, if_neg (by decide), ra, Option.bind_some]
    rfl
  · dsimp only; rw [xup_ne x, xup_ne x, c3 c z (by omega), xup_ne y]
  · dsimp only; rw [xup_j (by omega), xup_eq, if_pos rfl]
  · dsimp only; rw [xup_eq, if_pos rfl]
end
