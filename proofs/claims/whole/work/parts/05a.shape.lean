/-- the shapes of all cells when both objects are made: 0 .. 93 the class's, 94 .. 117 the model's -/
def SH : List xSh := [(9, 6, [some 1, some 4, some 12, some 14, some 23, some 80]),
  (6, 4, [some 2, some 3, none, none]),
  (100, 24, []),
  (100, 24, []),
  (8, 8, [some 5, some 6, some 7, some 8, some 9, some 10, some 11, none]),
  (101, 21, []),
  (101, 60, []),
  (100, 60, []),
  (100, 60, []),
  (100, 60, []),
  (100, 60, []),
  (100, 60, []),
  (4, 2, [some 13, none]),
  (100, 200, []),
  (3, 4, [some 15, some 17, some 19, some 21]),
  (5, 3, [some 16, none, none]),
  (100, 24, []),
  (5, 3, [some 18, none, none]),
  (100, 24, []),
  (5, 3, [some 20, none, none]),
  (100, 24, []),
  (5, 3, [some 22, none, none]),
  (100, 24, []),
  (1, 4, [some 24, some 25, none, none]),
  (104, 10, [some 30, some 35, some 40, some 45, some 50, some 55, some 60, some 65, some 70, some 75]),
  (0, 5, [some 26, some 28, none, none, none]),
  (5, 3, [some 27, none, none]),
  (100, 24, []),
  (5, 3, [some 29, none, none]),
  (100, 24, []),
  (0, 5, [some 31, some 33, none, none, none]),
  (5, 3, [some 32, none, none]),
  (100, 24, []),
  (5, 3, [some 34, none, none]),
  (100, 24, []),
  (0, 5, [some 36, some 38, none, none, none]),
  (5, 3, [some 37, none, none]),
  (100, 24, []),
  (5, 3, [some 39, none, none]),
  (100, 24, []),
  (0, 5, [some 41, some 43, none, none, none]),
  (5, 3, [some 42, none, none]),
  (100, 24, []),
  (5, 3, [some 44, none, none]),
  (100, 24, []),
  (0, 5, [some 46, some 48, none, none, none]),
  (5, 3, [some 47, none, none]),
  (100, 24, []),
  (5, 3, [some 49, none, none]),
  (100, 24, []),
  (0, 5, [some 51, some 53, none, none, none]),
  (5, 3, [some 52, none, none]),
  (100, 24, []),
  (5, 3, [some 54, none, none]),
  (100, 24, []),
  (0, 5, [some 56, some 58, none, none, none]),
  (5, 3, [some 57, none, none]),
  (100, 24, []),
  (5, 3, [some 59, none, none]),
  (100, 24, []),
  (0, 5, [some 61, some 63, none, none, none]),
  (5, 3, [some 62, none, none]),
  (100, 24, []),
  (5, 3, [some 64, none, none]),
  (100, 24, []),
  (0, 5, [some 66, some 68, none, none, none]),
  (5, 3, [some 67, none, none]),
  (100, 24, []),
  (5, 3, [some 69, none, none]),
  (100, 24, []),
  (0, 5, [some 71, some 73, none, none, none]),
  (5, 3, [some 72, none, none]),
  (100, 24, []),
  (5, 3, [some 74, none, none]),
  (100, 24, []),
  (0, 5, [some 76, some 78, none, none, none]),
  (5, 3, [some 77, none, none]),
  (100, 24, []),
  (5, 3, [some 79, none, none]),
  (100, 24, []),
  (2, 11, [some 1, some 4, some 14, some 23, some 81, some 85, some 90, some 92, none, none, none]),
  (7, 5, [some 82, some 83, some 84, none, none]),
  (100, 200, []),
  (100, 200, []),
  (100, 200, []),
  (0, 5, [some 86, some 88, none, none, none]),
  (5, 3, [some 87, none, none]),
  (100, 24, []),
  (5, 3, [some 89, none, none]),
  (100, 24, []),
  (5, 3, [some 91, none, none]),
  (100, 24, []),
  (5, 3, [some 93, none, none]),
  (100, 24, []),
  (10, 37, [some 95, none, some 96, some 97, some 98, none, some 99, some 100, some 101, some 102, some 103, some 104, none, some 105, some 106, none, none, none, none, some 107, some 108, some 109, some 110, some 111, none, none, none, none, none, some 112, some 113, some 114, some 115, some 116, none, some 117, none]),
  (101, 21, []),
  (100, 24, []),
  (102, 24, []),
  (100, 24, []),
  (101, 60, []),
  (100, 60, []),
  (100, 60, []),
  (100, 60, []),
  (100, 1440, []),
  (103, 200, []),
  (100, 201, []),
  (100, 201, []),
  (100, 10, []),
  (100, 10, []),
  (100, 10, []),
  (100, 480, []),
  (100, 20, []),
  (100, 48, []),
  (100, 2, []),
  (100, 96, []),
  (100, 4, []),
  (100, 24, []),
  (100, 24, [])]
abbrev St : Type := (Nat → Nat → Int32) × (Nat → Nat → Int64)
/-- a list of things: its row of 24 lies behind it -/
def TL (o : Nat) : Prop := SH[o]? = some (5, 3, [some (o + 1), none, none]) ∧ SH[o + 1]? = some (100, 24, [])
def OR (o : Nat) : Prop := SH[o]? = some (0, 5, [some (o + 1), some (o + 3), none, none, none]) ∧ TL (o + 1) ∧ TL (o + 3)
theorem kept_get {z : Int32} (h : ¬ (z < 0 ∨ 10 ≤ z.toNatClampNeg)) : ([some 30, some 35, some 40, some 45, some 50, some 55, some 60, some 65, some 70, some 75] : List (Option Nat)).getD z.toNatClampNeg none = some (30 + 5 * z.toNatClampNeg) := by
  have h1 : z.toNatClampNeg < 10 := by have := fun q => h (Or.inr q); omega
  generalize z.toNatClampNeg = n at h1
  have : ∀ n, n < 10 → ([some 30, some 35, some 40, some 45, some 50, some 55, some 60, some 65, some 70, some 75] : List (Option Nat)).getD n none = some (30 + 5 * n) := by decide
  exact this n h1
theorem kept_OR' : ∀ n, n < 10 → OR (30 + 5 * n)
  | 0, _ => ⟨rfl, ⟨rfl, rfl⟩, rfl, rfl⟩
  | 1, _ => ⟨rfl, ⟨rfl, rfl⟩, rfl, rfl⟩
  | 2, _ => ⟨rfl, ⟨rfl, rfl⟩, rfl, rfl⟩
  | 3, _ => ⟨rfl, ⟨rfl, rfl⟩, rfl, rfl⟩
  | 4, _ => ⟨rfl, ⟨rfl, rfl⟩, rfl, rfl⟩
  | 5, _ => ⟨rfl, ⟨rfl, rfl⟩, rfl, rfl⟩
  | 6, _ => ⟨rfl, ⟨rfl, rfl⟩, rfl, rfl⟩
  | 7, _ => ⟨rfl, ⟨rfl, rfl⟩, rfl, rfl⟩
  | 8, _ => ⟨rfl, ⟨rfl, rfl⟩, rfl, rfl⟩
  | 9, _ => ⟨rfl, ⟨rfl, rfl⟩, rfl, rfl⟩
  | n + 10, h => absurd h (by omega)
theorem kept_OR {z : Int32} (h : ¬ (z < 0 ∨ 10 ≤ z.toNatClampNeg)) : OR (30 + 5 * z.toNatClampNeg) := kept_OR' _ (by have := fun q => h (Or.inr q); omega)
theorem xrecv_s {ts : List Nat} {b t n o : Nat} {me : xMe} {st : List Value} {S : List xSh} {I : Nat → Nat → Int32} {J : Nat → Nat → Int64} {rs : List (Option Nat)} (hk : me.2.2.2.2.2.1 = 1) (hst : st[b]? = some (.ref o)) (hs : S[o]? = some (t, n, rs)) (ht : ts.getD 0 100 = t) : xrecv ts b me st (S, I, J) = true := by
  unfold xrecv
  rw [hk, hst]
  simp only [hs, ht]
  simp
theorem xite_inv {α : Type} {P : Prop} [Decidable P] {A B : Option α} {q : α} (h : (if P then A else B) = some q) : (P ∧ A = some q) ∨ (¬ P ∧ B = some q) := by
  by_cases p : P
  · rw [if_pos p] at h; exact Or.inl ⟨p, h⟩
  · rw [if_neg p] at h; exact Or.inr ⟨p, h⟩
theorem xretb {z : Int32} (h : z = 0 ∨ z = 1) : xretok .ireturn (some .boolean) (.int z) = true := decide_eq_true h
theorem i32_of_toInt {z c : Int32} (h : z.toInt = c.toInt) : z = c := Int32.toInt_inj.mp h
theorem sw_out_0_2 {z : Int32} (h0 : ¬ z = (0 : Int32)) (h1 : ¬ z = (1 : Int32)) (h2 : ¬ z = (2 : Int32)) : z.toInt < 0 ∨ 2 < z.toInt := by
  apply Decidable.byContradiction
  intro h
  have e1 : ¬ z.toInt < 0 := fun q => h (Or.inl q)
  have e2 : ¬ 2 < z.toInt := fun q => h (Or.inr q)
  have : z.toInt = 0 ∨ z.toInt = 1 ∨ z.toInt = 2 := by omega
  rcases this with q | q | q
  · exact h0 (i32_of_toInt (by rw [q]; rfl))
  · exact h1 (i32_of_toInt (by rw [q]; rfl))
  · exact h2 (i32_of_toInt (by rw [q]; rfl))
theorem sw_out_0_4 {z : Int32} (h0 : ¬ z = (0 : Int32)) (h1 : ¬ z = (1 : Int32)) (h2 : ¬ z = (2 : Int32)) (h3 : ¬ z = (3 : Int32)) (h4 : ¬ z = (4 : Int32)) : z.toInt < 0 ∨ 4 < z.toInt := by
  apply Decidable.byContradiction
  intro h
  have e1 : ¬ z.toInt < 0 := fun q => h (Or.inl q)
  have e2 : ¬ 4 < z.toInt := fun q => h (Or.inr q)
  have : z.toInt = 0 ∨ z.toInt = 1 ∨ z.toInt = 2 ∨ z.toInt = 3 ∨ z.toInt = 4 := by omega
  rcases this with q | q | q | q | q
  · exact h0 (i32_of_toInt (by rw [q]; rfl))
  · exact h1 (i32_of_toInt (by rw [q]; rfl))
  · exact h2 (i32_of_toInt (by rw [q]; rfl))
  · exact h3 (i32_of_toInt (by rw [q]; rfl))
  · exact h4 (i32_of_toInt (by rw [q]; rfl))
theorem sw_out_8_16 {z : Int32} (h0 : ¬ z = (8 : Int32)) (h1 : ¬ z = (9 : Int32)) (h2 : ¬ z = (10 : Int32)) (h3 : ¬ z = (11 : Int32)) (h4 : ¬ z = (12 : Int32)) (h5 : ¬ z = (13 : Int32)) (h6 : ¬ z = (14 : Int32)) (h7 : ¬ z = (15 : Int32)) (h8 : ¬ z = (16 : Int32)) : z.toInt < 8 ∨ 16 < z.toInt := by
  apply Decidable.byContradiction
  intro h
  have e1 : ¬ z.toInt < 8 := fun q => h (Or.inl q)
  have e2 : ¬ 16 < z.toInt := fun q => h (Or.inr q)
  have : z.toInt = 8 ∨ z.toInt = 9 ∨ z.toInt = 10 ∨ z.toInt = 11 ∨ z.toInt = 12 ∨ z.toInt = 13 ∨ z.toInt = 14 ∨ z.toInt = 15 ∨ z.toInt = 16 := by omega
  rcases this with q | q | q | q | q | q | q | q | q
  · exact h0 (i32_of_toInt (by rw [q]; rfl))
  · exact h1 (i32_of_toInt (by rw [q]; rfl))
  · exact h2 (i32_of_toInt (by rw [q]; rfl))
  · exact h3 (i32_of_toInt (by rw [q]; rfl))
  · exact h4 (i32_of_toInt (by rw [q]; rfl))
  · exact h5 (i32_of_toInt (by rw [q]; rfl))
  · exact h6 (i32_of_toInt (by rw [q]; rfl))
  · exact h7 (i32_of_toInt (by rw [q]; rfl))
  · exact h8 (i32_of_toInt (by rw [q]; rfl))
theorem lk_out {z : Int32} (h0 : ¬ z = (26 : Int32)) (h1 : ¬ z = (27 : Int32)) {a b : Nat} {o1 o2 : Int} {dd : Nat} : xlk [((26 : Int), o1), ((27 : Int), o2)] [a, b] dd z.toInt = dd := by
  unfold xlk
  rw [if_neg (fun q => h0 (i32_of_toInt (by rw [← q]; rfl)))]
  unfold xlk
  rw [if_neg (fun q => h1 (i32_of_toInt (by rw [← q]; rfl)))]
  rfl
