section
variable {s : St} {E : LEnv} {T : Nat → List Nat} {a b p actor : Nat} {l M : List Nat}
/-- only the place in the line -/
def MJ (s s' : St) : Prop := s'.2 = s.2 ∧ (∀ c, c ≠ 94 → s'.1 c = s.1 c) ∧ (∀ j, j ≠ 16 → s'.1 94 j = s.1 94 j)
theorem MJ_1 (s : St) (x : Int32) : MJ s (xup s.1 94 16 x, s.2) := ⟨rfl, fun c q => by dsimp only; rw [xup_ne q], fun j q => by dsimp only; rw [xup_j q]⟩
theorem MJ_trans {s s1 s2 : St} (h : MJ s s1) (h' : MJ s1 s2) : MJ s s2 := ⟨h'.1.trans h.1, fun c a => (h'.2.1 c a).trans (h.2.1 c a), fun j a => (h'.2.2 j a).trans (h.2.2 j a)⟩
theorem MF_MJ {s s' : St} (h : MJ s s') : MF s s' := ⟨h.1, fun c a _ => h.2.1 c a, fun j a _ _ _ => h.2.2 j a⟩
theorem isVB (hE : EOK E) (hs : ME s E) (hb : s.1 94 16 = nI b) (hl : b < em E) : F_X10_isVerbBehind s = some (if ek E (b + 1) = 24 then 1 else 0, s) := by
  have h200 := hE.2.2.2.2.2.1
  unfold F_X10_isVerbBehind
  rw [hb, nI_s, if_neg (grd (n := 201) (by omega) (by omega)), nI_clamp (by omega), hs.2.2.2.2.2.2.1 (b + 1) (by omega), show (1 : Int32) = nI 1 from rfl, isSort_k hE hs (by omega), Option.bind_some]
  dsimp only
  rw [if_pos]
  · rfl
  · by_cases c : ek E (b + 1) = 23 + 1
    · rw [if_pos c]; exact Or.inr rfl
    · rw [if_neg c]; exact Or.inl rfl
theorem isVB_y (hE : EOK E) (hs : ME s E) (hb : s.1 94 16 = nI b) (hl : b < em E) (h : ek E (b + 1) = 24) : F_X10_isVerbBehind s = some (1, s) := by rw [isVB hE hs hb hl, if_pos h]
theorem isVB_n (hE : EOK E) (hs : ME s E) (hb : s.1 94 16 = nI b) (hl : b < em E) (h : ¬ ek E (b + 1) = 24) : F_X10_isVerbBehind s = some (0, s) := by rw [isVB hE hs hb hl, if_neg h]
def tl2 (n : Nat) (l1 l2 : Int32) (q22 : St) : Option (Int32 × St) := if (q22.1 94 16) < 0 ∨ 201 ≤ ((q22.1 94 16)).toNatClampNeg then none else if (q22.1 105 ((q22.1 94 16)).toNatClampNeg) = (30 : Int32) then (let i29 : Nat → Nat → Int32 := xup q22.1 94 16 ((q22.1 94 16) + (1 : Int32)); if (i29 94 16) < 0 ∨ 201 ≤ ((i29 94 16)).toNatClampNeg then none else if (i29 105 ((i29 94 16)).toNatClampNeg) = (3 : Int32) then ((F_X10_isVerbBehind (i29, q22.2)).bind fun q32 => if q32.1 = (0 : Int32) then (let i34 : Nat → Nat → Int32 := xup q32.2.1 94 16 ((q32.2.1 94 16) + (1 : Int32)); L_X10_items_2 n l1 l2 (1 : Int32) (i34, q32.2.2)) else (L_X10_items_2 n l1 l2 (1 : Int32) q32.2)) else (L_X10_items_2 n l1 l2 (1 : Int32) (i29, q22.2))) else (if (q22.1 105 ((q22.1 94 16)).toNatClampNeg) = (3 : Int32) then ((F_X10_isVerbBehind q22).bind fun q36 => if q36.1 = (0 : Int32) then (if (q36.2.1 94 16) < 0 ∨ 201 ≤ ((q36.2.1 94 16)).toNatClampNeg then none else if (q36.2.1 105 ((q36.2.1 94 16)).toNatClampNeg) = (30 : Int32) then (let i40 : Nat → Nat → Int32 := xup q36.2.1 94 16 ((q36.2.1 94 16) + (1 : Int32)); if (i40 94 16) < 0 ∨ 201 ≤ ((i40 94 16)).toNatClampNeg then none else if (i40 105 ((i40 94 16)).toNatClampNeg) = (3 : Int32) then ((F_X10_isVerbBehind (i40, q36.2.2)).bind fun q43 => if q43.1 = (0 : Int32) then (let i45 : Nat → Nat → Int32 := xup q43.2.1 94 16 ((q43.2.1 94 16) + (1 : Int32)); L_X10_items_2 n l1 l2 (1 : Int32) (i45, q43.2.2)) else (L_X10_items_2 n l1 l2 (1 : Int32) q43.2)) else (L_X10_items_2 n l1 l2 (1 : Int32) (i40, q36.2.2))) else (let i46 : Nat → Nat → Int32 := xup q36.2.1 94 16 ((q36.2.1 94 16) + (1 : Int32)); L_X10_items_2 n l1 l2 (1 : Int32) (i46, q36.2.2))) else (L_X10_items_2 n l1 l2 (0 : Int32) q36.2)) else (L_X10_items_2 n l1 l2 (0 : Int32) q22))
theorem eq_items (n : Nat) (l1 l2 : Int32) (s : St) : L_X10_items_2 (n + 1) l1 l2 1 s = (F_X10_item l1 s).bind fun q2 => if q2.1 = (0 : Int32) then (some ((0 : Int32), q2.2)) else ((L_X10_items_12 300 l1 l2 (0 : Int32) q2.2).bind (tl2 n l1 l2)) := by
  conv => lhs; unfold L_X10_items_2
  rw [if_neg (by decide)]; rfl
theorem eq_items0 (n : Nat) (l1 l2 : Int32) (s : St) : L_X10_items_2 (n + 1) l1 l2 0 s = some (1, s) := by
  unfold L_X10_items_2
  rw [if_pos rfl]
theorem tl2_k (hE : EOK E) (hs : ME s E) (hb : s.1 94 16 = nI b) (hl : b ≤ em E) (n : Nat) (l1 l2 : Int32) : (sSep E b = b → tl2 n l1 l2 s = L_X10_items_2 n l1 l2 0 s) ∧ (sSep E b ≠ b → ∃ s', tl2 n l1 l2 s = L_X10_items_2 n l1 l2 1 s' ∧ s'.1 94 16 = nI (sSep E b) ∧ MJ s s') := by
  obtain ⟨g1, g2, g3⟩ := tok_g hE hs hb hl
  have hc := enc_cases hE b
  have hj := MJ_1 s (nI (b + 1))
  have hs1 : ME (xup s.1 94 16 (nI (b + 1)), s.2) E := ME_MF hs (MF_MJ hj)
  have hp1 : (xup s.1 94 16 (nI (b + 1)), s.2).1 94 16 = nI (b + 1) := by dsimp only; rw [xup_eq, if_pos rfl]
  unfold tl2 sSep
  rw [if_neg g1, g2]
  by_cases k21 : ek E b = 21
  · have hm := em_lt hE (a := b) (by omega)
    obtain ⟨w1, w2, w3⟩ := tok_g hE hs1 hp1 (by omega)
    have hc1 := enc_cases hE (b + 1)
    rw [if_pos (show nI (encN E b) = 30 from tok_y hE (c := 30) (by omega)), if_pos k21, hb, nI_s]
    dsimp only at w1 w2 ⊢
    rw [if_neg w1, w2]
    by_cases k3 : ek E (b + 1) = 3
    · have hm1 := em_lt hE (a := b + 1) (by omega)
      rw [if_pos (show nI (encN E (b + 1)) = 3 from tok_y hE (c := 3) (by omega))]
      by_cases k24 : ek E (b + 2) = 24
      · rw [isVB_y hE hs1 hp1 (by omega) k24, Option.bind_some, if_neg (fun q => q.2 k24)]
        exact ⟨fun q => by omega, fun _ => ⟨_, if_neg (show ¬ (1 : Int32) = 0 by decide), hp1, hj⟩⟩
      · rw [isVB_n hE hs1 hp1 (by omega) k24, Option.bind_some, if_pos ⟨k3, k24⟩]
        refine ⟨fun q => by omega, fun _ => ⟨_, if_pos rfl, ?_, MJ_trans hj (MJ_1 _ _)⟩⟩
        dsimp only; rw [xup_eq, if_pos rfl, xup_eq, if_pos rfl, nI_s]
    · rw [if_neg (show ¬ nI (encN E (b + 1)) = 3 from tok_n hE (c := 3) (by omega) (by omega)), if_neg (fun q => k3 q.1)]
      exact ⟨fun q => by omega, fun _ => ⟨_, rfl, hp1, hj⟩⟩
  · rw [if_neg (show ¬ nI (encN E b) = 30 from tok_n hE (c := 30) (by omega) (by omega)), if_neg k21]
    by_cases k3 : ek E b = 3
    · have hm := em_lt hE (a := b) (by omega)
      rw [if_pos (show nI (encN E b) = 3 from tok_y hE (c := 3) (by omega))]
      by_cases k24 : ek E (b + 1) = 24
      · rw [isVB_y hE hs hb hm k24, Option.bind_some, if_neg (fun q => q.2 k24)]
        exact ⟨fun _ => if_neg (show ¬ (1 : Int32) = 0 by decide), fun q => absurd rfl q⟩
      · rw [isVB_n hE hs hb hm k24, Option.bind_some, if_pos ⟨k3, k24⟩]
        dsimp only
        rw [if_pos rfl, if_neg g1, g2, if_neg (show ¬ nI (encN E b) = 30 from tok_n hE (c := 30) (by omega) (by omega)), hb, nI_s]
        exact ⟨fun q => by omega, fun _ => ⟨_, rfl, hp1, hj⟩⟩
    · rw [if_neg (show ¬ nI (encN E b) = 3 from tok_n hE (c := 3) (by omega) (by omega)), if_neg (fun q => k3 q.1)]
      exact ⟨fun _ => rfl, fun q => absurd rfl q⟩
def mapR (G : List Nat → List Nat) : Except (Nat × Nat) (List Nat × Nat) → Except (Nat × Nat) (List Nat × Nat)
  | .error e => .error e
  | .ok (l, b) => .ok (G l, b)
/-- the items of a list, in or out -/
theorem items_m (hE : EOK E) (hTo : TOK E T) (hac : eK E actor = 1 ∨ eK E actor = 2) (hal : actor < eT E) {G : List Nat → List Nat} {out : Int32}
    (hG : ∀ (s : St) (M acc : List Nat), M.length ≤ 24 → (∀ x ∈ M, x < 24) → (∀ x ∈ acc, x < 24) → ML (s.1 116) (s.1 94 34) M → ML (s.1 117) (s.1 94 36) (G acc) → ∃ s', L_X10_items_12 300 (nI actor) out 0 s = some s' ∧ MG s s' ∧ ML (s'.1 117) (s'.1 94 36) (G (acc ++ M))) :
    ∀ f a (acc : List Nat) (s : St), a ≤ em E → em E + 1 < f + a → ME s E → MT s T → s.1 94 16 = nI a → (∀ x ∈ acc, x < 24) → ML (s.1 117) (s.1 94 36) (G acc) → FolL s (L_X10_items_2 f (nI actor) out 1 s) (mapR G (sItems E T actor f a acc)) := by
  have h24 := hE.2.1
  intro f
  induction f with
  | zero => intro a acc s h1 h2; omega
  | succ f ih =>
    intro a acc s h1 h2 hs hT ha hacc hl
    have hi := item_m hE hs hT hTo ha h1 hac hal
    rw [eq_items]
    unfold sItems
    cases hr : sItem E T actor a with
    | error e =>
      obtain ⟨s', q1, q2, q3, q4⟩ := hi.1 e hr
      rw [q1, Option.bind_some]
      dsimp only
      rw [if_pos rfl]
      exact ⟨fun e' he => by cases he; exact ⟨s', rfl, MF2_of q2, q3, q4⟩, fun l b he => (by cases he)⟩
    | ok q =>
      obtain ⟨M, b⟩ := q
      obtain ⟨s1, q1, ⟨q2, q3, q4⟩, q5⟩ := hi.2 M b hr
      obtain ⟨o1, o2, o3, o4, o5⟩ := sItem_ok hE hTo hal hr
      have hM := pig (eT E) M o4 o5
      rw [q1, Option.bind_some]
      dsimp only
      rw [if_neg (by decide)]
      obtain ⟨s2, w1, w2, w3⟩ := hG s1 M acc (by omega) (fun x hx => by have := o5 x hx; omega) hacc q5 (by rw [q2.2.1 117 (by omega) (by omega), q2.2.2 36 (by omega) (by omega) (by omega) (by omega)]; exact hl)
      rw [w1, Option.bind_some]
      have m2 : MF2 s s2 := MF2_trans (MF2_of q2) (MF2_MG w2)
      have h17 : s2.1 94 17 = s.1 94 17 := by rw [w2.2.2 17 (by omega), q3]
      have hs2 := ME_MF2 hs m2
      have hb2 : s2.1 94 16 = nI b := by rw [w2.2.2 16 (by omega), q4]
      obtain ⟨t1, t2⟩ := tl2_k hE hs2 hb2 o2 f (nI actor) out
      by_cases c : sSep E b = b
      · rw [if_pos c, t1 c]
        obtain ⟨f', rfl⟩ : ∃ f', f = f' + 1 := ⟨f - 1, by omega⟩
        rw [eq_items0]
        exact ⟨fun e he => (by cases he), fun l b' he => by cases he; exact ⟨s2, rfl, ⟨m2, h17, hb2⟩, w3⟩⟩
      · rw [if_neg c]
        obtain ⟨s3, p1, p2, p3⟩ := t2 c
        rw [p1]
        have m3 := MF2_of (MF_MJ p3)
        have hsp := sSep_le hE o2
        apply FolL_of (MF2_trans m2 m3) (by rw [p3.2.2 17 (by omega), h17])
        apply ih _ _ _ hsp.2 (by omega) (ME_MF2 hs2 m3) (MT_MF2 (MT_MF2 hT m2) m3) p2
        · intro x hx
          rcases List.mem_append.mp hx with hx | hx
          · exact hacc x hx
          · have := o5 x hx; omega
        · rw [p3.2.1 117 (by omega), p3.2.2 36 (by omega)]; exact w3
theorem list_m (hE : EOK E) (hs : ME s E) (hT : MT s T) (hTo : TOK E T) (ha : s.1 94 16 = nI a) (hl : a ≤ em E) (hac : eK E actor = 1 ∨ eK E actor = 2) (hal : actor < eT E) : FolL s (F_X10_list (nI actor) s) (sList E T actor a) := by
  have h24 := hE.2.1
  have h200 := hE.2.2.2.2.2.1
  have m0 : MF2 s (xup s.1 94 36 0, s.2) := ⟨rfl, fun c q1 q2 q3 => by dsimp only; rw [xup_ne q1], fun j q1 q2 q3 q4 q5 => by dsimp only; rw [xup_j q5]⟩
  have hin := items_m (T := T) (G := fun acc => addAll [] acc) (out := 0) hE hTo hac hal (fun s M acc g1 g2 g3 g4 g5 => by
    have := it12_in (l1 := nI actor) g1 g2 300 0 s (addAll [] acc) g5 (addAll_nodup List.nodup_nil) (fun y hy => by
      rcases addAll_mem.mp hy with hy | hy
      · cases hy
      · exact g3 y hy) g4 (by omega) (by omega)
    rw [List.drop_zero, ← addAll_app, nI_0] at this
    exact this) 300 a [] (xup s.1 94 36 0, s.2) hl (by omega) (ME_MF2 hs m0) (MT_MF2 hT m0) (by dsimp only; rw [xup_j (by omega)]; exact ha) (by simp) (by dsimp only; rw [xup_eq, if_pos rfl]; exact ⟨rfl, fun k x h => by simp [addAll] at h⟩)
  have hin := FolL_of m0 (by dsimp only; rw [xup_j (by omega)]) hin
  unfold F_X10_list sList
  dsimp only
  unfold F_X10_items
  cases hr : sItems E T actor 300 a [] with
  | error e =>
    rw [hr] at hin
    obtain ⟨s', q1, q2⟩ := hin.1 e rfl
    rw [q1, Option.bind_some]
    dsimp only
    rw [if_pos rfl]
    exact ⟨fun e' he => by cases he; exact ⟨s', rfl, q2⟩, fun l b he => (by cases he)⟩
  | ok q =>
    obtain ⟨l, b⟩ := q
    rw [hr] at hin
    obtain ⟨s1, q1, ⟨q2, q3, q4⟩, q5⟩ := hin.2 _ b rfl
    obtain ⟨o1, o2, o3, o4⟩ := sItems_ok hE hTo hal 300 a [] l b hr (by simp)
    rw [q1, Option.bind_some]
    have hs1 := ME_MF2 hs q2
    obtain ⟨g1, g2, g3⟩ := tok_g hE hs1 q4 o2
    have hc := enc_cases hE b
    dsimp only
    rw [if_neg (by decide), if_neg g1, g2]
    by_cases k20 : ek E b = 20
    · have hm := em_lt hE (a := b) (by omega)
      rw [if_pos (show nI (encN E b) = 20 from tok_y hE (c := 20) (by omega)), if_pos k20, q4, nI_s]
      have hj := MJ_1 s1 (nI (b + 1))
      have mj := MF2_of (MF_MJ hj)
      have hout := items_m (T := T) (G := fun acc => (addAll [] l).filter (fun t => !decide (t ∈ acc))) (out := 1) hE hTo hac hal (fun s M acc g1 g2 g3 g4 g5 => by
        have := it12_out (l1 := nI actor) g1 g2 300 0 s _ g5 ((addAll_nodup List.nodup_nil).filter _) (fun y hy => by
          rcases addAll_mem.mp (List.mem_filter.mp hy).1 with hy | hy
          · cases hy
          · have := o4 y hy; omega) g4 (by omega) (by omega)
        rw [List.drop_zero, List.filter_filter, nI_0] at this
        have e : (fun a => (!decide (a ∈ M)) && !decide (a ∈ acc)) = (fun t => !decide (t ∈ acc ++ M)) := by
          funext t
          by_cases c1 : t ∈ M <;> by_cases c2 : t ∈ acc <;> simp [c1, c2]
        rw [e] at this
        exact this) 300 (b + 1) [] (xup s1.1 94 16 (nI (b + 1)), s1.2) (by omega) (by omega) (ME_MF2 hs1 mj) (MT_MF2 (MT_MF2 hT q2) mj) (by dsimp only; rw [xup_eq, if_pos rfl]) (by simp) (by
          dsimp only; rw [xup_ne (by omega), xup_j (by omega)]
          rw [List.filter_eq_self.mpr (by simp)]; exact q5)
      have hout := FolL_of (MF2_trans q2 mj) (by dsimp only; rw [xup_j (by omega)]; exact q3) hout
      cases hr2 : sItems E T actor 300 (b + 1) [] with
      | error e =>
        rw [hr2] at hout
        obtain ⟨s', p1, p2⟩ := hout.1 e rfl
        rw [p1, Option.bind_some]
        dsimp only
        rw [if_pos rfl]
        exact ⟨fun e' he => by cases he; exact ⟨s', rfl, p2⟩, fun l b he => (by cases he)⟩
      | ok q =>
        obtain ⟨x, c⟩ := q
        rw [hr2] at hout
        obtain ⟨s2, p1, ⟨p2, p3, p4⟩, p5⟩ := hout.2 _ c rfl
        rw [p1, Option.bind_some]
        dsimp only
        dsimp only at p5
        rw [if_neg (by decide), p5.1]
        have hfl : ((addAll [] l).filter (fun t => !decide (t ∈ x))).length ≤ 24 := by
          apply pig 24 _ ((addAll_nodup List.nodup_nil).filter _)
          intro y hy
          rcases addAll_mem.mp (List.mem_filter.mp hy).1 with hy | hy
          · cases hy
          · have := o4 y hy; omega
        by_cases c0 : (addAll [] l).filter (fun t => !decide (t ∈ x)) = []
        · rw [if_pos c0, c0, if_pos (by rfl), nI_clamp (by omega)]
          obtain ⟨s', w1, w2, w3, w4⟩ := fails_m (s := s2) 4 (i := b) rfl
          refine ⟨fun e he => ?_, fun l b he => (by cases he)⟩
          cases he
          exact ⟨s', if01 (P := True) w1 (Or.inl rfl), MF2_trans p2 (MF2_of w2), w3, by rw [w4, p2.2.1 106 (by omega) (by omega) (by omega)]⟩
        · have hp : 0 < ((addAll [] l).filter (fun t => !decide (t ∈ x))).length := List.length_pos_iff.mpr c0
          rw [if_neg c0, if_neg (nI_ne0 hp (by omega))]
          exact ⟨fun e he => (by cases he), fun l' b' he => by cases he; exact ⟨s2, rfl, ⟨p2, p3, p4⟩, p5⟩⟩
    · rw [if_neg (show ¬ nI (encN E b) = 20 from tok_n hE (c := 20) (by omega) (by omega)), if_neg k20]
      exact ⟨fun e he => (by cases he), fun l' b' he => by cases he; exact ⟨s1, rfl, ⟨q2, q3, q4⟩, q5⟩⟩
end
