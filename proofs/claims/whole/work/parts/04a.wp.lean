theorem ev_mono : ∀ (n d : Nat) (me : xMe) (i : Nat) (L : xL) (st : List Value) (M : xM) (q : Option Value × xM), ev n d me i L st M = some q → ev (n + 1) d me i L st M = some q := by
  intro n
  induction n with
  | zero => intro d me i L st M q h; cases h
  | succ n ih =>
    intro d me i L st M q h
    unfold ev at h
    unfold ev
    cases hP : me.2.2.2.2.2.2[i]? with
    | none => rw [hP] at h; cases h
    | some x =>
      rw [hP] at h
      dsimp only at h ⊢
      split at h
      next h0 =>
        cases hs : xstep x i L st M with
        | none => rw [hs] at h; cases h
        | some z =>
          rw [hs] at h
          exact ih _ _ _ _ _ _ _ h
      next h0 => exact h
      next h0 => exact h
      next h0 h1 h2 =>
        have h3 : xend2 x.2.1 = 3 := by
          revert h0 h1 h2
          cases x.2.1 <;> simp [xend2]
        unfold xcallf at h ⊢
        obtain ⟨pc, ins, len, ts, a, b, cf, lk, v⟩ := x
        dsimp only at h ⊢
        split at h
        next c2 =>
          rw [if_pos c2]
          split at h
          next o r =>
            obtain ⟨hq, h⟩ := xif_inv h
            try dsimp only
            rw [if_pos hq]
            exact ih _ _ _ _ _ _ _ h
          · cases h
        next c2 =>
          rw [if_neg c2]
          split at h
          next c3 =>
            rw [if_pos c3]
            split at h
            next o r =>
              obtain ⟨hq, h⟩ := xif_inv h
              try dsimp only
              rw [if_pos hq]
              exact ih _ _ _ _ _ _ _ h
            · cases h
          next c3 =>
            rw [if_neg c3]
            split at h
            next c4 =>
              rw [if_pos c4]
              split at h
              next k o r =>
                obtain ⟨hq, h⟩ := xif_inv h
                try dsimp only
                rw [if_pos hq]
                exact ih _ _ _ _ _ _ _ h
              · cases h
            next c4 =>
              rw [if_neg c4]
              unfold xcallm at h ⊢
              split at h
              next d' me' hme =>
                (try rw [hme])
                try dsimp only
                obtain ⟨hq, h⟩ := xif_inv h
                rw [if_pos hq]
                split at h
                next r2 M2 h2' =>
                  rw [ih _ _ _ _ _ _ _ h2']
                  exact ih _ _ _ _ _ _ _ h
                · cases h
              · cases h
theorem ev_mono' {n k d : Nat} {me : xMe} {i : Nat} {L : xL} {st : List Value} {M : xM} {q : Option Value × xM} (h : ev n d me i L st M = some q) : ev (n + k) d me i L st M = some q := by
  induction k with
  | zero => exact h
  | succ k ih => exact ev_mono _ _ _ _ _ _ _ _ ih
/-- from here the run ends, with Q -/
def wp (d : Nat) (me : xMe) (i : Nat) (L : xL) (st : List Value) (M : xM) (Q : Option Value → xM → Prop) : Prop := ∃ n r M', ev n d me i L st M = some (r, M') ∧ Q r M'
section
variable {d : Nat} {me : xMe} {i i' : Nat} {L L' : xL} {st st' : List Value} {M M1 : xM} {Q : Option Value → xM → Prop} {x : xI}
theorem wp_step (hx : me.2.2.2.2.2.2[i]? = some x) (h0 : xend2 x.2.1 = 0) (hs : xstep x i L st M = some (i', L', st', M1)) (k : wp d me i' L' st' M1 Q) : wp d me i L st M Q := by
  obtain ⟨n, r, M', h, hq⟩ := k
  refine ⟨n + 1, r, M', ?_, hq⟩
  unfold ev
  rw [hx]
  try dsimp only
  rw [h0]
  try dsimp only
  rw [hs]
  exact h
theorem wp_ret {z : Value} (hx : me.2.2.2.2.2.2[i]? = some x) (h1 : xend2 x.2.1 = 1) (hr : xretok x.2.1 me.2.2.2.1 z = true) (hq : Q (some z) M) : wp d me i L [z] M Q := by
  refine ⟨1, some z, M, ?_, hq⟩
  unfold ev
  rw [hx]
  try dsimp only
  rw [h1]
  simp [xret, hr]
theorem wp_vret (hx : me.2.2.2.2.2.2[i]? = some x) (h1 : xend2 x.2.1 = 2) (hr : me.2.2.2.1 = none) (hq : Q none M) : wp d me i L [] M Q := by
  refine ⟨1, none, M, ?_, hq⟩
  unfold ev
  rw [hx]
  try dsimp only
  rw [h1]
  simp [xvret, hr]
theorem wp_call {pc len a b cf lk : Nat} {ins : Instr} {ts : List Nat} {v : Int64} {me' : xMe} {av rest : List Value} (hx : me.2.2.2.2.2.2[i]? = some (pc, ins, len, ts, a, b, cf, lk, v)) (h1 : xend2 ins = 3) (hcf : cf ≤ 1) (hme : xmt[a]? = some me') (hst : st = av.reverse ++ rest) (hna : av.length = xna b me')
    (hcat : (rest.map fun v => v.category).sum ≤ 8) (hfl : (xflat av).length ≤ me'.2.2.1) (hrc : xrecv ts b me' st M = true) (k : wp d me' 0 (xentry me'.2.2.1 av) [] M (fun r M' => wp (d + 1) me (i + 1) L (r.toList ++ rest) M' Q)) : wp (d + 1) me i L st M Q := by
  obtain ⟨n1, r1, M1, h1', n2, r, M', h2, hq⟩ := k
  refine ⟨n1 + n2 + 1, r, M', ?_, hq⟩
  unfold ev
  rw [hx]
  try dsimp only
  rw [h1]
  try dsimp only
  unfold xcallf
  try dsimp only
  rw [if_neg (by omega), if_neg (by omega), if_neg (by omega)]
  unfold xcallm
  rw [hme]
  try dsimp only
  have ht : st.take (xna b me') = av.reverse := by rw [hst, ← hna, ← List.length_reverse, List.take_left]
  have hd : st.drop (xna b me') = rest := by rw [hst, ← hna, ← List.length_reverse, List.drop_left]
  rw [ht, hd, List.reverse_reverse]
  rw [if_pos ⟨by rw [hst, ← hna]; simp, hcat, hfl, hrc⟩]
  rw [ev_mono' (k := n2) h1']
  try dsimp only
  rw [show n1 + n2 = n2 + n1 by omega]
  exact ev_mono' h2
theorem wp_objInit {pc len a b lk o : Nat} {ins : Instr} {ts : List Nat} {v : Int64} {r : List Value} (hx : me.2.2.2.2.2.2[i]? = some (pc, ins, len, ts, a, b, 2, lk, v)) (h1 : xend2 ins = 3) (hcat : (r.map fun v => v.category).sum ≤ 8) (k : wp d me (i + 1) L r M Q) : wp d me i L (.ref o :: r) M Q := by
  obtain ⟨n, r', M', h, hq⟩ := k
  refine ⟨n + 1, r', M', ?_, hq⟩
  unfold ev
  rw [hx]
  try dsimp only
  rw [h1]
  simp only [xcallf, if_true]
  rw [if_pos hcat]
  exact h
theorem wp_mono {Q' : Option Value → xM → Prop} (h : wp d me i L st M Q) (hq : ∀ r M', Q r M' → Q' r M') : wp d me i L st M Q' := by
  obtain ⟨n, r, M', h1, h2⟩ := h
  exact ⟨n, r, M', h1, hq r M' h2⟩
end
