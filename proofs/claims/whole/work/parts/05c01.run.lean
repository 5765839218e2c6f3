set_option maxHeartbeats 2000000 in
set_option maxRecDepth 20000 in
theorem R_X3_meantBy {d : Nat} {a0 : Int32} {s : St} {q : Nat × St} {Q : Option Value → xM → Prop}  (h : F_X3_meantBy a0 s = some q) (hq : Q (some (.ref q.1)) (SH, q.2.1, q.2.2)) : wp (d + 0) mX3_meantBy 0 [some (.ref 14), some (.int a0)] [] (SH, s.1, s.2) Q := by
  unfold F_X3_meantBy at h
  try dsimp only at h
  refine w_iload_n (j := 1) rfl rfl rfl ?_
  rcases xite_inv h with ⟨c1_0, h⟩ | ⟨c1_0, h⟩
  · refine w_table_in (q := 0) (j := 2) rfl (by rw [c1_0]; decide) (by rw [c1_0]; decide) rfl ?_
    refine w_aload_n (j := 3) rfl rfl rfl ?_
    refine w_getR (j := 4) rfl rfl rfl rfl rfl rfl ?_
    obtain rfl := Option.some.inj h
    exact wp_ret rfl rfl rfl hq
  · rcases xite_inv h with ⟨c1_1, h⟩ | ⟨c1_1, h⟩
    · refine w_table_in (q := 1) (j := 5) rfl (by rw [c1_1]; decide) (by rw [c1_1]; decide) rfl ?_
      refine w_aload_n (j := 6) rfl rfl rfl ?_
      refine w_getR (j := 7) rfl rfl rfl rfl rfl rfl ?_
      obtain rfl := Option.some.inj h
      exact wp_ret rfl rfl rfl hq
    · rcases xite_inv h with ⟨c1_2, h⟩ | ⟨c1_2, h⟩
      · refine w_table_in (q := 2) (j := 8) rfl (by rw [c1_2]; decide) (by rw [c1_2]; decide) rfl ?_
        refine w_aload_n (j := 9) rfl rfl rfl ?_
        refine w_getR (j := 10) rfl rfl rfl rfl rfl rfl ?_
        obtain rfl := Option.some.inj h
        exact wp_ret rfl rfl rfl hq
      · refine w_table_out (j := 11) rfl (sw_out_0_2 c1_0 c1_1 c1_2) rfl ?_
        refine w_aload_n (j := 12) rfl rfl rfl ?_
        refine w_getR (j := 13) rfl rfl rfl rfl rfl rfl ?_
        obtain rfl := Option.some.inj h
        exact wp_ret rfl rfl rfl hq
theorem T_X3_meantBy {a0 : Int32} {s : St} {q : Nat × St} (h : F_X3_meantBy a0 s = some q) : TL q.1 := by
  unfold F_X3_meantBy at h
  repeat' split at h
  all_goals (cases h; exact ⟨rfl, rfl⟩)
set_option maxHeartbeats 2000000 in
set_option maxRecDepth 20000 in
theorem R_X5_at {d : Nat} {o : Nat} {a0 : Int32} {s : St} {q : Int32 × St} {Q : Option Value → xM → Prop} (ho : TL o) (h : F_X5_at o a0 s = some q) (hq : Q (some (.int q.1)) (SH, q.2.1, q.2.2)) : wp (d + 0) mX5_at 0 [some (.ref o), some (.int a0)] [] (SH, s.1, s.2) Q := by
  unfold F_X5_at at h
  try dsimp only at h
  refine w_iload_n (j := 1) rfl rfl rfl ?_
  rcases xite_inv h with ⟨c1, h⟩ | ⟨c1, h⟩
  · refine w_iflt_t (j := 11) rfl c1 rfl ?_
    refine w_bipush (z := (-4 : Int32)) (j := 12) rfl rfl rfl ?_
    obtain rfl := Option.some.inj h
    exact wp_ret rfl rfl rfl hq
  · refine w_iflt_f (j := 2) rfl c1 rfl ?_
    refine w_iload_n (j := 3) rfl rfl rfl ?_
    refine w_aload_n (j := 4) rfl rfl rfl ?_
    refine w_getI (j := 5) rfl ho.1 rfl rfl rfl ?_
    rcases xite_inv h with ⟨c2, h⟩ | ⟨c2, h⟩
    · refine w_icmpge_t (j := 11) rfl c2 rfl ?_
      refine w_bipush (z := (-4 : Int32)) (j := 12) rfl rfl rfl ?_
      obtain rfl := Option.some.inj h
      exact wp_ret rfl rfl rfl hq
    · refine w_icmpge_f (j := 6) rfl c2 rfl ?_
      refine w_aload_n (j := 7) rfl rfl rfl ?_
      refine w_getR (j := 8) rfl ho.1 rfl rfl rfl rfl ?_
      refine w_iload_n (j := 9) rfl rfl rfl ?_
      rcases xite_inv h with ⟨g3, h⟩ | ⟨g3, h⟩
      · cases h
      · refine w_iaload (j := 10) rfl ho.2 g3 rfl ?_
        refine w_goto (j := 12) rfl rfl ?_
        obtain rfl := Option.some.inj h
        exact wp_ret rfl rfl rfl hq
set_option maxHeartbeats 2000000 in
set_option maxRecDepth 20000 in
theorem R_X6_kindOf {d : Nat} {a0 : Int32} {s : St} {q : Int32 × St} {Q : Option Value → xM → Prop}  (h : F_X6_kindOf a0 s = some q) (hq : Q (some (.int q.1)) (SH, q.2.1, q.2.2)) : wp (d + 0) mX6_kindOf 0 [some (.ref 1), some (.int a0)] [] (SH, s.1, s.2) Q := by
  unfold F_X6_kindOf at h
  try dsimp only at h
  refine w_iload_n (j := 1) rfl rfl rfl ?_
  rcases xite_inv h with ⟨c1, h⟩ | ⟨c1, h⟩
  · refine w_iflt_t (j := 11) rfl c1 rfl ?_
    refine w_bipush (z := (-4 : Int32)) (j := 12) rfl rfl rfl ?_
    obtain rfl := Option.some.inj h
    exact wp_ret rfl rfl rfl hq
  · refine w_iflt_f (j := 2) rfl c1 rfl ?_
    refine w_iload_n (j := 3) rfl rfl rfl ?_
    refine w_aload_n (j := 4) rfl rfl rfl ?_
    refine w_getI (j := 5) rfl rfl rfl rfl rfl ?_
    rcases xite_inv h with ⟨c2, h⟩ | ⟨c2, h⟩
    · refine w_icmpge_t (j := 11) rfl c2 rfl ?_
      refine w_bipush (z := (-4 : Int32)) (j := 12) rfl rfl rfl ?_
      obtain rfl := Option.some.inj h
      exact wp_ret rfl rfl rfl hq
    · refine w_icmpge_f (j := 6) rfl c2 rfl ?_
      refine w_aload_n (j := 7) rfl rfl rfl ?_
      refine w_getR (j := 8) rfl rfl rfl rfl rfl rfl ?_
      refine w_iload_n (j := 9) rfl rfl rfl ?_
      rcases xite_inv h with ⟨g3, h⟩ | ⟨g3, h⟩
      · cases h
      · refine w_iaload (j := 10) rfl rfl g3 rfl ?_
        refine w_goto (j := 12) rfl rfl ?_
        obtain rfl := Option.some.inj h
        exact wp_ret rfl rfl rfl hq
set_option maxHeartbeats 2000000 in
set_option maxRecDepth 20000 in
theorem R_X3_learn {d : Nat} {a0 : Nat} {s : St} {q : St} {Q : Option Value → xM → Prop} (h0 : TL a0) (h : F_X3_learn a0 s = some q) (hq : Q none (SH, q.1, q.2)) : wp (d + 1) mX3_learn 0 [some (.ref 14), some (.ref a0), some (.ref 1)] [] (SH, s.1, s.2) Q := by
  unfold F_X3_learn at h
  try dsimp only at h
  refine w_aload_n (j := 1) rfl rfl rfl ?_
  refine wc_A_I (j := 2) (T := []) rfl rfl rfl rfl rfl rfl rfl rfl (xrecv_s rfl rfl h0.1 rfl) rfl ?_
  refine w_aload_n (j := 1) rfl rfl rfl ?_
  refine w_getI (j := 2) rfl h0.1 rfl rfl rfl ?_
  refine wp_ret rfl rfl rfl ⟨_, rfl, ?_⟩
  refine w_iconst (z := (1 : Int32)) (j := 3) rfl rfl rfl ?_
  rcases xite_inv h with ⟨c1, h⟩ | ⟨c1, h⟩
  · refine w_icmple_t (j := 9) rfl c1 rfl ?_
    refine w_aload_n (j := 10) rfl rfl rfl ?_
    refine wc_A_I (j := 11) (T := []) rfl rfl rfl rfl rfl rfl rfl rfl (xrecv_s rfl rfl h0.1 rfl) rfl ?_
    refine w_aload_n (j := 1) rfl rfl rfl ?_
    refine w_getI (j := 2) rfl h0.1 rfl rfl rfl ?_
    refine wp_ret rfl rfl rfl ⟨_, rfl, ?_⟩
    refine w_iconst (z := (1 : Int32)) (j := 12) rfl rfl rfl ?_
    rcases xite_inv h with ⟨c2, h⟩ | ⟨c2, h⟩
    · refine w_icmpne_f (j := 13) rfl c2 rfl ?_
      refine w_aload_n (j := 14) rfl rfl rfl ?_
      refine w_iconst (z := (0 : Int32)) (j := 15) rfl rfl rfl ?_
      obtain ⟨q3, hq3, h⟩ := Option.bind_eq_some_iff.mp h
      refine wc_AI_I (j := 16) (T := []) rfl rfl rfl rfl rfl rfl rfl rfl (xrecv_s rfl rfl h0.1 rfl) rfl ?_
      refine R_X5_at h0 hq3 ⟨_, rfl, ?_⟩
      rcases xite_inv h with ⟨c4, h⟩ | ⟨c4, h⟩
      · refine w_ifeq_t (j := 26) rfl c4 rfl ?_
        obtain rfl := Option.some.inj h
        exact wp_vret rfl rfl rfl hq
      · refine w_ifeq_f (j := 17) rfl c4 rfl ?_
        refine w_aload_n (j := 18) rfl rfl rfl ?_
        refine w_aload_n (j := 19) rfl rfl rfl ?_
        refine w_aload_n (j := 20) rfl rfl rfl ?_
        refine w_iconst (z := (0 : Int32)) (j := 21) rfl rfl rfl ?_
        obtain ⟨q5, hq5, h⟩ := Option.bind_eq_some_iff.mp h
        refine wc_AI_I (j := 22) (T := []) rfl rfl rfl rfl rfl rfl rfl rfl (xrecv_s rfl rfl h0.1 rfl) rfl ?_
        refine R_X5_at h0 hq5 ⟨_, rfl, ?_⟩
        obtain ⟨q6, hq6, h⟩ := Option.bind_eq_some_iff.mp h
        refine wc_AI_I (j := 23) (T := []) rfl rfl rfl rfl rfl rfl rfl rfl rfl rfl ?_
        refine R_X6_kindOf hq6 ⟨_, rfl, ?_⟩
        obtain ⟨q7, hq7, h⟩ := Option.bind_eq_some_iff.mp h
        refine wc_AI_A (j := 24) (T := []) rfl rfl rfl rfl rfl rfl rfl rfl rfl rfl ?_
        refine R_X3_meantBy hq7 ⟨_, rfl, ?_⟩
        have t8 := T_X3_meantBy hq7
        refine w_aload_n (j := 25) rfl rfl rfl ?_
        obtain ⟨q9, hq9, h⟩ := Option.bind_eq_some_iff.mp h
        refine wc_AA_V (j := 26) (T := [none]) rfl rfl rfl rfl rfl rfl rfl rfl (xrecv_s rfl rfl t8.1 rfl) rfl ?_
        refine R_X5_copyFrom t8 h0 hq9 ⟨rfl, ?_⟩
        obtain rfl := Option.some.inj h
        exact wp_vret rfl rfl rfl hq
    · refine w_icmpne_t (j := 26) rfl c2 rfl ?_
      obtain rfl := Option.some.inj h
      exact wp_vret rfl rfl rfl hq
  · refine w_icmple_f (j := 4) rfl c1 rfl ?_
    refine w_aload_n (j := 5) rfl rfl rfl ?_
    refine w_getR (j := 6) rfl rfl rfl rfl rfl rfl ?_
    refine w_aload_n (j := 7) rfl rfl rfl ?_
    obtain ⟨q10, hq10, h⟩ := Option.bind_eq_some_iff.mp h
    refine wc_AA_V (j := 8) (T := [none]) rfl rfl rfl rfl rfl rfl rfl rfl rfl rfl ?_
    refine R_X5_copyFrom (show TL 21 from ⟨rfl, rfl⟩) h0 hq10 ⟨rfl, ?_⟩
    refine w_goto (j := 26) rfl rfl ?_
    obtain rfl := Option.some.inj h
    exact wp_vret rfl rfl rfl hq
set_option maxHeartbeats 2000000 in
set_option maxRecDepth 20000 in
theorem R_X2_keepDraft {d : Nat}  {s : St} {q : St} {Q : Option Value → xM → Prop}  (h : F_X2_keepDraft  s = some q) (hq : Q none (SH, q.1, q.2)) : wp (d + 3) mX2_keepDraft 0 [some (.ref 80)] [] (SH, s.1, s.2) Q := by
  unfold F_X2_keepDraft at h
  try dsimp only at h
  refine w_aload_n (j := 1) rfl rfl rfl ?_
  refine w_getR (j := 2) rfl rfl rfl rfl rfl rfl ?_
  refine w_aload_n (j := 3) rfl rfl rfl ?_
  refine w_getR (j := 4) rfl rfl rfl rfl rfl rfl ?_
  obtain ⟨q1, hq1, h⟩ := Option.bind_eq_some_iff.mp h
  refine wc_AA_V (j := 5) (T := []) rfl rfl rfl rfl rfl rfl rfl rfl rfl rfl ?_
  refine R_X1_keep (show OR 85 from ⟨rfl, ⟨rfl, rfl⟩, ⟨rfl, rfl⟩⟩) hq1 ⟨rfl, ?_⟩
  refine w_aload_n (j := 6) rfl rfl rfl ?_
  refine w_getR (j := 7) rfl rfl rfl rfl rfl rfl ?_
  refine w_aload_n (j := 8) rfl rfl rfl ?_
  refine w_getR (j := 9) rfl rfl rfl rfl rfl rfl ?_
  refine w_aload_n (j := 10) rfl rfl rfl ?_
  refine w_getR (j := 11) rfl rfl rfl rfl rfl rfl ?_
  obtain ⟨q2, hq2, h⟩ := Option.bind_eq_some_iff.mp h
  refine wc_AAA_V (j := 12) (T := []) rfl rfl rfl rfl rfl rfl rfl rfl rfl rfl ?_
  refine R_X3_learn (show TL 92 from ⟨rfl, rfl⟩) hq2 ⟨rfl, ?_⟩
  refine w_aload_n (j := 13) rfl rfl rfl ?_
  refine w_getR (j := 14) rfl rfl rfl rfl rfl rfl ?_
  obtain ⟨q3, hq3, h⟩ := Option.bind_eq_some_iff.mp h
  refine wc_A_V (j := 15) (T := []) rfl rfl rfl rfl rfl rfl rfl rfl rfl rfl ?_
  refine R_X5_clear (show TL 92 from ⟨rfl, rfl⟩) hq3 ⟨rfl, ?_⟩
  refine w_aload_n (j := 16) rfl rfl rfl ?_
  refine w_getR (j := 17) rfl rfl rfl rfl rfl rfl ?_
  refine w_aload_n (j := 18) rfl rfl rfl ?_
  refine w_getR (j := 19) rfl rfl rfl rfl rfl rfl ?_
  refine w_getR (j := 20) rfl rfl rfl rfl rfl rfl ?_
  refine w_aload_n (j := 21) rfl rfl rfl ?_
  refine w_getR (j := 22) rfl rfl rfl rfl rfl rfl ?_
  obtain ⟨q4, hq4, h⟩ := Option.bind_eq_some_iff.mp h
  refine wc_AAA_V (j := 23) (T := []) rfl rfl rfl rfl rfl rfl rfl rfl rfl rfl ?_
  refine R_X3_learn (show TL 86 from ⟨rfl, rfl⟩) hq4 ⟨rfl, ?_⟩
  refine w_aload_n (j := 24) rfl rfl rfl ?_
  refine w_getR (j := 25) rfl rfl rfl rfl rfl rfl ?_
  refine w_aload_n (j := 26) rfl rfl rfl ?_
  refine w_getR (j := 27) rfl rfl rfl rfl rfl rfl ?_
  refine w_getR (j := 28) rfl rfl rfl rfl rfl rfl ?_
  refine w_aload_n (j := 29) rfl rfl rfl ?_
  refine w_getR (j := 30) rfl rfl rfl rfl rfl rfl ?_
  obtain ⟨q5, hq5, h⟩ := Option.bind_eq_some_iff.mp h
  refine wc_AAA_V (j := 31) (T := []) rfl rfl rfl rfl rfl rfl rfl rfl rfl rfl ?_
  refine R_X3_learn (show TL 88 from ⟨rfl, rfl⟩) hq5 ⟨rfl, ?_⟩
  obtain rfl := Option.some.inj h
  exact wp_vret rfl rfl rfl hq
set_option maxHeartbeats 2000000 in
set_option maxRecDepth 20000 in
theorem R_X2_isFromTable {d : Nat} {a0 : Int32} {s : St} {q : Int32 × St} {Q : Option Value → xM → Prop}  (h : F_X2_isFromTable a0 s = some q) (hq : Q (some (.int q.1)) (SH, q.2.1, q.2.2)) : wp (d + 0) mX2_isFromTable 0 [some (.int a0)] [] (SH, s.1, s.2) Q := by
  unfold F_X2_isFromTable at h
  try dsimp only at h
  refine w_iload_n (j := 1) rfl rfl rfl ?_
  refine w_bipush (z := (8 : Int32)) (j := 2) rfl rfl rfl ?_
  rcases xite_inv h with ⟨c1, h⟩ | ⟨c1, h⟩
  · refine w_icmplt_t (j := 6) rfl c1 rfl ?_
    refine w_iload_n (j := 7) rfl rfl rfl ?_
    refine w_bipush (z := (15 : Int32)) (j := 8) rfl rfl rfl ?_
    rcases xite_inv h with ⟨c2, h⟩ | ⟨c2, h⟩
    · refine w_icmplt_t (j := 14) rfl c2 rfl ?_
      refine w_iconst (z := (0 : Int32)) (j := 15) rfl rfl rfl ?_
      obtain rfl := Option.some.inj h
      exact wp_ret rfl rfl rfl hq
    · refine w_icmplt_f (j := 9) rfl c2 rfl ?_
      refine w_iload_n (j := 10) rfl rfl rfl ?_
      refine w_bipush (z := (17 : Int32)) (j := 11) rfl rfl rfl ?_
      rcases xite_inv h with ⟨c3, h⟩ | ⟨c3, h⟩
      · refine w_icmpgt_t (j := 14) rfl c3 rfl ?_
        refine w_iconst (z := (0 : Int32)) (j := 15) rfl rfl rfl ?_
        obtain rfl := Option.some.inj h
        exact wp_ret rfl rfl rfl hq
      · refine w_icmpgt_f (j := 12) rfl c3 rfl ?_
        refine w_iconst (z := (1 : Int32)) (j := 13) rfl rfl rfl ?_
        refine w_goto (j := 15) rfl rfl ?_
        obtain rfl := Option.some.inj h
        exact wp_ret rfl rfl rfl hq
  · refine w_icmplt_f (j := 3) rfl c1 rfl ?_
    refine w_iload_n (j := 4) rfl rfl rfl ?_
    refine w_bipush (z := (11 : Int32)) (j := 5) rfl rfl rfl ?_
    rcases xite_inv h with ⟨c4, h⟩ | ⟨c4, h⟩
    · refine w_icmple_t (j := 12) rfl c4 rfl ?_
      refine w_iconst (z := (1 : Int32)) (j := 13) rfl rfl rfl ?_
      refine w_goto (j := 15) rfl rfl ?_
      obtain rfl := Option.some.inj h
      exact wp_ret rfl rfl rfl hq
    · refine w_icmple_f (j := 6) rfl c4 rfl ?_
      refine w_iload_n (j := 7) rfl rfl rfl ?_
      refine w_bipush (z := (15 : Int32)) (j := 8) rfl rfl rfl ?_
      rcases xite_inv h with ⟨c5, h⟩ | ⟨c5, h⟩
      · refine w_icmplt_t (j := 14) rfl c5 rfl ?_
        refine w_iconst (z := (0 : Int32)) (j := 15) rfl rfl rfl ?_
        obtain rfl := Option.some.inj h
        exact wp_ret rfl rfl rfl hq
      · refine w_icmplt_f (j := 9) rfl c5 rfl ?_
        refine w_iload_n (j := 10) rfl rfl rfl ?_
        refine w_bipush (z := (17 : Int32)) (j := 11) rfl rfl rfl ?_
        rcases xite_inv h with ⟨c6, h⟩ | ⟨c6, h⟩
        · refine w_icmpgt_t (j := 14) rfl c6 rfl ?_
          refine w_iconst (z := (0 : Int32)) (j := 15) rfl rfl rfl ?_
          obtain rfl := Option.some.inj h
          exact wp_ret rfl rfl rfl hq
        · refine w_icmpgt_f (j := 12) rfl c6 rfl ?_
          refine w_iconst (z := (1 : Int32)) (j := 13) rfl rfl rfl ?_
          refine w_goto (j := 15) rfl rfl ?_
          obtain rfl := Option.some.inj h
          exact wp_ret rfl rfl rfl hq
set_option maxHeartbeats 2000000 in
set_option maxRecDepth 20000 in
theorem R_X2_isPronoun {d : Nat} {a0 : Int32} {s : St} {q : Int32 × St} {Q : Option Value → xM → Prop}  (h : F_X2_isPronoun a0 s = some q) (hq : Q (some (.int q.1)) (SH, q.2.1, q.2.2)) : wp (d + 0) mX2_isPronoun 0 [some (.int a0)] [] (SH, s.1, s.2) Q := by
  unfold F_X2_isPronoun at h
  try dsimp only at h
  refine w_iload_n (j := 1) rfl rfl rfl ?_
  refine w_bipush (z := (8 : Int32)) (j := 2) rfl rfl rfl ?_
  rcases xite_inv h with ⟨c1, h⟩ | ⟨c1, h⟩
  · refine w_icmplt_t (j := 8) rfl c1 rfl ?_
    refine w_iconst (z := (0 : Int32)) (j := 9) rfl rfl rfl ?_
    obtain rfl := Option.some.inj h
    exact wp_ret rfl rfl rfl hq
  · refine w_icmplt_f (j := 3) rfl c1 rfl ?_
    refine w_iload_n (j := 4) rfl rfl rfl ?_
    refine w_bipush (z := (14 : Int32)) (j := 5) rfl rfl rfl ?_
    rcases xite_inv h with ⟨c2, h⟩ | ⟨c2, h⟩
    · refine w_icmpgt_t (j := 8) rfl c2 rfl ?_
      refine w_iconst (z := (0 : Int32)) (j := 9) rfl rfl rfl ?_
      obtain rfl := Option.some.inj h
      exact wp_ret rfl rfl rfl hq
    · refine w_icmpgt_f (j := 6) rfl c2 rfl ?_
      refine w_iconst (z := (1 : Int32)) (j := 7) rfl rfl rfl ?_
      refine w_goto (j := 9) rfl rfl ?_
      obtain rfl := Option.some.inj h
      exact wp_ret rfl rfl rfl hq
set_option maxHeartbeats 2000000 in
set_option maxRecDepth 20000 in
theorem R_X2_isTableReady {d : Nat} {a0 : Int32} {s : St} {q : Int32 × St} {Q : Option Value → xM → Prop}  (h : F_X2_isTableReady a0 s = some q) (hq : Q (some (.int q.1)) (SH, q.2.1, q.2.2)) : wp (d + 1) mX2_isTableReady 0 [some (.ref 80), some (.int a0), none, none] [] (SH, s.1, s.2) Q := by
  unfold F_X2_isTableReady at h
  try dsimp only at h
  refine w_aload_n (j := 1) rfl rfl rfl ?_
  refine w_getR (j := 2) rfl rfl rfl rfl rfl rfl ?_
  refine w_iload_n (j := 3) rfl rfl rfl ?_
  obtain ⟨q1, hq1, h⟩ := Option.bind_eq_some_iff.mp h
  refine wc_AI_A (j := 4) (T := []) rfl rfl rfl rfl rfl rfl rfl rfl rfl rfl ?_
  refine R_X3_meantBy hq1 ⟨_, rfl, ?_⟩
  have t2 := T_X3_meantBy hq1
  refine w_astore_n (j := 5) rfl (l1_2 rfl) rfl ?_
  refine w_aload_n (j := 6) rfl rfl rfl ?_
  refine wc_A_I (j := 7) (T := []) rfl rfl rfl rfl rfl rfl rfl rfl (xrecv_s rfl rfl t2.1 rfl) rfl ?_
  refine w_aload_n (j := 1) rfl rfl rfl ?_
  refine w_getI (j := 2) rfl t2.1 rfl rfl rfl ?_
  refine wp_ret rfl rfl rfl ⟨_, rfl, ?_⟩
  rcases xite_inv h with ⟨c3, h⟩ | ⟨c3, h⟩
  · refine w_ifne_f (j := 8) rfl c3 rfl ?_
    refine w_aload_n (j := 9) rfl rfl rfl ?_
    refine w_bipush (z := (6 : Int32)) (j := 10) rfl rfl rfl ?_
    refine w_aload_n (j := 11) rfl rfl rfl ?_
    refine w_getI (j := 12) rfl rfl rfl rfl rfl ?_
    obtain ⟨q4, hq4, h⟩ := Option.bind_eq_some_iff.mp h
    refine wc_AII_I (j := 13) (T := []) rfl rfl rfl rfl rfl rfl rfl rfl rfl rfl ?_
    refine R_X2_fail hq4 ⟨_, rfl, ?_⟩
    rcases xite_inv h with ⟨hb, h⟩ | ⟨hb, h⟩
    · obtain rfl := Option.some.inj h
      exact wp_ret rfl rfl (xretb hb) hq
    · cases h
  · refine w_ifne_t (j := 14) rfl c3 rfl ?_
    refine w_aload_n (j := 15) rfl rfl rfl ?_
    refine wc_A_I (j := 16) (T := []) rfl rfl rfl rfl rfl rfl rfl rfl (xrecv_s rfl rfl t2.1 rfl) rfl ?_
    refine w_aload_n (j := 1) rfl rfl rfl ?_
    refine w_getI (j := 2) rfl t2.1 rfl rfl rfl ?_
    refine wp_ret rfl rfl rfl ⟨_, rfl, ?_⟩
    refine w_aload_n (j := 17) rfl rfl rfl ?_
    refine w_getR (j := 18) rfl rfl rfl rfl rfl rfl ?_
    refine wc_A_I (j := 19) (T := []) rfl rfl rfl rfl rfl rfl rfl rfl rfl rfl ?_
    refine w_aload_n (j := 1) rfl rfl rfl ?_
    refine w_getI (j := 2) rfl rfl rfl rfl rfl ?_
    refine wp_ret rfl rfl rfl ⟨_, rfl, ?_⟩
    refine w_iconst (z := (-1 : Int32)) (j := 20) rfl rfl rfl ?_
    refine w_ixor (j := 21) rfl rfl ?_
    refine w_iand (j := 22) rfl rfl ?_
    rcases xite_inv h with ⟨c5, h⟩ | ⟨c5, h⟩
    · refine w_ifne_f (j := 23) rfl c5 rfl ?_
      refine w_iconst (z := (1 : Int32)) (j := 24) rfl rfl rfl ?_
      refine w_goto (j := 26) rfl rfl ?_
      refine w_istore_n (j := 27) rfl (l1_3 rfl) rfl ?_
      refine w_iload_n (j := 28) rfl rfl rfl ?_
      refine w_ifne_t (j := 35) rfl (by decide) rfl ?_
      refine w_iconst (z := (1 : Int32)) (j := 36) rfl rfl rfl ?_
      refine w_goto (j := 38) rfl rfl ?_
      obtain rfl := Option.some.inj h
      exact wp_ret rfl rfl rfl hq
    · refine w_ifne_t (j := 25) rfl c5 rfl ?_
      refine w_iconst (z := (0 : Int32)) (j := 26) rfl rfl rfl ?_
      refine w_istore_n (j := 27) rfl (l1_3 rfl) rfl ?_
      refine w_iload_n (j := 28) rfl rfl rfl ?_
      refine w_ifne_f (j := 29) rfl (by decide) rfl ?_
      refine w_aload_n (j := 30) rfl rfl rfl ?_
      refine w_bipush (z := (7 : Int32)) (j := 31) rfl rfl rfl ?_
      refine w_aload_n (j := 32) rfl rfl rfl ?_
      refine w_getI (j := 33) rfl rfl rfl rfl rfl ?_
      obtain ⟨q6, hq6, h⟩ := Option.bind_eq_some_iff.mp h
      refine wc_AII_I (j := 34) (T := []) rfl rfl rfl rfl rfl rfl rfl rfl rfl rfl ?_
      refine R_X2_fail hq6 ⟨_, rfl, ?_⟩
      rcases xite_inv h with ⟨c7, h⟩ | ⟨c7, h⟩
      · refine w_ifeq_t (j := 37) rfl c7 rfl ?_
        refine w_iconst (z := (0 : Int32)) (j := 38) rfl rfl rfl ?_
        obtain rfl := Option.some.inj h
        exact wp_ret rfl rfl rfl hq
      · refine w_ifeq_f (j := 35) rfl c7 rfl ?_
        refine w_iconst (z := (1 : Int32)) (j := 36) rfl rfl rfl ?_
        refine w_goto (j := 38) rfl rfl ?_
        obtain rfl := Option.some.inj h
        exact wp_ret rfl rfl rfl hq
set_option maxHeartbeats 2000000 in
set_option maxRecDepth 20000 in
theorem R_X2_isWhose {d : Nat} {a0 : Int32} {s : St} {q : Int32 × St} {Q : Option Value → xM → Prop}  (h : F_X2_isWhose a0 s = some q) (hq : Q (some (.int q.1)) (SH, q.2.1, q.2.2)) : wp (d + 0) mX2_isWhose 0 [some (.int a0)] [] (SH, s.1, s.2) Q := by
  unfold F_X2_isWhose at h
  try dsimp only at h
  refine w_iload_n (j := 1) rfl rfl rfl ?_
  refine w_bipush (z := (15 : Int32)) (j := 2) rfl rfl rfl ?_
  rcases xite_inv h with ⟨c1, h⟩ | ⟨c1, h⟩
  · refine w_icmplt_t (j := 8) rfl c1 rfl ?_
    refine w_iconst (z := (0 : Int32)) (j := 9) rfl rfl rfl ?_
    obtain rfl := Option.some.inj h
    exact wp_ret rfl rfl rfl hq
  · refine w_icmplt_f (j := 3) rfl c1 rfl ?_
    refine w_iload_n (j := 4) rfl rfl rfl ?_
    refine w_bipush (z := (18 : Int32)) (j := 5) rfl rfl rfl ?_
    rcases xite_inv h with ⟨c2, h⟩ | ⟨c2, h⟩
    · refine w_icmpgt_t (j := 8) rfl c2 rfl ?_
      refine w_iconst (z := (0 : Int32)) (j := 9) rfl rfl rfl ?_
      obtain rfl := Option.some.inj h
      exact wp_ret rfl rfl rfl hq
    · refine w_icmpgt_f (j := 6) rfl c2 rfl ?_
      refine w_iconst (z := (1 : Int32)) (j := 7) rfl rfl rfl ?_
      refine w_goto (j := 9) rfl rfl ?_
      obtain rfl := Option.some.inj h
      exact wp_ret rfl rfl rfl hq
set_option maxHeartbeats 2000000 in
set_option maxRecDepth 20000 in
theorem R_X2_pronounOf {d : Nat} {a0 : Int32} {s : St} {q : Int32 × St} {Q : Option Value → xM → Prop}  (h : F_X2_pronounOf a0 s = some q) (hq : Q (some (.int q.1)) (SH, q.2.1, q.2.2)) : wp (d + 0) mX2_pronounOf 0 [some (.int a0)] [] (SH, s.1, s.2) Q := by
  unfold F_X2_pronounOf at h
  try dsimp only at h
  refine w_iload_n (j := 1) rfl rfl rfl ?_
  rcases xite_inv h with ⟨c1_0, h⟩ | ⟨c1_0, h⟩
  · refine w_table_in (q := 0) (j := 2) rfl (by rw [c1_0]; decide) (by rw [c1_0]; decide) rfl ?_
    refine w_iconst (z := (0 : Int32)) (j := 3) rfl rfl rfl ?_
    obtain rfl := Option.some.inj h
    exact wp_ret rfl rfl rfl hq
  · rcases xite_inv h with ⟨c1_1, h⟩ | ⟨c1_1, h⟩
    · refine w_table_in (q := 1) (j := 4) rfl (by rw [c1_1]; decide) (by rw [c1_1]; decide) rfl ?_
      refine w_iconst (z := (1 : Int32)) (j := 5) rfl rfl rfl ?_
      obtain rfl := Option.some.inj h
      exact wp_ret rfl rfl rfl hq
    · rcases xite_inv h with ⟨c1_2, h⟩ | ⟨c1_2, h⟩
      · refine w_table_in (q := 2) (j := 6) rfl (by rw [c1_2]; decide) (by rw [c1_2]; decide) rfl ?_
        refine w_iconst (z := (2 : Int32)) (j := 7) rfl rfl rfl ?_
        obtain rfl := Option.some.inj h
        exact wp_ret rfl rfl rfl hq
      · rcases xite_inv h with ⟨c1_3, h⟩ | ⟨c1_3, h⟩
        · refine w_table_in (q := 3) (j := 8) rfl (by rw [c1_3]; decide) (by rw [c1_3]; decide) rfl ?_
          refine w_iconst (z := (3 : Int32)) (j := 9) rfl rfl rfl ?_
          obtain rfl := Option.some.inj h
          exact wp_ret rfl rfl rfl hq
        · rcases xite_inv h with ⟨c1_4, h⟩ | ⟨c1_4, h⟩
          · refine w_table_in (q := 4) (j := 8) rfl (by rw [c1_4]; decide) (by rw [c1_4]; decide) rfl ?_
            refine w_iconst (z := (3 : Int32)) (j := 9) rfl rfl rfl ?_
            obtain rfl := Option.some.inj h
            exact wp_ret rfl rfl rfl hq
          · rcases xite_inv h with ⟨c1_5, h⟩ | ⟨c1_5, h⟩
            · refine w_table_in (q := 5) (j := 8) rfl (by rw [c1_5]; decide) (by rw [c1_5]; decide) rfl ?_
              refine w_iconst (z := (3 : Int32)) (j := 9) rfl rfl rfl ?_
              obtain rfl := Option.some.inj h
              exact wp_ret rfl rfl rfl hq
            · rcases xite_inv h with ⟨c1_6, h⟩ | ⟨c1_6, h⟩
              · refine w_table_in (q := 6) (j := 8) rfl (by rw [c1_6]; decide) (by rw [c1_6]; decide) rfl ?_
                refine w_iconst (z := (3 : Int32)) (j := 9) rfl rfl rfl ?_
                obtain rfl := Option.some.inj h
                exact wp_ret rfl rfl rfl hq
              · rcases xite_inv h with ⟨c1_7, h⟩ | ⟨c1_7, h⟩
                · refine w_table_in (q := 7) (j := 4) rfl (by rw [c1_7]; decide) (by rw [c1_7]; decide) rfl ?_
                  refine w_iconst (z := (1 : Int32)) (j := 5) rfl rfl rfl ?_
                  obtain rfl := Option.some.inj h
                  exact wp_ret rfl rfl rfl hq
                · rcases xite_inv h with ⟨c1_8, h⟩ | ⟨c1_8, h⟩
                  · refine w_table_in (q := 8) (j := 2) rfl (by rw [c1_8]; decide) (by rw [c1_8]; decide) rfl ?_
                    refine w_iconst (z := (0 : Int32)) (j := 3) rfl rfl rfl ?_
                    obtain rfl := Option.some.inj h
                    exact wp_ret rfl rfl rfl hq
                  · refine w_table_out (j := 8) rfl (sw_out_8_16 c1_0 c1_1 c1_2 c1_3 c1_4 c1_5 c1_6 c1_7 c1_8) rfl ?_
                    refine w_iconst (z := (3 : Int32)) (j := 9) rfl rfl rfl ?_
                    obtain rfl := Option.some.inj h
                    exact wp_ret rfl rfl rfl hq
set_option maxHeartbeats 2000000 in
set_option maxRecDepth 20000 in
theorem R_X2_ownersFor {d : Nat} {a0 : Int32} {s : St} {q : Int32 × St} {Q : Option Value → xM → Prop}  (h : F_X2_ownersFor a0 s = some q) (hq : Q (some (.int q.1)) (SH, q.2.1, q.2.2)) : wp (d + 1) mX2_ownersFor 0 [some (.ref 80), some (.int a0)] [] (SH, s.1, s.2) Q := by
  unfold F_X2_ownersFor at h
  try dsimp only at h
  refine w_iload_n (j := 1) rfl rfl rfl ?_
  refine w_bipush (z := (18 : Int32)) (j := 2) rfl rfl rfl ?_
  rcases xite_inv h with ⟨c1, h⟩ | ⟨c1, h⟩
  · refine w_icmpne_f (j := 3) rfl c1 rfl ?_
    refine w_iconst (z := (0 : Int32)) (j := 4) rfl rfl rfl ?_
    obtain ⟨q2, hq2, h⟩ := Option.bind_eq_some_iff.mp h
    refine wc_I_I (j := 5) (T := []) rfl rfl rfl rfl rfl rfl rfl rfl rfl rfl ?_
    refine R_X9_bitOf hq2 ⟨_, rfl, ?_⟩
    refine w_goto (j := 12) rfl rfl ?_
    obtain rfl := Option.some.inj h
    exact wp_ret rfl rfl rfl hq
  · refine w_icmpne_t (j := 6) rfl c1 rfl ?_
    refine w_aload_n (j := 7) rfl rfl rfl ?_
    refine w_getR (j := 8) rfl rfl rfl rfl rfl rfl ?_
    refine w_iload_n (j := 9) rfl rfl rfl ?_
    obtain ⟨q3, hq3, h⟩ := Option.bind_eq_some_iff.mp h
    refine wc_I_I (j := 10) (T := []) rfl rfl rfl rfl rfl rfl rfl rfl rfl rfl ?_
    refine R_X2_pronounOf hq3 ⟨_, rfl, ?_⟩
    obtain ⟨q4, hq4, h⟩ := Option.bind_eq_some_iff.mp h
    refine wc_AI_A (j := 11) (T := []) rfl rfl rfl rfl rfl rfl rfl rfl rfl rfl ?_
    refine R_X3_meantBy hq4 ⟨_, rfl, ?_⟩
    have t5 := T_X3_meantBy hq4
    refine wc_A_I (j := 12) (T := []) rfl rfl rfl rfl rfl rfl rfl rfl (xrecv_s rfl rfl t5.1 rfl) rfl ?_
    refine w_aload_n (j := 1) rfl rfl rfl ?_
    refine w_getI (j := 2) rfl t5.1 rfl rfl rfl ?_
    refine wp_ret rfl rfl rfl ⟨_, rfl, ?_⟩
    obtain rfl := Option.some.inj h
    exact wp_ret rfl rfl rfl hq
set_option maxHeartbeats 2000000 in
set_option maxRecDepth 20000 in
theorem R_X5_add {d : Nat} {o : Nat} {a0 : Int32} {s : St} {q : St} {Q : Option Value → xM → Prop} (ho : TL o) (h : F_X5_add o a0 s = some q) (hq : Q none (SH, q.1, q.2)) : wp (d + 0) mX5_add 0 [some (.ref o), some (.int a0), none] [] (SH, s.1, s.2) Q := by
  unfold F_X5_add at h
  try dsimp only at h
  refine w_iload_n (j := 1) rfl rfl rfl ?_
  rcases xite_inv h with ⟨c1, h⟩ | ⟨c1, h⟩
  · refine w_iflt_t (j := 9) rfl c1 rfl ?_
    obtain rfl := Option.some.inj h
    exact wp_vret rfl rfl rfl hq
  · refine w_iflt_f (j := 2) rfl c1 rfl ?_
    refine w_iload_n (j := 3) rfl rfl rfl ?_
    refine w_bipush (z := (24 : Int32)) (j := 4) rfl rfl rfl ?_
    rcases xite_inv h with ⟨c2, h⟩ | ⟨c2, h⟩
    · refine w_icmpge_t (j := 9) rfl c2 rfl ?_
      obtain rfl := Option.some.inj h
      exact wp_vret rfl rfl rfl hq
    · refine w_icmpge_f (j := 5) rfl c2 rfl ?_
      refine w_aload_n (j := 6) rfl rfl rfl ?_
      refine w_getI (j := 7) rfl ho.1 rfl rfl rfl ?_
      refine w_bipush (z := (24 : Int32)) (j := 8) rfl rfl rfl ?_
      rcases xite_inv h with ⟨c3, h⟩ | ⟨c3, h⟩
      · refine w_icmplt_t (j := 10) rfl c3 rfl ?_
        refine w_iconst (z := (1 : Int32)) (j := 11) rfl rfl rfl ?_
        refine w_iload_n (j := 12) rfl rfl rfl ?_
        refine w_ishl (j := 13) rfl rfl ?_
        refine w_istore_n (j := 14) rfl (l1_2 rfl) rfl ?_
        refine w_aload_n (j := 15) rfl rfl rfl ?_
        refine w_getI (j := 16) rfl ho.1 rfl rfl rfl ?_
        refine w_iload_n (j := 17) rfl rfl rfl ?_
        refine w_iand (j := 18) rfl rfl ?_
        rcases xite_inv h with ⟨c4, h⟩ | ⟨c4, h⟩
        · refine w_ifne_f (j := 19) rfl c4 rfl ?_
          refine w_aload_n (j := 20) rfl rfl rfl ?_
          refine w_getR (j := 21) rfl ho.1 rfl rfl rfl rfl ?_
          refine w_aload_n (j := 22) rfl rfl rfl ?_
          refine w_getI (j := 23) rfl ho.1 rfl rfl rfl ?_
          refine w_iload_n (j := 24) rfl rfl rfl ?_
          rcases xite_inv h with ⟨g5, h⟩ | ⟨g5, h⟩
          · cases h
          · refine w_iastore (j := 25) rfl ho.2 g5 rfl ?_
            try dsimp only at h
            refine w_aload_n (j := 26) rfl rfl rfl ?_
            refine w_dup (j := 27) rfl rfl rfl ?_
            refine w_getI (j := 28) rfl ho.1 rfl rfl rfl ?_
            refine w_iconst (z := (1 : Int32)) (j := 29) rfl rfl rfl ?_
            refine w_iadd (j := 30) rfl rfl ?_
            refine w_putI (j := 31) rfl ho.1 rfl rfl rfl ?_
            try dsimp only at h
            refine w_aload_n (j := 32) rfl rfl rfl ?_
            refine w_dup (j := 33) rfl rfl rfl ?_
            refine w_getI (j := 34) rfl ho.1 rfl rfl rfl ?_
            refine w_iload_n (j := 35) rfl rfl rfl ?_
            refine w_ior (j := 36) rfl rfl ?_
            refine w_putI (j := 37) rfl ho.1 rfl rfl rfl ?_
            try dsimp only at h
            obtain rfl := Option.some.inj h
            exact wp_vret rfl rfl rfl hq
        · refine w_ifne_t (j := 37) rfl c4 rfl ?_
          obtain rfl := Option.some.inj h
          exact wp_vret rfl rfl rfl hq
      · refine w_icmplt_f (j := 9) rfl c3 rfl ?_
        obtain rfl := Option.some.inj h
        exact wp_vret rfl rfl rfl hq
set_option maxHeartbeats 2000000 in
set_option maxRecDepth 20000 in
theorem R_X6_isPerson {d : Nat} {a0 : Int32} {s : St} {q : Int32 × St} {Q : Option Value → xM → Prop}  (h : F_X6_isPerson a0 s = some q) (hq : Q (some (.int q.1)) (SH, q.2.1, q.2.2)) : wp (d + 0) mX6_isPerson 0 [some (.ref 1), some (.int a0)] [] (SH, s.1, s.2) Q := by
  unfold F_X6_isPerson at h
  try dsimp only at h
  refine w_iload_n (j := 1) rfl rfl rfl ?_
  rcases xite_inv h with ⟨c1, h⟩ | ⟨c1, h⟩
  · refine w_iflt_t (j := 20) rfl c1 rfl ?_
    refine w_iconst (z := (0 : Int32)) (j := 21) rfl rfl rfl ?_
    obtain rfl := Option.some.inj h
    exact wp_ret rfl rfl rfl hq
  · refine w_iflt_f (j := 2) rfl c1 rfl ?_
    refine w_iload_n (j := 3) rfl rfl rfl ?_
    refine w_aload_n (j := 4) rfl rfl rfl ?_
    refine w_getI (j := 5) rfl rfl rfl rfl rfl ?_
    rcases xite_inv h with ⟨c2, h⟩ | ⟨c2, h⟩
    · refine w_icmpge_t (j := 20) rfl c2 rfl ?_
      refine w_iconst (z := (0 : Int32)) (j := 21) rfl rfl rfl ?_
      obtain rfl := Option.some.inj h
      exact wp_ret rfl rfl rfl hq
    · refine w_icmpge_f (j := 6) rfl c2 rfl ?_
      refine w_aload_n (j := 7) rfl rfl rfl ?_
      refine w_getR (j := 8) rfl rfl rfl rfl rfl rfl ?_
      refine w_iload_n (j := 9) rfl rfl rfl ?_
      rcases xite_inv h with ⟨g3, h⟩ | ⟨g3, h⟩
      · cases h
      · refine w_iaload (j := 10) rfl rfl g3 rfl ?_
        refine w_iconst (z := (1 : Int32)) (j := 11) rfl rfl rfl ?_
        rcases xite_inv h with ⟨c4, h⟩ | ⟨c4, h⟩
        · refine w_icmpeq_t (j := 18) rfl c4 rfl ?_
          refine w_iconst (z := (1 : Int32)) (j := 19) rfl rfl rfl ?_
          refine w_goto (j := 21) rfl rfl ?_
          obtain rfl := Option.some.inj h
          exact wp_ret rfl rfl rfl hq
        · refine w_icmpeq_f (j := 12) rfl c4 rfl ?_
          refine w_aload_n (j := 13) rfl rfl rfl ?_
          refine w_getR (j := 14) rfl rfl rfl rfl rfl rfl ?_
          refine w_iload_n (j := 15) rfl rfl rfl ?_
          refine w_iaload (j := 16) rfl rfl g3 rfl ?_
          refine w_iconst (z := (2 : Int32)) (j := 17) rfl rfl rfl ?_
          rcases xite_inv h with ⟨c5, h⟩ | ⟨c5, h⟩
          · refine w_icmpne_f (j := 18) rfl c5 rfl ?_
            refine w_iconst (z := (1 : Int32)) (j := 19) rfl rfl rfl ?_
            refine w_goto (j := 21) rfl rfl ?_
            obtain rfl := Option.some.inj h
            exact wp_ret rfl rfl rfl hq
          · refine w_icmpne_t (j := 20) rfl c5 rfl ?_
            refine w_iconst (z := (0 : Int32)) (j := 21) rfl rfl rfl ?_
            obtain rfl := Option.some.inj h
            exact wp_ret rfl rfl rfl hq
set_option maxHeartbeats 2000000 in
set_option maxRecDepth 20000 in
theorem R_X6_isSeen {d : Nat} {a0 : Int32} {s : St} {q : Int32 × St} {Q : Option Value → xM → Prop}  (h : F_X6_isSeen a0 s = some q) (hq : Q (some (.int q.1)) (SH, q.2.1, q.2.2)) : wp (d + 0) mX6_isSeen 0 [some (.ref 1), some (.int a0)] [] (SH, s.1, s.2) Q := by
  unfold F_X6_isSeen at h
  try dsimp only at h
  refine w_iload_n (j := 1) rfl rfl rfl ?_
  rcases xite_inv h with ⟨c1, h⟩ | ⟨c1, h⟩
  · refine w_iflt_t (j := 15) rfl c1 rfl ?_
    refine w_iconst (z := (0 : Int32)) (j := 16) rfl rfl rfl ?_
    obtain rfl := Option.some.inj h
    exact wp_ret rfl rfl rfl hq
  · refine w_iflt_f (j := 2) rfl c1 rfl ?_
    refine w_iload_n (j := 3) rfl rfl rfl ?_
    refine w_aload_n (j := 4) rfl rfl rfl ?_
    refine w_getI (j := 5) rfl rfl rfl rfl rfl ?_
    rcases xite_inv h with ⟨c2, h⟩ | ⟨c2, h⟩
    · refine w_icmpge_t (j := 15) rfl c2 rfl ?_
      refine w_iconst (z := (0 : Int32)) (j := 16) rfl rfl rfl ?_
      obtain rfl := Option.some.inj h
      exact wp_ret rfl rfl rfl hq
    · refine w_icmpge_f (j := 6) rfl c2 rfl ?_
      refine w_aload_n (j := 7) rfl rfl rfl ?_
      refine w_getI (j := 8) rfl rfl rfl rfl rfl ?_
      refine w_iload_n (j := 9) rfl rfl rfl ?_
      refine w_ishr (j := 10) rfl rfl ?_
      refine w_iconst (z := (1 : Int32)) (j := 11) rfl rfl rfl ?_
      refine w_iand (j := 12) rfl rfl ?_
      rcases xite_inv h with ⟨c3, h⟩ | ⟨c3, h⟩
      · refine w_ifeq_t (j := 15) rfl c3 rfl ?_
        refine w_iconst (z := (0 : Int32)) (j := 16) rfl rfl rfl ?_
        obtain rfl := Option.some.inj h
        exact wp_ret rfl rfl rfl hq
      · refine w_ifeq_f (j := 13) rfl c3 rfl ?_
        refine w_iconst (z := (1 : Int32)) (j := 14) rfl rfl rfl ?_
        refine w_goto (j := 16) rfl rfl ?_
        obtain rfl := Option.some.inj h
        exact wp_ret rfl rfl rfl hq
set_option maxHeartbeats 2000000 in
set_option maxRecDepth 20000 in
theorem RL_X2_readAll_13 {d : Nat} {a0 : Nat} {Q : Option Value → xM → Prop} (h0 : TL a0) : ∀ (n : Nat) (l2 : Int32) (l3 : Int32) (l4 : Int32)  (s : St) (q : Int32 × St)   (h : L_X2_readAll_13 a0 n l2 l3 l4 s = some q) (hq : ∀ (v1 v4 : Option Value), xlong v1 = false → wp (d + 1) mX2_readAll 34 [some (.ref 80), v1, some (.int l2), some (.int q.1), v4] [] (SH, q.2.1, q.2.2) Q), wp (d + 1) mX2_readAll 13 [some (.ref 80), some (.ref a0), some (.int l2), some (.int l3), some (.int l4)] [] (SH, s.1, s.2) Q := by
  intro n
  induction n with
  | zero => intro l2 l3 l4 s q h; cases h
  | succ n ih =>
    intro l2 l3 l4 s q h hq
    unfold L_X2_readAll_13 at h
    try dsimp only at h
    refine w_iload (j := 14) rfl rfl rfl ?_
    refine w_aload_n (j := 15) rfl rfl rfl ?_
    refine w_getR (j := 16) rfl rfl rfl rfl rfl rfl ?_
    refine wc_A_I (j := 17) (T := []) rfl rfl rfl rfl rfl rfl rfl rfl rfl rfl ?_
    refine w_aload_n (j := 1) rfl rfl rfl ?_
    refine w_getI (j := 2) rfl rfl rfl rfl rfl ?_
    refine wp_ret rfl rfl rfl ⟨_, rfl, ?_⟩
    rcases xite_inv h with ⟨c2, h⟩ | ⟨c2, h⟩
    · refine w_icmpge_t (j := 34) rfl c2 rfl ?_
      obtain rfl := Option.some.inj h
      exact hq _ _ rfl
    · refine w_icmpge_f (j := 18) rfl c2 rfl ?_
      refine w_aload_n (j := 19) rfl rfl rfl ?_
      refine w_getR (j := 20) rfl rfl rfl rfl rfl rfl ?_
      refine w_iload (j := 21) rfl rfl rfl ?_
      obtain ⟨q3, hq3, h⟩ := Option.bind_eq_some_iff.mp h
      refine wc_AI_I (j := 22) (T := []) rfl rfl rfl rfl rfl rfl rfl rfl rfl rfl ?_
      refine R_X6_isSeen hq3 ⟨_, rfl, ?_⟩
      rcases xite_inv h with ⟨c4, h⟩ | ⟨c4, h⟩
      · refine w_ifeq_t (j := 32) rfl c4 rfl ?_
        refine w_iinc (cc := (1 : Int32)) (j := 33) rfl rfl rfl (l1_4 rfl) rfl ?_
        refine w_goto (j := 13) rfl rfl ?_
        exact ih _ _ _ _ _ h hq
      · refine w_ifeq_f (j := 23) rfl c4 rfl ?_
        refine w_aload_n (j := 24) rfl rfl rfl ?_
        refine w_getR (j := 25) rfl rfl rfl rfl rfl rfl ?_
        refine w_iload (j := 26) rfl rfl rfl ?_
        obtain ⟨q5, hq5, h⟩ := Option.bind_eq_some_iff.mp h
        refine wc_AI_I (j := 27) (T := []) rfl rfl rfl rfl rfl rfl rfl rfl rfl rfl ?_
        refine R_X6_isPerson hq5 ⟨_, rfl, ?_⟩
        rcases xite_inv h with ⟨c6, h⟩ | ⟨c6, h⟩
        · refine w_ifne_f (j := 28) rfl c6 rfl ?_
          refine w_aload_n (j := 29) rfl rfl rfl ?_
          refine w_iload (j := 30) rfl rfl rfl ?_
          obtain ⟨q7, hq7, h⟩ := Option.bind_eq_some_iff.mp h
          refine wc_AI_V (j := 31) (T := [none]) rfl rfl rfl rfl rfl rfl rfl rfl (xrecv_s rfl rfl h0.1 rfl) rfl ?_
          refine R_X5_add h0 hq7 ⟨rfl, ?_⟩
          refine w_iinc (cc := (1 : Int32)) (j := 32) rfl rfl rfl (l1_3 rfl) rfl ?_
          refine w_iinc (cc := (1 : Int32)) (j := 33) rfl rfl rfl (l1_4 rfl) rfl ?_
          refine w_goto (j := 13) rfl rfl ?_
          exact ih _ _ _ _ _ h hq
        · refine w_ifne_t (j := 32) rfl c6 rfl ?_
          refine w_iinc (cc := (1 : Int32)) (j := 33) rfl rfl rfl (l1_4 rfl) rfl ?_
          refine w_goto (j := 13) rfl rfl ?_
          exact ih _ _ _ _ _ h hq
set_option maxHeartbeats 2000000 in
set_option maxRecDepth 20000 in
theorem R_X2_readAll {d : Nat} {a0 : Nat} {s : St} {q : Int32 × St} {Q : Option Value → xM → Prop} (h0 : TL a0) (h : F_X2_readAll a0 s = some q) (hq : Q (some (.int q.1)) (SH, q.2.1, q.2.2)) : wp (d + 1) mX2_readAll 0 [some (.ref 80), some (.ref a0), none, none, none] [] (SH, s.1, s.2) Q := by
  unfold F_X2_readAll at h
  try dsimp only at h
  refine w_aload_n (j := 1) rfl rfl rfl ?_
  refine w_getI (j := 2) rfl rfl rfl rfl rfl ?_
  refine w_istore_n (j := 3) rfl (l1_2 rfl) rfl ?_
  refine w_iconst (z := (0 : Int32)) (j := 4) rfl rfl rfl ?_
  refine w_istore_n (j := 5) rfl (l1_3 rfl) rfl ?_
  refine w_aload_n (j := 6) rfl rfl rfl ?_
  refine w_dup (j := 7) rfl rfl rfl ?_
  refine w_getI (j := 8) rfl rfl rfl rfl rfl ?_
  refine w_iconst (z := (1 : Int32)) (j := 9) rfl rfl rfl ?_
  refine w_iadd (j := 10) rfl rfl ?_
  refine w_putI (j := 11) rfl rfl rfl rfl rfl ?_
  try dsimp only at h
  refine w_iconst (z := (0 : Int32)) (j := 12) rfl rfl rfl ?_
  refine w_istore (j := 13) rfl (l1_4 rfl) rfl ?_
  obtain ⟨q8, hq8, h⟩ := Option.bind_eq_some_iff.mp h
  refine RL_X2_readAll_13 h0 _ _ _ _ _ _ hq8 (fun v9 v10 hv9 => ?_)
  refine w_iload_n (j := 35) rfl rfl rfl ?_
  rcases xite_inv h with ⟨c11, h⟩ | ⟨c11, h⟩
  · refine w_ifgt_t (j := 41) rfl c11 rfl ?_
    refine w_iconst (z := (1 : Int32)) (j := 42) rfl rfl rfl ?_
    refine w_goto (j := 44) rfl rfl ?_
    obtain rfl := Option.some.inj h
    exact wp_ret rfl rfl rfl hq
  · refine w_ifgt_f (j := 36) rfl c11 rfl ?_
    refine w_aload_n (j := 37) rfl rfl rfl ?_
    refine w_iconst (z := (4 : Int32)) (j := 38) rfl rfl rfl ?_
    refine w_iload_n (j := 39) rfl rfl rfl ?_
    obtain ⟨q12, hq12, h⟩ := Option.bind_eq_some_iff.mp h
    refine wc_AII_I (j := 40) (T := []) rfl rfl rfl rfl rfl rfl rfl rfl rfl rfl ?_
    refine R_X2_fail hq12 ⟨_, rfl, ?_⟩
    rcases xite_inv h with ⟨c13, h⟩ | ⟨c13, h⟩
    · refine w_ifeq_t (j := 43) rfl c13 rfl ?_
      refine w_iconst (z := (0 : Int32)) (j := 44) rfl rfl rfl ?_
      obtain rfl := Option.some.inj h
      exact wp_ret rfl rfl rfl hq
    · refine w_ifeq_f (j := 41) rfl c13 rfl ?_
      refine w_iconst (z := (1 : Int32)) (j := 42) rfl rfl rfl ?_
      refine w_goto (j := 44) rfl rfl ?_
      obtain rfl := Option.some.inj h
      exact wp_ret rfl rfl rfl hq
set_option maxHeartbeats 2000000 in
set_option maxRecDepth 20000 in
theorem R_X7_wordAt {d : Nat} {a0 : Int32} {s : St} {q : Int32 × St} {Q : Option Value → xM → Prop}  (h : F_X7_wordAt a0 s = some q) (hq : Q (some (.int q.1)) (SH, q.2.1, q.2.2)) : wp (d + 0) mX7_wordAt 0 [some (.ref 81), some (.int a0)] [] (SH, s.1, s.2) Q := by
  unfold F_X7_wordAt at h
  try dsimp only at h
  refine w_iload_n (j := 1) rfl rfl rfl ?_
  rcases xite_inv h with ⟨c1, h⟩ | ⟨c1, h⟩
  · refine w_iflt_t (j := 11) rfl c1 rfl ?_
    refine w_bipush (z := (-4 : Int32)) (j := 12) rfl rfl rfl ?_
    obtain rfl := Option.some.inj h
    exact wp_ret rfl rfl rfl hq
  · refine w_iflt_f (j := 2) rfl c1 rfl ?_
    refine w_iload_n (j := 3) rfl rfl rfl ?_
    refine w_aload_n (j := 4) rfl rfl rfl ?_
    refine w_getI (j := 5) rfl rfl rfl rfl rfl ?_
    rcases xite_inv h with ⟨c2, h⟩ | ⟨c2, h⟩
    · refine w_icmpge_t (j := 11) rfl c2 rfl ?_
      refine w_bipush (z := (-4 : Int32)) (j := 12) rfl rfl rfl ?_
      obtain rfl := Option.some.inj h
      exact wp_ret rfl rfl rfl hq
    · refine w_icmpge_f (j := 6) rfl c2 rfl ?_
      refine w_aload_n (j := 7) rfl rfl rfl ?_
      refine w_getR (j := 8) rfl rfl rfl rfl rfl rfl ?_
      refine w_iload_n (j := 9) rfl rfl rfl ?_
      rcases xite_inv h with ⟨g3, h⟩ | ⟨g3, h⟩
      · cases h
      · refine w_iaload (j := 10) rfl rfl g3 rfl ?_
        refine w_goto (j := 12) rfl rfl ?_
        obtain rfl := Option.some.inj h
        exact wp_ret rfl rfl rfl hq
set_option maxHeartbeats 2000000 in
set_option maxRecDepth 20000 in
theorem R_X8_adjectivesOf {d : Nat} {a0 : Int32} {s : St} {q : Int32 × St} {Q : Option Value → xM → Prop}  (h : F_X8_adjectivesOf a0 s = some q) (hq : Q (some (.int q.1)) (SH, q.2.1, q.2.2)) : wp (d + 0) mX8_adjectivesOf 0 [some (.ref 4), some (.int a0)] [] (SH, s.1, s.2) Q := by
  unfold F_X8_adjectivesOf at h
  try dsimp only at h
  refine w_iload_n (j := 1) rfl rfl rfl ?_
  rcases xite_inv h with ⟨c1, h⟩ | ⟨c1, h⟩
  · refine w_iflt_t (j := 11) rfl c1 rfl ?_
    refine w_iconst (z := (0 : Int32)) (j := 12) rfl rfl rfl ?_
    obtain rfl := Option.some.inj h
    exact wp_ret rfl rfl rfl hq
  · refine w_iflt_f (j := 2) rfl c1 rfl ?_
    refine w_iload_n (j := 3) rfl rfl rfl ?_
    refine w_aload_n (j := 4) rfl rfl rfl ?_
    refine w_getI (j := 5) rfl rfl rfl rfl rfl ?_
    rcases xite_inv h with ⟨c2, h⟩ | ⟨c2, h⟩
    · refine w_icmpge_t (j := 11) rfl c2 rfl ?_
      refine w_iconst (z := (0 : Int32)) (j := 12) rfl rfl rfl ?_
      obtain rfl := Option.some.inj h
      exact wp_ret rfl rfl rfl hq
    · refine w_icmpge_f (j := 6) rfl c2 rfl ?_
      refine w_aload_n (j := 7) rfl rfl rfl ?_
      refine w_getR (j := 8) rfl rfl rfl rfl rfl rfl ?_
      refine w_iload_n (j := 9) rfl rfl rfl ?_
      rcases xite_inv h with ⟨g3, h⟩ | ⟨g3, h⟩
      · cases h
      · refine w_iaload (j := 10) rfl rfl g3 rfl ?_
        refine w_goto (j := 12) rfl rfl ?_
        obtain rfl := Option.some.inj h
        exact wp_ret rfl rfl rfl hq
set_option maxHeartbeats 2000000 in
set_option maxRecDepth 20000 in
theorem R_X8_nounsOf {d : Nat} {a0 : Int32} {s : St} {q : Int32 × St} {Q : Option Value → xM → Prop}  (h : F_X8_nounsOf a0 s = some q) (hq : Q (some (.int q.1)) (SH, q.2.1, q.2.2)) : wp (d + 0) mX8_nounsOf 0 [some (.ref 4), some (.int a0)] [] (SH, s.1, s.2) Q := by
  unfold F_X8_nounsOf at h
  try dsimp only at h
  refine w_iload_n (j := 1) rfl rfl rfl ?_
  rcases xite_inv h with ⟨c1, h⟩ | ⟨c1, h⟩
  · refine w_iflt_t (j := 11) rfl c1 rfl ?_
    refine w_iconst (z := (0 : Int32)) (j := 12) rfl rfl rfl ?_
    obtain rfl := Option.some.inj h
    exact wp_ret rfl rfl rfl hq
  · refine w_iflt_f (j := 2) rfl c1 rfl ?_
    refine w_iload_n (j := 3) rfl rfl rfl ?_
    refine w_aload_n (j := 4) rfl rfl rfl ?_
    refine w_getI (j := 5) rfl rfl rfl rfl rfl ?_
    rcases xite_inv h with ⟨c2, h⟩ | ⟨c2, h⟩
    · refine w_icmpge_t (j := 11) rfl c2 rfl ?_
      refine w_iconst (z := (0 : Int32)) (j := 12) rfl rfl rfl ?_
      obtain rfl := Option.some.inj h
      exact wp_ret rfl rfl rfl hq
    · refine w_icmpge_f (j := 6) rfl c2 rfl ?_
      refine w_aload_n (j := 7) rfl rfl rfl ?_
      refine w_getR (j := 8) rfl rfl rfl rfl rfl rfl ?_
      refine w_iload_n (j := 9) rfl rfl rfl ?_
      rcases xite_inv h with ⟨g3, h⟩ | ⟨g3, h⟩
      · cases h
      · refine w_iaload (j := 10) rfl rfl g3 rfl ?_
        refine w_goto (j := 12) rfl rfl ?_
        obtain rfl := Option.some.inj h
        exact wp_ret rfl rfl rfl hq
set_option maxHeartbeats 2000000 in
set_option maxRecDepth 20000 in
theorem R_X9_isIn {d : Nat} {a0 : Int32} {a1 : Int32} {s : St} {q : Int32 × St} {Q : Option Value → xM → Prop}  (h : F_X9_isIn a0 a1 s = some q) (hq : Q (some (.int q.1)) (SH, q.2.1, q.2.2)) : wp (d + 0) mX9_isIn 0 [some (.int a0), some (.int a1)] [] (SH, s.1, s.2) Q := by
  unfold F_X9_isIn at h
  try dsimp only at h
  refine w_iload_n (j := 1) rfl rfl rfl ?_
  rcases xite_inv h with ⟨c1, h⟩ | ⟨c1, h⟩
  · refine w_iflt_t (j := 13) rfl c1 rfl ?_
    refine w_iconst (z := (0 : Int32)) (j := 14) rfl rfl rfl ?_
    obtain rfl := Option.some.inj h
    exact wp_ret rfl rfl rfl hq
  · refine w_iflt_f (j := 2) rfl c1 rfl ?_
    refine w_iload_n (j := 3) rfl rfl rfl ?_
    refine w_bipush (z := (24 : Int32)) (j := 4) rfl rfl rfl ?_
    rcases xite_inv h with ⟨c2, h⟩ | ⟨c2, h⟩
    · refine w_icmpge_t (j := 13) rfl c2 rfl ?_
      refine w_iconst (z := (0 : Int32)) (j := 14) rfl rfl rfl ?_
      obtain rfl := Option.some.inj h
      exact wp_ret rfl rfl rfl hq
    · refine w_icmpge_f (j := 5) rfl c2 rfl ?_
      refine w_iload_n (j := 6) rfl rfl rfl ?_
      refine w_iload_n (j := 7) rfl rfl rfl ?_
      refine w_ishr (j := 8) rfl rfl ?_
      refine w_iconst (z := (1 : Int32)) (j := 9) rfl rfl rfl ?_
      refine w_iand (j := 10) rfl rfl ?_
      rcases xite_inv h with ⟨c3, h⟩ | ⟨c3, h⟩
      · refine w_ifeq_t (j := 13) rfl c3 rfl ?_
        refine w_iconst (z := (0 : Int32)) (j := 14) rfl rfl rfl ?_
        obtain rfl := Option.some.inj h
        exact wp_ret rfl rfl rfl hq
      · refine w_ifeq_f (j := 11) rfl c3 rfl ?_
        refine w_iconst (z := (1 : Int32)) (j := 12) rfl rfl rfl ?_
        refine w_goto (j := 14) rfl rfl ?_
        obtain rfl := Option.some.inj h
        exact wp_ret rfl rfl rfl hq
set_option maxHeartbeats 2000000 in
set_option maxRecDepth 20000 in
theorem RL_X2_readNames_7 {d : Nat} {a0 : Nat} {Q : Option Value → xM → Prop} (h0 : TL a0) : ∀ (n : Nat) (l3 : Int32) (l4 : Int32) (l5 : Int32) (u2 u6 u7 : Option Value) (s : St) (q : Int32 × St)  (hu2 : xlong u2 = false) (hu6 : xlong u6 = false) (h : L_X2_readNames_7 a0 n l3 l4 l5 s = some q) (hq : ∀ (v2 v5 v6 v7 : Option Value), xlong v2 = false → xlong v5 = false → xlong v6 = false → wp (d + 1) mX2_readNames 58 [some (.ref 80), some (.ref a0), v2, some (.int l3), some (.int q.1), v5, v6, v7] [] (SH, q.2.1, q.2.2) Q), wp (d + 1) mX2_readNames 7 [some (.ref 80), some (.ref a0), u2, some (.int l3), some (.int l4), some (.int l5), u6, u7] [] (SH, s.1, s.2) Q := by
  intro n
  induction n with
  | zero => intro l3 l4 l5 u2 u6 u7 s q hu2 hu6 h; cases h
  | succ n ih =>
    intro l3 l4 l5 u2 u6 u7 s q hu2 hu6 h hq
    unfold L_X2_readNames_7 at h
    try dsimp only at h
    refine w_iload (j := 8) rfl rfl rfl ?_
    refine w_sipush (z := (200 : Int32)) (j := 9) rfl rfl rfl ?_
    rcases xite_inv h with ⟨c1, h⟩ | ⟨c1, h⟩
    · refine w_icmpge_t (j := 58) rfl c1 rfl ?_
      obtain rfl := Option.some.inj h
      exact hq _ _ _ _ hu2 rfl hu6
    · refine w_icmpge_f (j := 10) rfl c1 rfl ?_
      refine w_aload_n (j := 11) rfl rfl rfl ?_
      refine w_getR (j := 12) rfl rfl rfl rfl rfl rfl ?_
      refine w_aload_n (j := 13) rfl rfl rfl ?_
      refine w_getI (j := 14) rfl rfl rfl rfl rfl ?_
      obtain ⟨q2, hq2, h⟩ := Option.bind_eq_some_iff.mp h
      refine wc_AI_I (j := 15) (T := []) rfl rfl rfl rfl rfl rfl rfl rfl rfl rfl ?_
      refine R_X7_kindAt hq2 ⟨_, rfl, ?_⟩
      refine w_bipush (z := (23 : Int32)) (j := 16) rfl rfl rfl ?_
      rcases xite_inv h with ⟨c3, h⟩ | ⟨c3, h⟩
      · refine w_icmpne_f (j := 17) rfl c3 rfl ?_
        refine w_aload_n (j := 18) rfl rfl rfl ?_
        refine w_getR (j := 19) rfl rfl rfl rfl rfl rfl ?_
        refine w_aload_n (j := 20) rfl rfl rfl ?_
        refine w_getI (j := 21) rfl rfl rfl rfl rfl ?_
        obtain ⟨q4, hq4, h⟩ := Option.bind_eq_some_iff.mp h
        refine wc_AI_I (j := 22) (T := []) rfl rfl rfl rfl rfl rfl rfl rfl rfl rfl ?_
        refine R_X7_wordAt hq4 ⟨_, rfl, ?_⟩
        refine w_istore (j := 23) rfl (l1_6 rfl) rfl ?_
        refine w_aload_n (j := 24) rfl rfl rfl ?_
        refine w_dup (j := 25) rfl rfl rfl ?_
        refine w_getI (j := 26) rfl rfl rfl rfl rfl ?_
        refine w_iconst (z := (1 : Int32)) (j := 27) rfl rfl rfl ?_
        refine w_iadd (j := 28) rfl rfl ?_
        refine w_putI (j := 29) rfl rfl rfl rfl rfl ?_
        try dsimp only at h
        refine w_aload_n (j := 30) rfl rfl rfl ?_
        refine w_getR (j := 31) rfl rfl rfl rfl rfl rfl ?_
        refine w_aload_n (j := 32) rfl rfl rfl ?_
        refine w_getI (j := 33) rfl rfl rfl rfl rfl ?_
        obtain ⟨q6, hq6, h⟩ := Option.bind_eq_some_iff.mp h
        refine wc_AI_I (j := 34) (T := []) rfl rfl rfl rfl rfl rfl rfl rfl rfl rfl ?_
        refine R_X7_kindAt hq6 ⟨_, rfl, ?_⟩
        refine w_bipush (z := (23 : Int32)) (j := 35) rfl rfl rfl ?_
        rcases xite_inv h with ⟨c7, h⟩ | ⟨c7, h⟩
        · refine w_icmpeq_t (j := 38) rfl c7 rfl ?_
          refine w_iconst (z := (0 : Int32)) (j := 39) rfl rfl rfl ?_
          refine w_istore (j := 40) rfl (l1_7 rfl) rfl ?_
          refine w_iload (j := 41) rfl rfl rfl ?_
          refine w_aload_n (j := 42) rfl rfl rfl ?_
          refine w_getR (j := 43) rfl rfl rfl rfl rfl rfl ?_
          refine w_iload (j := 44) rfl rfl rfl ?_
          obtain ⟨q8, hq8, h⟩ := Option.bind_eq_some_iff.mp h
          refine wc_AI_I (j := 45) (T := []) rfl rfl rfl rfl rfl rfl rfl rfl rfl rfl ?_
          refine R_X8_nounsOf hq8 ⟨_, rfl, ?_⟩
          refine w_iload (j := 46) rfl rfl rfl ?_
          refine w_ifeq_t (j := 49) rfl (by decide) rfl ?_
          refine w_aload_n (j := 50) rfl rfl rfl ?_
          refine w_getR (j := 51) rfl rfl rfl rfl rfl rfl ?_
          refine w_iload (j := 52) rfl rfl rfl ?_
          obtain ⟨q9, hq9, h⟩ := Option.bind_eq_some_iff.mp h
          refine wc_AI_I (j := 53) (T := []) rfl rfl rfl rfl rfl rfl rfl rfl rfl rfl ?_
          refine R_X8_adjectivesOf hq9 ⟨_, rfl, ?_⟩
          refine w_ior (j := 54) rfl rfl ?_
          refine w_iand (j := 55) rfl rfl ?_
          refine w_istore (j := 56) rfl (l1_4 rfl) rfl ?_
          refine w_iinc (cc := (1 : Int32)) (j := 57) rfl rfl rfl (l1_5 rfl) rfl ?_
          refine w_goto (j := 7) rfl rfl ?_
          exact ih _ _ _ _ _ _ _ _ hu2 rfl h hq
        · refine w_icmpeq_f (j := 36) rfl c7 rfl ?_
          refine w_iconst (z := (1 : Int32)) (j := 37) rfl rfl rfl ?_
          refine w_goto (j := 39) rfl rfl ?_
          refine w_istore (j := 40) rfl (l1_7 rfl) rfl ?_
          refine w_iload (j := 41) rfl rfl rfl ?_
          refine w_aload_n (j := 42) rfl rfl rfl ?_
          refine w_getR (j := 43) rfl rfl rfl rfl rfl rfl ?_
          refine w_iload (j := 44) rfl rfl rfl ?_
          obtain ⟨q10, hq10, h⟩ := Option.bind_eq_some_iff.mp h
          refine wc_AI_I (j := 45) (T := []) rfl rfl rfl rfl rfl rfl rfl rfl rfl rfl ?_
          refine R_X8_nounsOf hq10 ⟨_, rfl, ?_⟩
          refine w_iload (j := 46) rfl rfl rfl ?_
          refine w_ifeq_f (j := 47) rfl (by decide) rfl ?_
          refine w_iconst (z := (0 : Int32)) (j := 48) rfl rfl rfl ?_
          refine w_goto (j := 53) rfl rfl ?_
          refine w_ior (j := 54) rfl rfl ?_
          refine w_iand (j := 55) rfl rfl ?_
          refine w_istore (j := 56) rfl (l1_4 rfl) rfl ?_
          refine w_iinc (cc := (1 : Int32)) (j := 57) rfl rfl rfl (l1_5 rfl) rfl ?_
          refine w_goto (j := 7) rfl rfl ?_
          exact ih _ _ _ _ _ _ _ _ hu2 rfl h hq
      · refine w_icmpne_t (j := 58) rfl c3 rfl ?_
        obtain rfl := Option.some.inj h
        exact hq _ _ _ _ hu2 rfl hu6
set_option maxHeartbeats 2000000 in
set_option maxRecDepth 20000 in
theorem RL_X2_readNames_62 {d : Nat} {a0 : Nat} {Q : Option Value → xM → Prop} (h0 : TL a0) : ∀ (n : Nat) (l3 : Int32) (l4 : Int32) (l5 : Int32) (l6 : Int32) (u2 u7 : Option Value) (s : St) (q : Int32 × St)  (hu2 : xlong u2 = false) (h : L_X2_readNames_62 a0 n l3 l4 l5 l6 s = some q) (hq : Q (some (.int q.1)) (SH, q.2.1, q.2.2)), wp (d + 1) mX2_readNames 62 [some (.ref 80), some (.ref a0), u2, some (.int l3), some (.int l4), some (.int l5), some (.int l6), u7] [] (SH, s.1, s.2) Q := by
  intro n
  induction n with
  | zero => intro l3 l4 l5 l6 u2 u7 s q hu2 h; cases h
  | succ n ih =>
    intro l3 l4 l5 l6 u2 u7 s q hu2 h hq
    unfold L_X2_readNames_62 at h
    try dsimp only at h
    refine w_iload (j := 63) rfl rfl rfl ?_
    refine w_aload_n (j := 64) rfl rfl rfl ?_
    refine w_getR (j := 65) rfl rfl rfl rfl rfl rfl ?_
    refine wc_A_I (j := 66) (T := []) rfl rfl rfl rfl rfl rfl rfl rfl rfl rfl ?_
    refine w_aload_n (j := 1) rfl rfl rfl ?_
    refine w_getI (j := 2) rfl rfl rfl rfl rfl ?_
    refine wp_ret rfl rfl rfl ⟨_, rfl, ?_⟩
    rcases xite_inv h with ⟨c16, h⟩ | ⟨c16, h⟩
    · refine w_icmpge_t (j := 83) rfl c16 rfl ?_
      refine w_aload_n (j := 84) rfl rfl rfl ?_
      refine w_iload (j := 85) rfl rfl rfl ?_
      obtain ⟨q17, hq17, h⟩ := Option.bind_eq_some_iff.mp h
      refine wc_AI_V (j := 86) (T := [none]) rfl rfl rfl rfl rfl rfl rfl rfl (xrecv_s rfl rfl h0.1 rfl) rfl ?_
      refine R_X5_add h0 hq17 ⟨rfl, ?_⟩
      refine w_iload (j := 87) rfl rfl rfl ?_
      refine w_bipush (z := (-4 : Int32)) (j := 88) rfl rfl rfl ?_
      rcases xite_inv h with ⟨c18, h⟩ | ⟨c18, h⟩
      · refine w_icmpne_f (j := 89) rfl c18 rfl ?_
        refine w_aload_n (j := 90) rfl rfl rfl ?_
        refine w_iconst (z := (4 : Int32)) (j := 91) rfl rfl rfl ?_
        refine w_iload_n (j := 92) rfl rfl rfl ?_
        obtain ⟨q19, hq19, h⟩ := Option.bind_eq_some_iff.mp h
        refine wc_AII_I (j := 93) (T := []) rfl rfl rfl rfl rfl rfl rfl rfl rfl rfl ?_
        refine R_X2_fail hq19 ⟨_, rfl, ?_⟩
        rcases xite_inv h with ⟨c20, h⟩ | ⟨c20, h⟩
        · refine w_ifeq_t (j := 96) rfl c20 rfl ?_
          refine w_iconst (z := (0 : Int32)) (j := 97) rfl rfl rfl ?_
          obtain rfl := Option.some.inj h
          exact wp_ret rfl rfl rfl hq
        · refine w_ifeq_f (j := 94) rfl c20 rfl ?_
          refine w_iconst (z := (1 : Int32)) (j := 95) rfl rfl rfl ?_
          refine w_goto (j := 97) rfl rfl ?_
          obtain rfl := Option.some.inj h
          exact wp_ret rfl rfl rfl hq
      · refine w_icmpne_t (j := 94) rfl c18 rfl ?_
        refine w_iconst (z := (1 : Int32)) (j := 95) rfl rfl rfl ?_
        refine w_goto (j := 97) rfl rfl ?_
        obtain rfl := Option.some.inj h
        exact wp_ret rfl rfl rfl hq
    · refine w_icmpge_f (j := 67) rfl c16 rfl ?_
      refine w_iload (j := 68) rfl rfl rfl ?_
      refine w_iload (j := 69) rfl rfl rfl ?_
      obtain ⟨q21, hq21, h⟩ := Option.bind_eq_some_iff.mp h
      refine wc_II_I (j := 70) (T := []) rfl rfl rfl rfl rfl rfl rfl rfl rfl rfl ?_
      refine R_X9_isIn hq21 ⟨_, rfl, ?_⟩
      rcases xite_inv h with ⟨c22, h⟩ | ⟨c22, h⟩
      · refine w_ifeq_t (j := 81) rfl c22 rfl ?_
        refine w_iinc (cc := (1 : Int32)) (j := 82) rfl rfl rfl (l1_6 rfl) rfl ?_
        refine w_goto (j := 62) rfl rfl ?_
        exact ih _ _ _ _ _ _ _ _ hu2 h hq
      · refine w_ifeq_f (j := 71) rfl c22 rfl ?_
        refine w_iload (j := 72) rfl rfl rfl ?_
        refine w_bipush (z := (-4 : Int32)) (j := 73) rfl rfl rfl ?_
        rcases xite_inv h with ⟨c23, h⟩ | ⟨c23, h⟩
        · refine w_icmpeq_t (j := 79) rfl c23 rfl ?_
          refine w_iload (j := 80) rfl rfl rfl ?_
          refine w_istore (j := 81) rfl (l1_5 rfl) rfl ?_
          refine w_iinc (cc := (1 : Int32)) (j := 82) rfl rfl rfl (l1_6 rfl) rfl ?_
          refine w_goto (j := 62) rfl rfl ?_
          exact ih _ _ _ _ _ _ _ _ hu2 h hq
        · refine w_icmpeq_f (j := 74) rfl c23 rfl ?_
          refine w_aload_n (j := 75) rfl rfl rfl ?_
          refine w_iconst (z := (5 : Int32)) (j := 76) rfl rfl rfl ?_
          refine w_iload_n (j := 77) rfl rfl rfl ?_
          obtain ⟨q24, hq24, h⟩ := Option.bind_eq_some_iff.mp h
          refine wc_AII_I (j := 78) (T := []) rfl rfl rfl rfl rfl rfl rfl rfl rfl rfl ?_
          refine R_X2_fail hq24 ⟨_, rfl, ?_⟩
          rcases xite_inv h with ⟨hb, h⟩ | ⟨hb, h⟩
          · obtain rfl := Option.some.inj h
            exact wp_ret rfl rfl (xretb hb) hq
          · cases h
set_option maxHeartbeats 2000000 in
set_option maxRecDepth 20000 in
theorem R_X2_readNames {d : Nat} {a0 : Nat} {a1 : Int32} {s : St} {q : Int32 × St} {Q : Option Value → xM → Prop} (h0 : TL a0) (h : F_X2_readNames a0 a1 s = some q) (hq : Q (some (.int q.1)) (SH, q.2.1, q.2.2)) : wp (d + 1) mX2_readNames 0 [some (.ref 80), some (.ref a0), some (.int a1), none, none, none, none, none] [] (SH, s.1, s.2) Q := by
  unfold F_X2_readNames at h
  try dsimp only at h
  refine w_aload_n (j := 1) rfl rfl rfl ?_
  refine w_getI (j := 2) rfl rfl rfl rfl rfl ?_
  refine w_istore_n (j := 3) rfl (l1_3 rfl) rfl ?_
  refine w_iload_n (j := 4) rfl rfl rfl ?_
  refine w_istore (j := 5) rfl (l1_4 rfl) rfl ?_
  refine w_iconst (z := (0 : Int32)) (j := 6) rfl rfl rfl ?_
  refine w_istore (j := 7) rfl (l1_5 rfl) rfl ?_
  obtain ⟨q11, hq11, h⟩ := Option.bind_eq_some_iff.mp h
  refine RL_X2_readNames_7 h0 _ _ _ _ _ _ _ _ _ rfl rfl hq11 (fun v12 v13 v14 v15 hv12 hv13 hv14 => ?_)
  refine w_bipush (z := (-4 : Int32)) (j := 59) rfl rfl rfl ?_
  refine w_istore (j := 60) rfl (l1_5 rfl) rfl ?_
  refine w_iconst (z := (0 : Int32)) (j := 61) rfl rfl rfl ?_
  refine w_istore (j := 62) rfl (l1_6 rfl) rfl ?_
  exact RL_X2_readNames_62 h0 _ _ _ _ _ _ _ _ _ hv12 h hq
