set_option maxHeartbeats 2000000 in
set_option maxRecDepth 20000 in
theorem R_X10_thing {d : Nat} {a0 : Int32} {s : St} {q : Int32 × St} {Q : Option Value → xM → Prop}  (h : F_X10_thing a0 s = some q) (hq : Q (some (.int q.1)) (SH, q.2.1, q.2.2)) : wp (d + 1) mX10_thing 0 [some (.ref 94), some (.int a0)] [] (SH, s.1, s.2) Q := by
  unfold F_X10_thing at h
  try dsimp only at h
  refine w_iload_n (j := 1) rfl rfl rfl ?_
  refine w_iconst (z := (0 : Int32)) (j := 2) rfl rfl rfl ?_
  refine w_iconst (z := (3 : Int32)) (j := 3) rfl rfl rfl ?_
  obtain ⟨q1, hq1, h⟩ := Option.bind_eq_some_iff.mp h
  refine wc_III_I (j := 4) (T := []) rfl rfl rfl rfl rfl rfl rfl rfl rfl rfl ?_
  refine R_X10_isIn hq1 ⟨_, rfl, ?_⟩
  rcases xite_inv h with ⟨c2, h⟩ | ⟨c2, h⟩
  · refine w_ifne_f (j := 5) rfl c2 rfl ?_
    refine w_iconst (z := (-1 : Int32)) (j := 6) rfl rfl rfl ?_
    obtain rfl := Option.some.inj h
    exact wp_ret rfl rfl rfl hq
  · refine w_ifne_t (j := 7) rfl c2 rfl ?_
    refine w_aload_n (j := 8) rfl rfl rfl ?_
    refine w_getI (j := 9) rfl rfl rfl rfl rfl ?_
    refine w_bipush (z := (24 : Int32)) (j := 10) rfl rfl rfl ?_
    rcases xite_inv h with ⟨c3, h⟩ | ⟨c3, h⟩
    · refine w_icmpne_f (j := 11) rfl c3 rfl ?_
      refine w_bipush (z := (-3 : Int32)) (j := 12) rfl rfl rfl ?_
      obtain rfl := Option.some.inj h
      exact wp_ret rfl rfl rfl hq
    · refine w_icmpne_t (j := 13) rfl c3 rfl ?_
      refine w_aload_n (j := 14) rfl rfl rfl ?_
      refine w_getR (j := 15) rfl rfl rfl rfl rfl rfl ?_
      refine w_aload_n (j := 16) rfl rfl rfl ?_
      refine w_getI (j := 17) rfl rfl rfl rfl rfl ?_
      refine w_iload_n (j := 18) rfl rfl rfl ?_
      rcases xite_inv h with ⟨g4, h⟩ | ⟨g4, h⟩
      · cases h
      · refine w_iastore (j := 19) rfl rfl g4 rfl ?_
        try dsimp only at h
        refine w_aload_n (j := 20) rfl rfl rfl ?_
        refine w_getR (j := 21) rfl rfl rfl rfl rfl rfl ?_
        refine w_aload_n (j := 22) rfl rfl rfl ?_
        refine w_getI (j := 23) rfl rfl rfl rfl rfl ?_
        refine w_iconst (z := (1 : Int32)) (j := 24) rfl rfl rfl ?_
        rcases xite_inv h with ⟨g6, h⟩ | ⟨g6, h⟩
        · cases h
        · refine w_bastoreZ (j := 25) rfl rfl g6 rfl ?_
          try dsimp only at h
          refine w_aload_n (j := 26) rfl rfl rfl ?_
          refine w_getR (j := 27) rfl rfl rfl rfl rfl rfl ?_
          refine w_aload_n (j := 28) rfl rfl rfl ?_
          refine w_getI (j := 29) rfl rfl rfl rfl rfl ?_
          refine w_bipush (z := (-4 : Int32)) (j := 30) rfl rfl rfl ?_
          rcases xite_inv h with ⟨g8, h⟩ | ⟨g8, h⟩
          · cases h
          · refine w_iastore (j := 31) rfl rfl g8 rfl ?_
            try dsimp only at h
            refine w_aload_n (j := 32) rfl rfl rfl ?_
            refine w_dup (j := 33) rfl rfl rfl ?_
            refine w_getI (j := 34) rfl rfl rfl rfl rfl ?_
            refine w_iconst (z := (1 : Int32)) (j := 35) rfl rfl rfl ?_
            refine w_iadd (j := 36) rfl rfl ?_
            refine w_putI (j := 37) rfl rfl rfl rfl rfl ?_
            try dsimp only at h
            refine w_aload_n (j := 38) rfl rfl rfl ?_
            refine w_getI (j := 39) rfl rfl rfl rfl rfl ?_
            refine w_iconst (z := (1 : Int32)) (j := 40) rfl rfl rfl ?_
            refine w_isub (j := 41) rfl rfl ?_
            obtain rfl := Option.some.inj h
            exact wp_ret rfl rfl rfl hq
set_option maxHeartbeats 2000000 in
set_option maxRecDepth 20000 in
theorem R_X10_see {d : Nat} {a0 : Int32} {a1 : Int32} {s : St} {q : Int32 × St} {Q : Option Value → xM → Prop}  (h : F_X10_see a0 a1 s = some q) (hq : Q (some (.int q.1)) (SH, q.2.1, q.2.2)) : wp (d + 2) mX10_see 0 [some (.ref 94), some (.int a0), some (.int a1), none] [] (SH, s.1, s.2) Q := by
  unfold F_X10_see at h
  try dsimp only at h
  refine w_aload_n (j := 1) rfl rfl rfl ?_
  refine w_iload_n (j := 2) rfl rfl rfl ?_
  obtain ⟨q1, hq1, h⟩ := Option.bind_eq_some_iff.mp h
  refine wc_AI_I (j := 3) (T := []) rfl rfl rfl rfl rfl rfl rfl rfl rfl rfl ?_
  refine R_X10_isThing hq1 ⟨_, rfl, ?_⟩
  rcases xite_inv h with ⟨c2, h⟩ | ⟨c2, h⟩
  · refine w_ifeq_t (j := 6) rfl c2 rfl ?_
    refine w_iconst (z := (-1 : Int32)) (j := 7) rfl rfl rfl ?_
    obtain rfl := Option.some.inj h
    exact wp_ret rfl rfl rfl hq
  · refine w_ifeq_f (j := 4) rfl c2 rfl ?_
    refine w_iload_n (j := 5) rfl rfl rfl ?_
    rcases xite_inv h with ⟨c3, h⟩ | ⟨c3, h⟩
    · refine w_ifne_f (j := 6) rfl c3 rfl ?_
      refine w_iconst (z := (-1 : Int32)) (j := 7) rfl rfl rfl ?_
      obtain rfl := Option.some.inj h
      exact wp_ret rfl rfl rfl hq
    · refine w_ifne_t (j := 8) rfl c3 rfl ?_
      refine w_aload_n (j := 9) rfl rfl rfl ?_
      refine w_getR (j := 10) rfl rfl rfl rfl rfl rfl ?_
      refine w_iload_n (j := 11) rfl rfl rfl ?_
      rcases xite_inv h with ⟨g4, h⟩ | ⟨g4, h⟩
      · cases h
      · refine w_baload (j := 12) rfl rfl rfl g4 rfl ?_
        rcases xite_inv h with ⟨c5, h⟩ | ⟨c5, h⟩
        · refine w_ifeq_t (j := 15) rfl c5 rfl ?_
          refine w_iconst (z := (0 : Int32)) (j := 16) rfl rfl rfl ?_
          refine w_istore_n (j := 17) rfl (l1_3 rfl) rfl ?_
          refine w_aload_n (j := 18) rfl rfl rfl ?_
          refine w_getR (j := 19) rfl rfl rfl rfl rfl rfl ?_
          refine w_iload_n (j := 20) rfl rfl rfl ?_
          refine w_iload_n (j := 21) rfl rfl rfl ?_
          refine w_bastoreZ (j := 22) rfl rfl g4 rfl ?_
          try dsimp only at h
          refine w_iload_n (j := 23) rfl rfl rfl ?_
          obtain rfl := Option.some.inj h
          exact wp_ret rfl rfl rfl hq
        · refine w_ifeq_f (j := 13) rfl c5 rfl ?_
          refine w_iconst (z := (1 : Int32)) (j := 14) rfl rfl rfl ?_
          refine w_goto (j := 16) rfl rfl ?_
          refine w_istore_n (j := 17) rfl (l1_3 rfl) rfl ?_
          refine w_aload_n (j := 18) rfl rfl rfl ?_
          refine w_getR (j := 19) rfl rfl rfl rfl rfl rfl ?_
          refine w_iload_n (j := 20) rfl rfl rfl ?_
          refine w_iload_n (j := 21) rfl rfl rfl ?_
          refine w_bastoreZ (j := 22) rfl rfl g4 rfl ?_
          try dsimp only at h
          refine w_iload_n (j := 23) rfl rfl rfl ?_
          obtain rfl := Option.some.inj h
          exact wp_ret rfl rfl rfl hq
set_option maxHeartbeats 2000000 in
set_option maxRecDepth 20000 in
theorem R_X10_own {d : Nat} {a0 : Int32} {a1 : Int32} {s : St} {q : Int32 × St} {Q : Option Value → xM → Prop}  (h : F_X10_own a0 a1 s = some q) (hq : Q (some (.int q.1)) (SH, q.2.1, q.2.2)) : wp (d + 2) mX10_own 0 [some (.ref 94), some (.int a0), some (.int a1)] [] (SH, s.1, s.2) Q := by
  unfold F_X10_own at h
  try dsimp only at h
  refine w_aload_n (j := 1) rfl rfl rfl ?_
  refine w_iload_n (j := 2) rfl rfl rfl ?_
  obtain ⟨q1, hq1, h⟩ := Option.bind_eq_some_iff.mp h
  refine wc_AI_I (j := 3) (T := []) rfl rfl rfl rfl rfl rfl rfl rfl rfl rfl ?_
  refine R_X10_isThing hq1 ⟨_, rfl, ?_⟩
  rcases xite_inv h with ⟨c2, h⟩ | ⟨c2, h⟩
  · refine w_ifeq_t (j := 14) rfl c2 rfl ?_
    refine w_iconst (z := (-1 : Int32)) (j := 15) rfl rfl rfl ?_
    obtain rfl := Option.some.inj h
    exact wp_ret rfl rfl rfl hq
  · refine w_ifeq_f (j := 4) rfl c2 rfl ?_
    refine w_iload_n (j := 5) rfl rfl rfl ?_
    refine w_bipush (z := (-4 : Int32)) (j := 6) rfl rfl rfl ?_
    rcases xite_inv h with ⟨c3, h⟩ | ⟨c3, h⟩
    · refine w_icmpeq_t (j := 11) rfl c3 rfl ?_
      refine w_iload_n (j := 12) rfl rfl rfl ?_
      refine w_iload_n (j := 13) rfl rfl rfl ?_
      rcases xite_inv h with ⟨c4, h⟩ | ⟨c4, h⟩
      · refine w_icmpne_f (j := 14) rfl c4 rfl ?_
        refine w_iconst (z := (-1 : Int32)) (j := 15) rfl rfl rfl ?_
        obtain rfl := Option.some.inj h
        exact wp_ret rfl rfl rfl hq
      · refine w_icmpne_t (j := 16) rfl c4 rfl ?_
        refine w_aload_n (j := 17) rfl rfl rfl ?_
        refine w_getR (j := 18) rfl rfl rfl rfl rfl rfl ?_
        refine w_iload_n (j := 19) rfl rfl rfl ?_
        refine w_iload_n (j := 20) rfl rfl rfl ?_
        rcases xite_inv h with ⟨g5, h⟩ | ⟨g5, h⟩
        · cases h
        · refine w_iastore (j := 21) rfl rfl g5 rfl ?_
          try dsimp only at h
          refine w_iconst (z := (0 : Int32)) (j := 22) rfl rfl rfl ?_
          obtain rfl := Option.some.inj h
          exact wp_ret rfl rfl rfl hq
    · refine w_icmpeq_f (j := 7) rfl c3 rfl ?_
      refine w_aload_n (j := 8) rfl rfl rfl ?_
      refine w_iload_n (j := 9) rfl rfl rfl ?_
      obtain ⟨q7, hq7, h⟩ := Option.bind_eq_some_iff.mp h
      refine wc_AI_I (j := 10) (T := []) rfl rfl rfl rfl rfl rfl rfl rfl rfl rfl ?_
      refine R_X10_isThing hq7 ⟨_, rfl, ?_⟩
      rcases xite_inv h with ⟨c8, h⟩ | ⟨c8, h⟩
      · refine w_ifeq_t (j := 14) rfl c8 rfl ?_
        refine w_iconst (z := (-1 : Int32)) (j := 15) rfl rfl rfl ?_
        obtain rfl := Option.some.inj h
        exact wp_ret rfl rfl rfl hq
      · refine w_ifeq_f (j := 11) rfl c8 rfl ?_
        refine w_iload_n (j := 12) rfl rfl rfl ?_
        refine w_iload_n (j := 13) rfl rfl rfl ?_
        rcases xite_inv h with ⟨c9, h⟩ | ⟨c9, h⟩
        · refine w_icmpne_f (j := 14) rfl c9 rfl ?_
          refine w_iconst (z := (-1 : Int32)) (j := 15) rfl rfl rfl ?_
          obtain rfl := Option.some.inj h
          exact wp_ret rfl rfl rfl hq
        · refine w_icmpne_t (j := 16) rfl c9 rfl ?_
          refine w_aload_n (j := 17) rfl rfl rfl ?_
          refine w_getR (j := 18) rfl rfl rfl rfl rfl rfl ?_
          refine w_iload_n (j := 19) rfl rfl rfl ?_
          refine w_iload_n (j := 20) rfl rfl rfl ?_
          rcases xite_inv h with ⟨g10, h⟩ | ⟨g10, h⟩
          · cases h
          · refine w_iastore (j := 21) rfl rfl g10 rfl ?_
            try dsimp only at h
            refine w_iconst (z := (0 : Int32)) (j := 22) rfl rfl rfl ?_
            obtain rfl := Option.some.inj h
            exact wp_ret rfl rfl rfl hq
set_option maxHeartbeats 2000000 in
set_option maxRecDepth 20000 in
theorem R_X10_turn {d : Nat} {a0 : Int32} {a1 : Int32} {s : St} {q : Int32 × St} {Q : Option Value → xM → Prop}  (h : F_X10_turn a0 a1 s = some q) (hq : Q (some (.int q.1)) (SH, q.2.1, q.2.2)) : wp (d + 2) mX10_turn 0 [some (.ref 94), some (.int a0), some (.int a1), none] [] (SH, s.1, s.2) Q := by
  unfold F_X10_turn at h
  try dsimp only at h
  refine w_aload_n (j := 1) rfl rfl rfl ?_
  refine w_iload_n (j := 2) rfl rfl rfl ?_
  obtain ⟨q1, hq1, h⟩ := Option.bind_eq_some_iff.mp h
  refine wc_AI_I (j := 3) (T := []) rfl rfl rfl rfl rfl rfl rfl rfl rfl rfl ?_
  refine R_X10_isThing hq1 ⟨_, rfl, ?_⟩
  rcases xite_inv h with ⟨c2, h⟩ | ⟨c2, h⟩
  · refine w_ifeq_t (j := 11) rfl c2 rfl ?_
    refine w_iconst (z := (-1 : Int32)) (j := 12) rfl rfl rfl ?_
    obtain rfl := Option.some.inj h
    exact wp_ret rfl rfl rfl hq
  · refine w_ifeq_f (j := 4) rfl c2 rfl ?_
    refine w_iload_n (j := 5) rfl rfl rfl ?_
    rcases xite_inv h with ⟨c3, h⟩ | ⟨c3, h⟩
    · refine w_ifeq_t (j := 11) rfl c3 rfl ?_
      refine w_iconst (z := (-1 : Int32)) (j := 12) rfl rfl rfl ?_
      obtain rfl := Option.some.inj h
      exact wp_ret rfl rfl rfl hq
    · refine w_ifeq_f (j := 6) rfl c3 rfl ?_
      refine w_iload_n (j := 7) rfl rfl rfl ?_
      refine w_iconst (z := (0 : Int32)) (j := 8) rfl rfl rfl ?_
      refine w_iconst (z := (3 : Int32)) (j := 9) rfl rfl rfl ?_
      obtain ⟨q4, hq4, h⟩ := Option.bind_eq_some_iff.mp h
      refine wc_III_I (j := 10) (T := []) rfl rfl rfl rfl rfl rfl rfl rfl rfl rfl ?_
      refine R_X10_isIn hq4 ⟨_, rfl, ?_⟩
      rcases xite_inv h with ⟨c5, h⟩ | ⟨c5, h⟩
      · refine w_ifne_f (j := 11) rfl c5 rfl ?_
        refine w_iconst (z := (-1 : Int32)) (j := 12) rfl rfl rfl ?_
        obtain rfl := Option.some.inj h
        exact wp_ret rfl rfl rfl hq
      · refine w_ifne_t (j := 13) rfl c5 rfl ?_
        refine w_aload_n (j := 14) rfl rfl rfl ?_
        refine w_getR (j := 15) rfl rfl rfl rfl rfl rfl ?_
        refine w_iload_n (j := 16) rfl rfl rfl ?_
        rcases xite_inv h with ⟨g6, h⟩ | ⟨g6, h⟩
        · cases h
        · refine w_iaload (j := 17) rfl rfl g6 rfl ?_
          refine w_istore_n (j := 18) rfl (l1_3 rfl) rfl ?_
          refine w_aload_n (j := 19) rfl rfl rfl ?_
          refine w_getR (j := 20) rfl rfl rfl rfl rfl rfl ?_
          refine w_iload_n (j := 21) rfl rfl rfl ?_
          refine w_iload_n (j := 22) rfl rfl rfl ?_
          refine w_iastore (j := 23) rfl rfl g6 rfl ?_
          try dsimp only at h
          refine w_iload_n (j := 24) rfl rfl rfl ?_
          obtain rfl := Option.some.inj h
          exact wp_ret rfl rfl rfl hq
set_option maxHeartbeats 2000000 in
set_option maxRecDepth 20000 in
theorem RL_X10_feed_17 {d : Nat}  {Q : Option Value → xM → Prop}  : ∀ (n : Nat) (l1 : Int32) (l2 : Int64) (l4 : Int32)  (s : St) (q : St)   (h : L_X10_feed_17  n l1 l2 l4 s = some q) (hq : ∀ (v1 v2 v3 v4 : Option Value), xlong v3 = false → wp (d + 1) mX10_feed 40 [some (.ref 94), v1, v2, v3, v4] [] (SH, q.1, q.2) Q), wp (d + 1) mX10_feed 17 [some (.ref 94), some (.int l1), some (.long l2), none, some (.int l4)] [] (SH, s.1, s.2) Q := by
  intro n
  induction n with
  | zero => intro l1 l2 l4 s q h; cases h
  | succ n ih =>
    intro l1 l2 l4 s q h hq
    unfold L_X10_feed_17 at h
    try dsimp only at h
    refine w_iload (j := 18) rfl rfl rfl ?_
    refine w_iload_n (j := 19) rfl rfl rfl ?_
    rcases xite_inv h with ⟨c4, h⟩ | ⟨c4, h⟩
    · refine w_icmpge_t (j := 40) rfl c4 rfl ?_
      obtain rfl := Option.some.inj h
      exact hq _ _ _ _ rfl
    · refine w_icmpge_f (j := 20) rfl c4 rfl ?_
      refine w_aload_n (j := 21) rfl rfl rfl ?_
      refine w_getR (j := 22) rfl rfl rfl rfl rfl rfl ?_
      refine w_aload_n (j := 23) rfl rfl rfl ?_
      refine w_getI (j := 24) rfl rfl rfl rfl rfl ?_
      refine w_lload_n (j := 25) rfl rfl rfl ?_
      refine w_bipush (z := (8 : Int32)) (j := 26) rfl rfl rfl ?_
      refine w_iload (j := 27) rfl rfl rfl ?_
      refine w_imul (j := 28) rfl rfl ?_
      refine w_lshr (j := 29) rfl rfl ?_
      refine w_l2i (j := 30) rfl rfl ?_
      refine w_i2b (j := 31) rfl rfl ?_
      rcases xite_inv h with ⟨g5, h⟩ | ⟨g5, h⟩
      · cases h
      · refine w_bastoreB (j := 32) rfl rfl g5 rfl ?_
        try dsimp only at h
        refine w_aload_n (j := 33) rfl rfl rfl ?_
        refine w_dup (j := 34) rfl rfl rfl ?_
        refine w_getI (j := 35) rfl rfl rfl rfl rfl ?_
        refine w_iconst (z := (1 : Int32)) (j := 36) rfl rfl rfl ?_
        refine w_iadd (j := 37) rfl rfl ?_
        refine w_putI (j := 38) rfl rfl rfl rfl rfl ?_
        try dsimp only at h
        refine w_iinc (cc := (1 : Int32)) (j := 39) rfl rfl rfl (l1_4 rfl) rfl ?_
        refine w_goto (j := 17) rfl rfl ?_
        exact ih _ _ _ _ _ h hq
set_option maxHeartbeats 2000000 in
set_option maxRecDepth 20000 in
theorem R_X10_feed {d : Nat} {a0 : Int32} {a1 : Int64} {s : St} {q : Int32 × St} {Q : Option Value → xM → Prop}  (h : F_X10_feed a0 a1 s = some q) (hq : Q (some (.int q.1)) (SH, q.2.1, q.2.2)) : wp (d + 1) mX10_feed 0 [some (.ref 94), some (.int a0), some (.long a1), none, none] [] (SH, s.1, s.2) Q := by
  unfold F_X10_feed at h
  try dsimp only at h
  refine w_iload_n (j := 1) rfl rfl rfl ?_
  refine w_iconst (z := (1 : Int32)) (j := 2) rfl rfl rfl ?_
  refine w_bipush (z := (8 : Int32)) (j := 3) rfl rfl rfl ?_
  obtain ⟨q1, hq1, h⟩ := Option.bind_eq_some_iff.mp h
  refine wc_III_I (j := 4) (T := []) rfl rfl rfl rfl rfl rfl rfl rfl rfl rfl ?_
  refine R_X10_isIn hq1 ⟨_, rfl, ?_⟩
  rcases xite_inv h with ⟨c2, h⟩ | ⟨c2, h⟩
  · refine w_ifne_f (j := 5) rfl c2 rfl ?_
    refine w_iconst (z := (-1 : Int32)) (j := 6) rfl rfl rfl ?_
    obtain rfl := Option.some.inj h
    exact wp_ret rfl rfl rfl hq
  · refine w_ifne_t (j := 7) rfl c2 rfl ?_
    refine w_aload_n (j := 8) rfl rfl rfl ?_
    refine w_getI (j := 9) rfl rfl rfl rfl rfl ?_
    refine w_iload_n (j := 10) rfl rfl rfl ?_
    refine w_iadd (j := 11) rfl rfl ?_
    refine w_sipush (z := (200 : Int32)) (j := 12) rfl rfl rfl ?_
    rcases xite_inv h with ⟨c3, h⟩ | ⟨c3, h⟩
    · refine w_icmple_t (j := 15) rfl c3 rfl ?_
      refine w_iconst (z := (0 : Int32)) (j := 16) rfl rfl rfl ?_
      refine w_istore (j := 17) rfl (l1_4 rfl) rfl ?_
      obtain ⟨q8, hq8, h⟩ := Option.bind_eq_some_iff.mp h
      refine RL_X10_feed_17  _ _ _ _ _ _ hq8 (fun v9 v10 v11 v12 hv11 => ?_)
      refine w_aload_n (j := 41) rfl rfl rfl ?_
      refine w_getI (j := 42) rfl rfl rfl rfl rfl ?_
      obtain rfl := Option.some.inj h
      exact wp_ret rfl rfl rfl hq
    · refine w_icmple_f (j := 13) rfl c3 rfl ?_
      refine w_bipush (z := (-3 : Int32)) (j := 14) rfl rfl rfl ?_
      obtain rfl := Option.some.inj h
      exact wp_ret rfl rfl rfl hq
set_option maxHeartbeats 2000000 in
set_option maxRecDepth 20000 in
theorem RL_X10_fixedOf_2 {d : Nat}  {Q : Option Value → xM → Prop}  : ∀ (n : Nat) (l1 : Int64) (l3 : Int32)  (s : St) (q : Int32 × St)   (h : L_X10_fixedOf_2  n l1 l3 s = some q) (hq : Q (some (.int q.1)) (SH, q.2.1, q.2.2)), wp (d + 0) mX10_fixedOf 2 [some (.ref 94), some (.long l1), none, some (.int l3)] [] (SH, s.1, s.2) Q := by
  intro n
  induction n with
  | zero => intro l1 l3 s q h; cases h
  | succ n ih =>
    intro l1 l3 s q h hq
    unfold L_X10_fixedOf_2 at h
    try dsimp only at h
    refine w_iload_n (j := 3) rfl rfl rfl ?_
    refine w_bipush (z := (21 : Int32)) (j := 4) rfl rfl rfl ?_
    rcases xite_inv h with ⟨c1, h⟩ | ⟨c1, h⟩
    · refine w_icmpge_t (j := 16) rfl c1 rfl ?_
      refine w_bipush (z := (-4 : Int32)) (j := 17) rfl rfl rfl ?_
      obtain rfl := Option.some.inj h
      exact wp_ret rfl rfl rfl hq
    · refine w_icmpge_f (j := 5) rfl c1 rfl ?_
      refine w_aload_n (j := 6) rfl rfl rfl ?_
      refine w_getR (j := 7) rfl rfl rfl rfl rfl rfl ?_
      refine w_iload_n (j := 8) rfl rfl rfl ?_
      rcases xite_inv h with ⟨g2, h⟩ | ⟨g2, h⟩
      · cases h
      · refine w_laload (j := 9) rfl rfl g2 rfl ?_
        refine w_lload_n (j := 10) rfl rfl rfl ?_
        refine w_lcmp (j := 11) rfl rfl ?_
        rcases xite_inv h with ⟨c3, h⟩ | ⟨c3, h⟩
        · refine w_ifne_f (j := 12) rfl c3 rfl ?_
          refine w_iload_n (j := 13) rfl rfl rfl ?_
          obtain rfl := Option.some.inj h
          exact wp_ret rfl rfl rfl hq
        · refine w_ifne_t (j := 14) rfl c3 rfl ?_
          refine w_iinc (cc := (1 : Int32)) (j := 15) rfl rfl rfl (l1_3 rfl) rfl ?_
          refine w_goto (j := 2) rfl rfl ?_
          exact ih _ _ _ _ h hq
set_option maxHeartbeats 2000000 in
set_option maxRecDepth 20000 in
theorem R_X10_fixedOf {d : Nat} {a0 : Int64} {s : St} {q : Int32 × St} {Q : Option Value → xM → Prop}  (h : F_X10_fixedOf a0 s = some q) (hq : Q (some (.int q.1)) (SH, q.2.1, q.2.2)) : wp (d + 0) mX10_fixedOf 0 [some (.ref 94), some (.long a0), none, none] [] (SH, s.1, s.2) Q := by
  unfold F_X10_fixedOf at h
  try dsimp only at h
  refine w_iconst (z := (0 : Int32)) (j := 1) rfl rfl rfl ?_
  refine w_istore_n (j := 2) rfl (l1_3 rfl) rfl ?_
  exact RL_X10_fixedOf_2  _ _ _ _ _ h hq
set_option maxHeartbeats 2000000 in
set_option maxRecDepth 20000 in
theorem RL_X10_wordOf_2 {d : Nat}  {Q : Option Value → xM → Prop}  : ∀ (n : Nat) (l1 : Int64) (l3 : Int32)  (s : St) (q : Int32 × St)   (h : L_X10_wordOf_2  n l1 l3 s = some q) (hq : Q (some (.int q.1)) (SH, q.2.1, q.2.2)), wp (d + 0) mX10_wordOf 2 [some (.ref 94), some (.long l1), none, some (.int l3)] [] (SH, s.1, s.2) Q := by
  intro n
  induction n with
  | zero => intro l1 l3 s q h; cases h
  | succ n ih =>
    intro l1 l3 s q h hq
    unfold L_X10_wordOf_2 at h
    try dsimp only at h
    refine w_iload_n (j := 3) rfl rfl rfl ?_
    refine w_aload_n (j := 4) rfl rfl rfl ?_
    refine w_getI (j := 5) rfl rfl rfl rfl rfl ?_
    rcases xite_inv h with ⟨c1, h⟩ | ⟨c1, h⟩
    · refine w_icmpge_t (j := 17) rfl c1 rfl ?_
      refine w_bipush (z := (-4 : Int32)) (j := 18) rfl rfl rfl ?_
      obtain rfl := Option.some.inj h
      exact wp_ret rfl rfl rfl hq
    · refine w_icmpge_f (j := 6) rfl c1 rfl ?_
      refine w_aload_n (j := 7) rfl rfl rfl ?_
      refine w_getR (j := 8) rfl rfl rfl rfl rfl rfl ?_
      refine w_iload_n (j := 9) rfl rfl rfl ?_
      rcases xite_inv h with ⟨g2, h⟩ | ⟨g2, h⟩
      · cases h
      · refine w_laload (j := 10) rfl rfl g2 rfl ?_
        refine w_lload_n (j := 11) rfl rfl rfl ?_
        refine w_lcmp (j := 12) rfl rfl ?_
        rcases xite_inv h with ⟨c3, h⟩ | ⟨c3, h⟩
        · refine w_ifne_f (j := 13) rfl c3 rfl ?_
          refine w_iload_n (j := 14) rfl rfl rfl ?_
          obtain rfl := Option.some.inj h
          exact wp_ret rfl rfl rfl hq
        · refine w_ifne_t (j := 15) rfl c3 rfl ?_
          refine w_iinc (cc := (1 : Int32)) (j := 16) rfl rfl rfl (l1_3 rfl) rfl ?_
          refine w_goto (j := 2) rfl rfl ?_
          exact ih _ _ _ _ h hq
set_option maxHeartbeats 2000000 in
set_option maxRecDepth 20000 in
theorem R_X10_wordOf {d : Nat} {a0 : Int64} {s : St} {q : Int32 × St} {Q : Option Value → xM → Prop}  (h : F_X10_wordOf a0 s = some q) (hq : Q (some (.int q.1)) (SH, q.2.1, q.2.2)) : wp (d + 0) mX10_wordOf 0 [some (.ref 94), some (.long a0), none, none] [] (SH, s.1, s.2) Q := by
  unfold F_X10_wordOf at h
  try dsimp only at h
  refine w_iconst (z := (0 : Int32)) (j := 1) rfl rfl rfl ?_
  refine w_istore_n (j := 2) rfl (l1_3 rfl) rfl ?_
  exact RL_X10_wordOf_2  _ _ _ _ _ h hq
set_option maxHeartbeats 2000000 in
set_option maxRecDepth 20000 in
theorem RL_X10_word_24 {d : Nat}  {Q : Option Value → xM → Prop}  : ∀ (n : Nat) (l1 : Int32) (l2 : Int32) (l3 : Int64) (l5 : Int32) (l6 : Int32)  (s : St) (q : Int64 × Int32 × St)   (h : L_X10_word_24  n l1 l2 l3 l5 l6 s = some q) (hq : ∀ (v2 v6 : Option Value), xlong v2 = false → wp (d + 1) mX10_word 49 [some (.ref 94), some (.int l1), v2, some (.long q.1), none, some (.int q.2.1), v6] [] (SH, q.2.2.1, q.2.2.2) Q), wp (d + 1) mX10_word 24 [some (.ref 94), some (.int l1), some (.int l2), some (.long l3), none, some (.int l5), some (.int l6)] [] (SH, s.1, s.2) Q := by
  intro n
  induction n with
  | zero => intro l1 l2 l3 l5 l6 s q h; cases h
  | succ n ih =>
    intro l1 l2 l3 l5 l6 s q h hq
    unfold L_X10_word_24 at h
    try dsimp only at h
    refine w_iload (j := 25) rfl rfl rfl ?_
    refine w_iload_n (j := 26) rfl rfl rfl ?_
    rcases xite_inv h with ⟨c4, h⟩ | ⟨c4, h⟩
    · refine w_icmpge_t (j := 49) rfl c4 rfl ?_
      obtain rfl := Option.some.inj h
      exact hq _ _ rfl
    · refine w_icmpge_f (j := 27) rfl c4 rfl ?_
      refine w_iload (j := 28) rfl rfl rfl ?_
      rcases xite_inv h with ⟨c5, h⟩ | ⟨c5, h⟩
      · refine w_ifeq_t (j := 49) rfl c5 rfl ?_
        obtain rfl := Option.some.inj h
        exact hq _ _ rfl
      · refine w_ifeq_f (j := 29) rfl c5 rfl ?_
        refine w_aload_n (j := 30) rfl rfl rfl ?_
        refine w_getR (j := 31) rfl rfl rfl rfl rfl rfl ?_
        refine w_iload (j := 32) rfl rfl rfl ?_
        rcases xite_inv h with ⟨g6, h⟩ | ⟨g6, h⟩
        · cases h
        · refine w_baload (j := 33) rfl rfl rfl g6 rfl ?_
          refine w_bipush (z := (97 : Int32)) (j := 34) rfl rfl rfl ?_
          refine w_bipush (z := (122 : Int32)) (j := 35) rfl rfl rfl ?_
          obtain ⟨q7, hq7, h⟩ := Option.bind_eq_some_iff.mp h
          refine wc_III_I (j := 36) (T := []) rfl rfl rfl rfl rfl rfl rfl rfl rfl rfl ?_
          refine R_X10_isIn hq7 ⟨_, rfl, ?_⟩
          refine w_istore (j := 37) rfl (l1_5 rfl) rfl ?_
          refine w_lload_n (j := 38) rfl rfl rfl ?_
          refine w_bipush (z := (8 : Int32)) (j := 39) rfl rfl rfl ?_
          refine w_lshl (j := 40) rfl rfl ?_
          refine w_aload_n (j := 41) rfl rfl rfl ?_
          refine w_getR (j := 42) rfl rfl rfl rfl rfl rfl ?_
          refine w_iload (j := 43) rfl rfl rfl ?_
          refine w_baload (j := 44) rfl rfl rfl g6 rfl ?_
          refine w_i2l (j := 45) rfl rfl ?_
          refine w_lor (j := 46) rfl rfl ?_
          refine w_lstore_n (j := 47) rfl (l2_3 rfl) rfl ?_
          refine w_iinc (cc := (1 : Int32)) (j := 48) rfl rfl rfl (l1_6 rfl) rfl ?_
          refine w_goto (j := 24) rfl rfl ?_
          exact ih _ _ _ _ _ _ _ h hq
set_option maxHeartbeats 2000000 in
set_option maxRecDepth 20000 in
theorem RJ_X10_word_49 {d : Nat}  {Q : Option Value → xM → Prop}  {l1 : Int32} {l3 : Int64} {l5 : Int32} {u2 u6 : Option Value}  {s : St} {q : Int32 × St}  (hu2 : xlong u2 = false) (h : J_X10_word_49  l1 l3 l5  s = some q) (hq : Q (some (.int q.1)) (SH, q.2.1, q.2.2)) : wp (d + 1) mX10_word 49 [some (.ref 94), some (.int l1), u2, some (.long l3), none, some (.int l5), u6] [] (SH, s.1, s.2) Q := by
  unfold J_X10_word_49 at h
  try dsimp only at h
  refine w_iload (j := 50) rfl rfl rfl ?_
  rcases xite_inv h with ⟨c11, h⟩ | ⟨c11, h⟩
  · refine w_ifeq_t (j := 56) rfl c11 rfl ?_
    refine w_iconst (z := (-1 : Int32)) (j := 57) rfl rfl rfl ?_
    obtain rfl := Option.some.inj h
    exact wp_ret rfl rfl rfl hq
  · refine w_ifeq_f (j := 51) rfl c11 rfl ?_
    refine w_aload_n (j := 52) rfl rfl rfl ?_
    refine w_lload_n (j := 53) rfl rfl rfl ?_
    obtain ⟨q12, hq12, h⟩ := Option.bind_eq_some_iff.mp h
    refine wc_AJ_I (j := 54) (T := [none]) rfl rfl rfl rfl rfl rfl rfl rfl rfl rfl ?_
    refine R_X10_fixedOf hq12 ⟨_, rfl, ?_⟩
    refine w_bipush (z := (-4 : Int32)) (j := 55) rfl rfl rfl ?_
    rcases xite_inv h with ⟨c13, h⟩ | ⟨c13, h⟩
    · refine w_icmpeq_t (j := 58) rfl c13 rfl ?_
      refine w_aload_n (j := 59) rfl rfl rfl ?_
      refine w_lload_n (j := 60) rfl rfl rfl ?_
      obtain ⟨q14, hq14, h⟩ := Option.bind_eq_some_iff.mp h
      refine wc_AJ_I (j := 61) (T := [none]) rfl rfl rfl rfl rfl rfl rfl rfl rfl rfl ?_
      refine R_X10_wordOf hq14 ⟨_, rfl, ?_⟩
      refine w_bipush (z := (-4 : Int32)) (j := 62) rfl rfl rfl ?_
      rcases xite_inv h with ⟨c15, h⟩ | ⟨c15, h⟩
      · refine w_icmpeq_t (j := 65) rfl c15 rfl ?_
        refine w_aload_n (j := 66) rfl rfl rfl ?_
        refine w_getI (j := 67) rfl rfl rfl rfl rfl ?_
        refine w_bipush (z := (60 : Int32)) (j := 68) rfl rfl rfl ?_
        rcases xite_inv h with ⟨c16, h⟩ | ⟨c16, h⟩
        · refine w_icmpne_f (j := 69) rfl c16 rfl ?_
          refine w_bipush (z := (-3 : Int32)) (j := 70) rfl rfl rfl ?_
          obtain rfl := Option.some.inj h
          exact wp_ret rfl rfl rfl hq
        · refine w_icmpne_t (j := 71) rfl c16 rfl ?_
          refine w_aload_n (j := 72) rfl rfl rfl ?_
          refine w_getR (j := 73) rfl rfl rfl rfl rfl rfl ?_
          refine w_aload_n (j := 74) rfl rfl rfl ?_
          refine w_getI (j := 75) rfl rfl rfl rfl rfl ?_
          refine w_lload_n (j := 76) rfl rfl rfl ?_
          rcases xite_inv h with ⟨g17, h⟩ | ⟨g17, h⟩
          · cases h
          · refine w_lastore (j := 77) rfl rfl g17 rfl ?_
            try dsimp only at h
            refine w_aload_n (j := 78) rfl rfl rfl ?_
            refine w_getR (j := 79) rfl rfl rfl rfl rfl rfl ?_
            refine w_aload_n (j := 80) rfl rfl rfl ?_
            refine w_getI (j := 81) rfl rfl rfl rfl rfl ?_
            refine w_iload_n (j := 82) rfl rfl rfl ?_
            refine w_iastore (j := 83) rfl rfl g17 rfl ?_
            try dsimp only at h
            refine w_aload_n (j := 84) rfl rfl rfl ?_
            refine w_getR (j := 85) rfl rfl rfl rfl rfl rfl ?_
            refine w_aload_n (j := 86) rfl rfl rfl ?_
            refine w_getI (j := 87) rfl rfl rfl rfl rfl ?_
            refine w_bipush (z := (-4 : Int32)) (j := 88) rfl rfl rfl ?_
            rcases xite_inv h with ⟨g20, h⟩ | ⟨g20, h⟩
            · cases h
            · refine w_iastore (j := 89) rfl rfl g20 rfl ?_
              try dsimp only at h
              refine w_aload_n (j := 90) rfl rfl rfl ?_
              refine w_dup (j := 91) rfl rfl rfl ?_
              refine w_getI (j := 92) rfl rfl rfl rfl rfl ?_
              refine w_iconst (z := (1 : Int32)) (j := 93) rfl rfl rfl ?_
              refine w_iadd (j := 94) rfl rfl ?_
              refine w_putI (j := 95) rfl rfl rfl rfl rfl ?_
              try dsimp only at h
              refine w_aload_n (j := 96) rfl rfl rfl ?_
              refine w_getI (j := 97) rfl rfl rfl rfl rfl ?_
              refine w_iconst (z := (1 : Int32)) (j := 98) rfl rfl rfl ?_
              refine w_isub (j := 99) rfl rfl ?_
              obtain rfl := Option.some.inj h
              exact wp_ret rfl rfl rfl hq
      · refine w_icmpeq_f (j := 63) rfl c15 rfl ?_
        refine w_bipush (z := (-2 : Int32)) (j := 64) rfl rfl rfl ?_
        obtain rfl := Option.some.inj h
        exact wp_ret rfl rfl rfl hq
    · refine w_icmpeq_f (j := 56) rfl c13 rfl ?_
      refine w_iconst (z := (-1 : Int32)) (j := 57) rfl rfl rfl ?_
      obtain rfl := Option.some.inj h
      exact wp_ret rfl rfl rfl hq
set_option maxHeartbeats 2000000 in
set_option maxRecDepth 20000 in
theorem R_X10_word {d : Nat} {a0 : Int32} {s : St} {q : Int32 × St} {Q : Option Value → xM → Prop}  (h : F_X10_word a0 s = some q) (hq : Q (some (.int q.1)) (SH, q.2.1, q.2.2)) : wp (d + 1) mX10_word 0 [some (.ref 94), some (.int a0), none, none, none, none, none] [] (SH, s.1, s.2) Q := by
  unfold F_X10_word at h
  try dsimp only at h
  refine w_aload_n (j := 1) rfl rfl rfl ?_
  refine w_getI (j := 2) rfl rfl rfl rfl rfl ?_
  refine w_istore_n (j := 3) rfl (l1_2 rfl) rfl ?_
  refine w_aload_n (j := 4) rfl rfl rfl ?_
  refine w_iconst (z := (0 : Int32)) (j := 5) rfl rfl rfl ?_
  refine w_putI (j := 6) rfl rfl rfl rfl rfl ?_
  try dsimp only at h
  refine w_lconst (z := (0 : Int64)) (j := 7) rfl rfl rfl ?_
  refine w_lstore_n (j := 8) rfl (l2_3 rfl) rfl ?_
  refine w_iload_n (j := 9) rfl rfl rfl ?_
  refine w_iconst (z := (0 : Int32)) (j := 10) rfl rfl rfl ?_
  refine w_iconst (z := (3 : Int32)) (j := 11) rfl rfl rfl ?_
  obtain ⟨q2, hq2, h⟩ := Option.bind_eq_some_iff.mp h
  refine wc_III_I (j := 12) (T := []) rfl rfl rfl rfl rfl rfl rfl rfl rfl rfl ?_
  refine R_X10_isIn hq2 ⟨_, rfl, ?_⟩
  rcases xite_inv h with ⟨c3, h⟩ | ⟨c3, h⟩
  · refine w_ifeq_t (j := 20) rfl c3 rfl ?_
    refine w_iconst (z := (0 : Int32)) (j := 21) rfl rfl rfl ?_
    refine w_istore (j := 22) rfl (l1_5 rfl) rfl ?_
    refine w_iconst (z := (0 : Int32)) (j := 23) rfl rfl rfl ?_
    refine w_istore (j := 24) rfl (l1_6 rfl) rfl ?_
    obtain ⟨q8, hq8, h⟩ := Option.bind_eq_some_iff.mp h
    refine RL_X10_word_24  _ _ _ _ _ _ _ _ hq8 (fun v9 v10 hv9 => ?_)
    exact RJ_X10_word_49  hv9 h hq
  · refine w_ifeq_f (j := 13) rfl c3 rfl ?_
    refine w_iload_n (j := 14) rfl rfl rfl ?_
    refine w_iconst (z := (1 : Int32)) (j := 15) rfl rfl rfl ?_
    refine w_bipush (z := (8 : Int32)) (j := 16) rfl rfl rfl ?_
    obtain ⟨q23, hq23, h⟩ := Option.bind_eq_some_iff.mp h
    refine wc_III_I (j := 17) (T := []) rfl rfl rfl rfl rfl rfl rfl rfl rfl rfl ?_
    refine R_X10_isIn hq23 ⟨_, rfl, ?_⟩
    rcases xite_inv h with ⟨c24, h⟩ | ⟨c24, h⟩
    · refine w_ifeq_t (j := 20) rfl c24 rfl ?_
      refine w_iconst (z := (0 : Int32)) (j := 21) rfl rfl rfl ?_
      refine w_istore (j := 22) rfl (l1_5 rfl) rfl ?_
      refine w_iconst (z := (0 : Int32)) (j := 23) rfl rfl rfl ?_
      refine w_istore (j := 24) rfl (l1_6 rfl) rfl ?_
      obtain ⟨q25, hq25, h⟩ := Option.bind_eq_some_iff.mp h
      refine RL_X10_word_24  _ _ _ _ _ _ _ _ hq25 (fun v26 v27 hv26 => ?_)
      exact RJ_X10_word_49  hv26 h hq
    · refine w_ifeq_f (j := 18) rfl c24 rfl ?_
      refine w_iconst (z := (1 : Int32)) (j := 19) rfl rfl rfl ?_
      refine w_goto (j := 21) rfl rfl ?_
      refine w_istore (j := 22) rfl (l1_5 rfl) rfl ?_
      refine w_iconst (z := (0 : Int32)) (j := 23) rfl rfl rfl ?_
      refine w_istore (j := 24) rfl (l1_6 rfl) rfl ?_
      obtain ⟨q28, hq28, h⟩ := Option.bind_eq_some_iff.mp h
      refine RL_X10_word_24  _ _ _ _ _ _ _ _ hq28 (fun v29 v30 hv29 => ?_)
      exact RJ_X10_word_49  hv29 h hq
set_option maxHeartbeats 2000000 in
set_option maxRecDepth 20000 in
theorem R_X10_name {d : Nat} {a0 : Int32} {a1 : Int32} {a2 : Int32} {s : St} {q : Int32 × St} {Q : Option Value → xM → Prop}  (h : F_X10_name a0 a1 a2 s = some q) (hq : Q (some (.int q.1)) (SH, q.2.1, q.2.2)) : wp (d + 2) mX10_name 0 [some (.ref 94), some (.int a0), some (.int a1), some (.int a2), none] [] (SH, s.1, s.2) Q := by
  unfold F_X10_name at h
  try dsimp only at h
  refine w_aload_n (j := 1) rfl rfl rfl ?_
  refine w_iload_n (j := 2) rfl rfl rfl ?_
  obtain ⟨q1, hq1, h⟩ := Option.bind_eq_some_iff.mp h
  refine wc_AI_I (j := 3) (T := []) rfl rfl rfl rfl rfl rfl rfl rfl rfl rfl ?_
  refine R_X10_isWord hq1 ⟨_, rfl, ?_⟩
  rcases xite_inv h with ⟨c2, h⟩ | ⟨c2, h⟩
  · refine w_ifeq_t (j := 24) rfl c2 rfl ?_
    refine w_iconst (z := (-1 : Int32)) (j := 25) rfl rfl rfl ?_
    obtain rfl := Option.some.inj h
    exact wp_ret rfl rfl rfl hq
  · refine w_ifeq_f (j := 4) rfl c2 rfl ?_
    refine w_aload_n (j := 5) rfl rfl rfl ?_
    refine w_getR (j := 6) rfl rfl rfl rfl rfl rfl ?_
    refine w_iload_n (j := 7) rfl rfl rfl ?_
    rcases xite_inv h with ⟨g3, h⟩ | ⟨g3, h⟩
    · cases h
    · refine w_iaload (j := 8) rfl rfl g3 rfl ?_
      rcases xite_inv h with ⟨c4, h⟩ | ⟨c4, h⟩
      · refine w_ifne_f (j := 9) rfl c4 rfl ?_
        refine w_aload_n (j := 10) rfl rfl rfl ?_
        refine w_getR (j := 11) rfl rfl rfl rfl rfl rfl ?_
        refine w_iload_n (j := 12) rfl rfl rfl ?_
        refine w_iaload (j := 13) rfl rfl g3 rfl ?_
        refine w_bipush (z := (-4 : Int32)) (j := 14) rfl rfl rfl ?_
        rcases xite_inv h with ⟨c5, h⟩ | ⟨c5, h⟩
        · refine w_icmpne_f (j := 15) rfl c5 rfl ?_
          refine w_aload_n (j := 16) rfl rfl rfl ?_
          refine w_iload_n (j := 17) rfl rfl rfl ?_
          obtain ⟨q6, hq6, h⟩ := Option.bind_eq_some_iff.mp h
          refine wc_AI_I (j := 18) (T := []) rfl rfl rfl rfl rfl rfl rfl rfl rfl rfl ?_
          refine R_X10_isThing hq6 ⟨_, rfl, ?_⟩
          rcases xite_inv h with ⟨c7, h⟩ | ⟨c7, h⟩
          · refine w_ifeq_t (j := 24) rfl c7 rfl ?_
            refine w_iconst (z := (-1 : Int32)) (j := 25) rfl rfl rfl ?_
            obtain rfl := Option.some.inj h
            exact wp_ret rfl rfl rfl hq
          · refine w_ifeq_f (j := 19) rfl c7 rfl ?_
            refine w_iload_n (j := 20) rfl rfl rfl ?_
            refine w_iconst (z := (0 : Int32)) (j := 21) rfl rfl rfl ?_
            refine w_iconst (z := (1 : Int32)) (j := 22) rfl rfl rfl ?_
            obtain ⟨q8, hq8, h⟩ := Option.bind_eq_some_iff.mp h
            refine wc_III_I (j := 23) (T := []) rfl rfl rfl rfl rfl rfl rfl rfl rfl rfl ?_
            refine R_X10_isIn hq8 ⟨_, rfl, ?_⟩
            rcases xite_inv h with ⟨c9, h⟩ | ⟨c9, h⟩
            · refine w_ifne_f (j := 24) rfl c9 rfl ?_
              refine w_iconst (z := (-1 : Int32)) (j := 25) rfl rfl rfl ?_
              obtain rfl := Option.some.inj h
              exact wp_ret rfl rfl rfl hq
            · refine w_ifne_t (j := 26) rfl c9 rfl ?_
              refine w_bipush (z := (24 : Int32)) (j := 27) rfl rfl rfl ?_
              refine w_iload_n (j := 28) rfl rfl rfl ?_
              refine w_imul (j := 29) rfl rfl ?_
              refine w_iload_n (j := 30) rfl rfl rfl ?_
              refine w_iadd (j := 31) rfl rfl ?_
              refine w_istore (j := 32) rfl (l1_4 rfl) rfl ?_
              refine w_aload_n (j := 33) rfl rfl rfl ?_
              refine w_getR (j := 34) rfl rfl rfl rfl rfl rfl ?_
              refine w_iload (j := 35) rfl rfl rfl ?_
              rcases xite_inv h with ⟨g10, h⟩ | ⟨g10, h⟩
              · cases h
              · refine w_iaload (j := 36) rfl rfl g10 rfl ?_
                refine w_iload_n (j := 37) rfl rfl rfl ?_
                refine w_ishr (j := 38) rfl rfl ?_
                refine w_iconst (z := (1 : Int32)) (j := 39) rfl rfl rfl ?_
                refine w_iand (j := 40) rfl rfl ?_
                refine w_iconst (z := (1 : Int32)) (j := 41) rfl rfl rfl ?_
                rcases xite_inv h with ⟨c11, h⟩ | ⟨c11, h⟩
                · refine w_icmpne_f (j := 42) rfl c11 rfl ?_
                  refine w_bipush (z := (-2 : Int32)) (j := 43) rfl rfl rfl ?_
                  obtain rfl := Option.some.inj h
                  exact wp_ret rfl rfl rfl hq
                · refine w_icmpne_t (j := 44) rfl c11 rfl ?_
                  refine w_aload_n (j := 45) rfl rfl rfl ?_
                  refine w_getR (j := 46) rfl rfl rfl rfl rfl rfl ?_
                  refine w_iload (j := 47) rfl rfl rfl ?_
                  refine w_dup2 (j := 48) rfl rfl rfl rfl ?_
                  refine w_iaload (j := 49) rfl rfl g10 rfl ?_
                  refine w_iconst (z := (1 : Int32)) (j := 50) rfl rfl rfl ?_
                  refine w_iload_n (j := 51) rfl rfl rfl ?_
                  refine w_ishl (j := 52) rfl rfl ?_
                  refine w_ior (j := 53) rfl rfl ?_
                  refine w_iastore (j := 54) rfl rfl g10 rfl ?_
                  try dsimp only at h
                  refine w_iconst (z := (0 : Int32)) (j := 55) rfl rfl rfl ?_
                  obtain rfl := Option.some.inj h
                  exact wp_ret rfl rfl rfl hq
        · refine w_icmpne_t (j := 24) rfl c5 rfl ?_
          refine w_iconst (z := (-1 : Int32)) (j := 25) rfl rfl rfl ?_
          obtain rfl := Option.some.inj h
          exact wp_ret rfl rfl rfl hq
      · refine w_ifne_t (j := 24) rfl c4 rfl ?_
        refine w_iconst (z := (-1 : Int32)) (j := 25) rfl rfl rfl ?_
        obtain rfl := Option.some.inj h
        exact wp_ret rfl rfl rfl hq
set_option maxHeartbeats 2000000 in
set_option maxRecDepth 20000 in
theorem R_X10_form {d : Nat} {a0 : Int32} {a1 : Int32} {s : St} {q : Int32 × St} {Q : Option Value → xM → Prop}  (h : F_X10_form a0 a1 s = some q) (hq : Q (some (.int q.1)) (SH, q.2.1, q.2.2)) : wp (d + 2) mX10_form 0 [some (.ref 94), some (.int a0), some (.int a1), none] [] (SH, s.1, s.2) Q := by
  unfold F_X10_form at h
  try dsimp only at h
  refine w_aload_n (j := 1) rfl rfl rfl ?_
  refine w_iload_n (j := 2) rfl rfl rfl ?_
  obtain ⟨q1, hq1, h⟩ := Option.bind_eq_some_iff.mp h
  refine wc_AI_I (j := 3) (T := []) rfl rfl rfl rfl rfl rfl rfl rfl rfl rfl ?_
  refine R_X10_isWord hq1 ⟨_, rfl, ?_⟩
  rcases xite_inv h with ⟨c2, h⟩ | ⟨c2, h⟩
  · refine w_ifeq_t (j := 21) rfl c2 rfl ?_
    refine w_iconst (z := (-1 : Int32)) (j := 22) rfl rfl rfl ?_
    obtain rfl := Option.some.inj h
    exact wp_ret rfl rfl rfl hq
  · refine w_ifeq_f (j := 4) rfl c2 rfl ?_
    refine w_aload_n (j := 5) rfl rfl rfl ?_
    refine w_getR (j := 6) rfl rfl rfl rfl rfl rfl ?_
    refine w_iload_n (j := 7) rfl rfl rfl ?_
    rcases xite_inv h with ⟨g3, h⟩ | ⟨g3, h⟩
    · cases h
    · refine w_iaload (j := 8) rfl rfl g3 rfl ?_
      refine w_iconst (z := (1 : Int32)) (j := 9) rfl rfl rfl ?_
      rcases xite_inv h with ⟨c4, h⟩ | ⟨c4, h⟩
      · refine w_icmpne_f (j := 10) rfl c4 rfl ?_
        refine w_aload_n (j := 11) rfl rfl rfl ?_
        refine w_getR (j := 12) rfl rfl rfl rfl rfl rfl ?_
        refine w_iload_n (j := 13) rfl rfl rfl ?_
        refine w_iaload (j := 14) rfl rfl g3 rfl ?_
        refine w_bipush (z := (-4 : Int32)) (j := 15) rfl rfl rfl ?_
        rcases xite_inv h with ⟨c5, h⟩ | ⟨c5, h⟩
        · refine w_icmpne_f (j := 16) rfl c5 rfl ?_
          refine w_iload_n (j := 17) rfl rfl rfl ?_
          refine w_iconst (z := (0 : Int32)) (j := 18) rfl rfl rfl ?_
          refine w_iconst (z := (3 : Int32)) (j := 19) rfl rfl rfl ?_
          obtain ⟨q6, hq6, h⟩ := Option.bind_eq_some_iff.mp h
          refine wc_III_I (j := 20) (T := []) rfl rfl rfl rfl rfl rfl rfl rfl rfl rfl ?_
          refine R_X10_isIn hq6 ⟨_, rfl, ?_⟩
          rcases xite_inv h with ⟨c7, h⟩ | ⟨c7, h⟩
          · refine w_ifne_f (j := 21) rfl c7 rfl ?_
            refine w_iconst (z := (-1 : Int32)) (j := 22) rfl rfl rfl ?_
            obtain rfl := Option.some.inj h
            exact wp_ret rfl rfl rfl hq
          · refine w_ifne_t (j := 23) rfl c7 rfl ?_
            refine w_aload_n (j := 24) rfl rfl rfl ?_
            refine w_getR (j := 25) rfl rfl rfl rfl rfl rfl ?_
            refine w_iload_n (j := 26) rfl rfl rfl ?_
            refine w_iaload (j := 27) rfl rfl g3 rfl ?_
            refine w_istore_n (j := 28) rfl (l1_3 rfl) rfl ?_
            refine w_aload_n (j := 29) rfl rfl rfl ?_
            refine w_getR (j := 30) rfl rfl rfl rfl rfl rfl ?_
            refine w_iload_n (j := 31) rfl rfl rfl ?_
            refine w_iload_n (j := 32) rfl rfl rfl ?_
            refine w_iastore (j := 33) rfl rfl g3 rfl ?_
            try dsimp only at h
            refine w_iload_n (j := 34) rfl rfl rfl ?_
            obtain rfl := Option.some.inj h
            exact wp_ret rfl rfl rfl hq
        · refine w_icmpne_t (j := 21) rfl c5 rfl ?_
          refine w_iconst (z := (-1 : Int32)) (j := 22) rfl rfl rfl ?_
          obtain rfl := Option.some.inj h
          exact wp_ret rfl rfl rfl hq
      · refine w_icmpne_t (j := 21) rfl c4 rfl ?_
        refine w_iconst (z := (-1 : Int32)) (j := 22) rfl rfl rfl ?_
        obtain rfl := Option.some.inj h
        exact wp_ret rfl rfl rfl hq
set_option maxHeartbeats 2000000 in
set_option maxRecDepth 20000 in
theorem RL_X10_same_45 {d : Nat}  {Q : Option Value → xM → Prop}  : ∀ (n : Nat) (l1 : Int32) (l2 : Int32) (l3 : Int32) (l4 : Int32)  (s : St) (q : Int32 × St)   (h : L_X10_same_45  n l1 l2 l3 l4 s = some q) (hq : ∀ (v4 : Option Value), wp (d + 2) mX10_same 63 [some (.ref 94), some (.int l1), some (.int l2), some (.int q.1), v4] [] (SH, q.2.1, q.2.2) Q), wp (d + 2) mX10_same 45 [some (.ref 94), some (.int l1), some (.int l2), some (.int l3), some (.int l4)] [] (SH, s.1, s.2) Q := by
  intro n
  induction n with
  | zero => intro l1 l2 l3 l4 s q h; cases h
  | succ n ih =>
    intro l1 l2 l3 l4 s q h hq
    unfold L_X10_same_45 at h
    try dsimp only at h
    refine w_iload (j := 46) rfl rfl rfl ?_
    refine w_aload_n (j := 47) rfl rfl rfl ?_
    refine w_getI (j := 48) rfl rfl rfl rfl rfl ?_
    rcases xite_inv h with ⟨c12, h⟩ | ⟨c12, h⟩
    · refine w_icmpge_t (j := 63) rfl c12 rfl ?_
      obtain rfl := Option.some.inj h
      exact hq _
    · refine w_icmpge_f (j := 49) rfl c12 rfl ?_
      refine w_iload_n (j := 50) rfl rfl rfl ?_
      refine w_aload_n (j := 51) rfl rfl rfl ?_
      refine w_getR (j := 52) rfl rfl rfl rfl rfl rfl ?_
      refine w_iload (j := 53) rfl rfl rfl ?_
      rcases xite_inv h with ⟨g13, h⟩ | ⟨g13, h⟩
      · cases h
      · refine w_iaload (j := 54) rfl rfl g13 rfl ?_
        refine w_iload_n (j := 55) rfl rfl rfl ?_
        rcases xite_inv h with ⟨c14, h⟩ | ⟨c14, h⟩
        · refine w_icmpne_f (j := 56) rfl c14 rfl ?_
          refine w_iconst (z := (1 : Int32)) (j := 57) rfl rfl rfl ?_
          refine w_goto (j := 59) rfl rfl ?_
          refine w_ior (j := 60) rfl rfl ?_
          refine w_istore_n (j := 61) rfl (l1_3 rfl) rfl ?_
          refine w_iinc (cc := (1 : Int32)) (j := 62) rfl rfl rfl (l1_4 rfl) rfl ?_
          refine w_goto (j := 45) rfl rfl ?_
          exact ih _ _ _ _ _ _ h hq
        · refine w_icmpne_t (j := 58) rfl c14 rfl ?_
          refine w_iconst (z := (0 : Int32)) (j := 59) rfl rfl rfl ?_
          refine w_ior (j := 60) rfl rfl ?_
          refine w_istore_n (j := 61) rfl (l1_3 rfl) rfl ?_
          refine w_iinc (cc := (1 : Int32)) (j := 62) rfl rfl rfl (l1_4 rfl) rfl ?_
          refine w_goto (j := 45) rfl rfl ?_
          exact ih _ _ _ _ _ _ h hq
set_option maxHeartbeats 2000000 in
set_option maxRecDepth 20000 in
theorem RL_X10_same_65 {d : Nat}  {Q : Option Value → xM → Prop}  : ∀ (n : Nat) (l1 : Int32) (l2 : Int32) (l3 : Int32) (l4 : Int32)  (s : St) (q : Int32 × St)   (h : L_X10_same_65  n l1 l2 l3 l4 s = some q) (hq : ∀ (v4 : Option Value), wp (d + 2) mX10_same 85 [some (.ref 94), some (.int l1), some (.int l2), some (.int q.1), v4] [] (SH, q.2.1, q.2.2) Q), wp (d + 2) mX10_same 65 [some (.ref 94), some (.int l1), some (.int l2), some (.int l3), some (.int l4)] [] (SH, s.1, s.2) Q := by
  intro n
  induction n with
  | zero => intro l1 l2 l3 l4 s q h; cases h
  | succ n ih =>
    intro l1 l2 l3 l4 s q h hq
    unfold L_X10_same_65 at h
    try dsimp only at h
    refine w_iload (j := 66) rfl rfl rfl ?_
    refine w_bipush (z := (24 : Int32)) (j := 67) rfl rfl rfl ?_
    rcases xite_inv h with ⟨c17, h⟩ | ⟨c17, h⟩
    · refine w_icmpge_t (j := 85) rfl c17 rfl ?_
      obtain rfl := Option.some.inj h
      exact hq _
    · refine w_icmpge_f (j := 68) rfl c17 rfl ?_
      refine w_iload_n (j := 69) rfl rfl rfl ?_
      refine w_aload_n (j := 70) rfl rfl rfl ?_
      refine w_getR (j := 71) rfl rfl rfl rfl rfl rfl ?_
      refine w_bipush (z := (24 : Int32)) (j := 72) rfl rfl rfl ?_
      refine w_iload_n (j := 73) rfl rfl rfl ?_
      refine w_imul (j := 74) rfl rfl ?_
      refine w_iload (j := 75) rfl rfl rfl ?_
      refine w_iadd (j := 76) rfl rfl ?_
      rcases xite_inv h with ⟨g18, h⟩ | ⟨g18, h⟩
      · cases h
      · refine w_iaload (j := 77) rfl rfl g18 rfl ?_
        rcases xite_inv h with ⟨c19, h⟩ | ⟨c19, h⟩
        · refine w_ifeq_t (j := 80) rfl c19 rfl ?_
          refine w_iconst (z := (0 : Int32)) (j := 81) rfl rfl rfl ?_
          refine w_ior (j := 82) rfl rfl ?_
          refine w_istore_n (j := 83) rfl (l1_3 rfl) rfl ?_
          refine w_iinc (cc := (1 : Int32)) (j := 84) rfl rfl rfl (l1_4 rfl) rfl ?_
          refine w_goto (j := 65) rfl rfl ?_
          exact ih _ _ _ _ _ _ h hq
        · refine w_ifeq_f (j := 78) rfl c19 rfl ?_
          refine w_iconst (z := (1 : Int32)) (j := 79) rfl rfl rfl ?_
          refine w_goto (j := 81) rfl rfl ?_
          refine w_ior (j := 82) rfl rfl ?_
          refine w_istore_n (j := 83) rfl (l1_3 rfl) rfl ?_
          refine w_iinc (cc := (1 : Int32)) (j := 84) rfl rfl rfl (l1_4 rfl) rfl ?_
          refine w_goto (j := 65) rfl rfl ?_
          exact ih _ _ _ _ _ _ h hq
set_option maxHeartbeats 2000000 in
set_option maxRecDepth 20000 in
theorem R_X10_same {d : Nat} {a0 : Int32} {a1 : Int32} {s : St} {q : Int32 × St} {Q : Option Value → xM → Prop}  (h : F_X10_same a0 a1 s = some q) (hq : Q (some (.int q.1)) (SH, q.2.1, q.2.2)) : wp (d + 2) mX10_same 0 [some (.ref 94), some (.int a0), some (.int a1), none, none] [] (SH, s.1, s.2) Q := by
  unfold F_X10_same at h
  try dsimp only at h
  refine w_aload_n (j := 1) rfl rfl rfl ?_
  refine w_iload_n (j := 2) rfl rfl rfl ?_
  obtain ⟨q1, hq1, h⟩ := Option.bind_eq_some_iff.mp h
  refine wc_AI_I (j := 3) (T := []) rfl rfl rfl rfl rfl rfl rfl rfl rfl rfl ?_
  refine R_X10_isWord hq1 ⟨_, rfl, ?_⟩
  rcases xite_inv h with ⟨c2, h⟩ | ⟨c2, h⟩
  · refine w_ifeq_t (j := 26) rfl c2 rfl ?_
    refine w_iconst (z := (-1 : Int32)) (j := 27) rfl rfl rfl ?_
    obtain rfl := Option.some.inj h
    exact wp_ret rfl rfl rfl hq
  · refine w_ifeq_f (j := 4) rfl c2 rfl ?_
    refine w_aload_n (j := 5) rfl rfl rfl ?_
    refine w_iload_n (j := 6) rfl rfl rfl ?_
    obtain ⟨q3, hq3, h⟩ := Option.bind_eq_some_iff.mp h
    refine wc_AI_I (j := 7) (T := []) rfl rfl rfl rfl rfl rfl rfl rfl rfl rfl ?_
    refine R_X10_isWord hq3 ⟨_, rfl, ?_⟩
    rcases xite_inv h with ⟨c4, h⟩ | ⟨c4, h⟩
    · refine w_ifeq_t (j := 26) rfl c4 rfl ?_
      refine w_iconst (z := (-1 : Int32)) (j := 27) rfl rfl rfl ?_
      obtain rfl := Option.some.inj h
      exact wp_ret rfl rfl rfl hq
    · refine w_ifeq_f (j := 8) rfl c4 rfl ?_
      refine w_iload_n (j := 9) rfl rfl rfl ?_
      refine w_iload_n (j := 10) rfl rfl rfl ?_
      rcases xite_inv h with ⟨c5, h⟩ | ⟨c5, h⟩
      · refine w_icmpge_t (j := 26) rfl c5 rfl ?_
        refine w_iconst (z := (-1 : Int32)) (j := 27) rfl rfl rfl ?_
        obtain rfl := Option.some.inj h
        exact wp_ret rfl rfl rfl hq
      · refine w_icmpge_f (j := 11) rfl c5 rfl ?_
        refine w_aload_n (j := 12) rfl rfl rfl ?_
        refine w_getR (j := 13) rfl rfl rfl rfl rfl rfl ?_
        refine w_iload_n (j := 14) rfl rfl rfl ?_
        rcases xite_inv h with ⟨g6, h⟩ | ⟨g6, h⟩
        · cases h
        · refine w_iaload (j := 15) rfl rfl g6 rfl ?_
          refine w_aload_n (j := 16) rfl rfl rfl ?_
          refine w_getR (j := 17) rfl rfl rfl rfl rfl rfl ?_
          refine w_iload_n (j := 18) rfl rfl rfl ?_
          rcases xite_inv h with ⟨g7, h⟩ | ⟨g7, h⟩
          · cases h
          · refine w_iaload (j := 19) rfl rfl g7 rfl ?_
            rcases xite_inv h with ⟨c8, h⟩ | ⟨c8, h⟩
            · refine w_icmpne_f (j := 20) rfl c8 rfl ?_
              refine w_aload_n (j := 21) rfl rfl rfl ?_
              refine w_getR (j := 22) rfl rfl rfl rfl rfl rfl ?_
              refine w_iload_n (j := 23) rfl rfl rfl ?_
              refine w_iaload (j := 24) rfl rfl g7 rfl ?_
              refine w_bipush (z := (-4 : Int32)) (j := 25) rfl rfl rfl ?_
              rcases xite_inv h with ⟨c9, h⟩ | ⟨c9, h⟩
              · refine w_icmpeq_t (j := 28) rfl c9 rfl ?_
                refine w_aload_n (j := 29) rfl rfl rfl ?_
                refine w_getR (j := 30) rfl rfl rfl rfl rfl rfl ?_
                refine w_iload_n (j := 31) rfl rfl rfl ?_
                refine w_iaload (j := 32) rfl rfl g6 rfl ?_
                refine w_bipush (z := (-4 : Int32)) (j := 33) rfl rfl rfl ?_
                rcases xite_inv h with ⟨c10, h⟩ | ⟨c10, h⟩
                · refine w_icmpne_f (j := 34) rfl c10 rfl ?_
                  refine w_aload_n (j := 35) rfl rfl rfl ?_
                  refine w_getR (j := 36) rfl rfl rfl rfl rfl rfl ?_
                  refine w_iload_n (j := 37) rfl rfl rfl ?_
                  refine w_iaload (j := 38) rfl rfl g6 rfl ?_
                  rcases xite_inv h with ⟨c11, h⟩ | ⟨c11, h⟩
                  · refine w_ifle_t (j := 41) rfl c11 rfl ?_
                    refine w_iconst (z := (0 : Int32)) (j := 42) rfl rfl rfl ?_
                    refine w_istore_n (j := 43) rfl (l1_3 rfl) rfl ?_
                    refine w_iconst (z := (0 : Int32)) (j := 44) rfl rfl rfl ?_
                    refine w_istore (j := 45) rfl (l1_4 rfl) rfl ?_
                    obtain ⟨q15, hq15, h⟩ := Option.bind_eq_some_iff.mp h
                    refine RL_X10_same_45  _ _ _ _ _ _ _ hq15 (fun v16 => ?_)
                    refine w_iconst (z := (0 : Int32)) (j := 64) rfl rfl rfl ?_
                    refine w_istore (j := 65) rfl (l1_4 rfl) rfl ?_
                    obtain ⟨q20, hq20, h⟩ := Option.bind_eq_some_iff.mp h
                    refine RL_X10_same_65  _ _ _ _ _ _ _ hq20 (fun v21 => ?_)
                    refine w_iload_n (j := 86) rfl rfl rfl ?_
                    rcases xite_inv h with ⟨c22, h⟩ | ⟨c22, h⟩
                    · refine w_ifeq_t (j := 89) rfl c22 rfl ?_
                      refine w_aload_n (j := 90) rfl rfl rfl ?_
                      refine w_getR (j := 91) rfl rfl rfl rfl rfl rfl ?_
                      refine w_iload_n (j := 92) rfl rfl rfl ?_
                      refine w_iload_n (j := 93) rfl rfl rfl ?_
                      refine w_iastore (j := 94) rfl rfl g6 rfl ?_
                      try dsimp only at h
                      refine w_iconst (z := (0 : Int32)) (j := 95) rfl rfl rfl ?_
                      obtain rfl := Option.some.inj h
                      exact wp_ret rfl rfl rfl hq
                    · refine w_ifeq_f (j := 87) rfl c22 rfl ?_
                      refine w_bipush (z := (-2 : Int32)) (j := 88) rfl rfl rfl ?_
                      obtain rfl := Option.some.inj h
                      exact wp_ret rfl rfl rfl hq
                  · refine w_ifle_f (j := 39) rfl c11 rfl ?_
                    refine w_iconst (z := (1 : Int32)) (j := 40) rfl rfl rfl ?_
                    refine w_goto (j := 42) rfl rfl ?_
                    refine w_istore_n (j := 43) rfl (l1_3 rfl) rfl ?_
                    refine w_iconst (z := (0 : Int32)) (j := 44) rfl rfl rfl ?_
                    refine w_istore (j := 45) rfl (l1_4 rfl) rfl ?_
                    obtain ⟨q24, hq24, h⟩ := Option.bind_eq_some_iff.mp h
                    refine RL_X10_same_45  _ _ _ _ _ _ _ hq24 (fun v25 => ?_)
                    refine w_iconst (z := (0 : Int32)) (j := 64) rfl rfl rfl ?_
                    refine w_istore (j := 65) rfl (l1_4 rfl) rfl ?_
                    obtain ⟨q26, hq26, h⟩ := Option.bind_eq_some_iff.mp h
                    refine RL_X10_same_65  _ _ _ _ _ _ _ hq26 (fun v27 => ?_)
                    refine w_iload_n (j := 86) rfl rfl rfl ?_
                    rcases xite_inv h with ⟨c28, h⟩ | ⟨c28, h⟩
                    · refine w_ifeq_t (j := 89) rfl c28 rfl ?_
                      refine w_aload_n (j := 90) rfl rfl rfl ?_
                      refine w_getR (j := 91) rfl rfl rfl rfl rfl rfl ?_
                      refine w_iload_n (j := 92) rfl rfl rfl ?_
                      refine w_iload_n (j := 93) rfl rfl rfl ?_
                      refine w_iastore (j := 94) rfl rfl g6 rfl ?_
                      try dsimp only at h
                      refine w_iconst (z := (0 : Int32)) (j := 95) rfl rfl rfl ?_
                      obtain rfl := Option.some.inj h
                      exact wp_ret rfl rfl rfl hq
                    · refine w_ifeq_f (j := 87) rfl c28 rfl ?_
                      refine w_bipush (z := (-2 : Int32)) (j := 88) rfl rfl rfl ?_
                      obtain rfl := Option.some.inj h
                      exact wp_ret rfl rfl rfl hq
                · refine w_icmpne_t (j := 39) rfl c10 rfl ?_
                  refine w_iconst (z := (1 : Int32)) (j := 40) rfl rfl rfl ?_
                  refine w_goto (j := 42) rfl rfl ?_
                  refine w_istore_n (j := 43) rfl (l1_3 rfl) rfl ?_
                  refine w_iconst (z := (0 : Int32)) (j := 44) rfl rfl rfl ?_
                  refine w_istore (j := 45) rfl (l1_4 rfl) rfl ?_
                  obtain ⟨q30, hq30, h⟩ := Option.bind_eq_some_iff.mp h
                  refine RL_X10_same_45  _ _ _ _ _ _ _ hq30 (fun v31 => ?_)
                  refine w_iconst (z := (0 : Int32)) (j := 64) rfl rfl rfl ?_
                  refine w_istore (j := 65) rfl (l1_4 rfl) rfl ?_
                  obtain ⟨q32, hq32, h⟩ := Option.bind_eq_some_iff.mp h
                  refine RL_X10_same_65  _ _ _ _ _ _ _ hq32 (fun v33 => ?_)
                  refine w_iload_n (j := 86) rfl rfl rfl ?_
                  rcases xite_inv h with ⟨c34, h⟩ | ⟨c34, h⟩
                  · refine w_ifeq_t (j := 89) rfl c34 rfl ?_
                    refine w_aload_n (j := 90) rfl rfl rfl ?_
                    refine w_getR (j := 91) rfl rfl rfl rfl rfl rfl ?_
                    refine w_iload_n (j := 92) rfl rfl rfl ?_
                    refine w_iload_n (j := 93) rfl rfl rfl ?_
                    refine w_iastore (j := 94) rfl rfl g6 rfl ?_
                    try dsimp only at h
                    refine w_iconst (z := (0 : Int32)) (j := 95) rfl rfl rfl ?_
                    obtain rfl := Option.some.inj h
                    exact wp_ret rfl rfl rfl hq
                  · refine w_ifeq_f (j := 87) rfl c34 rfl ?_
                    refine w_bipush (z := (-2 : Int32)) (j := 88) rfl rfl rfl ?_
                    obtain rfl := Option.some.inj h
                    exact wp_ret rfl rfl rfl hq
              · refine w_icmpeq_f (j := 26) rfl c9 rfl ?_
                refine w_iconst (z := (-1 : Int32)) (j := 27) rfl rfl rfl ?_
                obtain rfl := Option.some.inj h
                exact wp_ret rfl rfl rfl hq
            · refine w_icmpne_t (j := 26) rfl c8 rfl ?_
              refine w_iconst (z := (-1 : Int32)) (j := 27) rfl rfl rfl ?_
              obtain rfl := Option.some.inj h
              exact wp_ret rfl rfl rfl hq
set_option maxHeartbeats 2000000 in
set_option maxRecDepth 20000 in
theorem R_X10_isLetter {d : Nat} {a0 : Int32} {s : St} {q : Int32 × St} {Q : Option Value → xM → Prop}  (h : F_X10_isLetter a0 s = some q) (hq : Q (some (.int q.1)) (SH, q.2.1, q.2.2)) : wp (d + 1) mX10_isLetter 0 [some (.int a0)] [] (SH, s.1, s.2) Q := by
  unfold F_X10_isLetter at h
  try dsimp only at h
  refine w_iload_n (j := 1) rfl rfl rfl ?_
  refine w_bipush (z := (97 : Int32)) (j := 2) rfl rfl rfl ?_
  refine w_bipush (z := (122 : Int32)) (j := 3) rfl rfl rfl ?_
  obtain ⟨q1, hq1, h⟩ := Option.bind_eq_some_iff.mp h
  refine wc_III_I (j := 4) (T := []) rfl rfl rfl rfl rfl rfl rfl rfl rfl rfl ?_
  refine R_X10_isIn hq1 ⟨_, rfl, ?_⟩
  rcases xite_inv h with ⟨c2, h⟩ | ⟨c2, h⟩
  · refine w_ifne_f (j := 5) rfl c2 rfl ?_
    refine w_iload_n (j := 6) rfl rfl rfl ?_
    refine w_bipush (z := (65 : Int32)) (j := 7) rfl rfl rfl ?_
    refine w_bipush (z := (90 : Int32)) (j := 8) rfl rfl rfl ?_
    obtain ⟨q3, hq3, h⟩ := Option.bind_eq_some_iff.mp h
    refine wc_III_I (j := 9) (T := []) rfl rfl rfl rfl rfl rfl rfl rfl rfl rfl ?_
    refine R_X10_isIn hq3 ⟨_, rfl, ?_⟩
    rcases xite_inv h with ⟨c4, h⟩ | ⟨c4, h⟩
    · refine w_ifeq_t (j := 12) rfl c4 rfl ?_
      refine w_iconst (z := (0 : Int32)) (j := 13) rfl rfl rfl ?_
      obtain rfl := Option.some.inj h
      exact wp_ret rfl rfl rfl hq
    · refine w_ifeq_f (j := 10) rfl c4 rfl ?_
      refine w_iconst (z := (1 : Int32)) (j := 11) rfl rfl rfl ?_
      refine w_goto (j := 13) rfl rfl ?_
      obtain rfl := Option.some.inj h
      exact wp_ret rfl rfl rfl hq
  · refine w_ifne_t (j := 10) rfl c2 rfl ?_
    refine w_iconst (z := (1 : Int32)) (j := 11) rfl rfl rfl ?_
    refine w_goto (j := 13) rfl rfl ?_
    obtain rfl := Option.some.inj h
    exact wp_ret rfl rfl rfl hq
set_option maxHeartbeats 2000000 in
set_option maxRecDepth 20000 in
theorem R_X10_comes {d : Nat} {a0 : Int32} {a1 : Int32} {s : St} {q : St} {Q : Option Value → xM → Prop}  (h : F_X10_comes a0 a1 s = some q) (hq : Q none (SH, q.1, q.2)) : wp (d + 0) mX10_comes 0 [some (.ref 94), some (.int a0), some (.int a1)] [] (SH, s.1, s.2) Q := by
  unfold F_X10_comes at h
  try dsimp only at h
  refine w_aload_n (j := 1) rfl rfl rfl ?_
  refine w_getR (j := 2) rfl rfl rfl rfl rfl rfl ?_
  refine w_aload_n (j := 3) rfl rfl rfl ?_
  refine w_getI (j := 4) rfl rfl rfl rfl rfl ?_
  refine w_iload_n (j := 5) rfl rfl rfl ?_
  rcases xite_inv h with ⟨g1, h⟩ | ⟨g1, h⟩
  · cases h
  · refine w_iastore (j := 6) rfl rfl g1 rfl ?_
    try dsimp only at h
    refine w_aload_n (j := 7) rfl rfl rfl ?_
    refine w_getR (j := 8) rfl rfl rfl rfl rfl rfl ?_
    refine w_aload_n (j := 9) rfl rfl rfl ?_
    refine w_getI (j := 10) rfl rfl rfl rfl rfl ?_
    refine w_iload_n (j := 11) rfl rfl rfl ?_
    rcases xite_inv h with ⟨g3, h⟩ | ⟨g3, h⟩
    · cases h
    · refine w_iastore (j := 12) rfl rfl g3 rfl ?_
      try dsimp only at h
      refine w_aload_n (j := 13) rfl rfl rfl ?_
      refine w_dup (j := 14) rfl rfl rfl ?_
      refine w_getI (j := 15) rfl rfl rfl rfl rfl ?_
      refine w_iconst (z := (1 : Int32)) (j := 16) rfl rfl rfl ?_
      refine w_iadd (j := 17) rfl rfl ?_
      refine w_putI (j := 18) rfl rfl rfl rfl rfl ?_
      try dsimp only at h
      obtain rfl := Option.some.inj h
      exact wp_vret rfl rfl rfl hq
set_option maxHeartbeats 2000000 in
set_option maxRecDepth 20000 in
theorem R_X10_fails {d : Nat} {a0 : Int32} {a1 : Int32} {s : St} {q : Int32 × St} {Q : Option Value → xM → Prop}  (h : F_X10_fails a0 a1 s = some q) (hq : Q (some (.int q.1)) (SH, q.2.1, q.2.2)) : wp (d + 0) mX10_fails 0 [some (.ref 94), some (.int a0), some (.int a1)] [] (SH, s.1, s.2) Q := by
  unfold F_X10_fails at h
  try dsimp only at h
  refine w_aload_n (j := 1) rfl rfl rfl ?_
  refine w_iload_n (j := 2) rfl rfl rfl ?_
  refine w_putI (j := 3) rfl rfl rfl rfl rfl ?_
  try dsimp only at h
  refine w_aload_n (j := 4) rfl rfl rfl ?_
  refine w_iload_n (j := 5) rfl rfl rfl ?_
  refine w_putI (j := 6) rfl rfl rfl rfl rfl ?_
  try dsimp only at h
  refine w_iconst (z := (0 : Int32)) (j := 7) rfl rfl rfl ?_
  obtain rfl := Option.some.inj h
  exact wp_ret rfl rfl rfl hq
