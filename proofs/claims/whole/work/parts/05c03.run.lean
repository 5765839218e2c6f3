set_option maxHeartbeats 2000000 in
set_option maxRecDepth 20000 in
theorem R_X8_formOf {d : Nat} {a0 : Int32} {s : St} {q : Int32 × St} {Q : Option Value → xM → Prop}  (h : F_X8_formOf a0 s = some q) (hq : Q (some (.int q.1)) (SH, q.2.1, q.2.2)) : wp (d + 0) mX8_formOf 0 [some (.ref 4), some (.int a0)] [] (SH, s.1, s.2) Q := by
  unfold F_X8_formOf at h
  try dsimp only at h
  refine w_iload_n (j := 1) rfl rfl rfl ?_
  rcases xite_inv h with ⟨c1, h⟩ | ⟨c1, h⟩
  · refine w_iflt_t (j := 11) rfl c1 rfl ?_
    refine w_iconst (z := (0 : Int32)) (j := 12) rfl rfl rfl ?_
    obtain rfl := Option.some.inj h
    exact wp_ret rfl rfl rfl hq
  · refine w_iflt_f (j := 2) rfl c1 rfl ?_
    refine w_iload_n (j := 3) rfl rfl rfl ?_
    refine w_aload_n (j := 4) rfl rfl rfl ?_
    refine w_getI (j := 5) rfl rfl rfl rfl rfl ?_
    rcases xite_inv h with ⟨c2, h⟩ | ⟨c2, h⟩
    · refine w_icmpge_t (j := 11) rfl c2 rfl ?_
      refine w_iconst (z := (0 : Int32)) (j := 12) rfl rfl rfl ?_
      obtain rfl := Option.some.inj h
      exact wp_ret rfl rfl rfl hq
    · refine w_icmpge_f (j := 6) rfl c2 rfl ?_
      refine w_aload_n (j := 7) rfl rfl rfl ?_
      refine w_getR (j := 8) rfl rfl rfl rfl rfl rfl ?_
      refine w_iload_n (j := 9) rfl rfl rfl ?_
      rcases xite_inv h with ⟨g3, h⟩ | ⟨g3, h⟩
      · cases h
      · refine w_iaload (j := 10) rfl rfl g3 rfl ?_
        refine w_goto (j := 12) rfl rfl ?_
        obtain rfl := Option.some.inj h
        exact wp_ret rfl rfl rfl hq
set_option maxHeartbeats 2000000 in
set_option maxRecDepth 20000 in
theorem RJ_X2_readCommand_76 {d : Nat}  {Q : Option Value → xM → Prop}  {l2 : Int32} {u1 : Option Value}  {s : St} {q : Int32 × St}  (hu1 : xlong u1 = false) (h : J_X2_readCommand_76  l2  s = some q) (hq : Q (some (.int q.1)) (SH, q.2.1, q.2.2)) : wp (d + 4) mX2_readCommand 76 [some (.ref 80), u1, some (.int l2)] [] (SH, s.1, s.2) Q := by
  unfold J_X2_readCommand_76 at h
  try dsimp only at h
  refine w_iload_n (j := 77) rfl rfl rfl ?_
  rcases xite_inv h with ⟨c18, h⟩ | ⟨c18, h⟩
  · refine w_ifne_f (j := 78) rfl c18 rfl ?_
    refine w_aload_n (j := 79) rfl rfl rfl ?_
    obtain ⟨q19, hq19, h⟩ := Option.bind_eq_some_iff.mp h
    refine wc_A_I (j := 80) (T := []) rfl rfl rfl rfl rfl rfl rfl rfl rfl rfl ?_
    refine R_X2_failMisplaced hq19 ⟨_, rfl, ?_⟩
    rcases xite_inv h with ⟨hb, h⟩ | ⟨hb, h⟩
    · obtain rfl := Option.some.inj h
      exact wp_ret rfl rfl (xretb hb) hq
    · cases h
  · refine w_ifne_t (j := 81) rfl c18 rfl ?_
    refine w_aload_n (j := 82) rfl rfl rfl ?_
    refine w_getR (j := 83) rfl rfl rfl rfl rfl rfl ?_
    refine w_aload_n (j := 84) rfl rfl rfl ?_
    refine w_getR (j := 85) rfl rfl rfl rfl rfl rfl ?_
    refine w_aload_n (j := 86) rfl rfl rfl ?_
    refine w_getI (j := 87) rfl rfl rfl rfl rfl ?_
    obtain ⟨q20, hq20, h⟩ := Option.bind_eq_some_iff.mp h
    refine wc_AI_I (j := 88) (T := []) rfl rfl rfl rfl rfl rfl rfl rfl rfl rfl ?_
    refine R_X7_wordAt hq20 ⟨_, rfl, ?_⟩
    refine w_putI (j := 89) rfl rfl rfl rfl rfl ?_
    try dsimp only at h
    refine w_aload_n (j := 90) rfl rfl rfl ?_
    refine w_dup (j := 91) rfl rfl rfl ?_
    refine w_getI (j := 92) rfl rfl rfl rfl rfl ?_
    refine w_iconst (z := (1 : Int32)) (j := 93) rfl rfl rfl ?_
    refine w_iadd (j := 94) rfl rfl ?_
    refine w_putI (j := 95) rfl rfl rfl rfl rfl ?_
    try dsimp only at h
    refine w_aload_n (j := 96) rfl rfl rfl ?_
    refine w_aload_n (j := 97) rfl rfl rfl ?_
    refine w_getR (j := 98) rfl rfl rfl rfl rfl rfl ?_
    refine w_getR (j := 99) rfl rfl rfl rfl rfl rfl ?_
    obtain ⟨q23, hq23, h⟩ := Option.bind_eq_some_iff.mp h
    refine wc_AA_I (j := 100) (T := [none, none, none]) rfl rfl rfl rfl rfl rfl rfl rfl rfl rfl ?_
    refine R_X2_readList (show TL 88 from ⟨rfl, rfl⟩) hq23 ⟨_, rfl, ?_⟩
    rcases xite_inv h with ⟨hb, h⟩ | ⟨hb, h⟩
    · obtain rfl := Option.some.inj h
      exact wp_ret rfl rfl (xretb hb) hq
    · cases h
set_option maxHeartbeats 2000000 in
set_option maxRecDepth 20000 in
theorem RJ_X2_readCommand_65 {d : Nat}  {Q : Option Value → xM → Prop}  {l1 : Int32} {u2 : Option Value} {t0 : Int32} {s : St} {q : Int32 × St}   (h : J_X2_readCommand_65  l1 t0 s = some q) (hq : Q (some (.int q.1)) (SH, q.2.1, q.2.2)) : wp (d + 4) mX2_readCommand 65 [some (.ref 80), some (.int l1), u2] [.int t0] (SH, s.1, s.2) Q := by
  unfold J_X2_readCommand_65 at h
  try dsimp only at h
  refine w_istore_n (j := 66) rfl (l1_2 rfl) rfl ?_
  refine w_iload_n (j := 67) rfl rfl rfl ?_
  refine w_iconst (z := (1 : Int32)) (j := 68) rfl rfl rfl ?_
  rcases xite_inv h with ⟨c15, h⟩ | ⟨c15, h⟩
  · refine w_icmpeq_t (j := 74) rfl c15 rfl ?_
    refine w_iconst (z := (1 : Int32)) (j := 75) rfl rfl rfl ?_
    obtain rfl := Option.some.inj h
    exact wp_ret rfl rfl rfl hq
  · refine w_icmpeq_f (j := 69) rfl c15 rfl ?_
    refine w_iload_n (j := 70) rfl rfl rfl ?_
    refine w_iconst (z := (3 : Int32)) (j := 71) rfl rfl rfl ?_
    rcases xite_inv h with ⟨c16, h⟩ | ⟨c16, h⟩
    · refine w_icmpne_f (j := 72) rfl c16 rfl ?_
      refine w_iload_n (j := 73) rfl rfl rfl ?_
      rcases xite_inv h with ⟨c17, h⟩ | ⟨c17, h⟩
      · refine w_ifne_f (j := 74) rfl c17 rfl ?_
        refine w_iconst (z := (1 : Int32)) (j := 75) rfl rfl rfl ?_
        obtain rfl := Option.some.inj h
        exact wp_ret rfl rfl rfl hq
      · refine w_ifne_t (j := 76) rfl c17 rfl ?_
        exact RJ_X2_readCommand_76  rfl h hq
    · refine w_icmpne_t (j := 76) rfl c16 rfl ?_
      exact RJ_X2_readCommand_76  rfl h hq
set_option maxHeartbeats 2000000 in
set_option maxRecDepth 20000 in
theorem R_X2_readCommand {d : Nat}  {s : St} {q : Int32 × St} {Q : Option Value → xM → Prop}  (h : F_X2_readCommand  s = some q) (hq : Q (some (.int q.1)) (SH, q.2.1, q.2.2)) : wp (d + 4) mX2_readCommand 0 [some (.ref 80), none, none] [] (SH, s.1, s.2) Q := by
  unfold F_X2_readCommand at h
  try dsimp only at h
  refine w_aload_n (j := 1) rfl rfl rfl ?_
  refine w_getR (j := 2) rfl rfl rfl rfl rfl rfl ?_
  refine w_aload_n (j := 3) rfl rfl rfl ?_
  refine w_getI (j := 4) rfl rfl rfl rfl rfl ?_
  obtain ⟨q1, hq1, h⟩ := Option.bind_eq_some_iff.mp h
  refine wc_AI_I (j := 5) (T := []) rfl rfl rfl rfl rfl rfl rfl rfl rfl rfl ?_
  refine R_X7_kindAt hq1 ⟨_, rfl, ?_⟩
  refine w_bipush (z := (24 : Int32)) (j := 6) rfl rfl rfl ?_
  rcases xite_inv h with ⟨c2, h⟩ | ⟨c2, h⟩
  · refine w_icmpeq_t (j := 10) rfl c2 rfl ?_
    refine w_aload_n (j := 11) rfl rfl rfl ?_
    refine w_getR (j := 12) rfl rfl rfl rfl rfl rfl ?_
    obtain ⟨q3, hq3, h⟩ := Option.bind_eq_some_iff.mp h
    refine wc_A_I (j := 13) (T := []) rfl rfl rfl rfl rfl rfl rfl rfl rfl rfl ?_
    refine R_X1_areFull hq3 ⟨_, rfl, ?_⟩
    rcases xite_inv h with ⟨c4, h⟩ | ⟨c4, h⟩
    · refine w_ifeq_t (j := 20) rfl c4 rfl ?_
      refine w_aload_n (j := 21) rfl rfl rfl ?_
      refine w_getR (j := 22) rfl rfl rfl rfl rfl rfl ?_
      refine w_aload_n (j := 23) rfl rfl rfl ?_
      refine w_getR (j := 24) rfl rfl rfl rfl rfl rfl ?_
      refine w_aload_n (j := 25) rfl rfl rfl ?_
      refine w_getI (j := 26) rfl rfl rfl rfl rfl ?_
      obtain ⟨q5, hq5, h⟩ := Option.bind_eq_some_iff.mp h
      refine wc_AI_I (j := 27) (T := []) rfl rfl rfl rfl rfl rfl rfl rfl rfl rfl ?_
      refine R_X7_wordAt hq5 ⟨_, rfl, ?_⟩
      obtain ⟨q6, hq6, h⟩ := Option.bind_eq_some_iff.mp h
      refine wc_AI_I (j := 28) (T := []) rfl rfl rfl rfl rfl rfl rfl rfl rfl rfl ?_
      refine R_X8_formOf hq6 ⟨_, rfl, ?_⟩
      refine w_istore_n (j := 29) rfl (l1_1 rfl) rfl ?_
      refine w_aload_n (j := 30) rfl rfl rfl ?_
      refine w_getR (j := 31) rfl rfl rfl rfl rfl rfl ?_
      refine w_aload_n (j := 32) rfl rfl rfl ?_
      refine w_getR (j := 33) rfl rfl rfl rfl rfl rfl ?_
      refine w_aload_n (j := 34) rfl rfl rfl ?_
      refine w_getI (j := 35) rfl rfl rfl rfl rfl ?_
      obtain ⟨q7, hq7, h⟩ := Option.bind_eq_some_iff.mp h
      refine wc_AI_I (j := 36) (T := []) rfl rfl rfl rfl rfl rfl rfl rfl rfl rfl ?_
      refine R_X7_wordAt hq7 ⟨_, rfl, ?_⟩
      obtain ⟨q8, hq8, h⟩ := Option.bind_eq_some_iff.mp h
      refine wc_AI_V (j := 37) (T := []) rfl rfl rfl rfl rfl rfl rfl rfl rfl rfl ?_
      refine R_X0_startVerb (show OR 85 from ⟨rfl, ⟨rfl, rfl⟩, ⟨rfl, rfl⟩⟩) hq8 ⟨rfl, ?_⟩
      refine w_aload_n (j := 38) rfl rfl rfl ?_
      refine w_dup (j := 39) rfl rfl rfl ?_
      refine w_getI (j := 40) rfl rfl rfl rfl rfl ?_
      refine w_iconst (z := (1 : Int32)) (j := 41) rfl rfl rfl ?_
      refine w_iadd (j := 42) rfl rfl ?_
      refine w_putI (j := 43) rfl rfl rfl rfl rfl ?_
      try dsimp only at h
      refine w_iload_n (j := 44) rfl rfl rfl ?_
      rcases xite_inv h with ⟨c10, h⟩ | ⟨c10, h⟩
      · refine w_ifne_f (j := 45) rfl c10 rfl ?_
        refine w_iconst (z := (1 : Int32)) (j := 46) rfl rfl rfl ?_
        obtain rfl := Option.some.inj h
        exact wp_ret rfl rfl rfl hq
      · refine w_ifne_t (j := 47) rfl c10 rfl ?_
        refine w_aload_n (j := 48) rfl rfl rfl ?_
        refine w_aload_n (j := 49) rfl rfl rfl ?_
        refine w_getR (j := 50) rfl rfl rfl rfl rfl rfl ?_
        refine w_getR (j := 51) rfl rfl rfl rfl rfl rfl ?_
        obtain ⟨q11, hq11, h⟩ := Option.bind_eq_some_iff.mp h
        refine wc_AA_I (j := 52) (T := [none, none, none]) rfl rfl rfl rfl rfl rfl rfl rfl rfl rfl ?_
        refine R_X2_readList (show TL 86 from ⟨rfl, rfl⟩) hq11 ⟨_, rfl, ?_⟩
        rcases xite_inv h with ⟨c12, h⟩ | ⟨c12, h⟩
        · refine w_ifne_f (j := 53) rfl c12 rfl ?_
          refine w_iconst (z := (0 : Int32)) (j := 54) rfl rfl rfl ?_
          obtain rfl := Option.some.inj h
          exact wp_ret rfl rfl rfl hq
        · refine w_ifne_t (j := 55) rfl c12 rfl ?_
          refine w_aload_n (j := 56) rfl rfl rfl ?_
          refine w_getR (j := 57) rfl rfl rfl rfl rfl rfl ?_
          refine w_aload_n (j := 58) rfl rfl rfl ?_
          refine w_getI (j := 59) rfl rfl rfl rfl rfl ?_
          obtain ⟨q13, hq13, h⟩ := Option.bind_eq_some_iff.mp h
          refine wc_AI_I (j := 60) (T := []) rfl rfl rfl rfl rfl rfl rfl rfl rfl rfl ?_
          refine R_X7_kindAt hq13 ⟨_, rfl, ?_⟩
          refine w_bipush (z := (25 : Int32)) (j := 61) rfl rfl rfl ?_
          rcases xite_inv h with ⟨c14, h⟩ | ⟨c14, h⟩
          · refine w_icmpne_f (j := 62) rfl c14 rfl ?_
            refine w_iconst (z := (1 : Int32)) (j := 63) rfl rfl rfl ?_
            refine w_goto (j := 65) rfl rfl ?_
            exact RJ_X2_readCommand_65   h hq
          · refine w_icmpne_t (j := 64) rfl c14 rfl ?_
            refine w_iconst (z := (0 : Int32)) (j := 65) rfl rfl rfl ?_
            exact RJ_X2_readCommand_65   h hq
    · refine w_ifeq_f (j := 14) rfl c4 rfl ?_
      refine w_aload_n (j := 15) rfl rfl rfl ?_
      refine w_bipush (z := (9 : Int32)) (j := 16) rfl rfl rfl ?_
      refine w_aload_n (j := 17) rfl rfl rfl ?_
      refine w_getI (j := 18) rfl rfl rfl rfl rfl ?_
      obtain ⟨q24, hq24, h⟩ := Option.bind_eq_some_iff.mp h
      refine wc_AII_I (j := 19) (T := []) rfl rfl rfl rfl rfl rfl rfl rfl rfl rfl ?_
      refine R_X2_fail hq24 ⟨_, rfl, ?_⟩
      rcases xite_inv h with ⟨hb, h⟩ | ⟨hb, h⟩
      · obtain rfl := Option.some.inj h
        exact wp_ret rfl rfl (xretb hb) hq
      · cases h
  · refine w_icmpeq_f (j := 7) rfl c2 rfl ?_
    refine w_aload_n (j := 8) rfl rfl rfl ?_
    obtain ⟨q25, hq25, h⟩ := Option.bind_eq_some_iff.mp h
    refine wc_A_I (j := 9) (T := []) rfl rfl rfl rfl rfl rfl rfl rfl rfl rfl ?_
    refine R_X2_failMisplaced hq25 ⟨_, rfl, ?_⟩
    rcases xite_inv h with ⟨hb, h⟩ | ⟨hb, h⟩
    · obtain rfl := Option.some.inj h
      exact wp_ret rfl rfl (xretb hb) hq
    · cases h
set_option maxHeartbeats 2000000 in
set_option maxRecDepth 20000 in
theorem RL_X2_skipStops_2 {d : Nat}  {Q : Option Value → xM → Prop}  : ∀ (n : Nat) (l1 : Int32)  (s : St) (q : St)   (h : L_X2_skipStops_2  n l1 s = some q) (hq : ∀ (v0 v1 : Option Value), xlong v0 = false → wp (d + 1) mX2_skipStops 20 [v0, v1] [] (SH, q.1, q.2) Q), wp (d + 1) mX2_skipStops 2 [some (.ref 80), some (.int l1)] [] (SH, s.1, s.2) Q := by
  intro n
  induction n with
  | zero => intro l1 s q h; cases h
  | succ n ih =>
    intro l1 s q h hq
    unfold L_X2_skipStops_2 at h
    try dsimp only at h
    refine w_iload_n (j := 3) rfl rfl rfl ?_
    refine w_sipush (z := (200 : Int32)) (j := 4) rfl rfl rfl ?_
    rcases xite_inv h with ⟨c1, h⟩ | ⟨c1, h⟩
    · refine w_icmpge_t (j := 20) rfl c1 rfl ?_
      obtain rfl := Option.some.inj h
      exact hq _ _ rfl
    · refine w_icmpge_f (j := 5) rfl c1 rfl ?_
      refine w_aload_n (j := 6) rfl rfl rfl ?_
      refine w_getR (j := 7) rfl rfl rfl rfl rfl rfl ?_
      refine w_aload_n (j := 8) rfl rfl rfl ?_
      refine w_getI (j := 9) rfl rfl rfl rfl rfl ?_
      obtain ⟨q2, hq2, h⟩ := Option.bind_eq_some_iff.mp h
      refine wc_AI_I (j := 10) (T := []) rfl rfl rfl rfl rfl rfl rfl rfl rfl rfl ?_
      refine R_X7_kindAt hq2 ⟨_, rfl, ?_⟩
      obtain ⟨q3, hq3, h⟩ := Option.bind_eq_some_iff.mp h
      refine wc_I_I (j := 11) (T := []) rfl rfl rfl rfl rfl rfl rfl rfl rfl rfl ?_
      refine R_X2_isStop hq3 ⟨_, rfl, ?_⟩
      rcases xite_inv h with ⟨c4, h⟩ | ⟨c4, h⟩
      · refine w_ifeq_t (j := 20) rfl c4 rfl ?_
        obtain rfl := Option.some.inj h
        exact hq _ _ rfl
      · refine w_ifeq_f (j := 12) rfl c4 rfl ?_
        refine w_aload_n (j := 13) rfl rfl rfl ?_
        refine w_dup (j := 14) rfl rfl rfl ?_
        refine w_getI (j := 15) rfl rfl rfl rfl rfl ?_
        refine w_iconst (z := (1 : Int32)) (j := 16) rfl rfl rfl ?_
        refine w_iadd (j := 17) rfl rfl ?_
        refine w_putI (j := 18) rfl rfl rfl rfl rfl ?_
        try dsimp only at h
        refine w_iinc (cc := (1 : Int32)) (j := 19) rfl rfl rfl (l1_1 rfl) rfl ?_
        refine w_goto (j := 2) rfl rfl ?_
        exact ih _ _ _ h hq
set_option maxHeartbeats 2000000 in
set_option maxRecDepth 20000 in
theorem R_X2_skipStops {d : Nat}  {s : St} {q : St} {Q : Option Value → xM → Prop}  (h : F_X2_skipStops  s = some q) (hq : Q none (SH, q.1, q.2)) : wp (d + 1) mX2_skipStops 0 [some (.ref 80), none] [] (SH, s.1, s.2) Q := by
  unfold F_X2_skipStops at h
  try dsimp only at h
  refine w_iconst (z := (0 : Int32)) (j := 1) rfl rfl rfl ?_
  refine w_istore_n (j := 2) rfl (l1_1 rfl) rfl ?_
  obtain ⟨q6, hq6, h⟩ := Option.bind_eq_some_iff.mp h
  refine RL_X2_skipStops_2  _ _ _ _ hq6 (fun v7 v8 hv7 => ?_)
  obtain rfl := Option.some.inj h
  exact wp_vret rfl rfl rfl hq
set_option maxHeartbeats 2000000 in
set_option maxRecDepth 20000 in
theorem RL_X2_readOrder_36 {d : Nat}  {Q : Option Value → xM → Prop}  : ∀ (n : Nat) (l2 : Int32) (u1 u3 : Option Value) (s : St) (q : Int32 × St)  (hu1 : xlong u1 = false) (h : L_X2_readOrder_36  n l2 s = some q) (hq : Q (some (.int q.1)) (SH, q.2.1, q.2.2)), wp (d + 5) mX2_readOrder 36 [some (.ref 80), u1, some (.int l2), u3] [] (SH, s.1, s.2) Q := by
  intro n
  induction n with
  | zero => intro l2 u1 u3 s q hu1 h; cases h
  | succ n ih =>
    intro l2 u1 u3 s q hu1 h hq
    unfold L_X2_readOrder_36 at h
    try dsimp only at h
    refine w_iload_n (j := 37) rfl rfl rfl ?_
    refine w_bipush (z := (10 : Int32)) (j := 38) rfl rfl rfl ?_
    rcases xite_inv h with ⟨c9, h⟩ | ⟨c9, h⟩
    · refine w_icmpgt_t (j := 69) rfl c9 rfl ?_
      refine w_iconst (z := (0 : Int32)) (j := 70) rfl rfl rfl ?_
      obtain rfl := Option.some.inj h
      exact wp_ret rfl rfl rfl hq
    · refine w_icmpgt_f (j := 39) rfl c9 rfl ?_
      refine w_aload_n (j := 40) rfl rfl rfl ?_
      obtain ⟨q10, hq10, h⟩ := Option.bind_eq_some_iff.mp h
      refine wc_A_I (j := 41) (T := [none, none]) rfl rfl rfl rfl rfl rfl rfl rfl rfl rfl ?_
      refine R_X2_readCommand hq10 ⟨_, rfl, ?_⟩
      rcases xite_inv h with ⟨c11, h⟩ | ⟨c11, h⟩
      · refine w_ifne_f (j := 42) rfl c11 rfl ?_
        refine w_iconst (z := (0 : Int32)) (j := 43) rfl rfl rfl ?_
        obtain rfl := Option.some.inj h
        exact wp_ret rfl rfl rfl hq
      · refine w_ifne_t (j := 44) rfl c11 rfl ?_
        refine w_aload_n (j := 45) rfl rfl rfl ?_
        obtain ⟨q12, hq12, h⟩ := Option.bind_eq_some_iff.mp h
        refine wc_A_I (j := 46) (T := []) rfl rfl rfl rfl rfl rfl rfl rfl rfl rfl ?_
        refine R_X2_isCommandAnd hq12 ⟨_, rfl, ?_⟩
        refine w_istore_n (j := 47) rfl (l1_3 rfl) rfl ?_
        refine w_iload_n (j := 48) rfl rfl rfl ?_
        rcases xite_inv h with ⟨c13, h⟩ | ⟨c13, h⟩
        · refine w_ifne_f (j := 49) rfl c13 rfl ?_
          refine w_aload_n (j := 50) rfl rfl rfl ?_
          obtain ⟨q14, hq14, h⟩ := Option.bind_eq_some_iff.mp h
          refine wc_A_I (j := 51) (T := [none]) rfl rfl rfl rfl rfl rfl rfl rfl rfl rfl ?_
          refine R_X2_isOrderEnd hq14 ⟨_, rfl, ?_⟩
          rcases xite_inv h with ⟨c15, h⟩ | ⟨c15, h⟩
          · refine w_ifne_f (j := 52) rfl c15 rfl ?_
            refine w_aload_n (j := 53) rfl rfl rfl ?_
            obtain ⟨q16, hq16, h⟩ := Option.bind_eq_some_iff.mp h
            refine wc_A_I (j := 54) (T := []) rfl rfl rfl rfl rfl rfl rfl rfl rfl rfl ?_
            refine R_X2_failMisplaced hq16 ⟨_, rfl, ?_⟩
            rcases xite_inv h with ⟨hb, h⟩ | ⟨hb, h⟩
            · obtain rfl := Option.some.inj h
              exact wp_ret rfl rfl (xretb hb) hq
            · cases h
          · refine w_ifne_t (j := 55) rfl c15 rfl ?_
            refine w_aload_n (j := 56) rfl rfl rfl ?_
            obtain ⟨q17, hq17, h⟩ := Option.bind_eq_some_iff.mp h
            refine wc_A_V (j := 57) (T := []) rfl rfl rfl rfl rfl rfl rfl rfl rfl rfl ?_
            refine R_X2_keepDraft hq17 ⟨rfl, ?_⟩
            refine w_iload_n (j := 58) rfl rfl rfl ?_
            refine w_ifne_f (j := 59) rfl c13 rfl ?_
            refine w_iconst (z := (1 : Int32)) (j := 60) rfl rfl rfl ?_
            obtain rfl := Option.some.inj h
            exact wp_ret rfl rfl rfl hq
        · refine w_ifne_t (j := 55) rfl c13 rfl ?_
          refine w_aload_n (j := 56) rfl rfl rfl ?_
          obtain ⟨q18, hq18, h⟩ := Option.bind_eq_some_iff.mp h
          refine wc_A_V (j := 57) (T := []) rfl rfl rfl rfl rfl rfl rfl rfl rfl rfl ?_
          refine R_X2_keepDraft hq18 ⟨rfl, ?_⟩
          refine w_iload_n (j := 58) rfl rfl rfl ?_
          refine w_ifne_t (j := 61) rfl c13 rfl ?_
          refine w_aload_n (j := 62) rfl rfl rfl ?_
          refine w_dup (j := 63) rfl rfl rfl ?_
          refine w_getI (j := 64) rfl rfl rfl rfl rfl ?_
          refine w_iconst (z := (1 : Int32)) (j := 65) rfl rfl rfl ?_
          refine w_iadd (j := 66) rfl rfl ?_
          refine w_putI (j := 67) rfl rfl rfl rfl rfl ?_
          try dsimp only at h
          refine w_iinc (cc := (1 : Int32)) (j := 68) rfl rfl rfl (l1_2 hu1) rfl ?_
          refine w_goto (j := 36) rfl rfl ?_
          exact ih _ _ _ _ _ hu1 h hq
set_option maxHeartbeats 2000000 in
set_option maxRecDepth 20000 in
theorem R_X2_readOrder {d : Nat}  {s : St} {q : Int32 × St} {Q : Option Value → xM → Prop}  (h : F_X2_readOrder  s = some q) (hq : Q (some (.int q.1)) (SH, q.2.1, q.2.2)) : wp (d + 5) mX2_readOrder 0 [some (.ref 80), none, none, none] [] (SH, s.1, s.2) Q := by
  unfold F_X2_readOrder at h
  try dsimp only at h
  refine w_aload_n (j := 1) rfl rfl rfl ?_
  obtain ⟨q1, hq1, h⟩ := Option.bind_eq_some_iff.mp h
  refine wc_A_V (j := 2) (T := [none]) rfl rfl rfl rfl rfl rfl rfl rfl rfl rfl ?_
  refine R_X2_skipStops hq1 ⟨rfl, ?_⟩
  refine w_aload_n (j := 3) rfl rfl rfl ?_
  refine w_getR (j := 4) rfl rfl rfl rfl rfl rfl ?_
  refine w_aload_n (j := 5) rfl rfl rfl ?_
  refine w_getI (j := 6) rfl rfl rfl rfl rfl ?_
  obtain ⟨q2, hq2, h⟩ := Option.bind_eq_some_iff.mp h
  refine wc_AI_I (j := 7) (T := []) rfl rfl rfl rfl rfl rfl rfl rfl rfl rfl ?_
  refine R_X7_kindAt hq2 ⟨_, rfl, ?_⟩
  refine w_istore_n (j := 8) rfl (l1_1 rfl) rfl ?_
  refine w_iload_n (j := 9) rfl rfl rfl ?_
  refine w_bipush (z := (28 : Int32)) (j := 10) rfl rfl rfl ?_
  rcases xite_inv h with ⟨c3, h⟩ | ⟨c3, h⟩
  · refine w_icmpne_f (j := 11) rfl c3 rfl ?_
    refine w_iconst (z := (0 : Int32)) (j := 12) rfl rfl rfl ?_
    obtain rfl := Option.some.inj h
    exact wp_ret rfl rfl rfl hq
  · refine w_icmpne_t (j := 13) rfl c3 rfl ?_
    refine w_iload_n (j := 14) rfl rfl rfl ?_
    refine w_bipush (z := (7 : Int32)) (j := 15) rfl rfl rfl ?_
    rcases xite_inv h with ⟨c4, h⟩ | ⟨c4, h⟩
    · refine w_icmpne_f (j := 16) rfl c4 rfl ?_
      refine w_aload_n (j := 17) rfl rfl rfl ?_
      obtain ⟨q5, hq5, h⟩ := Option.bind_eq_some_iff.mp h
      refine wc_A_I (j := 18) (T := []) rfl rfl rfl rfl rfl rfl rfl rfl rfl rfl ?_
      refine R_X2_readAgain hq5 ⟨_, rfl, ?_⟩
      rcases xite_inv h with ⟨hb, h⟩ | ⟨hb, h⟩
      · obtain rfl := Option.some.inj h
        exact wp_ret rfl rfl (xretb hb) hq
      · cases h
    · refine w_icmpne_t (j := 19) rfl c4 rfl ?_
      refine w_aload_n (j := 20) rfl rfl rfl ?_
      refine w_getR (j := 21) rfl rfl rfl rfl rfl rfl ?_
      refine w_iconst (z := (0 : Int32)) (j := 22) rfl rfl rfl ?_
      refine w_putI (j := 23) rfl rfl rfl rfl rfl ?_
      try dsimp only at h
      refine w_aload_n (j := 24) rfl rfl rfl ?_
      refine w_getR (j := 25) rfl rfl rfl rfl rfl rfl ?_
      obtain ⟨q7, hq7, h⟩ := Option.bind_eq_some_iff.mp h
      refine wc_A_V (j := 26) (T := []) rfl rfl rfl rfl rfl rfl rfl rfl rfl rfl ?_
      refine R_X5_clear (show TL 92 from ⟨rfl, rfl⟩) hq7 ⟨rfl, ?_⟩
      refine w_iload_n (j := 27) rfl rfl rfl ?_
      refine w_bipush (z := (24 : Int32)) (j := 28) rfl rfl rfl ?_
      rcases xite_inv h with ⟨c8, h⟩ | ⟨c8, h⟩
      · refine w_icmpeq_t (j := 34) rfl c8 rfl ?_
        refine w_iconst (z := (0 : Int32)) (j := 35) rfl rfl rfl ?_
        refine w_istore_n (j := 36) rfl (l1_2 rfl) rfl ?_
        exact RL_X2_readOrder_36  _ _ _ _ _ _ rfl h hq
      · refine w_icmpeq_f (j := 29) rfl c8 rfl ?_
        refine w_aload_n (j := 30) rfl rfl rfl ?_
        obtain ⟨q20, hq20, h⟩ := Option.bind_eq_some_iff.mp h
        refine wc_A_I (j := 31) (T := [none, none, none]) rfl rfl rfl rfl rfl rfl rfl rfl rfl rfl ?_
        refine R_X2_readActor hq20 ⟨_, rfl, ?_⟩
        rcases xite_inv h with ⟨c21, h⟩ | ⟨c21, h⟩
        · refine w_ifne_f (j := 32) rfl c21 rfl ?_
          refine w_iconst (z := (0 : Int32)) (j := 33) rfl rfl rfl ?_
          obtain rfl := Option.some.inj h
          exact wp_ret rfl rfl rfl hq
        · refine w_ifne_t (j := 34) rfl c21 rfl ?_
          refine w_iconst (z := (0 : Int32)) (j := 35) rfl rfl rfl ?_
          refine w_istore_n (j := 36) rfl (l1_2 rfl) rfl ?_
          exact RL_X2_readOrder_36  _ _ _ _ _ _ rfl h hq
set_option maxHeartbeats 2000000 in
set_option maxRecDepth 20000 in
theorem R_X4_clear {d : Nat}  {s : St} {q : St} {Q : Option Value → xM → Prop}  (h : F_X4_clear  s = some q) (hq : Q none (SH, q.1, q.2)) : wp (d + 0) mX4_clear 0 [some (.ref 12)] [] (SH, s.1, s.2) Q := by
  unfold F_X4_clear at h
  try dsimp only at h
  refine w_aload_n (j := 1) rfl rfl rfl ?_
  refine w_iconst (z := (0 : Int32)) (j := 2) rfl rfl rfl ?_
  refine w_putI (j := 3) rfl rfl rfl rfl rfl ?_
  try dsimp only at h
  obtain rfl := Option.some.inj h
  exact wp_vret rfl rfl rfl hq
set_option maxHeartbeats 2000000 in
set_option maxRecDepth 20000 in
theorem RL_X4_append_10 {d : Nat}  {Q : Option Value → xM → Prop}  : ∀ (n : Nat) (l1 : Int32) (l2 : Int64) (l4 : Int32)  (s : St) (q : St)   (h : L_X4_append_10  n l1 l2 l4 s = some q) (hq : ∀ (v0 v1 v2 v3 v4 : Option Value), xlong v3 = false → wp (d + 0) mX4_append 34 [v0, v1, v2, v3, v4] [] (SH, q.1, q.2) Q), wp (d + 0) mX4_append 10 [some (.ref 12), some (.int l1), some (.long l2), none, some (.int l4)] [] (SH, s.1, s.2) Q := by
  intro n
  induction n with
  | zero => intro l1 l2 l4 s q h; cases h
  | succ n ih =>
    intro l1 l2 l4 s q h hq
    unfold L_X4_append_10 at h
    try dsimp only at h
    refine w_iload (j := 11) rfl rfl rfl ?_
    refine w_iload_n (j := 12) rfl rfl rfl ?_
    rcases xite_inv h with ⟨c2, h⟩ | ⟨c2, h⟩
    · refine w_icmpge_t (j := 34) rfl c2 rfl ?_
      obtain rfl := Option.some.inj h
      exact hq _ _ _ _ _ rfl
    · refine w_icmpge_f (j := 13) rfl c2 rfl ?_
      refine w_aload_n (j := 14) rfl rfl rfl ?_
      refine w_getR (j := 15) rfl rfl rfl rfl rfl rfl ?_
      refine w_aload_n (j := 16) rfl rfl rfl ?_
      refine w_getI (j := 17) rfl rfl rfl rfl rfl ?_
      refine w_lload_n (j := 18) rfl rfl rfl ?_
      refine w_bipush (z := (8 : Int32)) (j := 19) rfl rfl rfl ?_
      refine w_iload (j := 20) rfl rfl rfl ?_
      refine w_imul (j := 21) rfl rfl ?_
      refine w_lshr (j := 22) rfl rfl ?_
      refine w_ldc2_w (z := (255 : Int64)) (j := 23) rfl rfl rfl ?_
      refine w_land (j := 24) rfl rfl ?_
      refine w_l2i (j := 25) rfl rfl ?_
      rcases xite_inv h with ⟨g3, h⟩ | ⟨g3, h⟩
      · cases h
      · refine w_iastore (j := 26) rfl rfl g3 rfl ?_
        try dsimp only at h
        refine w_aload_n (j := 27) rfl rfl rfl ?_
        refine w_dup (j := 28) rfl rfl rfl ?_
        refine w_getI (j := 29) rfl rfl rfl rfl rfl ?_
        refine w_iconst (z := (1 : Int32)) (j := 30) rfl rfl rfl ?_
        refine w_iadd (j := 31) rfl rfl ?_
        refine w_putI (j := 32) rfl rfl rfl rfl rfl ?_
        try dsimp only at h
        refine w_iinc (cc := (1 : Int32)) (j := 33) rfl rfl rfl (l1_4 rfl) rfl ?_
        refine w_goto (j := 10) rfl rfl ?_
        exact ih _ _ _ _ _ h hq
set_option maxHeartbeats 2000000 in
set_option maxRecDepth 20000 in
theorem R_X4_append {d : Nat} {a0 : Int32} {a1 : Int64} {s : St} {q : Int32 × St} {Q : Option Value → xM → Prop}  (h : F_X4_append a0 a1 s = some q) (hq : Q (some (.int q.1)) (SH, q.2.1, q.2.2)) : wp (d + 0) mX4_append 0 [some (.ref 12), some (.int a0), some (.long a1), none, none] [] (SH, s.1, s.2) Q := by
  unfold F_X4_append at h
  try dsimp only at h
  refine w_iload_n (j := 1) rfl rfl rfl ?_
  refine w_sipush (z := (200 : Int32)) (j := 2) rfl rfl rfl ?_
  refine w_aload_n (j := 3) rfl rfl rfl ?_
  refine w_getI (j := 4) rfl rfl rfl rfl rfl ?_
  refine w_isub (j := 5) rfl rfl ?_
  rcases xite_inv h with ⟨c1, h⟩ | ⟨c1, h⟩
  · refine w_icmple_t (j := 8) rfl c1 rfl ?_
    refine w_iconst (z := (0 : Int32)) (j := 9) rfl rfl rfl ?_
    refine w_istore (j := 10) rfl (l1_4 rfl) rfl ?_
    obtain ⟨q6, hq6, h⟩ := Option.bind_eq_some_iff.mp h
    refine RL_X4_append_10  _ _ _ _ _ _ hq6 (fun v7 v8 v9 v10 v11 hv10 => ?_)
    refine w_iconst (z := (1 : Int32)) (j := 35) rfl rfl rfl ?_
    obtain rfl := Option.some.inj h
    exact wp_ret rfl rfl rfl hq
  · refine w_icmple_f (j := 6) rfl c1 rfl ?_
    refine w_iconst (z := (0 : Int32)) (j := 7) rfl rfl rfl ?_
    obtain rfl := Option.some.inj h
    exact wp_ret rfl rfl rfl hq
set_option maxHeartbeats 2000000 in
set_option maxRecDepth 20000 in
theorem RL_X4_isPlainWord_2 {d : Nat}  {Q : Option Value → xM → Prop}  : ∀ (n : Nat) (l1 : Int32)  (s : St) (q : Int32 × St)   (h : L_X4_isPlainWord_2  n l1 s = some q) (hq : Q (some (.int q.1)) (SH, q.2.1, q.2.2)), wp (d + 0) mX4_isPlainWord 2 [some (.ref 12), some (.int l1)] [] (SH, s.1, s.2) Q := by
  intro n
  induction n with
  | zero => intro l1 s q h; cases h
  | succ n ih =>
    intro l1 s q h hq
    unfold L_X4_isPlainWord_2 at h
    try dsimp only at h
    refine w_iload_n (j := 3) rfl rfl rfl ?_
    refine w_aload_n (j := 4) rfl rfl rfl ?_
    refine w_getI (j := 5) rfl rfl rfl rfl rfl ?_
    rcases xite_inv h with ⟨c1, h⟩ | ⟨c1, h⟩
    · refine w_icmpge_t (j := 22) rfl c1 rfl ?_
      refine w_aload_n (j := 23) rfl rfl rfl ?_
      refine w_getI (j := 24) rfl rfl rfl rfl rfl ?_
      refine w_iconst (z := (1 : Int32)) (j := 25) rfl rfl rfl ?_
      rcases xite_inv h with ⟨c2, h⟩ | ⟨c2, h⟩
      · refine w_icmplt_t (j := 32) rfl c2 rfl ?_
        refine w_iconst (z := (0 : Int32)) (j := 33) rfl rfl rfl ?_
        obtain rfl := Option.some.inj h
        exact wp_ret rfl rfl rfl hq
      · refine w_icmplt_f (j := 26) rfl c2 rfl ?_
        refine w_aload_n (j := 27) rfl rfl rfl ?_
        refine w_getI (j := 28) rfl rfl rfl rfl rfl ?_
        refine w_bipush (z := (8 : Int32)) (j := 29) rfl rfl rfl ?_
        rcases xite_inv h with ⟨c3, h⟩ | ⟨c3, h⟩
        · refine w_icmpgt_t (j := 32) rfl c3 rfl ?_
          refine w_iconst (z := (0 : Int32)) (j := 33) rfl rfl rfl ?_
          obtain rfl := Option.some.inj h
          exact wp_ret rfl rfl rfl hq
        · refine w_icmpgt_f (j := 30) rfl c3 rfl ?_
          refine w_iconst (z := (1 : Int32)) (j := 31) rfl rfl rfl ?_
          refine w_goto (j := 33) rfl rfl ?_
          obtain rfl := Option.some.inj h
          exact wp_ret rfl rfl rfl hq
    · refine w_icmpge_f (j := 6) rfl c1 rfl ?_
      refine w_aload_n (j := 7) rfl rfl rfl ?_
      refine w_getR (j := 8) rfl rfl rfl rfl rfl rfl ?_
      refine w_iload_n (j := 9) rfl rfl rfl ?_
      rcases xite_inv h with ⟨g4, h⟩ | ⟨g4, h⟩
      · cases h
      · refine w_iaload (j := 10) rfl rfl g4 rfl ?_
        refine w_bipush (z := (97 : Int32)) (j := 11) rfl rfl rfl ?_
        rcases xite_inv h with ⟨c5, h⟩ | ⟨c5, h⟩
        · refine w_icmplt_t (j := 18) rfl c5 rfl ?_
          refine w_iconst (z := (0 : Int32)) (j := 19) rfl rfl rfl ?_
          obtain rfl := Option.some.inj h
          exact wp_ret rfl rfl rfl hq
        · refine w_icmplt_f (j := 12) rfl c5 rfl ?_
          refine w_aload_n (j := 13) rfl rfl rfl ?_
          refine w_getR (j := 14) rfl rfl rfl rfl rfl rfl ?_
          refine w_iload_n (j := 15) rfl rfl rfl ?_
          refine w_iaload (j := 16) rfl rfl g4 rfl ?_
          refine w_bipush (z := (122 : Int32)) (j := 17) rfl rfl rfl ?_
          rcases xite_inv h with ⟨c6, h⟩ | ⟨c6, h⟩
          · refine w_icmple_t (j := 20) rfl c6 rfl ?_
            refine w_iinc (cc := (1 : Int32)) (j := 21) rfl rfl rfl (l1_1 rfl) rfl ?_
            refine w_goto (j := 2) rfl rfl ?_
            exact ih _ _ _ h hq
          · refine w_icmple_f (j := 18) rfl c6 rfl ?_
            refine w_iconst (z := (0 : Int32)) (j := 19) rfl rfl rfl ?_
            obtain rfl := Option.some.inj h
            exact wp_ret rfl rfl rfl hq
set_option maxHeartbeats 2000000 in
set_option maxRecDepth 20000 in
theorem R_X4_isPlainWord {d : Nat}  {s : St} {q : Int32 × St} {Q : Option Value → xM → Prop}  (h : F_X4_isPlainWord  s = some q) (hq : Q (some (.int q.1)) (SH, q.2.1, q.2.2)) : wp (d + 0) mX4_isPlainWord 0 [some (.ref 12), none] [] (SH, s.1, s.2) Q := by
  unfold F_X4_isPlainWord at h
  try dsimp only at h
  refine w_iconst (z := (0 : Int32)) (j := 1) rfl rfl rfl ?_
  refine w_istore_n (j := 2) rfl (l1_1 rfl) rfl ?_
  exact RL_X4_isPlainWord_2  _ _ _ _ h hq
set_option maxHeartbeats 2000000 in
set_option maxRecDepth 20000 in
theorem R_X6_has {d : Nat} {a0 : Int32} {s : St} {q : Int32 × St} {Q : Option Value → xM → Prop}  (h : F_X6_has a0 s = some q) (hq : Q (some (.int q.1)) (SH, q.2.1, q.2.2)) : wp (d + 0) mX6_has 0 [some (.ref 1), some (.int a0)] [] (SH, s.1, s.2) Q := by
  unfold F_X6_has at h
  try dsimp only at h
  refine w_iload_n (j := 1) rfl rfl rfl ?_
  rcases xite_inv h with ⟨c1, h⟩ | ⟨c1, h⟩
  · refine w_iflt_t (j := 8) rfl c1 rfl ?_
    refine w_iconst (z := (0 : Int32)) (j := 9) rfl rfl rfl ?_
    obtain rfl := Option.some.inj h
    exact wp_ret rfl rfl rfl hq
  · refine w_iflt_f (j := 2) rfl c1 rfl ?_
    refine w_iload_n (j := 3) rfl rfl rfl ?_
    refine w_aload_n (j := 4) rfl rfl rfl ?_
    refine w_getI (j := 5) rfl rfl rfl rfl rfl ?_
    rcases xite_inv h with ⟨c2, h⟩ | ⟨c2, h⟩
    · refine w_icmpge_t (j := 8) rfl c2 rfl ?_
      refine w_iconst (z := (0 : Int32)) (j := 9) rfl rfl rfl ?_
      obtain rfl := Option.some.inj h
      exact wp_ret rfl rfl rfl hq
    · refine w_icmpge_f (j := 6) rfl c2 rfl ?_
      refine w_iconst (z := (1 : Int32)) (j := 7) rfl rfl rfl ?_
      refine w_goto (j := 9) rfl rfl ?_
      obtain rfl := Option.some.inj h
      exact wp_ret rfl rfl rfl hq
set_option maxHeartbeats 2000000 in
set_option maxRecDepth 20000 in
theorem R_X6_add {d : Nat} {a0 : Int32} {s : St} {q : Int32 × St} {Q : Option Value → xM → Prop}  (h : F_X6_add a0 s = some q) (hq : Q (some (.int q.1)) (SH, q.2.1, q.2.2)) : wp (d + 1) mX6_add 0 [some (.ref 1), some (.int a0)] [] (SH, s.1, s.2) Q := by
  unfold F_X6_add at h
  try dsimp only at h
  refine w_aload_n (j := 1) rfl rfl rfl ?_
  refine w_getI (j := 2) rfl rfl rfl rfl rfl ?_
  refine w_bipush (z := (24 : Int32)) (j := 3) rfl rfl rfl ?_
  rcases xite_inv h with ⟨c1, h⟩ | ⟨c1, h⟩
  · refine w_icmplt_t (j := 6) rfl c1 rfl ?_
    refine w_aload_n (j := 7) rfl rfl rfl ?_
    refine w_getR (j := 8) rfl rfl rfl rfl rfl rfl ?_
    refine w_aload_n (j := 9) rfl rfl rfl ?_
    refine w_getI (j := 10) rfl rfl rfl rfl rfl ?_
    refine w_iload_n (j := 11) rfl rfl rfl ?_
    rcases xite_inv h with ⟨g2, h⟩ | ⟨g2, h⟩
    · cases h
    · refine w_iastore (j := 12) rfl rfl g2 rfl ?_
      try dsimp only at h
      refine w_aload_n (j := 13) rfl rfl rfl ?_
      refine w_dup (j := 14) rfl rfl rfl ?_
      refine w_getI (j := 15) rfl rfl rfl rfl rfl ?_
      refine w_aload_n (j := 16) rfl rfl rfl ?_
      refine w_getI (j := 17) rfl rfl rfl rfl rfl ?_
      obtain ⟨q4, hq4, h⟩ := Option.bind_eq_some_iff.mp h
      refine wc_I_I (j := 18) (T := []) rfl rfl rfl rfl rfl rfl rfl rfl rfl rfl ?_
      refine R_X9_bitOf hq4 ⟨_, rfl, ?_⟩
      refine w_ior (j := 19) rfl rfl ?_
      refine w_putI (j := 20) rfl rfl rfl rfl rfl ?_
      try dsimp only at h
      refine w_aload_n (j := 21) rfl rfl rfl ?_
      refine w_dup (j := 22) rfl rfl rfl ?_
      refine w_getI (j := 23) rfl rfl rfl rfl rfl ?_
      refine w_iconst (z := (1 : Int32)) (j := 24) rfl rfl rfl ?_
      refine w_iadd (j := 25) rfl rfl ?_
      refine w_putI (j := 26) rfl rfl rfl rfl rfl ?_
      try dsimp only at h
      refine w_aload_n (j := 27) rfl rfl rfl ?_
      refine w_getI (j := 28) rfl rfl rfl rfl rfl ?_
      refine w_iconst (z := (1 : Int32)) (j := 29) rfl rfl rfl ?_
      refine w_isub (j := 30) rfl rfl ?_
      obtain rfl := Option.some.inj h
      exact wp_ret rfl rfl rfl hq
  · refine w_icmplt_f (j := 4) rfl c1 rfl ?_
    refine w_bipush (z := (-3 : Int32)) (j := 5) rfl rfl rfl ?_
    obtain rfl := Option.some.inj h
    exact wp_ret rfl rfl rfl hq
set_option maxHeartbeats 2000000 in
set_option maxRecDepth 20000 in
theorem R_X6_setSeen {d : Nat} {a0 : Int32} {a1 : Int32} {s : St} {q : St} {Q : Option Value → xM → Prop}  (h : F_X6_setSeen a0 a1 s = some q) (hq : Q none (SH, q.1, q.2)) : wp (d + 1) mX6_setSeen 0 [some (.ref 1), some (.int a0), some (.int a1)] [] (SH, s.1, s.2) Q := by
  unfold F_X6_setSeen at h
  try dsimp only at h
  refine w_aload_n (j := 1) rfl rfl rfl ?_
  refine w_iload_n (j := 2) rfl rfl rfl ?_
  rcases xite_inv h with ⟨c1, h⟩ | ⟨c1, h⟩
  · refine w_ifeq_t (j := 9) rfl c1 rfl ?_
    refine w_aload_n (j := 10) rfl rfl rfl ?_
    refine w_getI (j := 11) rfl rfl rfl rfl rfl ?_
    refine w_iload_n (j := 12) rfl rfl rfl ?_
    obtain ⟨q2, hq2, h⟩ := Option.bind_eq_some_iff.mp h
    refine wc_I_I (j := 13) (T := []) rfl rfl rfl rfl rfl rfl rfl rfl rfl rfl ?_
    refine R_X9_bitOf hq2 ⟨_, rfl, ?_⟩
    refine w_iconst (z := (-1 : Int32)) (j := 14) rfl rfl rfl ?_
    refine w_ixor (j := 15) rfl rfl ?_
    refine w_iand (j := 16) rfl rfl ?_
    refine w_putI (j := 17) rfl rfl rfl rfl rfl ?_
    try dsimp only at h
    obtain rfl := Option.some.inj h
    exact wp_vret rfl rfl rfl hq
  · refine w_ifeq_f (j := 3) rfl c1 rfl ?_
    refine w_aload_n (j := 4) rfl rfl rfl ?_
    refine w_getI (j := 5) rfl rfl rfl rfl rfl ?_
    refine w_iload_n (j := 6) rfl rfl rfl ?_
    obtain ⟨q4, hq4, h⟩ := Option.bind_eq_some_iff.mp h
    refine wc_I_I (j := 7) (T := []) rfl rfl rfl rfl rfl rfl rfl rfl rfl rfl ?_
    refine R_X9_bitOf hq4 ⟨_, rfl, ?_⟩
    refine w_ior (j := 8) rfl rfl ?_
    refine w_goto (j := 16) rfl rfl ?_
    refine w_putI (j := 17) rfl rfl rfl rfl rfl ?_
    try dsimp only at h
    obtain rfl := Option.some.inj h
    exact wp_vret rfl rfl rfl hq
set_option maxHeartbeats 2000000 in
set_option maxRecDepth 20000 in
theorem R_X6_setKind {d : Nat} {a0 : Int32} {a1 : Int32} {s : St} {q : St} {Q : Option Value → xM → Prop}  (h : F_X6_setKind a0 a1 s = some q) (hq : Q none (SH, q.1, q.2)) : wp (d + 0) mX6_setKind 0 [some (.ref 1), some (.int a0), some (.int a1)] [] (SH, s.1, s.2) Q := by
  unfold F_X6_setKind at h
  try dsimp only at h
  refine w_iload_n (j := 1) rfl rfl rfl ?_
  rcases xite_inv h with ⟨c1, h⟩ | ⟨c1, h⟩
  · refine w_iflt_t (j := 11) rfl c1 rfl ?_
    obtain rfl := Option.some.inj h
    exact wp_vret rfl rfl rfl hq
  · refine w_iflt_f (j := 2) rfl c1 rfl ?_
    refine w_iload_n (j := 3) rfl rfl rfl ?_
    refine w_aload_n (j := 4) rfl rfl rfl ?_
    refine w_getI (j := 5) rfl rfl rfl rfl rfl ?_
    rcases xite_inv h with ⟨c2, h⟩ | ⟨c2, h⟩
    · refine w_icmpge_t (j := 11) rfl c2 rfl ?_
      obtain rfl := Option.some.inj h
      exact wp_vret rfl rfl rfl hq
    · refine w_icmpge_f (j := 6) rfl c2 rfl ?_
      refine w_aload_n (j := 7) rfl rfl rfl ?_
      refine w_getR (j := 8) rfl rfl rfl rfl rfl rfl ?_
      refine w_iload_n (j := 9) rfl rfl rfl ?_
      refine w_iload_n (j := 10) rfl rfl rfl ?_
      rcases xite_inv h with ⟨g3, h⟩ | ⟨g3, h⟩
      · cases h
      · refine w_iastore (j := 11) rfl rfl g3 rfl ?_
        try dsimp only at h
        obtain rfl := Option.some.inj h
        exact wp_vret rfl rfl rfl hq
set_option maxHeartbeats 2000000 in
set_option maxRecDepth 20000 in
theorem R_X6_setOwner {d : Nat} {a0 : Int32} {a1 : Int32} {s : St} {q : St} {Q : Option Value → xM → Prop}  (h : F_X6_setOwner a0 a1 s = some q) (hq : Q none (SH, q.1, q.2)) : wp (d + 0) mX6_setOwner 0 [some (.ref 1), some (.int a0), some (.int a1)] [] (SH, s.1, s.2) Q := by
  unfold F_X6_setOwner at h
  try dsimp only at h
  refine w_iload_n (j := 1) rfl rfl rfl ?_
  rcases xite_inv h with ⟨c1, h⟩ | ⟨c1, h⟩
  · refine w_iflt_t (j := 11) rfl c1 rfl ?_
    obtain rfl := Option.some.inj h
    exact wp_vret rfl rfl rfl hq
  · refine w_iflt_f (j := 2) rfl c1 rfl ?_
    refine w_iload_n (j := 3) rfl rfl rfl ?_
    refine w_aload_n (j := 4) rfl rfl rfl ?_
    refine w_getI (j := 5) rfl rfl rfl rfl rfl ?_
    rcases xite_inv h with ⟨c2, h⟩ | ⟨c2, h⟩
    · refine w_icmpge_t (j := 11) rfl c2 rfl ?_
      obtain rfl := Option.some.inj h
      exact wp_vret rfl rfl rfl hq
    · refine w_icmpge_f (j := 6) rfl c2 rfl ?_
      refine w_aload_n (j := 7) rfl rfl rfl ?_
      refine w_getR (j := 8) rfl rfl rfl rfl rfl rfl ?_
      refine w_iload_n (j := 9) rfl rfl rfl ?_
      refine w_iload_n (j := 10) rfl rfl rfl ?_
      rcases xite_inv h with ⟨g3, h⟩ | ⟨g3, h⟩
      · cases h
      · refine w_iastore (j := 11) rfl rfl g3 rfl ?_
        try dsimp only at h
        obtain rfl := Option.some.inj h
        exact wp_vret rfl rfl rfl hq
set_option maxHeartbeats 2000000 in
set_option maxRecDepth 20000 in
theorem R_X8_has {d : Nat} {a0 : Int32} {s : St} {q : Int32 × St} {Q : Option Value → xM → Prop}  (h : F_X8_has a0 s = some q) (hq : Q (some (.int q.1)) (SH, q.2.1, q.2.2)) : wp (d + 0) mX8_has 0 [some (.ref 4), some (.int a0)] [] (SH, s.1, s.2) Q := by
  unfold F_X8_has at h
  try dsimp only at h
  refine w_iload_n (j := 1) rfl rfl rfl ?_
  rcases xite_inv h with ⟨c1, h⟩ | ⟨c1, h⟩
  · refine w_iflt_t (j := 8) rfl c1 rfl ?_
    refine w_iconst (z := (0 : Int32)) (j := 9) rfl rfl rfl ?_
    obtain rfl := Option.some.inj h
    exact wp_ret rfl rfl rfl hq
  · refine w_iflt_f (j := 2) rfl c1 rfl ?_
    refine w_iload_n (j := 3) rfl rfl rfl ?_
    refine w_aload_n (j := 4) rfl rfl rfl ?_
    refine w_getI (j := 5) rfl rfl rfl rfl rfl ?_
    rcases xite_inv h with ⟨c2, h⟩ | ⟨c2, h⟩
    · refine w_icmpge_t (j := 8) rfl c2 rfl ?_
      refine w_iconst (z := (0 : Int32)) (j := 9) rfl rfl rfl ?_
      obtain rfl := Option.some.inj h
      exact wp_ret rfl rfl rfl hq
    · refine w_icmpge_f (j := 6) rfl c2 rfl ?_
      refine w_iconst (z := (1 : Int32)) (j := 7) rfl rfl rfl ?_
      refine w_goto (j := 9) rfl rfl ?_
      obtain rfl := Option.some.inj h
      exact wp_ret rfl rfl rfl hq
set_option maxHeartbeats 2000000 in
set_option maxRecDepth 20000 in
theorem R_X8_add {d : Nat} {a0 : Int64} {a1 : Int32} {s : St} {q : Int32 × St} {Q : Option Value → xM → Prop}  (h : F_X8_add a0 a1 s = some q) (hq : Q (some (.int q.1)) (SH, q.2.1, q.2.2)) : wp (d + 0) mX8_add 0 [some (.ref 4), some (.long a0), none, some (.int a1)] [] (SH, s.1, s.2) Q := by
  unfold F_X8_add at h
  try dsimp only at h
  refine w_aload_n (j := 1) rfl rfl rfl ?_
  refine w_getI (j := 2) rfl rfl rfl rfl rfl ?_
  refine w_bipush (z := (60 : Int32)) (j := 3) rfl rfl rfl ?_
  rcases xite_inv h with ⟨c1, h⟩ | ⟨c1, h⟩
  · refine w_icmplt_t (j := 6) rfl c1 rfl ?_
    refine w_aload_n (j := 7) rfl rfl rfl ?_
    refine w_getR (j := 8) rfl rfl rfl rfl rfl rfl ?_
    refine w_aload_n (j := 9) rfl rfl rfl ?_
    refine w_getI (j := 10) rfl rfl rfl rfl rfl ?_
    refine w_lload_n (j := 11) rfl rfl rfl ?_
    rcases xite_inv h with ⟨g2, h⟩ | ⟨g2, h⟩
    · cases h
    · refine w_lastore (j := 12) rfl rfl g2 rfl ?_
      try dsimp only at h
      refine w_aload_n (j := 13) rfl rfl rfl ?_
      refine w_getR (j := 14) rfl rfl rfl rfl rfl rfl ?_
      refine w_aload_n (j := 15) rfl rfl rfl ?_
      refine w_getI (j := 16) rfl rfl rfl rfl rfl ?_
      refine w_iload_n (j := 17) rfl rfl rfl ?_
      refine w_iastore (j := 18) rfl rfl g2 rfl ?_
      try dsimp only at h
      refine w_aload_n (j := 19) rfl rfl rfl ?_
      refine w_getR (j := 20) rfl rfl rfl rfl rfl rfl ?_
      refine w_aload_n (j := 21) rfl rfl rfl ?_
      refine w_getI (j := 22) rfl rfl rfl rfl rfl ?_
      refine w_aload_n (j := 23) rfl rfl rfl ?_
      refine w_getI (j := 24) rfl rfl rfl rfl rfl ?_
      rcases xite_inv h with ⟨g5, h⟩ | ⟨g5, h⟩
      · cases h
      · refine w_iastore (j := 25) rfl rfl g5 rfl ?_
        try dsimp only at h
        refine w_aload_n (j := 26) rfl rfl rfl ?_
        refine w_dup (j := 27) rfl rfl rfl ?_
        refine w_getI (j := 28) rfl rfl rfl rfl rfl ?_
        refine w_iconst (z := (1 : Int32)) (j := 29) rfl rfl rfl ?_
        refine w_iadd (j := 30) rfl rfl ?_
        refine w_putI (j := 31) rfl rfl rfl rfl rfl ?_
        try dsimp only at h
        refine w_aload_n (j := 32) rfl rfl rfl ?_
        refine w_getI (j := 33) rfl rfl rfl rfl rfl ?_
        refine w_iconst (z := (1 : Int32)) (j := 34) rfl rfl rfl ?_
        refine w_isub (j := 35) rfl rfl ?_
        obtain rfl := Option.some.inj h
        exact wp_ret rfl rfl rfl hq
  · refine w_icmplt_f (j := 4) rfl c1 rfl ?_
    refine w_bipush (z := (-3 : Int32)) (j := 5) rfl rfl rfl ?_
    obtain rfl := Option.some.inj h
    exact wp_ret rfl rfl rfl hq
set_option maxHeartbeats 2000000 in
set_option maxRecDepth 20000 in
theorem R_X8_setRoot {d : Nat} {a0 : Int32} {a1 : Int32} {s : St} {q : St} {Q : Option Value → xM → Prop}  (h : F_X8_setRoot a0 a1 s = some q) (hq : Q none (SH, q.1, q.2)) : wp (d + 0) mX8_setRoot 0 [some (.ref 4), some (.int a0), some (.int a1)] [] (SH, s.1, s.2) Q := by
  unfold F_X8_setRoot at h
  try dsimp only at h
  refine w_iload_n (j := 1) rfl rfl rfl ?_
  rcases xite_inv h with ⟨c1, h⟩ | ⟨c1, h⟩
  · refine w_iflt_t (j := 11) rfl c1 rfl ?_
    obtain rfl := Option.some.inj h
    exact wp_vret rfl rfl rfl hq
  · refine w_iflt_f (j := 2) rfl c1 rfl ?_
    refine w_iload_n (j := 3) rfl rfl rfl ?_
    refine w_aload_n (j := 4) rfl rfl rfl ?_
    refine w_getI (j := 5) rfl rfl rfl rfl rfl ?_
    rcases xite_inv h with ⟨c2, h⟩ | ⟨c2, h⟩
    · refine w_icmpge_t (j := 11) rfl c2 rfl ?_
      obtain rfl := Option.some.inj h
      exact wp_vret rfl rfl rfl hq
    · refine w_icmpge_f (j := 6) rfl c2 rfl ?_
      refine w_aload_n (j := 7) rfl rfl rfl ?_
      refine w_getR (j := 8) rfl rfl rfl rfl rfl rfl ?_
      refine w_iload_n (j := 9) rfl rfl rfl ?_
      refine w_iload_n (j := 10) rfl rfl rfl ?_
      rcases xite_inv h with ⟨g3, h⟩ | ⟨g3, h⟩
      · cases h
      · refine w_iastore (j := 11) rfl rfl g3 rfl ?_
        try dsimp only at h
        obtain rfl := Option.some.inj h
        exact wp_vret rfl rfl rfl hq
set_option maxHeartbeats 2000000 in
set_option maxRecDepth 20000 in
theorem R_X8_isOwn {d : Nat} {a0 : Int32} {a1 : Int32} {s : St} {q : Int32 × St} {Q : Option Value → xM → Prop}  (h : F_X8_isOwn a0 a1 s = some q) (hq : Q (some (.int q.1)) (SH, q.2.1, q.2.2)) : wp (d + 0) mX8_isOwn 0 [some (.ref 4), some (.int a0), some (.int a1)] [] (SH, s.1, s.2) Q := by
  unfold F_X8_isOwn at h
  try dsimp only at h
  refine w_iload_n (j := 1) rfl rfl rfl ?_
  rcases xite_inv h with ⟨c1, h⟩ | ⟨c1, h⟩
  · refine w_iflt_t (j := 20) rfl c1 rfl ?_
    refine w_iconst (z := (0 : Int32)) (j := 21) rfl rfl rfl ?_
    obtain rfl := Option.some.inj h
    exact wp_ret rfl rfl rfl hq
  · refine w_iflt_f (j := 2) rfl c1 rfl ?_
    refine w_iload_n (j := 3) rfl rfl rfl ?_
    refine w_aload_n (j := 4) rfl rfl rfl ?_
    refine w_getI (j := 5) rfl rfl rfl rfl rfl ?_
    rcases xite_inv h with ⟨c2, h⟩ | ⟨c2, h⟩
    · refine w_icmpge_t (j := 20) rfl c2 rfl ?_
      refine w_iconst (z := (0 : Int32)) (j := 21) rfl rfl rfl ?_
      obtain rfl := Option.some.inj h
      exact wp_ret rfl rfl rfl hq
    · refine w_icmpge_f (j := 6) rfl c2 rfl ?_
      refine w_aload_n (j := 7) rfl rfl rfl ?_
      refine w_getR (j := 8) rfl rfl rfl rfl rfl rfl ?_
      refine w_iload_n (j := 9) rfl rfl rfl ?_
      rcases xite_inv h with ⟨g3, h⟩ | ⟨g3, h⟩
      · cases h
      · refine w_iaload (j := 10) rfl rfl g3 rfl ?_
        refine w_iload_n (j := 11) rfl rfl rfl ?_
        rcases xite_inv h with ⟨c4, h⟩ | ⟨c4, h⟩
        · refine w_icmpne_f (j := 12) rfl c4 rfl ?_
          refine w_aload_n (j := 13) rfl rfl rfl ?_
          refine w_getR (j := 14) rfl rfl rfl rfl rfl rfl ?_
          refine w_iload_n (j := 15) rfl rfl rfl ?_
          refine w_iaload (j := 16) rfl rfl g3 rfl ?_
          refine w_iload_n (j := 17) rfl rfl rfl ?_
          rcases xite_inv h with ⟨c5, h⟩ | ⟨c5, h⟩
          · refine w_icmpne_f (j := 18) rfl c5 rfl ?_
            refine w_iconst (z := (1 : Int32)) (j := 19) rfl rfl rfl ?_
            refine w_goto (j := 21) rfl rfl ?_
            obtain rfl := Option.some.inj h
            exact wp_ret rfl rfl rfl hq
          · refine w_icmpne_t (j := 20) rfl c5 rfl ?_
            refine w_iconst (z := (0 : Int32)) (j := 21) rfl rfl rfl ?_
            obtain rfl := Option.some.inj h
            exact wp_ret rfl rfl rfl hq
        · refine w_icmpne_t (j := 20) rfl c4 rfl ?_
          refine w_iconst (z := (0 : Int32)) (j := 21) rfl rfl rfl ?_
          obtain rfl := Option.some.inj h
          exact wp_ret rfl rfl rfl hq
set_option maxHeartbeats 2000000 in
set_option maxRecDepth 20000 in
theorem RL_X8_isRootOfOthers_2 {d : Nat}  {Q : Option Value → xM → Prop}  : ∀ (n : Nat) (l1 : Int32) (l2 : Int32)  (s : St) (q : Int32 × St)   (h : L_X8_isRootOfOthers_2  n l1 l2 s = some q) (hq : Q (some (.int q.1)) (SH, q.2.1, q.2.2)), wp (d + 0) mX8_isRootOfOthers 2 [some (.ref 4), some (.int l1), some (.int l2)] [] (SH, s.1, s.2) Q := by
  intro n
  induction n with
  | zero => intro l1 l2 s q h; cases h
  | succ n ih =>
    intro l1 l2 s q h hq
    unfold L_X8_isRootOfOthers_2 at h
    try dsimp only at h
    refine w_iload_n (j := 3) rfl rfl rfl ?_
    refine w_aload_n (j := 4) rfl rfl rfl ?_
    refine w_getI (j := 5) rfl rfl rfl rfl rfl ?_
    rcases xite_inv h with ⟨c1, h⟩ | ⟨c1, h⟩
    · refine w_icmpge_t (j := 19) rfl c1 rfl ?_
      refine w_iconst (z := (0 : Int32)) (j := 20) rfl rfl rfl ?_
      obtain rfl := Option.some.inj h
      exact wp_ret rfl rfl rfl hq
    · refine w_icmpge_f (j := 6) rfl c1 rfl ?_
      refine w_iload_n (j := 7) rfl rfl rfl ?_
      refine w_iload_n (j := 8) rfl rfl rfl ?_
      rcases xite_inv h with ⟨c2, h⟩ | ⟨c2, h⟩
      · refine w_icmpeq_t (j := 17) rfl c2 rfl ?_
        refine w_iinc (cc := (1 : Int32)) (j := 18) rfl rfl rfl (l1_2 rfl) rfl ?_
        refine w_goto (j := 2) rfl rfl ?_
        exact ih _ _ _ _ h hq
      · refine w_icmpeq_f (j := 9) rfl c2 rfl ?_
        refine w_aload_n (j := 10) rfl rfl rfl ?_
        refine w_getR (j := 11) rfl rfl rfl rfl rfl rfl ?_
        refine w_iload_n (j := 12) rfl rfl rfl ?_
        rcases xite_inv h with ⟨g3, h⟩ | ⟨g3, h⟩
        · cases h
        · refine w_iaload (j := 13) rfl rfl g3 rfl ?_
          refine w_iload_n (j := 14) rfl rfl rfl ?_
          rcases xite_inv h with ⟨c4, h⟩ | ⟨c4, h⟩
          · refine w_icmpne_f (j := 15) rfl c4 rfl ?_
            refine w_iconst (z := (1 : Int32)) (j := 16) rfl rfl rfl ?_
            obtain rfl := Option.some.inj h
            exact wp_ret rfl rfl rfl hq
          · refine w_icmpne_t (j := 17) rfl c4 rfl ?_
            refine w_iinc (cc := (1 : Int32)) (j := 18) rfl rfl rfl (l1_2 rfl) rfl ?_
            refine w_goto (j := 2) rfl rfl ?_
            exact ih _ _ _ _ h hq
set_option maxHeartbeats 2000000 in
set_option maxRecDepth 20000 in
theorem R_X8_isRootOfOthers {d : Nat} {a0 : Int32} {s : St} {q : Int32 × St} {Q : Option Value → xM → Prop}  (h : F_X8_isRootOfOthers a0 s = some q) (hq : Q (some (.int q.1)) (SH, q.2.1, q.2.2)) : wp (d + 0) mX8_isRootOfOthers 0 [some (.ref 4), some (.int a0), none] [] (SH, s.1, s.2) Q := by
  unfold F_X8_isRootOfOthers at h
  try dsimp only at h
  refine w_iconst (z := (0 : Int32)) (j := 1) rfl rfl rfl ?_
  refine w_istore_n (j := 2) rfl (l1_2 rfl) rfl ?_
  exact RL_X8_isRootOfOthers_2  _ _ _ _ _ h hq
set_option maxHeartbeats 2000000 in
set_option maxRecDepth 20000 in
theorem R_X8_isInUse {d : Nat} {a0 : Int32} {s : St} {q : Int32 × St} {Q : Option Value → xM → Prop}  (h : F_X8_isInUse a0 s = some q) (hq : Q (some (.int q.1)) (SH, q.2.1, q.2.2)) : wp (d + 1) mX8_isInUse 0 [some (.ref 4), some (.int a0)] [] (SH, s.1, s.2) Q := by
  unfold F_X8_isInUse at h
  try dsimp only at h
  refine w_aload_n (j := 1) rfl rfl rfl ?_
  refine w_iload_n (j := 2) rfl rfl rfl ?_
  obtain ⟨q1, hq1, h⟩ := Option.bind_eq_some_iff.mp h
  refine wc_AI_I (j := 3) (T := []) rfl rfl rfl rfl rfl rfl rfl rfl rfl rfl ?_
  refine R_X8_nounsOf hq1 ⟨_, rfl, ?_⟩
  rcases xite_inv h with ⟨c2, h⟩ | ⟨c2, h⟩
  · refine w_ifne_f (j := 4) rfl c2 rfl ?_
    refine w_aload_n (j := 5) rfl rfl rfl ?_
    refine w_iload_n (j := 6) rfl rfl rfl ?_
    obtain ⟨q3, hq3, h⟩ := Option.bind_eq_some_iff.mp h
    refine wc_AI_I (j := 7) (T := []) rfl rfl rfl rfl rfl rfl rfl rfl rfl rfl ?_
    refine R_X8_adjectivesOf hq3 ⟨_, rfl, ?_⟩
    rcases xite_inv h with ⟨c4, h⟩ | ⟨c4, h⟩
    · refine w_ifne_f (j := 8) rfl c4 rfl ?_
      refine w_aload_n (j := 9) rfl rfl rfl ?_
      refine w_iload_n (j := 10) rfl rfl rfl ?_
      obtain ⟨q5, hq5, h⟩ := Option.bind_eq_some_iff.mp h
      refine wc_AI_I (j := 11) (T := []) rfl rfl rfl rfl rfl rfl rfl rfl rfl rfl ?_
      refine R_X8_formOf hq5 ⟨_, rfl, ?_⟩
      rcases xite_inv h with ⟨c6, h⟩ | ⟨c6, h⟩
      · refine w_ifle_t (j := 14) rfl c6 rfl ?_
        refine w_iconst (z := (0 : Int32)) (j := 15) rfl rfl rfl ?_
        obtain rfl := Option.some.inj h
        exact wp_ret rfl rfl rfl hq
      · refine w_ifle_f (j := 12) rfl c6 rfl ?_
        refine w_iconst (z := (1 : Int32)) (j := 13) rfl rfl rfl ?_
        refine w_goto (j := 15) rfl rfl ?_
        obtain rfl := Option.some.inj h
        exact wp_ret rfl rfl rfl hq
    · refine w_ifne_t (j := 12) rfl c4 rfl ?_
      refine w_iconst (z := (1 : Int32)) (j := 13) rfl rfl rfl ?_
      refine w_goto (j := 15) rfl rfl ?_
      obtain rfl := Option.some.inj h
      exact wp_ret rfl rfl rfl hq
  · refine w_ifne_t (j := 12) rfl c2 rfl ?_
    refine w_iconst (z := (1 : Int32)) (j := 13) rfl rfl rfl ?_
    refine w_goto (j := 15) rfl rfl ?_
    obtain rfl := Option.some.inj h
    exact wp_ret rfl rfl rfl hq
set_option maxHeartbeats 2000000 in
set_option maxRecDepth 20000 in
theorem R_X8_setForm {d : Nat} {a0 : Int32} {a1 : Int32} {s : St} {q : St} {Q : Option Value → xM → Prop}  (h : F_X8_setForm a0 a1 s = some q) (hq : Q none (SH, q.1, q.2)) : wp (d + 0) mX8_setForm 0 [some (.ref 4), some (.int a0), some (.int a1)] [] (SH, s.1, s.2) Q := by
  unfold F_X8_setForm at h
  try dsimp only at h
  refine w_iload_n (j := 1) rfl rfl rfl ?_
  rcases xite_inv h with ⟨c1, h⟩ | ⟨c1, h⟩
  · refine w_iflt_t (j := 11) rfl c1 rfl ?_
    obtain rfl := Option.some.inj h
    exact wp_vret rfl rfl rfl hq
  · refine w_iflt_f (j := 2) rfl c1 rfl ?_
    refine w_iload_n (j := 3) rfl rfl rfl ?_
    refine w_aload_n (j := 4) rfl rfl rfl ?_
    refine w_getI (j := 5) rfl rfl rfl rfl rfl ?_
    rcases xite_inv h with ⟨c2, h⟩ | ⟨c2, h⟩
    · refine w_icmpge_t (j := 11) rfl c2 rfl ?_
      obtain rfl := Option.some.inj h
      exact wp_vret rfl rfl rfl hq
    · refine w_icmpge_f (j := 6) rfl c2 rfl ?_
      refine w_aload_n (j := 7) rfl rfl rfl ?_
      refine w_getR (j := 8) rfl rfl rfl rfl rfl rfl ?_
      refine w_iload_n (j := 9) rfl rfl rfl ?_
      refine w_iload_n (j := 10) rfl rfl rfl ?_
      rcases xite_inv h with ⟨g3, h⟩ | ⟨g3, h⟩
      · cases h
      · refine w_iastore (j := 11) rfl rfl g3 rfl ?_
        try dsimp only at h
        obtain rfl := Option.some.inj h
        exact wp_vret rfl rfl rfl hq
set_option maxHeartbeats 2000000 in
set_option maxRecDepth 20000 in
theorem RJ_X8_addNamed_9 {d : Nat}  {Q : Option Value → xM → Prop}  {l1 : Int32} {l2 : Int32} {l3 : Int32} {u4 : Option Value} {t0 : Int32} {s : St} {q : Int32 × St}   (h : J_X8_addNamed_9  l1 l2 l3 t0 s = some q) (hq : Q (some (.int q.1)) (SH, q.2.1, q.2.2)) : wp (d + 1) mX8_addNamed 9 [some (.ref 4), some (.int l1), some (.int l2), some (.int l3), u4] [.int t0] (SH, s.1, s.2) Q := by
  unfold J_X8_addNamed_9 at h
  try dsimp only at h
  refine w_istore (j := 10) rfl (l1_4 rfl) rfl ?_
  refine w_iload_n (j := 11) rfl rfl rfl ?_
  rcases xite_inv h with ⟨c3, h⟩ | ⟨c3, h⟩
  · refine w_iflt_t (j := 20) rfl c3 rfl ?_
    refine w_iconst (z := (0 : Int32)) (j := 21) rfl rfl rfl ?_
    obtain rfl := Option.some.inj h
    exact wp_ret rfl rfl rfl hq
  · refine w_iflt_f (j := 12) rfl c3 rfl ?_
    refine w_iload_n (j := 13) rfl rfl rfl ?_
    refine w_aload_n (j := 14) rfl rfl rfl ?_
    refine w_getI (j := 15) rfl rfl rfl rfl rfl ?_
    rcases xite_inv h with ⟨c4, h⟩ | ⟨c4, h⟩
    · refine w_icmpge_t (j := 20) rfl c4 rfl ?_
      refine w_iconst (z := (0 : Int32)) (j := 21) rfl rfl rfl ?_
      obtain rfl := Option.some.inj h
      exact wp_ret rfl rfl rfl hq
    · refine w_icmpge_f (j := 16) rfl c4 rfl ?_
      refine w_iload (j := 17) rfl rfl rfl ?_
      refine w_iload_n (j := 18) rfl rfl rfl ?_
      obtain ⟨q5, hq5, h⟩ := Option.bind_eq_some_iff.mp h
      refine wc_II_I (j := 19) (T := []) rfl rfl rfl rfl rfl rfl rfl rfl rfl rfl ?_
      refine R_X9_isIn hq5 ⟨_, rfl, ?_⟩
      rcases xite_inv h with ⟨c6, h⟩ | ⟨c6, h⟩
      · refine w_ifeq_t (j := 22) rfl c6 rfl ?_
        refine w_iload_n (j := 23) rfl rfl rfl ?_
        rcases xite_inv h with ⟨c7, h⟩ | ⟨c7, h⟩
        · refine w_ifeq_t (j := 33) rfl c7 rfl ?_
          refine w_aload_n (j := 34) rfl rfl rfl ?_
          refine w_getR (j := 35) rfl rfl rfl rfl rfl rfl ?_
          refine w_iload_n (j := 36) rfl rfl rfl ?_
          refine w_iload (j := 37) rfl rfl rfl ?_
          refine w_iload_n (j := 38) rfl rfl rfl ?_
          obtain ⟨q8, hq8, h⟩ := Option.bind_eq_some_iff.mp h
          refine wc_I_I (j := 39) (T := []) rfl rfl rfl rfl rfl rfl rfl rfl rfl rfl ?_
          refine R_X9_bitOf hq8 ⟨_, rfl, ?_⟩
          refine w_ior (j := 40) rfl rfl ?_
          rcases xite_inv h with ⟨g9, h⟩ | ⟨g9, h⟩
          · cases h
          · refine w_iastore (j := 41) rfl rfl g9 rfl ?_
            try dsimp only at h
            refine w_iconst (z := (1 : Int32)) (j := 42) rfl rfl rfl ?_
            obtain rfl := Option.some.inj h
            exact wp_ret rfl rfl rfl hq
        · refine w_ifeq_f (j := 24) rfl c7 rfl ?_
          refine w_aload_n (j := 25) rfl rfl rfl ?_
          refine w_getR (j := 26) rfl rfl rfl rfl rfl rfl ?_
          refine w_iload_n (j := 27) rfl rfl rfl ?_
          refine w_iload (j := 28) rfl rfl rfl ?_
          refine w_iload_n (j := 29) rfl rfl rfl ?_
          obtain ⟨q11, hq11, h⟩ := Option.bind_eq_some_iff.mp h
          refine wc_I_I (j := 30) (T := []) rfl rfl rfl rfl rfl rfl rfl rfl rfl rfl ?_
          refine R_X9_bitOf hq11 ⟨_, rfl, ?_⟩
          refine w_ior (j := 31) rfl rfl ?_
          rcases xite_inv h with ⟨g12, h⟩ | ⟨g12, h⟩
          · cases h
          · refine w_iastore (j := 32) rfl rfl g12 rfl ?_
            try dsimp only at h
            refine w_goto (j := 41) rfl rfl ?_
            refine w_iconst (z := (1 : Int32)) (j := 42) rfl rfl rfl ?_
            obtain rfl := Option.some.inj h
            exact wp_ret rfl rfl rfl hq
      · refine w_ifeq_f (j := 20) rfl c6 rfl ?_
        refine w_iconst (z := (0 : Int32)) (j := 21) rfl rfl rfl ?_
        obtain rfl := Option.some.inj h
        exact wp_ret rfl rfl rfl hq
set_option maxHeartbeats 2000000 in
set_option maxRecDepth 20000 in
theorem R_X8_addNamed {d : Nat} {a0 : Int32} {a1 : Int32} {a2 : Int32} {s : St} {q : Int32 × St} {Q : Option Value → xM → Prop}  (h : F_X8_addNamed a0 a1 a2 s = some q) (hq : Q (some (.int q.1)) (SH, q.2.1, q.2.2)) : wp (d + 1) mX8_addNamed 0 [some (.ref 4), some (.int a0), some (.int a1), some (.int a2), none] [] (SH, s.1, s.2) Q := by
  unfold F_X8_addNamed at h
  try dsimp only at h
  refine w_iload_n (j := 1) rfl rfl rfl ?_
  rcases xite_inv h with ⟨c1, h⟩ | ⟨c1, h⟩
  · refine w_ifeq_t (j := 6) rfl c1 rfl ?_
    refine w_aload_n (j := 7) rfl rfl rfl ?_
    refine w_iload_n (j := 8) rfl rfl rfl ?_
    obtain ⟨q2, hq2, h⟩ := Option.bind_eq_some_iff.mp h
    refine wc_AI_I (j := 9) (T := []) rfl rfl rfl rfl rfl rfl rfl rfl rfl rfl ?_
    refine R_X8_adjectivesOf hq2 ⟨_, rfl, ?_⟩
    exact RJ_X8_addNamed_9   h hq
  · refine w_ifeq_f (j := 2) rfl c1 rfl ?_
    refine w_aload_n (j := 3) rfl rfl rfl ?_
    refine w_iload_n (j := 4) rfl rfl rfl ?_
    obtain ⟨q14, hq14, h⟩ := Option.bind_eq_some_iff.mp h
    refine wc_AI_I (j := 5) (T := []) rfl rfl rfl rfl rfl rfl rfl rfl rfl rfl ?_
    refine R_X8_nounsOf hq14 ⟨_, rfl, ?_⟩
    refine w_goto (j := 9) rfl rfl ?_
    exact RJ_X8_addNamed_9   h hq
set_option maxHeartbeats 2000000 in
set_option maxRecDepth 20000 in
theorem R_X9_isBelow {d : Nat} {a0 : Int32} {a1 : Int32} {s : St} {q : Int32 × St} {Q : Option Value → xM → Prop}  (h : F_X9_isBelow a0 a1 s = some q) (hq : Q (some (.int q.1)) (SH, q.2.1, q.2.2)) : wp (d + 0) mX9_isBelow 0 [some (.int a0), some (.int a1)] [] (SH, s.1, s.2) Q := by
  unfold F_X9_isBelow at h
  try dsimp only at h
  refine w_iload_n (j := 1) rfl rfl rfl ?_
  rcases xite_inv h with ⟨c1, h⟩ | ⟨c1, h⟩
  · refine w_iflt_t (j := 7) rfl c1 rfl ?_
    refine w_iconst (z := (0 : Int32)) (j := 8) rfl rfl rfl ?_
    obtain rfl := Option.some.inj h
    exact wp_ret rfl rfl rfl hq
  · refine w_iflt_f (j := 2) rfl c1 rfl ?_
    refine w_iload_n (j := 3) rfl rfl rfl ?_
    refine w_iload_n (j := 4) rfl rfl rfl ?_
    rcases xite_inv h with ⟨c2, h⟩ | ⟨c2, h⟩
    · refine w_icmpge_t (j := 7) rfl c2 rfl ?_
      refine w_iconst (z := (0 : Int32)) (j := 8) rfl rfl rfl ?_
      obtain rfl := Option.some.inj h
      exact wp_ret rfl rfl rfl hq
    · refine w_icmpge_f (j := 5) rfl c2 rfl ?_
      refine w_iconst (z := (1 : Int32)) (j := 6) rfl rfl rfl ?_
      refine w_goto (j := 8) rfl rfl ?_
      obtain rfl := Option.some.inj h
      exact wp_ret rfl rfl rfl hq
