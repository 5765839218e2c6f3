set_option maxHeartbeats 2000000 in
set_option maxRecDepth 20000 in
theorem R_X9_thing {d : Nat} {a0 : Int32} {s : St} {q : Int32 × St} {Q : Option Value → xM → Prop}  (h : F_X9_thing a0 s = some q) (hq : Q (some (.int q.1)) (SH, q.2.1, q.2.2)) : wp (d + 2) mX9_thing 0 [some (.ref 0), some (.int a0)] [] (SH, s.1, s.2) Q := by
  unfold F_X9_thing at h
  try dsimp only at h
  refine w_iload_n (j := 1) rfl rfl rfl ?_
  refine w_iconst (z := (4 : Int32)) (j := 2) rfl rfl rfl ?_
  obtain ⟨q1, hq1, h⟩ := Option.bind_eq_some_iff.mp h
  refine wc_II_I (j := 3) (T := []) rfl rfl rfl rfl rfl rfl rfl rfl rfl rfl ?_
  refine R_X9_isBelow hq1 ⟨_, rfl, ?_⟩
  rcases xite_inv h with ⟨c2, h⟩ | ⟨c2, h⟩
  · refine w_ifeq_t (j := 9) rfl c2 rfl ?_
    refine w_iconst (z := (-1 : Int32)) (j := 10) rfl rfl rfl ?_
    obtain rfl := Option.some.inj h
    exact wp_ret rfl rfl rfl hq
  · refine w_ifeq_f (j := 4) rfl c2 rfl ?_
    refine w_aload_n (j := 5) rfl rfl rfl ?_
    refine w_getR (j := 6) rfl rfl rfl rfl rfl rfl ?_
    refine w_iload_n (j := 7) rfl rfl rfl ?_
    obtain ⟨q3, hq3, h⟩ := Option.bind_eq_some_iff.mp h
    refine wc_AI_I (j := 8) (T := []) rfl rfl rfl rfl rfl rfl rfl rfl rfl rfl ?_
    refine R_X6_add hq3 ⟨_, rfl, ?_⟩
    refine w_goto (j := 10) rfl rfl ?_
    obtain rfl := Option.some.inj h
    exact wp_ret rfl rfl rfl hq
set_option maxHeartbeats 2000000 in
set_option maxRecDepth 20000 in
theorem R_X9_see {d : Nat} {a0 : Int32} {a1 : Int32} {s : St} {q : Int32 × St} {Q : Option Value → xM → Prop}  (h : F_X9_see a0 a1 s = some q) (hq : Q (some (.int q.1)) (SH, q.2.1, q.2.2)) : wp (d + 2) mX9_see 0 [some (.ref 0), some (.int a0), some (.int a1), none] [] (SH, s.1, s.2) Q := by
  unfold F_X9_see at h
  try dsimp only at h
  refine w_aload_n (j := 1) rfl rfl rfl ?_
  refine w_getR (j := 2) rfl rfl rfl rfl rfl rfl ?_
  refine w_iload_n (j := 3) rfl rfl rfl ?_
  obtain ⟨q1, hq1, h⟩ := Option.bind_eq_some_iff.mp h
  refine wc_AI_I (j := 4) (T := []) rfl rfl rfl rfl rfl rfl rfl rfl rfl rfl ?_
  refine R_X6_has hq1 ⟨_, rfl, ?_⟩
  rcases xite_inv h with ⟨c2, h⟩ | ⟨c2, h⟩
  · refine w_ifeq_t (j := 7) rfl c2 rfl ?_
    refine w_iconst (z := (-1 : Int32)) (j := 8) rfl rfl rfl ?_
    obtain rfl := Option.some.inj h
    exact wp_ret rfl rfl rfl hq
  · refine w_ifeq_f (j := 5) rfl c2 rfl ?_
    refine w_iload_n (j := 6) rfl rfl rfl ?_
    rcases xite_inv h with ⟨c3, h⟩ | ⟨c3, h⟩
    · refine w_ifne_f (j := 7) rfl c3 rfl ?_
      refine w_iconst (z := (-1 : Int32)) (j := 8) rfl rfl rfl ?_
      obtain rfl := Option.some.inj h
      exact wp_ret rfl rfl rfl hq
    · refine w_ifne_t (j := 9) rfl c3 rfl ?_
      refine w_aload_n (j := 10) rfl rfl rfl ?_
      refine w_getR (j := 11) rfl rfl rfl rfl rfl rfl ?_
      refine w_iload_n (j := 12) rfl rfl rfl ?_
      obtain ⟨q4, hq4, h⟩ := Option.bind_eq_some_iff.mp h
      refine wc_AI_I (j := 13) (T := []) rfl rfl rfl rfl rfl rfl rfl rfl rfl rfl ?_
      refine R_X6_isSeen hq4 ⟨_, rfl, ?_⟩
      rcases xite_inv h with ⟨c5, h⟩ | ⟨c5, h⟩
      · refine w_ifeq_t (j := 16) rfl c5 rfl ?_
        refine w_iconst (z := (0 : Int32)) (j := 17) rfl rfl rfl ?_
        refine w_istore_n (j := 18) rfl (l1_3 rfl) rfl ?_
        refine w_aload_n (j := 19) rfl rfl rfl ?_
        refine w_getR (j := 20) rfl rfl rfl rfl rfl rfl ?_
        refine w_iload_n (j := 21) rfl rfl rfl ?_
        refine w_iload_n (j := 22) rfl rfl rfl ?_
        obtain ⟨q6, hq6, h⟩ := Option.bind_eq_some_iff.mp h
        refine wc_AII_V (j := 23) (T := []) rfl rfl rfl rfl rfl rfl rfl rfl rfl rfl ?_
        refine R_X6_setSeen hq6 ⟨rfl, ?_⟩
        refine w_iload_n (j := 24) rfl rfl rfl ?_
        obtain rfl := Option.some.inj h
        exact wp_ret rfl rfl rfl hq
      · refine w_ifeq_f (j := 14) rfl c5 rfl ?_
        refine w_iconst (z := (1 : Int32)) (j := 15) rfl rfl rfl ?_
        refine w_goto (j := 17) rfl rfl ?_
        refine w_istore_n (j := 18) rfl (l1_3 rfl) rfl ?_
        refine w_aload_n (j := 19) rfl rfl rfl ?_
        refine w_getR (j := 20) rfl rfl rfl rfl rfl rfl ?_
        refine w_iload_n (j := 21) rfl rfl rfl ?_
        refine w_iload_n (j := 22) rfl rfl rfl ?_
        obtain ⟨q7, hq7, h⟩ := Option.bind_eq_some_iff.mp h
        refine wc_AII_V (j := 23) (T := []) rfl rfl rfl rfl rfl rfl rfl rfl rfl rfl ?_
        refine R_X6_setSeen hq7 ⟨rfl, ?_⟩
        refine w_iload_n (j := 24) rfl rfl rfl ?_
        obtain rfl := Option.some.inj h
        exact wp_ret rfl rfl rfl hq
set_option maxHeartbeats 2000000 in
set_option maxRecDepth 20000 in
theorem RJ_X9_own_11 {d : Nat}  {Q : Option Value → xM → Prop}  {l1 : Int32} {l2 : Int32} {u3 : Option Value} {t0 : Int32} {s : St} {q : Int32 × St}   (h : J_X9_own_11  l1 l2 t0 s = some q) (hq : Q (some (.int q.1)) (SH, q.2.1, q.2.2)) : wp (d + 1) mX9_own 11 [some (.ref 0), some (.int l1), some (.int l2), u3] [.int t0] (SH, s.1, s.2) Q := by
  unfold J_X9_own_11 at h
  try dsimp only at h
  refine w_istore_n (j := 12) rfl (l1_3 rfl) rfl ?_
  refine w_aload_n (j := 13) rfl rfl rfl ?_
  refine w_getR (j := 14) rfl rfl rfl rfl rfl rfl ?_
  refine w_iload_n (j := 15) rfl rfl rfl ?_
  obtain ⟨q2, hq2, h⟩ := Option.bind_eq_some_iff.mp h
  refine wc_AI_I (j := 16) (T := []) rfl rfl rfl rfl rfl rfl rfl rfl rfl rfl ?_
  refine R_X6_has hq2 ⟨_, rfl, ?_⟩
  rcases xite_inv h with ⟨c3, h⟩ | ⟨c3, h⟩
  · refine w_ifeq_t (j := 22) rfl c3 rfl ?_
    refine w_iconst (z := (-1 : Int32)) (j := 23) rfl rfl rfl ?_
    obtain rfl := Option.some.inj h
    exact wp_ret rfl rfl rfl hq
  · refine w_ifeq_f (j := 17) rfl c3 rfl ?_
    refine w_iload_n (j := 18) rfl rfl rfl ?_
    rcases xite_inv h with ⟨c4, h⟩ | ⟨c4, h⟩
    · refine w_ifeq_t (j := 22) rfl c4 rfl ?_
      refine w_iconst (z := (-1 : Int32)) (j := 23) rfl rfl rfl ?_
      obtain rfl := Option.some.inj h
      exact wp_ret rfl rfl rfl hq
    · refine w_ifeq_f (j := 19) rfl c4 rfl ?_
      refine w_iload_n (j := 20) rfl rfl rfl ?_
      refine w_iload_n (j := 21) rfl rfl rfl ?_
      rcases xite_inv h with ⟨c5, h⟩ | ⟨c5, h⟩
      · refine w_icmpne_f (j := 22) rfl c5 rfl ?_
        refine w_iconst (z := (-1 : Int32)) (j := 23) rfl rfl rfl ?_
        obtain rfl := Option.some.inj h
        exact wp_ret rfl rfl rfl hq
      · refine w_icmpne_t (j := 24) rfl c5 rfl ?_
        refine w_aload_n (j := 25) rfl rfl rfl ?_
        refine w_getR (j := 26) rfl rfl rfl rfl rfl rfl ?_
        refine w_iload_n (j := 27) rfl rfl rfl ?_
        refine w_iload_n (j := 28) rfl rfl rfl ?_
        obtain ⟨q6, hq6, h⟩ := Option.bind_eq_some_iff.mp h
        refine wc_AII_V (j := 29) (T := []) rfl rfl rfl rfl rfl rfl rfl rfl rfl rfl ?_
        refine R_X6_setOwner hq6 ⟨rfl, ?_⟩
        refine w_iconst (z := (0 : Int32)) (j := 30) rfl rfl rfl ?_
        obtain rfl := Option.some.inj h
        exact wp_ret rfl rfl rfl hq
set_option maxHeartbeats 2000000 in
set_option maxRecDepth 20000 in
theorem RJ_X9_own_8 {d : Nat}  {Q : Option Value → xM → Prop}  {l1 : Int32} {l2 : Int32} {u3 : Option Value}  {s : St} {q : Int32 × St}   (h : J_X9_own_8  l1 l2  s = some q) (hq : Q (some (.int q.1)) (SH, q.2.1, q.2.2)) : wp (d + 1) mX9_own 8 [some (.ref 0), some (.int l1), some (.int l2), u3] [] (SH, s.1, s.2) Q := by
  unfold J_X9_own_8 at h
  try dsimp only at h
  refine w_iconst (z := (1 : Int32)) (j := 9) rfl rfl rfl ?_
  refine w_goto (j := 11) rfl rfl ?_
  exact RJ_X9_own_11   h hq
set_option maxHeartbeats 2000000 in
set_option maxRecDepth 20000 in
theorem R_X9_own {d : Nat} {a0 : Int32} {a1 : Int32} {s : St} {q : Int32 × St} {Q : Option Value → xM → Prop}  (h : F_X9_own a0 a1 s = some q) (hq : Q (some (.int q.1)) (SH, q.2.1, q.2.2)) : wp (d + 1) mX9_own 0 [some (.ref 0), some (.int a0), some (.int a1), none] [] (SH, s.1, s.2) Q := by
  unfold F_X9_own at h
  try dsimp only at h
  refine w_iload_n (j := 1) rfl rfl rfl ?_
  refine w_bipush (z := (-4 : Int32)) (j := 2) rfl rfl rfl ?_
  rcases xite_inv h with ⟨c1, h⟩ | ⟨c1, h⟩
  · refine w_icmpeq_t (j := 8) rfl c1 rfl ?_
    exact RJ_X9_own_8   h hq
  · refine w_icmpeq_f (j := 3) rfl c1 rfl ?_
    refine w_aload_n (j := 4) rfl rfl rfl ?_
    refine w_getR (j := 5) rfl rfl rfl rfl rfl rfl ?_
    refine w_iload_n (j := 6) rfl rfl rfl ?_
    obtain ⟨q7, hq7, h⟩ := Option.bind_eq_some_iff.mp h
    refine wc_AI_I (j := 7) (T := []) rfl rfl rfl rfl rfl rfl rfl rfl rfl rfl ?_
    refine R_X6_has hq7 ⟨_, rfl, ?_⟩
    rcases xite_inv h with ⟨c8, h⟩ | ⟨c8, h⟩
    · refine w_ifeq_t (j := 10) rfl c8 rfl ?_
      refine w_iconst (z := (0 : Int32)) (j := 11) rfl rfl rfl ?_
      exact RJ_X9_own_11   h hq
    · refine w_ifeq_f (j := 8) rfl c8 rfl ?_
      exact RJ_X9_own_8   h hq
set_option maxHeartbeats 2000000 in
set_option maxRecDepth 20000 in
theorem R_X9_turn {d : Nat} {a0 : Int32} {a1 : Int32} {s : St} {q : Int32 × St} {Q : Option Value → xM → Prop}  (h : F_X9_turn a0 a1 s = some q) (hq : Q (some (.int q.1)) (SH, q.2.1, q.2.2)) : wp (d + 1) mX9_turn 0 [some (.ref 0), some (.int a0), some (.int a1), none] [] (SH, s.1, s.2) Q := by
  unfold F_X9_turn at h
  try dsimp only at h
  refine w_aload_n (j := 1) rfl rfl rfl ?_
  refine w_getR (j := 2) rfl rfl rfl rfl rfl rfl ?_
  refine w_iload_n (j := 3) rfl rfl rfl ?_
  obtain ⟨q1, hq1, h⟩ := Option.bind_eq_some_iff.mp h
  refine wc_AI_I (j := 4) (T := []) rfl rfl rfl rfl rfl rfl rfl rfl rfl rfl ?_
  refine R_X6_has hq1 ⟨_, rfl, ?_⟩
  rcases xite_inv h with ⟨c2, h⟩ | ⟨c2, h⟩
  · refine w_ifeq_t (j := 11) rfl c2 rfl ?_
    refine w_iconst (z := (-1 : Int32)) (j := 12) rfl rfl rfl ?_
    obtain rfl := Option.some.inj h
    exact wp_ret rfl rfl rfl hq
  · refine w_ifeq_f (j := 5) rfl c2 rfl ?_
    refine w_iload_n (j := 6) rfl rfl rfl ?_
    rcases xite_inv h with ⟨c3, h⟩ | ⟨c3, h⟩
    · refine w_ifeq_t (j := 11) rfl c3 rfl ?_
      refine w_iconst (z := (-1 : Int32)) (j := 12) rfl rfl rfl ?_
      obtain rfl := Option.some.inj h
      exact wp_ret rfl rfl rfl hq
    · refine w_ifeq_f (j := 7) rfl c3 rfl ?_
      refine w_iload_n (j := 8) rfl rfl rfl ?_
      refine w_iconst (z := (4 : Int32)) (j := 9) rfl rfl rfl ?_
      obtain ⟨q4, hq4, h⟩ := Option.bind_eq_some_iff.mp h
      refine wc_II_I (j := 10) (T := []) rfl rfl rfl rfl rfl rfl rfl rfl rfl rfl ?_
      refine R_X9_isBelow hq4 ⟨_, rfl, ?_⟩
      rcases xite_inv h with ⟨c5, h⟩ | ⟨c5, h⟩
      · refine w_ifne_f (j := 11) rfl c5 rfl ?_
        refine w_iconst (z := (-1 : Int32)) (j := 12) rfl rfl rfl ?_
        obtain rfl := Option.some.inj h
        exact wp_ret rfl rfl rfl hq
      · refine w_ifne_t (j := 13) rfl c5 rfl ?_
        refine w_aload_n (j := 14) rfl rfl rfl ?_
        refine w_getR (j := 15) rfl rfl rfl rfl rfl rfl ?_
        refine w_iload_n (j := 16) rfl rfl rfl ?_
        obtain ⟨q6, hq6, h⟩ := Option.bind_eq_some_iff.mp h
        refine wc_AI_I (j := 17) (T := []) rfl rfl rfl rfl rfl rfl rfl rfl rfl rfl ?_
        refine R_X6_kindOf hq6 ⟨_, rfl, ?_⟩
        refine w_istore_n (j := 18) rfl (l1_3 rfl) rfl ?_
        refine w_aload_n (j := 19) rfl rfl rfl ?_
        refine w_getR (j := 20) rfl rfl rfl rfl rfl rfl ?_
        refine w_iload_n (j := 21) rfl rfl rfl ?_
        refine w_iload_n (j := 22) rfl rfl rfl ?_
        obtain ⟨q7, hq7, h⟩ := Option.bind_eq_some_iff.mp h
        refine wc_AII_V (j := 23) (T := []) rfl rfl rfl rfl rfl rfl rfl rfl rfl rfl ?_
        refine R_X6_setKind hq7 ⟨rfl, ?_⟩
        refine w_iload_n (j := 24) rfl rfl rfl ?_
        obtain rfl := Option.some.inj h
        exact wp_ret rfl rfl rfl hq
set_option maxHeartbeats 2000000 in
set_option maxRecDepth 20000 in
theorem R_X9_feed {d : Nat} {a0 : Int32} {a1 : Int64} {s : St} {q : Int32 × St} {Q : Option Value → xM → Prop}  (h : F_X9_feed a0 a1 s = some q) (hq : Q (some (.int q.1)) (SH, q.2.1, q.2.2)) : wp (d + 1) mX9_feed 0 [some (.ref 0), some (.int a0), some (.long a1), none] [] (SH, s.1, s.2) Q := by
  unfold F_X9_feed at h
  try dsimp only at h
  refine w_iload_n (j := 1) rfl rfl rfl ?_
  refine w_iconst (z := (1 : Int32)) (j := 2) rfl rfl rfl ?_
  rcases xite_inv h with ⟨c1, h⟩ | ⟨c1, h⟩
  · refine w_icmplt_t (j := 6) rfl c1 rfl ?_
    refine w_iconst (z := (-1 : Int32)) (j := 7) rfl rfl rfl ?_
    obtain rfl := Option.some.inj h
    exact wp_ret rfl rfl rfl hq
  · refine w_icmplt_f (j := 3) rfl c1 rfl ?_
    refine w_iload_n (j := 4) rfl rfl rfl ?_
    refine w_bipush (z := (8 : Int32)) (j := 5) rfl rfl rfl ?_
    rcases xite_inv h with ⟨c2, h⟩ | ⟨c2, h⟩
    · refine w_icmple_t (j := 8) rfl c2 rfl ?_
      refine w_aload_n (j := 9) rfl rfl rfl ?_
      refine w_getR (j := 10) rfl rfl rfl rfl rfl rfl ?_
      refine w_iload_n (j := 11) rfl rfl rfl ?_
      refine w_lload_n (j := 12) rfl rfl rfl ?_
      obtain ⟨q3, hq3, h⟩ := Option.bind_eq_some_iff.mp h
      refine wc_AIJ_I (j := 13) (T := [none]) rfl rfl rfl rfl rfl rfl rfl rfl rfl rfl ?_
      refine R_X4_append hq3 ⟨_, rfl, ?_⟩
      rcases xite_inv h with ⟨c4, h⟩ | ⟨c4, h⟩
      · refine w_ifeq_t (j := 18) rfl c4 rfl ?_
        refine w_bipush (z := (-3 : Int32)) (j := 19) rfl rfl rfl ?_
        obtain rfl := Option.some.inj h
        exact wp_ret rfl rfl rfl hq
      · refine w_ifeq_f (j := 14) rfl c4 rfl ?_
        refine w_aload_n (j := 15) rfl rfl rfl ?_
        refine w_getR (j := 16) rfl rfl rfl rfl rfl rfl ?_
        refine wc_A_I (j := 17) (T := []) rfl rfl rfl rfl rfl rfl rfl rfl rfl rfl ?_
        refine w_aload_n (j := 1) rfl rfl rfl ?_
        refine w_getI (j := 2) rfl rfl rfl rfl rfl ?_
        refine wp_ret rfl rfl rfl ⟨_, rfl, ?_⟩
        refine w_goto (j := 19) rfl rfl ?_
        obtain rfl := Option.some.inj h
        exact wp_ret rfl rfl rfl hq
    · refine w_icmple_f (j := 6) rfl c2 rfl ?_
      refine w_iconst (z := (-1 : Int32)) (j := 7) rfl rfl rfl ?_
      obtain rfl := Option.some.inj h
      exact wp_ret rfl rfl rfl hq
set_option maxHeartbeats 2000000 in
set_option maxRecDepth 20000 in
theorem R_X9_word {d : Nat} {a0 : Int32} {s : St} {q : Int32 × St} {Q : Option Value → xM → Prop}  (h : F_X9_word a0 s = some q) (hq : Q (some (.int q.1)) (SH, q.2.1, q.2.2)) : wp (d + 3) mX9_word 0 [some (.ref 0), some (.int a0), none, none, none] [] (SH, s.1, s.2) Q := by
  unfold F_X9_word at h
  try dsimp only at h
  refine w_aload_n (j := 1) rfl rfl rfl ?_
  refine w_getR (j := 2) rfl rfl rfl rfl rfl rfl ?_
  obtain ⟨q1, hq1, h⟩ := Option.bind_eq_some_iff.mp h
  refine wc_A_I (j := 3) (T := [none]) rfl rfl rfl rfl rfl rfl rfl rfl rfl rfl ?_
  refine R_X4_isPlainWord hq1 ⟨_, rfl, ?_⟩
  refine w_istore_n (j := 4) rfl (l1_2 rfl) rfl ?_
  refine w_aload_n (j := 5) rfl rfl rfl ?_
  refine w_getR (j := 6) rfl rfl rfl rfl rfl rfl ?_
  refine w_iconst (z := (0 : Int32)) (j := 7) rfl rfl rfl ?_
  obtain ⟨q2, hq2, h⟩ := Option.bind_eq_some_iff.mp h
  refine wc_AI_J (j := 8) (T := [none, none, none, none]) rfl rfl rfl rfl rfl rfl rfl rfl rfl rfl ?_
  refine R_X4_keyAt hq2 ⟨_, rfl, ?_⟩
  refine w_lstore_n (j := 9) rfl (l2_3 rfl) rfl ?_
  refine w_aload_n (j := 10) rfl rfl rfl ?_
  refine w_getR (j := 11) rfl rfl rfl rfl rfl rfl ?_
  obtain ⟨q3, hq3, h⟩ := Option.bind_eq_some_iff.mp h
  refine wc_A_V (j := 12) (T := []) rfl rfl rfl rfl rfl rfl rfl rfl rfl rfl ?_
  refine R_X4_clear hq3 ⟨rfl, ?_⟩
  refine w_iload_n (j := 13) rfl rfl rfl ?_
  refine w_iconst (z := (4 : Int32)) (j := 14) rfl rfl rfl ?_
  obtain ⟨q4, hq4, h⟩ := Option.bind_eq_some_iff.mp h
  refine wc_II_I (j := 15) (T := []) rfl rfl rfl rfl rfl rfl rfl rfl rfl rfl ?_
  refine R_X9_isBelow hq4 ⟨_, rfl, ?_⟩
  rcases xite_inv h with ⟨c5, h⟩ | ⟨c5, h⟩
  · refine w_ifeq_t (j := 24) rfl c5 rfl ?_
    refine w_iconst (z := (-1 : Int32)) (j := 25) rfl rfl rfl ?_
    obtain rfl := Option.some.inj h
    exact wp_ret rfl rfl rfl hq
  · refine w_ifeq_f (j := 16) rfl c5 rfl ?_
    refine w_iload_n (j := 17) rfl rfl rfl ?_
    rcases xite_inv h with ⟨c6, h⟩ | ⟨c6, h⟩
    · refine w_ifeq_t (j := 24) rfl c6 rfl ?_
      refine w_iconst (z := (-1 : Int32)) (j := 25) rfl rfl rfl ?_
      obtain rfl := Option.some.inj h
      exact wp_ret rfl rfl rfl hq
    · refine w_ifeq_f (j := 18) rfl c6 rfl ?_
      refine w_aload_n (j := 19) rfl rfl rfl ?_
      refine w_getR (j := 20) rfl rfl rfl rfl rfl rfl ?_
      refine w_lload_n (j := 21) rfl rfl rfl ?_
      obtain ⟨q7, hq7, h⟩ := Option.bind_eq_some_iff.mp h
      refine wc_AJ_I (j := 22) (T := [none]) rfl rfl rfl rfl rfl rfl rfl rfl rfl rfl ?_
      refine R_X8_fixedNumber hq7 ⟨_, rfl, ?_⟩
      refine w_bipush (z := (-4 : Int32)) (j := 23) rfl rfl rfl ?_
      rcases xite_inv h with ⟨c8, h⟩ | ⟨c8, h⟩
      · refine w_icmpeq_t (j := 26) rfl c8 rfl ?_
        refine w_aload_n (j := 27) rfl rfl rfl ?_
        refine w_getR (j := 28) rfl rfl rfl rfl rfl rfl ?_
        refine w_lload_n (j := 29) rfl rfl rfl ?_
        obtain ⟨q9, hq9, h⟩ := Option.bind_eq_some_iff.mp h
        refine wc_AJ_I (j := 30) (T := [none]) rfl rfl rfl rfl rfl rfl rfl rfl rfl rfl ?_
        refine R_X8_find hq9 ⟨_, rfl, ?_⟩
        refine w_bipush (z := (-4 : Int32)) (j := 31) rfl rfl rfl ?_
        rcases xite_inv h with ⟨c10, h⟩ | ⟨c10, h⟩
        · refine w_icmpne_f (j := 32) rfl c10 rfl ?_
          refine w_aload_n (j := 33) rfl rfl rfl ?_
          refine w_getR (j := 34) rfl rfl rfl rfl rfl rfl ?_
          refine w_lload_n (j := 35) rfl rfl rfl ?_
          refine w_iload_n (j := 36) rfl rfl rfl ?_
          obtain ⟨q11, hq11, h⟩ := Option.bind_eq_some_iff.mp h
          refine wc_AJI_I (j := 37) (T := []) rfl rfl rfl rfl rfl rfl rfl rfl rfl rfl ?_
          refine R_X8_add hq11 ⟨_, rfl, ?_⟩
          refine w_goto (j := 39) rfl rfl ?_
          obtain rfl := Option.some.inj h
          exact wp_ret rfl rfl rfl hq
        · refine w_icmpne_t (j := 38) rfl c10 rfl ?_
          refine w_bipush (z := (-2 : Int32)) (j := 39) rfl rfl rfl ?_
          obtain rfl := Option.some.inj h
          exact wp_ret rfl rfl rfl hq
      · refine w_icmpeq_f (j := 24) rfl c8 rfl ?_
        refine w_iconst (z := (-1 : Int32)) (j := 25) rfl rfl rfl ?_
        obtain rfl := Option.some.inj h
        exact wp_ret rfl rfl rfl hq
set_option maxHeartbeats 2000000 in
set_option maxRecDepth 20000 in
theorem RJ_X9_name_8 {d : Nat}  {Q : Option Value → xM → Prop}  {l1 : Int32} {l2 : Int32} {l3 : Int32} {u4 : Option Value} {t0 : Int32} {s : St} {q : Int32 × St}   (h : J_X9_name_8  l1 l2 l3 t0 s = some q) (hq : Q (some (.int q.1)) (SH, q.2.1, q.2.2)) : wp (d + 2) mX9_name 8 [some (.ref 0), some (.int l1), some (.int l2), some (.int l3), u4] [.int t0] (SH, s.1, s.2) Q := by
  unfold J_X9_name_8 at h
  try dsimp only at h
  refine w_istore (j := 9) rfl (l1_4 rfl) rfl ?_
  refine w_aload_n (j := 10) rfl rfl rfl ?_
  refine w_getR (j := 11) rfl rfl rfl rfl rfl rfl ?_
  refine w_iload_n (j := 12) rfl rfl rfl ?_
  refine w_iconst (z := (0 : Int32)) (j := 13) rfl rfl rfl ?_
  obtain ⟨q2, hq2, h⟩ := Option.bind_eq_some_iff.mp h
  refine wc_AII_I (j := 14) (T := []) rfl rfl rfl rfl rfl rfl rfl rfl rfl rfl ?_
  refine R_X8_isOwn hq2 ⟨_, rfl, ?_⟩
  rcases xite_inv h with ⟨c3, h⟩ | ⟨c3, h⟩
  · refine w_ifeq_t (j := 22) rfl c3 rfl ?_
    refine w_iconst (z := (-1 : Int32)) (j := 23) rfl rfl rfl ?_
    obtain rfl := Option.some.inj h
    exact wp_ret rfl rfl rfl hq
  · refine w_ifeq_f (j := 15) rfl c3 rfl ?_
    refine w_aload_n (j := 16) rfl rfl rfl ?_
    refine w_getR (j := 17) rfl rfl rfl rfl rfl rfl ?_
    refine w_iload_n (j := 18) rfl rfl rfl ?_
    obtain ⟨q4, hq4, h⟩ := Option.bind_eq_some_iff.mp h
    refine wc_AI_I (j := 19) (T := []) rfl rfl rfl rfl rfl rfl rfl rfl rfl rfl ?_
    refine R_X6_has hq4 ⟨_, rfl, ?_⟩
    rcases xite_inv h with ⟨c5, h⟩ | ⟨c5, h⟩
    · refine w_ifeq_t (j := 22) rfl c5 rfl ?_
      refine w_iconst (z := (-1 : Int32)) (j := 23) rfl rfl rfl ?_
      obtain rfl := Option.some.inj h
      exact wp_ret rfl rfl rfl hq
    · refine w_ifeq_f (j := 20) rfl c5 rfl ?_
      refine w_iload (j := 21) rfl rfl rfl ?_
      rcases xite_inv h with ⟨c6, h⟩ | ⟨c6, h⟩
      · refine w_ifne_f (j := 22) rfl c6 rfl ?_
        refine w_iconst (z := (-1 : Int32)) (j := 23) rfl rfl rfl ?_
        obtain rfl := Option.some.inj h
        exact wp_ret rfl rfl rfl hq
      · refine w_ifne_t (j := 24) rfl c6 rfl ?_
        refine w_aload_n (j := 25) rfl rfl rfl ?_
        refine w_getR (j := 26) rfl rfl rfl rfl rfl rfl ?_
        refine w_iload_n (j := 27) rfl rfl rfl ?_
        refine w_iload_n (j := 28) rfl rfl rfl ?_
        refine w_iload_n (j := 29) rfl rfl rfl ?_
        rcases xite_inv h with ⟨c7, h⟩ | ⟨c7, h⟩
        · refine w_ifne_f (j := 30) rfl c7 rfl ?_
          refine w_iconst (z := (1 : Int32)) (j := 31) rfl rfl rfl ?_
          refine w_goto (j := 33) rfl rfl ?_
          obtain ⟨q8, hq8, h⟩ := Option.bind_eq_some_iff.mp h
          refine wc_AIII_I (j := 34) (T := [none]) rfl rfl rfl rfl rfl rfl rfl rfl rfl rfl ?_
          refine R_X8_addNamed hq8 ⟨_, rfl, ?_⟩
          rcases xite_inv h with ⟨c9, h⟩ | ⟨c9, h⟩
          · refine w_ifeq_t (j := 37) rfl c9 rfl ?_
            refine w_bipush (z := (-2 : Int32)) (j := 38) rfl rfl rfl ?_
            obtain rfl := Option.some.inj h
            exact wp_ret rfl rfl rfl hq
          · refine w_ifeq_f (j := 35) rfl c9 rfl ?_
            refine w_iconst (z := (0 : Int32)) (j := 36) rfl rfl rfl ?_
            refine w_goto (j := 38) rfl rfl ?_
            obtain rfl := Option.some.inj h
            exact wp_ret rfl rfl rfl hq
        · refine w_ifne_t (j := 32) rfl c7 rfl ?_
          refine w_iconst (z := (0 : Int32)) (j := 33) rfl rfl rfl ?_
          obtain ⟨q10, hq10, h⟩ := Option.bind_eq_some_iff.mp h
          refine wc_AIII_I (j := 34) (T := [none]) rfl rfl rfl rfl rfl rfl rfl rfl rfl rfl ?_
          refine R_X8_addNamed hq10 ⟨_, rfl, ?_⟩
          rcases xite_inv h with ⟨c11, h⟩ | ⟨c11, h⟩
          · refine w_ifeq_t (j := 37) rfl c11 rfl ?_
            refine w_bipush (z := (-2 : Int32)) (j := 38) rfl rfl rfl ?_
            obtain rfl := Option.some.inj h
            exact wp_ret rfl rfl rfl hq
          · refine w_ifeq_f (j := 35) rfl c11 rfl ?_
            refine w_iconst (z := (0 : Int32)) (j := 36) rfl rfl rfl ?_
            refine w_goto (j := 38) rfl rfl ?_
            obtain rfl := Option.some.inj h
            exact wp_ret rfl rfl rfl hq
set_option maxHeartbeats 2000000 in
set_option maxRecDepth 20000 in
theorem RJ_X9_name_5 {d : Nat}  {Q : Option Value → xM → Prop}  {l1 : Int32} {l2 : Int32} {l3 : Int32} {u4 : Option Value}  {s : St} {q : Int32 × St}   (h : J_X9_name_5  l1 l2 l3  s = some q) (hq : Q (some (.int q.1)) (SH, q.2.1, q.2.2)) : wp (d + 2) mX9_name 5 [some (.ref 0), some (.int l1), some (.int l2), some (.int l3), u4] [] (SH, s.1, s.2) Q := by
  unfold J_X9_name_5 at h
  try dsimp only at h
  refine w_iconst (z := (1 : Int32)) (j := 6) rfl rfl rfl ?_
  refine w_goto (j := 8) rfl rfl ?_
  exact RJ_X9_name_8   h hq
set_option maxHeartbeats 2000000 in
set_option maxRecDepth 20000 in
theorem R_X9_name {d : Nat} {a0 : Int32} {a1 : Int32} {a2 : Int32} {s : St} {q : Int32 × St} {Q : Option Value → xM → Prop}  (h : F_X9_name a0 a1 a2 s = some q) (hq : Q (some (.int q.1)) (SH, q.2.1, q.2.2)) : wp (d + 2) mX9_name 0 [some (.ref 0), some (.int a0), some (.int a1), some (.int a2), none] [] (SH, s.1, s.2) Q := by
  unfold F_X9_name at h
  try dsimp only at h
  refine w_iload_n (j := 1) rfl rfl rfl ?_
  rcases xite_inv h with ⟨c1, h⟩ | ⟨c1, h⟩
  · refine w_ifeq_t (j := 5) rfl c1 rfl ?_
    exact RJ_X9_name_5   h hq
  · refine w_ifeq_f (j := 2) rfl c1 rfl ?_
    refine w_iload_n (j := 3) rfl rfl rfl ?_
    refine w_iconst (z := (1 : Int32)) (j := 4) rfl rfl rfl ?_
    rcases xite_inv h with ⟨c12, h⟩ | ⟨c12, h⟩
    · refine w_icmpne_f (j := 5) rfl c12 rfl ?_
      exact RJ_X9_name_5   h hq
    · refine w_icmpne_t (j := 7) rfl c12 rfl ?_
      refine w_iconst (z := (0 : Int32)) (j := 8) rfl rfl rfl ?_
      exact RJ_X9_name_8   h hq
set_option maxHeartbeats 2000000 in
set_option maxRecDepth 20000 in
theorem R_X9_form {d : Nat} {a0 : Int32} {a1 : Int32} {s : St} {q : Int32 × St} {Q : Option Value → xM → Prop}  (h : F_X9_form a0 a1 s = some q) (hq : Q (some (.int q.1)) (SH, q.2.1, q.2.2)) : wp (d + 1) mX9_form 0 [some (.ref 0), some (.int a0), some (.int a1), none] [] (SH, s.1, s.2) Q := by
  unfold F_X9_form at h
  try dsimp only at h
  refine w_aload_n (j := 1) rfl rfl rfl ?_
  refine w_getR (j := 2) rfl rfl rfl rfl rfl rfl ?_
  refine w_iload_n (j := 3) rfl rfl rfl ?_
  refine w_iconst (z := (1 : Int32)) (j := 4) rfl rfl rfl ?_
  obtain ⟨q1, hq1, h⟩ := Option.bind_eq_some_iff.mp h
  refine wc_AII_I (j := 5) (T := []) rfl rfl rfl rfl rfl rfl rfl rfl rfl rfl ?_
  refine R_X8_isOwn hq1 ⟨_, rfl, ?_⟩
  rcases xite_inv h with ⟨c2, h⟩ | ⟨c2, h⟩
  · refine w_ifeq_t (j := 10) rfl c2 rfl ?_
    refine w_iconst (z := (-1 : Int32)) (j := 11) rfl rfl rfl ?_
    obtain rfl := Option.some.inj h
    exact wp_ret rfl rfl rfl hq
  · refine w_ifeq_f (j := 6) rfl c2 rfl ?_
    refine w_iload_n (j := 7) rfl rfl rfl ?_
    refine w_iconst (z := (4 : Int32)) (j := 8) rfl rfl rfl ?_
    obtain ⟨q3, hq3, h⟩ := Option.bind_eq_some_iff.mp h
    refine wc_II_I (j := 9) (T := []) rfl rfl rfl rfl rfl rfl rfl rfl rfl rfl ?_
    refine R_X9_isBelow hq3 ⟨_, rfl, ?_⟩
    rcases xite_inv h with ⟨c4, h⟩ | ⟨c4, h⟩
    · refine w_ifne_f (j := 10) rfl c4 rfl ?_
      refine w_iconst (z := (-1 : Int32)) (j := 11) rfl rfl rfl ?_
      obtain rfl := Option.some.inj h
      exact wp_ret rfl rfl rfl hq
    · refine w_ifne_t (j := 12) rfl c4 rfl ?_
      refine w_aload_n (j := 13) rfl rfl rfl ?_
      refine w_getR (j := 14) rfl rfl rfl rfl rfl rfl ?_
      refine w_iload_n (j := 15) rfl rfl rfl ?_
      obtain ⟨q5, hq5, h⟩ := Option.bind_eq_some_iff.mp h
      refine wc_AI_I (j := 16) (T := []) rfl rfl rfl rfl rfl rfl rfl rfl rfl rfl ?_
      refine R_X8_formOf hq5 ⟨_, rfl, ?_⟩
      refine w_istore_n (j := 17) rfl (l1_3 rfl) rfl ?_
      refine w_aload_n (j := 18) rfl rfl rfl ?_
      refine w_getR (j := 19) rfl rfl rfl rfl rfl rfl ?_
      refine w_iload_n (j := 20) rfl rfl rfl ?_
      refine w_iload_n (j := 21) rfl rfl rfl ?_
      obtain ⟨q6, hq6, h⟩ := Option.bind_eq_some_iff.mp h
      refine wc_AII_V (j := 22) (T := []) rfl rfl rfl rfl rfl rfl rfl rfl rfl rfl ?_
      refine R_X8_setForm hq6 ⟨rfl, ?_⟩
      refine w_iload_n (j := 23) rfl rfl rfl ?_
      obtain rfl := Option.some.inj h
      exact wp_ret rfl rfl rfl hq
set_option maxHeartbeats 2000000 in
set_option maxRecDepth 20000 in
theorem R_X9_same {d : Nat} {a0 : Int32} {a1 : Int32} {s : St} {q : Int32 × St} {Q : Option Value → xM → Prop}  (h : F_X9_same a0 a1 s = some q) (hq : Q (some (.int q.1)) (SH, q.2.1, q.2.2)) : wp (d + 2) mX9_same 0 [some (.ref 0), some (.int a0), some (.int a1)] [] (SH, s.1, s.2) Q := by
  unfold F_X9_same at h
  try dsimp only at h
  refine w_aload_n (j := 1) rfl rfl rfl ?_
  refine w_getR (j := 2) rfl rfl rfl rfl rfl rfl ?_
  refine w_iload_n (j := 3) rfl rfl rfl ?_
  obtain ⟨q1, hq1, h⟩ := Option.bind_eq_some_iff.mp h
  refine wc_AI_I (j := 4) (T := []) rfl rfl rfl rfl rfl rfl rfl rfl rfl rfl ?_
  refine R_X8_has hq1 ⟨_, rfl, ?_⟩
  rcases xite_inv h with ⟨c2, h⟩ | ⟨c2, h⟩
  · refine w_ifeq_t (j := 13) rfl c2 rfl ?_
    refine w_iconst (z := (-1 : Int32)) (j := 14) rfl rfl rfl ?_
    obtain rfl := Option.some.inj h
    exact wp_ret rfl rfl rfl hq
  · refine w_ifeq_f (j := 5) rfl c2 rfl ?_
    refine w_aload_n (j := 6) rfl rfl rfl ?_
    refine w_getR (j := 7) rfl rfl rfl rfl rfl rfl ?_
    refine w_iload_n (j := 8) rfl rfl rfl ?_
    obtain ⟨q3, hq3, h⟩ := Option.bind_eq_some_iff.mp h
    refine wc_AI_I (j := 9) (T := []) rfl rfl rfl rfl rfl rfl rfl rfl rfl rfl ?_
    refine R_X8_has hq3 ⟨_, rfl, ?_⟩
    rcases xite_inv h with ⟨c4, h⟩ | ⟨c4, h⟩
    · refine w_ifeq_t (j := 13) rfl c4 rfl ?_
      refine w_iconst (z := (-1 : Int32)) (j := 14) rfl rfl rfl ?_
      obtain rfl := Option.some.inj h
      exact wp_ret rfl rfl rfl hq
    · refine w_ifeq_f (j := 10) rfl c4 rfl ?_
      refine w_iload_n (j := 11) rfl rfl rfl ?_
      refine w_iload_n (j := 12) rfl rfl rfl ?_
      rcases xite_inv h with ⟨c5, h⟩ | ⟨c5, h⟩
      · refine w_icmplt_t (j := 15) rfl c5 rfl ?_
        refine w_aload_n (j := 16) rfl rfl rfl ?_
        refine w_getR (j := 17) rfl rfl rfl rfl rfl rfl ?_
        refine w_iload_n (j := 18) rfl rfl rfl ?_
        obtain ⟨q6, hq6, h⟩ := Option.bind_eq_some_iff.mp h
        refine wc_AI_I (j := 19) (T := []) rfl rfl rfl rfl rfl rfl rfl rfl rfl rfl ?_
        refine R_X8_sortOf hq6 ⟨_, rfl, ?_⟩
        refine w_aload_n (j := 20) rfl rfl rfl ?_
        refine w_getR (j := 21) rfl rfl rfl rfl rfl rfl ?_
        refine w_iload_n (j := 22) rfl rfl rfl ?_
        obtain ⟨q7, hq7, h⟩ := Option.bind_eq_some_iff.mp h
        refine wc_AI_I (j := 23) (T := []) rfl rfl rfl rfl rfl rfl rfl rfl rfl rfl ?_
        refine R_X8_sortOf hq7 ⟨_, rfl, ?_⟩
        rcases xite_inv h with ⟨c8, h⟩ | ⟨c8, h⟩
        · refine w_icmpne_f (j := 24) rfl c8 rfl ?_
          refine w_aload_n (j := 25) rfl rfl rfl ?_
          refine w_getR (j := 26) rfl rfl rfl rfl rfl rfl ?_
          refine w_iload_n (j := 27) rfl rfl rfl ?_
          obtain ⟨q9, hq9, h⟩ := Option.bind_eq_some_iff.mp h
          refine wc_AI_I (j := 28) (T := []) rfl rfl rfl rfl rfl rfl rfl rfl rfl rfl ?_
          refine R_X8_rootOf hq9 ⟨_, rfl, ?_⟩
          refine w_iload_n (j := 29) rfl rfl rfl ?_
          rcases xite_inv h with ⟨c10, h⟩ | ⟨c10, h⟩
          · refine w_icmpeq_t (j := 32) rfl c10 rfl ?_
            refine w_aload_n (j := 33) rfl rfl rfl ?_
            refine w_getR (j := 34) rfl rfl rfl rfl rfl rfl ?_
            refine w_iload_n (j := 35) rfl rfl rfl ?_
            obtain ⟨q11, hq11, h⟩ := Option.bind_eq_some_iff.mp h
            refine wc_AI_I (j := 36) (T := []) rfl rfl rfl rfl rfl rfl rfl rfl rfl rfl ?_
            refine R_X8_rootOf hq11 ⟨_, rfl, ?_⟩
            refine w_iload_n (j := 37) rfl rfl rfl ?_
            rcases xite_inv h with ⟨c12, h⟩ | ⟨c12, h⟩
            · refine w_icmpne_f (j := 38) rfl c12 rfl ?_
              refine w_aload_n (j := 39) rfl rfl rfl ?_
              refine w_getR (j := 40) rfl rfl rfl rfl rfl rfl ?_
              refine w_iload_n (j := 41) rfl rfl rfl ?_
              obtain ⟨q13, hq13, h⟩ := Option.bind_eq_some_iff.mp h
              refine wc_AI_I (j := 42) (T := [none]) rfl rfl rfl rfl rfl rfl rfl rfl rfl rfl ?_
              refine R_X8_isRootOfOthers hq13 ⟨_, rfl, ?_⟩
              rcases xite_inv h with ⟨c14, h⟩ | ⟨c14, h⟩
              · refine w_ifne_f (j := 43) rfl c14 rfl ?_
                refine w_aload_n (j := 44) rfl rfl rfl ?_
                refine w_getR (j := 45) rfl rfl rfl rfl rfl rfl ?_
                refine w_iload_n (j := 46) rfl rfl rfl ?_
                obtain ⟨q15, hq15, h⟩ := Option.bind_eq_some_iff.mp h
                refine wc_AI_I (j := 47) (T := []) rfl rfl rfl rfl rfl rfl rfl rfl rfl rfl ?_
                refine R_X8_isInUse hq15 ⟨_, rfl, ?_⟩
                rcases xite_inv h with ⟨c16, h⟩ | ⟨c16, h⟩
                · refine w_ifeq_t (j := 50) rfl c16 rfl ?_
                  refine w_aload_n (j := 51) rfl rfl rfl ?_
                  refine w_getR (j := 52) rfl rfl rfl rfl rfl rfl ?_
                  refine w_iload_n (j := 53) rfl rfl rfl ?_
                  refine w_iload_n (j := 54) rfl rfl rfl ?_
                  obtain ⟨q17, hq17, h⟩ := Option.bind_eq_some_iff.mp h
                  refine wc_AII_V (j := 55) (T := []) rfl rfl rfl rfl rfl rfl rfl rfl rfl rfl ?_
                  refine R_X8_setRoot hq17 ⟨rfl, ?_⟩
                  refine w_iconst (z := (0 : Int32)) (j := 56) rfl rfl rfl ?_
                  obtain rfl := Option.some.inj h
                  exact wp_ret rfl rfl rfl hq
                · refine w_ifeq_f (j := 48) rfl c16 rfl ?_
                  refine w_bipush (z := (-2 : Int32)) (j := 49) rfl rfl rfl ?_
                  obtain rfl := Option.some.inj h
                  exact wp_ret rfl rfl rfl hq
              · refine w_ifne_t (j := 48) rfl c14 rfl ?_
                refine w_bipush (z := (-2 : Int32)) (j := 49) rfl rfl rfl ?_
                obtain rfl := Option.some.inj h
                exact wp_ret rfl rfl rfl hq
            · refine w_icmpne_t (j := 48) rfl c12 rfl ?_
              refine w_bipush (z := (-2 : Int32)) (j := 49) rfl rfl rfl ?_
              obtain rfl := Option.some.inj h
              exact wp_ret rfl rfl rfl hq
          · refine w_icmpeq_f (j := 30) rfl c10 rfl ?_
            refine w_iconst (z := (-1 : Int32)) (j := 31) rfl rfl rfl ?_
            obtain rfl := Option.some.inj h
            exact wp_ret rfl rfl rfl hq
        · refine w_icmpne_t (j := 30) rfl c8 rfl ?_
          refine w_iconst (z := (-1 : Int32)) (j := 31) rfl rfl rfl ?_
          obtain rfl := Option.some.inj h
          exact wp_ret rfl rfl rfl hq
      · refine w_icmplt_f (j := 13) rfl c5 rfl ?_
        refine w_iconst (z := (-1 : Int32)) (j := 14) rfl rfl rfl ?_
        obtain rfl := Option.some.inj h
        exact wp_ret rfl rfl rfl hq
set_option maxHeartbeats 2000000 in
set_option maxRecDepth 20000 in
theorem RL_X9_line_12 {d : Nat}  {Q : Option Value → xM → Prop}  : ∀ (n : Nat) (l1 : Int32) (l2 : Int32)  (s : St) (q : St)   (h : L_X9_line_12  n l1 l2 s = some q) (hq : ∀ (v1 v2 : Option Value), xlong v1 = false → wp (d + 6) mX9_line 23 [some (.ref 0), v1, v2] [] (SH, q.1, q.2) Q), wp (d + 6) mX9_line 12 [some (.ref 0), some (.int l1), some (.int l2)] [] (SH, s.1, s.2) Q := by
  intro n
  induction n with
  | zero => intro l1 l2 s q h; cases h
  | succ n ih =>
    intro l1 l2 s q h hq
    unfold L_X9_line_12 at h
    try dsimp only at h
    refine w_iload_n (j := 13) rfl rfl rfl ?_
    rcases xite_inv h with ⟨c3, h⟩ | ⟨c3, h⟩
    · refine w_ifeq_t (j := 23) rfl c3 rfl ?_
      obtain rfl := Option.some.inj h
      exact hq _ _ rfl
    · refine w_ifeq_f (j := 14) rfl c3 rfl ?_
      refine w_iload_n (j := 15) rfl rfl rfl ?_
      refine w_sipush (z := (200 : Int32)) (j := 16) rfl rfl rfl ?_
      rcases xite_inv h with ⟨c4, h⟩ | ⟨c4, h⟩
      · refine w_icmpgt_t (j := 23) rfl c4 rfl ?_
        obtain rfl := Option.some.inj h
        exact hq _ _ rfl
      · refine w_icmpgt_f (j := 17) rfl c4 rfl ?_
        refine w_aload_n (j := 18) rfl rfl rfl ?_
        refine w_getR (j := 19) rfl rfl rfl rfl rfl rfl ?_
        obtain ⟨q5, hq5, h⟩ := Option.bind_eq_some_iff.mp h
        refine wc_A_I (j := 20) (T := [none, none, none]) rfl rfl rfl rfl rfl rfl rfl rfl rfl rfl ?_
        refine R_X2_readOrder hq5 ⟨_, rfl, ?_⟩
        refine w_istore_n (j := 21) rfl (l1_1 rfl) rfl ?_
        refine w_iinc (cc := (1 : Int32)) (j := 22) rfl rfl rfl (l1_2 rfl) rfl ?_
        refine w_goto (j := 12) rfl rfl ?_
        exact ih _ _ _ _ h hq
set_option maxHeartbeats 2000000 in
set_option maxRecDepth 20000 in
theorem R_X9_line {d : Nat}  {s : St} {q : Int32 × St} {Q : Option Value → xM → Prop}  (h : F_X9_line  s = some q) (hq : Q (some (.int q.1)) (SH, q.2.1, q.2.2)) : wp (d + 6) mX9_line 0 [some (.ref 0), none, none] [] (SH, s.1, s.2) Q := by
  unfold F_X9_line at h
  try dsimp only at h
  refine w_aload_n (j := 1) rfl rfl rfl ?_
  refine w_getR (j := 2) rfl rfl rfl rfl rfl rfl ?_
  refine w_aload_n (j := 3) rfl rfl rfl ?_
  refine w_getR (j := 4) rfl rfl rfl rfl rfl rfl ?_
  obtain ⟨q1, hq1, h⟩ := Option.bind_eq_some_iff.mp h
  refine wc_AA_V (j := 5) (T := []) rfl rfl rfl rfl rfl rfl rfl rfl rfl rfl ?_
  refine R_X2_begin hq1 ⟨rfl, ?_⟩
  refine w_aload_n (j := 6) rfl rfl rfl ?_
  refine w_getR (j := 7) rfl rfl rfl rfl rfl rfl ?_
  obtain ⟨q2, hq2, h⟩ := Option.bind_eq_some_iff.mp h
  refine wc_A_V (j := 8) (T := []) rfl rfl rfl rfl rfl rfl rfl rfl rfl rfl ?_
  refine R_X4_clear hq2 ⟨rfl, ?_⟩
  refine w_iconst (z := (1 : Int32)) (j := 9) rfl rfl rfl ?_
  refine w_istore_n (j := 10) rfl (l1_1 rfl) rfl ?_
  refine w_iconst (z := (0 : Int32)) (j := 11) rfl rfl rfl ?_
  refine w_istore_n (j := 12) rfl (l1_2 rfl) rfl ?_
  obtain ⟨q6, hq6, h⟩ := Option.bind_eq_some_iff.mp h
  refine RL_X9_line_12  _ _ _ _ _ hq6 (fun v7 v8 hv7 => ?_)
  refine w_aload_n (j := 24) rfl rfl rfl ?_
  refine w_getR (j := 25) rfl rfl rfl rfl rfl rfl ?_
  refine wc_A_I (j := 26) (T := []) rfl rfl rfl rfl rfl rfl rfl rfl rfl rfl ?_
  refine w_aload_n (j := 1) rfl rfl rfl ?_
  refine w_getI (j := 2) rfl rfl rfl rfl rfl ?_
  refine wp_ret rfl rfl rfl ⟨_, rfl, ?_⟩
  rcases xite_inv h with ⟨c9, h⟩ | ⟨c9, h⟩
  · refine w_ifne_f (j := 27) rfl c9 rfl ?_
    refine w_aload_n (j := 28) rfl rfl rfl ?_
    refine w_getR (j := 29) rfl rfl rfl rfl rfl rfl ?_
    refine wc_A_I (j := 30) (T := []) rfl rfl rfl rfl rfl rfl rfl rfl rfl rfl ?_
    refine w_aload_n (j := 1) rfl rfl rfl ?_
    refine w_getI (j := 2) rfl rfl rfl rfl rfl ?_
    refine wp_ret rfl rfl rfl ⟨_, rfl, ?_⟩
    refine w_goto (j := 36) rfl rfl ?_
    obtain rfl := Option.some.inj h
    exact wp_ret rfl rfl rfl hq
  · refine w_ifne_t (j := 31) rfl c9 rfl ?_
    refine w_bipush (z := (-10 : Int32)) (j := 32) rfl rfl rfl ?_
    refine w_aload_n (j := 33) rfl rfl rfl ?_
    refine w_getR (j := 34) rfl rfl rfl rfl rfl rfl ?_
    obtain ⟨q10, hq10, h⟩ := Option.bind_eq_some_iff.mp h
    refine wc_A_I (j := 35) (T := []) rfl rfl rfl rfl rfl rfl rfl rfl rfl rfl ?_
    refine R_X2_faultPlace hq10 ⟨_, rfl, ?_⟩
    refine w_isub (j := 36) rfl rfl ?_
    obtain rfl := Option.some.inj h
    exact wp_ret rfl rfl rfl hq
set_option maxHeartbeats 2000000 in
set_option maxRecDepth 20000 in
theorem R_X9_fault {d : Nat}  {s : St} {q : Int32 × St} {Q : Option Value → xM → Prop}  (h : F_X9_fault  s = some q) (hq : Q (some (.int q.1)) (SH, q.2.1, q.2.2)) : wp (d + 1) mX9_fault 0 [some (.ref 0)] [] (SH, s.1, s.2) Q := by
  unfold F_X9_fault at h
  try dsimp only at h
  refine w_aload_n (j := 1) rfl rfl rfl ?_
  refine w_getR (j := 2) rfl rfl rfl rfl rfl rfl ?_
  refine wc_A_I (j := 3) (T := []) rfl rfl rfl rfl rfl rfl rfl rfl rfl rfl ?_
  refine w_aload_n (j := 1) rfl rfl rfl ?_
  refine w_getI (j := 2) rfl rfl rfl rfl rfl ?_
  refine wp_ret rfl rfl rfl ⟨_, rfl, ?_⟩
  obtain rfl := Option.some.inj h
  exact wp_ret rfl rfl rfl hq
set_option maxHeartbeats 2000000 in
set_option maxRecDepth 20000 in
theorem R_X9_order {d : Nat} {a0 : Int32} {a1 : Int32} {s : St} {q : Int32 × St} {Q : Option Value → xM → Prop}  (h : F_X9_order a0 a1 s = some q) (hq : Q (some (.int q.1)) (SH, q.2.1, q.2.2)) : wp (d + 1) mX9_order 0 [some (.ref 0), some (.int a0), some (.int a1), none] [] (SH, s.1, s.2) Q := by
  unfold F_X9_order at h
  try dsimp only at h
  refine w_aload_n (j := 1) rfl rfl rfl ?_
  refine w_getR (j := 2) rfl rfl rfl rfl rfl rfl ?_
  refine w_iload_n (j := 3) rfl rfl rfl ?_
  refine wc_AI_X (j := 4) (T := []) rfl rfl rfl rfl rfl rfl rfl rfl rfl rfl ?_
  refine w_iload_n (j := 1) rfl rfl rfl ?_
  rcases xite_inv h with ⟨c1, h⟩ | ⟨c1, h⟩
  · refine w_iflt_t (j := 11) rfl c1 rfl ?_
    refine w_aconst_null (j := 12) rfl rfl ?_
    refine wp_ret rfl rfl rfl ⟨_, rfl, ?_⟩
    refine w_astore_nN (j := 5) rfl (l1_3 rfl) rfl ?_
    refine w_aload_nN (j := 6) rfl rfl rfl ?_
    refine w_ifnonnull_f (j := 7) rfl rfl ?_
    refine w_iconst (z := (-1 : Int32)) (j := 8) rfl rfl rfl ?_
    obtain rfl := Option.some.inj h
    exact wp_ret rfl rfl rfl hq
  · refine w_iflt_f (j := 2) rfl c1 rfl ?_
    refine w_iload_n (j := 3) rfl rfl rfl ?_
    refine w_aload_n (j := 4) rfl rfl rfl ?_
    refine w_getI (j := 5) rfl rfl rfl rfl rfl ?_
    rcases xite_inv h with ⟨c2, h⟩ | ⟨c2, h⟩
    · refine w_icmpge_t (j := 11) rfl c2 rfl ?_
      refine w_aconst_null (j := 12) rfl rfl ?_
      refine wp_ret rfl rfl rfl ⟨_, rfl, ?_⟩
      refine w_astore_nN (j := 5) rfl (l1_3 rfl) rfl ?_
      refine w_aload_nN (j := 6) rfl rfl rfl ?_
      refine w_ifnonnull_f (j := 7) rfl rfl ?_
      refine w_iconst (z := (-1 : Int32)) (j := 8) rfl rfl rfl ?_
      obtain rfl := Option.some.inj h
      exact wp_ret rfl rfl rfl hq
    · refine w_icmpge_f (j := 6) rfl c2 rfl ?_
      refine w_aload_n (j := 7) rfl rfl rfl ?_
      refine w_getR (j := 8) rfl rfl rfl rfl rfl rfl ?_
      refine w_iload_n (j := 9) rfl rfl rfl ?_
      rcases xite_inv h with ⟨g3, h⟩ | ⟨g3, h⟩
      · cases h
      · have k4 := kept_OR g3
        refine w_aaload (j := 10) rfl rfl g3 (kept_get g3) rfl ?_
        refine w_goto (j := 12) rfl rfl ?_
        refine wp_ret rfl rfl rfl ⟨_, rfl, ?_⟩
        refine w_astore_n (j := 5) rfl (l1_3 rfl) rfl ?_
        refine w_aload_n (j := 6) rfl rfl rfl ?_
        refine w_ifnonnull_t (j := 9) rfl rfl ?_
        refine w_iload_n (j := 10) rfl rfl rfl ?_
        rcases xite_inv h with ⟨c5_0, h⟩ | ⟨c5_0, h⟩
        · refine w_table_in (q := 0) (j := 11) rfl (by rw [c5_0]; decide) (by rw [c5_0]; decide) rfl ?_
          refine w_aload_n (j := 12) rfl rfl rfl ?_
          refine w_getI (j := 13) rfl k4.1 rfl rfl rfl ?_
          obtain rfl := Option.some.inj h
          exact wp_ret rfl rfl rfl hq
        · rcases xite_inv h with ⟨c5_1, h⟩ | ⟨c5_1, h⟩
          · refine w_table_in (q := 1) (j := 14) rfl (by rw [c5_1]; decide) (by rw [c5_1]; decide) rfl ?_
            refine w_aload_n (j := 15) rfl rfl rfl ?_
            refine w_getI (j := 16) rfl k4.1 rfl rfl rfl ?_
            obtain rfl := Option.some.inj h
            exact wp_ret rfl rfl rfl hq
          · rcases xite_inv h with ⟨c5_2, h⟩ | ⟨c5_2, h⟩
            · refine w_table_in (q := 2) (j := 17) rfl (by rw [c5_2]; decide) (by rw [c5_2]; decide) rfl ?_
              refine w_aload_n (j := 18) rfl rfl rfl ?_
              refine w_getI (j := 19) rfl k4.1 rfl rfl rfl ?_
              obtain rfl := Option.some.inj h
              exact wp_ret rfl rfl rfl hq
            · rcases xite_inv h with ⟨c5_3, h⟩ | ⟨c5_3, h⟩
              · refine w_table_in (q := 3) (j := 20) rfl (by rw [c5_3]; decide) (by rw [c5_3]; decide) rfl ?_
                refine w_aload_n (j := 21) rfl rfl rfl ?_
                refine w_getR (j := 22) rfl k4.1 rfl rfl rfl rfl ?_
                refine wc_A_I (j := 23) (T := []) rfl rfl rfl rfl rfl rfl rfl rfl (xrecv_s rfl rfl k4.2.1.1 rfl) rfl ?_
                refine w_aload_n (j := 1) rfl rfl rfl ?_
                refine w_getI (j := 2) rfl k4.2.1.1 rfl rfl rfl ?_
                refine wp_ret rfl rfl rfl ⟨_, rfl, ?_⟩
                obtain rfl := Option.some.inj h
                exact wp_ret rfl rfl rfl hq
              · rcases xite_inv h with ⟨c5_4, h⟩ | ⟨c5_4, h⟩
                · refine w_table_in (q := 4) (j := 24) rfl (by rw [c5_4]; decide) (by rw [c5_4]; decide) rfl ?_
                  refine w_aload_n (j := 25) rfl rfl rfl ?_
                  refine w_getR (j := 26) rfl k4.1 rfl rfl rfl rfl ?_
                  refine wc_A_I (j := 27) (T := []) rfl rfl rfl rfl rfl rfl rfl rfl (xrecv_s rfl rfl k4.2.2.1 rfl) rfl ?_
                  refine w_aload_n (j := 1) rfl rfl rfl ?_
                  refine w_getI (j := 2) rfl k4.2.2.1 rfl rfl rfl ?_
                  refine wp_ret rfl rfl rfl ⟨_, rfl, ?_⟩
                  obtain rfl := Option.some.inj h
                  exact wp_ret rfl rfl rfl hq
                · refine w_table_out (j := 28) rfl (sw_out_0_4 c5_0 c5_1 c5_2 c5_3 c5_4) rfl ?_
                  refine w_iconst (z := (-1 : Int32)) (j := 29) rfl rfl rfl ?_
                  obtain rfl := Option.some.inj h
                  exact wp_ret rfl rfl rfl hq
set_option maxHeartbeats 2000000 in
set_option maxRecDepth 20000 in
theorem R_X9_given {d : Nat} {a0 : Int32} {a1 : Int32} {a2 : Int32} {s : St} {q : Int32 × St} {Q : Option Value → xM → Prop}  (h : F_X9_given a0 a1 a2 s = some q) (hq : Q (some (.int q.1)) (SH, q.2.1, q.2.2)) : wp (d + 1) mX9_given 0 [some (.ref 0), some (.int a0), some (.int a1), some (.int a2), none, none] [] (SH, s.1, s.2) Q := by
  unfold F_X9_given at h
  try dsimp only at h
  refine w_aload_n (j := 1) rfl rfl rfl ?_
  refine w_getR (j := 2) rfl rfl rfl rfl rfl rfl ?_
  refine w_iload_n (j := 3) rfl rfl rfl ?_
  refine wc_AI_X (j := 4) (T := []) rfl rfl rfl rfl rfl rfl rfl rfl rfl rfl ?_
  refine w_iload_n (j := 1) rfl rfl rfl ?_
  rcases xite_inv h with ⟨c1, h⟩ | ⟨c1, h⟩
  · refine w_iflt_t (j := 11) rfl c1 rfl ?_
    refine w_aconst_null (j := 12) rfl rfl ?_
    refine wp_ret rfl rfl rfl ⟨_, rfl, ?_⟩
    refine w_astoreN (j := 5) rfl (l1_4 rfl) rfl ?_
    refine w_aloadN (j := 6) rfl rfl rfl ?_
    refine w_ifnull_t (j := 12) rfl rfl ?_
    refine w_iconst (z := (-1 : Int32)) (j := 13) rfl rfl rfl ?_
    obtain rfl := Option.some.inj h
    exact wp_ret rfl rfl rfl hq
  · refine w_iflt_f (j := 2) rfl c1 rfl ?_
    refine w_iload_n (j := 3) rfl rfl rfl ?_
    refine w_aload_n (j := 4) rfl rfl rfl ?_
    refine w_getI (j := 5) rfl rfl rfl rfl rfl ?_
    rcases xite_inv h with ⟨c2, h⟩ | ⟨c2, h⟩
    · refine w_icmpge_t (j := 11) rfl c2 rfl ?_
      refine w_aconst_null (j := 12) rfl rfl ?_
      refine wp_ret rfl rfl rfl ⟨_, rfl, ?_⟩
      refine w_astoreN (j := 5) rfl (l1_4 rfl) rfl ?_
      refine w_aloadN (j := 6) rfl rfl rfl ?_
      refine w_ifnull_t (j := 12) rfl rfl ?_
      refine w_iconst (z := (-1 : Int32)) (j := 13) rfl rfl rfl ?_
      obtain rfl := Option.some.inj h
      exact wp_ret rfl rfl rfl hq
    · refine w_icmpge_f (j := 6) rfl c2 rfl ?_
      refine w_aload_n (j := 7) rfl rfl rfl ?_
      refine w_getR (j := 8) rfl rfl rfl rfl rfl rfl ?_
      refine w_iload_n (j := 9) rfl rfl rfl ?_
      rcases xite_inv h with ⟨g3, h⟩ | ⟨g3, h⟩
      · cases h
      · have k4 := kept_OR g3
        refine w_aaload (j := 10) rfl rfl g3 (kept_get g3) rfl ?_
        refine w_goto (j := 12) rfl rfl ?_
        refine wp_ret rfl rfl rfl ⟨_, rfl, ?_⟩
        refine w_astore (j := 5) rfl (l1_4 rfl) rfl ?_
        refine w_aload (j := 6) rfl rfl rfl ?_
        refine w_ifnull_f (j := 7) rfl rfl ?_
        refine w_iload_n (j := 8) rfl rfl rfl ?_
        rcases xite_inv h with ⟨c5, h⟩ | ⟨c5, h⟩
        · refine w_iflt_t (j := 12) rfl c5 rfl ?_
          refine w_iconst (z := (-1 : Int32)) (j := 13) rfl rfl rfl ?_
          obtain rfl := Option.some.inj h
          exact wp_ret rfl rfl rfl hq
        · refine w_iflt_f (j := 9) rfl c5 rfl ?_
          refine w_iload_n (j := 10) rfl rfl rfl ?_
          refine w_iconst (z := (1 : Int32)) (j := 11) rfl rfl rfl ?_
          rcases xite_inv h with ⟨c6, h⟩ | ⟨c6, h⟩
          · refine w_icmple_t (j := 14) rfl c6 rfl ?_
            refine w_iload_n (j := 15) rfl rfl rfl ?_
            rcases xite_inv h with ⟨c7, h⟩ | ⟨c7, h⟩
            · refine w_ifne_f (j := 16) rfl c7 rfl ?_
              refine w_aload (j := 17) rfl rfl rfl ?_
              refine w_getR (j := 18) rfl k4.1 rfl rfl rfl rfl ?_
              refine w_iload_n (j := 19) rfl rfl rfl ?_
              obtain ⟨q8, hq8, h⟩ := Option.bind_eq_some_iff.mp h
              refine wc_AI_I (j := 20) (T := []) rfl rfl rfl rfl rfl rfl rfl rfl (xrecv_s rfl rfl k4.2.1.1 rfl) rfl ?_
              refine R_X5_at k4.2.1 hq8 ⟨_, rfl, ?_⟩
              refine w_goto (j := 25) rfl rfl ?_
              refine w_istore (j := 26) rfl (l1_5 rfl) rfl ?_
              refine w_iload (j := 27) rfl rfl rfl ?_
              refine w_bipush (z := (-4 : Int32)) (j := 28) rfl rfl rfl ?_
              rcases xite_inv h with ⟨c9, h⟩ | ⟨c9, h⟩
              · refine w_icmpne_f (j := 29) rfl c9 rfl ?_
                refine w_iconst (z := (-1 : Int32)) (j := 30) rfl rfl rfl ?_
                refine w_goto (j := 32) rfl rfl ?_
                obtain rfl := Option.some.inj h
                exact wp_ret rfl rfl rfl hq
              · refine w_icmpne_t (j := 31) rfl c9 rfl ?_
                refine w_iload (j := 32) rfl rfl rfl ?_
                obtain rfl := Option.some.inj h
                exact wp_ret rfl rfl rfl hq
            · refine w_ifne_t (j := 21) rfl c7 rfl ?_
              refine w_aload (j := 22) rfl rfl rfl ?_
              refine w_getR (j := 23) rfl k4.1 rfl rfl rfl rfl ?_
              refine w_iload_n (j := 24) rfl rfl rfl ?_
              obtain ⟨q10, hq10, h⟩ := Option.bind_eq_some_iff.mp h
              refine wc_AI_I (j := 25) (T := []) rfl rfl rfl rfl rfl rfl rfl rfl (xrecv_s rfl rfl k4.2.2.1 rfl) rfl ?_
              refine R_X5_at k4.2.2 hq10 ⟨_, rfl, ?_⟩
              refine w_istore (j := 26) rfl (l1_5 rfl) rfl ?_
              refine w_iload (j := 27) rfl rfl rfl ?_
              refine w_bipush (z := (-4 : Int32)) (j := 28) rfl rfl rfl ?_
              rcases xite_inv h with ⟨c11, h⟩ | ⟨c11, h⟩
              · refine w_icmpne_f (j := 29) rfl c11 rfl ?_
                refine w_iconst (z := (-1 : Int32)) (j := 30) rfl rfl rfl ?_
                refine w_goto (j := 32) rfl rfl ?_
                obtain rfl := Option.some.inj h
                exact wp_ret rfl rfl rfl hq
              · refine w_icmpne_t (j := 31) rfl c11 rfl ?_
                refine w_iload (j := 32) rfl rfl rfl ?_
                obtain rfl := Option.some.inj h
                exact wp_ret rfl rfl rfl hq
          · refine w_icmple_f (j := 12) rfl c6 rfl ?_
            refine w_iconst (z := (-1 : Int32)) (j := 13) rfl rfl rfl ?_
            obtain rfl := Option.some.inj h
            exact wp_ret rfl rfl rfl hq
set_option maxHeartbeats 2000000 in
set_option maxRecDepth 20000 in
theorem R_X9_table {d : Nat} {a0 : Int32} {a1 : Int32} {s : St} {q : Int32 × St} {Q : Option Value → xM → Prop}  (h : F_X9_table a0 a1 s = some q) (hq : Q (some (.int q.1)) (SH, q.2.1, q.2.2)) : wp (d + 1) mX9_table 0 [some (.ref 0), some (.int a0), some (.int a1)] [] (SH, s.1, s.2) Q := by
  unfold F_X9_table at h
  try dsimp only at h
  refine w_iload_n (j := 1) rfl rfl rfl ?_
  refine w_iconst (z := (4 : Int32)) (j := 2) rfl rfl rfl ?_
  obtain ⟨q1, hq1, h⟩ := Option.bind_eq_some_iff.mp h
  refine wc_II_I (j := 3) (T := []) rfl rfl rfl rfl rfl rfl rfl rfl rfl rfl ?_
  refine R_X9_isBelow hq1 ⟨_, rfl, ?_⟩
  rcases xite_inv h with ⟨c2, h⟩ | ⟨c2, h⟩
  · refine w_ifeq_t (j := 11) rfl c2 rfl ?_
    refine w_iconst (z := (-1 : Int32)) (j := 12) rfl rfl rfl ?_
    obtain rfl := Option.some.inj h
    exact wp_ret rfl rfl rfl hq
  · refine w_ifeq_f (j := 4) rfl c2 rfl ?_
    refine w_aload_n (j := 5) rfl rfl rfl ?_
    refine w_getR (j := 6) rfl rfl rfl rfl rfl rfl ?_
    refine w_iload_n (j := 7) rfl rfl rfl ?_
    obtain ⟨q3, hq3, h⟩ := Option.bind_eq_some_iff.mp h
    refine wc_AI_A (j := 8) (T := []) rfl rfl rfl rfl rfl rfl rfl rfl rfl rfl ?_
    refine R_X3_meantBy hq3 ⟨_, rfl, ?_⟩
    have t4 := T_X3_meantBy hq3
    refine w_iload_n (j := 9) rfl rfl rfl ?_
    obtain ⟨q5, hq5, h⟩ := Option.bind_eq_some_iff.mp h
    refine wc_AI_I (j := 10) (T := []) rfl rfl rfl rfl rfl rfl rfl rfl (xrecv_s rfl rfl t4.1 rfl) rfl ?_
    refine R_X5_at t4 hq5 ⟨_, rfl, ?_⟩
    refine w_goto (j := 12) rfl rfl ?_
    obtain rfl := Option.some.inj h
    exact wp_ret rfl rfl rfl hq
set_option maxHeartbeats 2000000 in
set_option maxRecDepth 20000 in
theorem R_X9_count {d : Nat} {a0 : Int32} {s : St} {q : Int32 × St} {Q : Option Value → xM → Prop}  (h : F_X9_count a0 s = some q) (hq : Q (some (.int q.1)) (SH, q.2.1, q.2.2)) : wp (d + 1) mX9_count 0 [some (.ref 0), some (.int a0)] [] (SH, s.1, s.2) Q := by
  unfold F_X9_count at h
  try dsimp only at h
  refine w_iload_n (j := 1) rfl rfl rfl ?_
  rcases xite_inv h with ⟨c1_0, h⟩ | ⟨c1_0, h⟩
  · refine w_table_in (q := 0) (j := 2) rfl (by rw [c1_0]; decide) (by rw [c1_0]; decide) rfl ?_
    refine w_aload_n (j := 3) rfl rfl rfl ?_
    refine w_getR (j := 4) rfl rfl rfl rfl rfl rfl ?_
    refine wc_A_I (j := 5) (T := []) rfl rfl rfl rfl rfl rfl rfl rfl rfl rfl ?_
    refine w_aload_n (j := 1) rfl rfl rfl ?_
    refine w_getI (j := 2) rfl rfl rfl rfl rfl ?_
    refine wp_ret rfl rfl rfl ⟨_, rfl, ?_⟩
    obtain rfl := Option.some.inj h
    exact wp_ret rfl rfl rfl hq
  · rcases xite_inv h with ⟨c1_1, h⟩ | ⟨c1_1, h⟩
    · refine w_table_in (q := 1) (j := 6) rfl (by rw [c1_1]; decide) (by rw [c1_1]; decide) rfl ?_
      refine w_aload_n (j := 7) rfl rfl rfl ?_
      refine w_getR (j := 8) rfl rfl rfl rfl rfl rfl ?_
      refine wc_A_I (j := 9) (T := []) rfl rfl rfl rfl rfl rfl rfl rfl rfl rfl ?_
      refine w_aload_n (j := 1) rfl rfl rfl ?_
      refine w_getI (j := 2) rfl rfl rfl rfl rfl ?_
      refine wp_ret rfl rfl rfl ⟨_, rfl, ?_⟩
      obtain rfl := Option.some.inj h
      exact wp_ret rfl rfl rfl hq
    · rcases xite_inv h with ⟨c1_2, h⟩ | ⟨c1_2, h⟩
      · refine w_table_in (q := 2) (j := 10) rfl (by rw [c1_2]; decide) (by rw [c1_2]; decide) rfl ?_
        refine w_aload_n (j := 11) rfl rfl rfl ?_
        refine w_getR (j := 12) rfl rfl rfl rfl rfl rfl ?_
        refine wc_A_I (j := 13) (T := []) rfl rfl rfl rfl rfl rfl rfl rfl rfl rfl ?_
        refine w_aload_n (j := 1) rfl rfl rfl ?_
        refine w_getI (j := 2) rfl rfl rfl rfl rfl ?_
        refine wp_ret rfl rfl rfl ⟨_, rfl, ?_⟩
        obtain rfl := Option.some.inj h
        exact wp_ret rfl rfl rfl hq
      · rcases xite_inv h with ⟨c1_3, h⟩ | ⟨c1_3, h⟩
        · refine w_table_in (q := 3) (j := 14) rfl (by rw [c1_3]; decide) (by rw [c1_3]; decide) rfl ?_
          refine w_aload_n (j := 15) rfl rfl rfl ?_
          refine w_getR (j := 16) rfl rfl rfl rfl rfl rfl ?_
          refine wc_A_I (j := 17) (T := []) rfl rfl rfl rfl rfl rfl rfl rfl rfl rfl ?_
          refine w_aload_n (j := 1) rfl rfl rfl ?_
          refine w_getI (j := 2) rfl rfl rfl rfl rfl ?_
          refine wp_ret rfl rfl rfl ⟨_, rfl, ?_⟩
          obtain rfl := Option.some.inj h
          exact wp_ret rfl rfl rfl hq
        · rcases xite_inv h with ⟨c1_4, h⟩ | ⟨c1_4, h⟩
          · refine w_table_in (q := 4) (j := 18) rfl (by rw [c1_4]; decide) (by rw [c1_4]; decide) rfl ?_
            refine w_aload_n (j := 19) rfl rfl rfl ?_
            refine w_getR (j := 20) rfl rfl rfl rfl rfl rfl ?_
            refine wc_A_I (j := 21) (T := []) rfl rfl rfl rfl rfl rfl rfl rfl rfl rfl ?_
            refine w_aload_n (j := 1) rfl rfl rfl ?_
            refine w_getI (j := 2) rfl rfl rfl rfl rfl ?_
            refine wp_ret rfl rfl rfl ⟨_, rfl, ?_⟩
            obtain rfl := Option.some.inj h
            exact wp_ret rfl rfl rfl hq
          · refine w_table_out (j := 22) rfl (sw_out_0_4 c1_0 c1_1 c1_2 c1_3 c1_4) rfl ?_
            refine w_iconst (z := (-1 : Int32)) (j := 23) rfl rfl rfl ?_
            obtain rfl := Option.some.inj h
            exact wp_ret rfl rfl rfl hq
set_option maxHeartbeats 2000000 in
set_option maxRecDepth 20000 in
theorem R_X10_isIn {d : Nat} {a0 : Int32} {a1 : Int32} {a2 : Int32} {s : St} {q : Int32 × St} {Q : Option Value → xM → Prop}  (h : F_X10_isIn a0 a1 a2 s = some q) (hq : Q (some (.int q.1)) (SH, q.2.1, q.2.2)) : wp (d + 0) mX10_isIn 0 [some (.int a0), some (.int a1), some (.int a2)] [] (SH, s.1, s.2) Q := by
  unfold F_X10_isIn at h
  try dsimp only at h
  refine w_iload_n (j := 1) rfl rfl rfl ?_
  refine w_iload_n (j := 2) rfl rfl rfl ?_
  rcases xite_inv h with ⟨c1, h⟩ | ⟨c1, h⟩
  · refine w_icmplt_t (j := 8) rfl c1 rfl ?_
    refine w_iconst (z := (0 : Int32)) (j := 9) rfl rfl rfl ?_
    obtain rfl := Option.some.inj h
    exact wp_ret rfl rfl rfl hq
  · refine w_icmplt_f (j := 3) rfl c1 rfl ?_
    refine w_iload_n (j := 4) rfl rfl rfl ?_
    refine w_iload_n (j := 5) rfl rfl rfl ?_
    rcases xite_inv h with ⟨c2, h⟩ | ⟨c2, h⟩
    · refine w_icmpgt_t (j := 8) rfl c2 rfl ?_
      refine w_iconst (z := (0 : Int32)) (j := 9) rfl rfl rfl ?_
      obtain rfl := Option.some.inj h
      exact wp_ret rfl rfl rfl hq
    · refine w_icmpgt_f (j := 6) rfl c2 rfl ?_
      refine w_iconst (z := (1 : Int32)) (j := 7) rfl rfl rfl ?_
      refine w_goto (j := 9) rfl rfl ?_
      obtain rfl := Option.some.inj h
      exact wp_ret rfl rfl rfl hq
set_option maxHeartbeats 2000000 in
set_option maxRecDepth 20000 in
theorem R_X10_isThing {d : Nat} {a0 : Int32} {s : St} {q : Int32 × St} {Q : Option Value → xM → Prop}  (h : F_X10_isThing a0 s = some q) (hq : Q (some (.int q.1)) (SH, q.2.1, q.2.2)) : wp (d + 1) mX10_isThing 0 [some (.ref 94), some (.int a0)] [] (SH, s.1, s.2) Q := by
  unfold F_X10_isThing at h
  try dsimp only at h
  refine w_iload_n (j := 1) rfl rfl rfl ?_
  refine w_iconst (z := (0 : Int32)) (j := 2) rfl rfl rfl ?_
  refine w_aload_n (j := 3) rfl rfl rfl ?_
  refine w_getI (j := 4) rfl rfl rfl rfl rfl ?_
  refine w_iconst (z := (1 : Int32)) (j := 5) rfl rfl rfl ?_
  refine w_isub (j := 6) rfl rfl ?_
  obtain ⟨q1, hq1, h⟩ := Option.bind_eq_some_iff.mp h
  refine wc_III_I (j := 7) (T := []) rfl rfl rfl rfl rfl rfl rfl rfl rfl rfl ?_
  refine R_X10_isIn hq1 ⟨_, rfl, ?_⟩
  rcases xite_inv h with ⟨hb, h⟩ | ⟨hb, h⟩
  · obtain rfl := Option.some.inj h
    exact wp_ret rfl rfl (xretb hb) hq
  · cases h
set_option maxHeartbeats 2000000 in
set_option maxRecDepth 20000 in
theorem R_X10_isWord {d : Nat} {a0 : Int32} {s : St} {q : Int32 × St} {Q : Option Value → xM → Prop}  (h : F_X10_isWord a0 s = some q) (hq : Q (some (.int q.1)) (SH, q.2.1, q.2.2)) : wp (d + 1) mX10_isWord 0 [some (.ref 94), some (.int a0)] [] (SH, s.1, s.2) Q := by
  unfold F_X10_isWord at h
  try dsimp only at h
  refine w_iload_n (j := 1) rfl rfl rfl ?_
  refine w_iconst (z := (0 : Int32)) (j := 2) rfl rfl rfl ?_
  refine w_aload_n (j := 3) rfl rfl rfl ?_
  refine w_getI (j := 4) rfl rfl rfl rfl rfl ?_
  refine w_iconst (z := (1 : Int32)) (j := 5) rfl rfl rfl ?_
  refine w_isub (j := 6) rfl rfl ?_
  obtain ⟨q1, hq1, h⟩ := Option.bind_eq_some_iff.mp h
  refine wc_III_I (j := 7) (T := []) rfl rfl rfl rfl rfl rfl rfl rfl rfl rfl ?_
  refine R_X10_isIn hq1 ⟨_, rfl, ?_⟩
  rcases xite_inv h with ⟨hb, h⟩ | ⟨hb, h⟩
  · obtain rfl := Option.some.inj h
    exact wp_ret rfl rfl (xretb hb) hq
  · cases h
