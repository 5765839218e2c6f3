set_option maxHeartbeats 2000000 in
set_option maxRecDepth 20000 in
theorem RL_X10_line_19 {d : Nat}  {Q : Option Value → xM → Prop}  : ∀ (n : Nat) (l2 : Int32) (u1 : Option Value) (s : St) (q : St)  (hu1 : xlong u1 = false) (h : L_X10_line_19  n l2 s = some q) (hq : ∀ (v1 : Option Value), xlong v1 = false → wp (d + 9) mX10_line 31 [some (.ref 94), v1, some (.int l2)] [] (SH, q.1, q.2) Q), wp (d + 9) mX10_line 19 [some (.ref 94), u1, some (.int l2)] [] (SH, s.1, s.2) Q := by
  intro n
  induction n with
  | zero => intro l2 u1 s q hu1 h; cases h
  | succ n ih =>
    intro l2 u1 s q hu1 h hq
    unfold L_X10_line_19 at h
    try dsimp only at h
    refine w_iload_n (j := 20) rfl rfl rfl ?_
    rcases xite_inv h with ⟨c6, h⟩ | ⟨c6, h⟩
    · refine w_ifeq_t (j := 31) rfl c6 rfl ?_
      obtain rfl := Option.some.inj h
      exact hq _ hu1
    · refine w_ifeq_f (j := 21) rfl c6 rfl ?_
      refine w_aload_n (j := 22) rfl rfl rfl ?_
      obtain ⟨q7, hq7, h⟩ := Option.bind_eq_some_iff.mp h
      refine wc_A_I (j := 23) (T := []) rfl rfl rfl rfl rfl rfl rfl rfl rfl rfl ?_
      refine R_X10_isBetween hq7 ⟨_, rfl, ?_⟩
      rcases xite_inv h with ⟨c8, h⟩ | ⟨c8, h⟩
      · refine w_ifeq_t (j := 31) rfl c8 rfl ?_
        obtain rfl := Option.some.inj h
        exact hq _ hu1
      · refine w_ifeq_f (j := 24) rfl c8 rfl ?_
        refine w_aload_n (j := 25) rfl rfl rfl ?_
        refine w_dup (j := 26) rfl rfl rfl ?_
        refine w_getI (j := 27) rfl rfl rfl rfl rfl ?_
        refine w_iconst (z := (1 : Int32)) (j := 28) rfl rfl rfl ?_
        refine w_iadd (j := 29) rfl rfl ?_
        refine w_putI (j := 30) rfl rfl rfl rfl rfl ?_
        try dsimp only at h
        refine w_goto (j := 19) rfl rfl ?_
        exact ih _ _ _ _ hu1 h hq
set_option maxHeartbeats 2000000 in
set_option maxRecDepth 20000 in
theorem RL_X10_line_58 {d : Nat}  {Q : Option Value → xM → Prop}  : ∀ (n : Nat) (l2 : Int32) (u1 : Option Value) (s : St) (q : St)  (hu1 : xlong u1 = false) (h : L_X10_line_58  n l2 s = some q) (hq : ∀ (v1 : Option Value), xlong v1 = false → wp (d + 9) mX10_line 31 [some (.ref 94), v1, some (.int l2)] [] (SH, q.1, q.2) Q), wp (d + 9) mX10_line 58 [some (.ref 94), u1, some (.int l2)] [] (SH, s.1, s.2) Q := by
  intro n
  induction n with
  | zero => intro l2 u1 s q hu1 h; cases h
  | succ n ih =>
    intro l2 u1 s q hu1 h hq
    unfold L_X10_line_58 at h
    try dsimp only at h
    refine w_iload_n (j := 59) rfl rfl rfl ?_
    rcases xite_inv h with ⟨c17, h⟩ | ⟨c17, h⟩
    · refine w_ifeq_t (j := 31) rfl c17 rfl ?_
      obtain rfl := Option.some.inj h
      exact hq _ hu1
    · refine w_ifeq_f (j := 60) rfl c17 rfl ?_
      refine w_aload_n (j := 61) rfl rfl rfl ?_
      obtain ⟨q18, hq18, h⟩ := Option.bind_eq_some_iff.mp h
      refine wc_A_I (j := 62) (T := []) rfl rfl rfl rfl rfl rfl rfl rfl rfl rfl ?_
      refine R_X10_isBetween hq18 ⟨_, rfl, ?_⟩
      rcases xite_inv h with ⟨c19, h⟩ | ⟨c19, h⟩
      · refine w_ifeq_t (j := 31) rfl c19 rfl ?_
        obtain rfl := Option.some.inj h
        exact hq _ hu1
      · refine w_ifeq_f (j := 63) rfl c19 rfl ?_
        refine w_aload_n (j := 64) rfl rfl rfl ?_
        refine w_dup (j := 65) rfl rfl rfl ?_
        refine w_getI (j := 66) rfl rfl rfl rfl rfl ?_
        refine w_iconst (z := (1 : Int32)) (j := 67) rfl rfl rfl ?_
        refine w_iadd (j := 68) rfl rfl ?_
        refine w_putI (j := 69) rfl rfl rfl rfl rfl ?_
        try dsimp only at h
        refine w_goto (j := 58) rfl rfl ?_
        exact ih _ _ _ _ hu1 h hq
set_option maxHeartbeats 2000000 in
set_option maxRecDepth 20000 in
theorem RL_X10_line_31 {d : Nat}  {Q : Option Value → xM → Prop}  : ∀ (n : Nat) (l2 : Int32) (u1 : Option Value) (s : St) (q : St)  (hu1 : xlong u1 = false) (h : L_X10_line_31  n l2 s = some q) (hq : ∀ (v1 v2 : Option Value), xlong v1 = false → wp (d + 9) mX10_line 70 [some (.ref 94), v1, v2] [] (SH, q.1, q.2) Q), wp (d + 9) mX10_line 31 [some (.ref 94), u1, some (.int l2)] [] (SH, s.1, s.2) Q := by
  intro n
  induction n with
  | zero => intro l2 u1 s q hu1 h; cases h
  | succ n ih =>
    intro l2 u1 s q hu1 h hq
    unfold L_X10_line_31 at h
    try dsimp only at h
    refine w_iload_n (j := 32) rfl rfl rfl ?_
    rcases xite_inv h with ⟨c12, h⟩ | ⟨c12, h⟩
    · refine w_ifeq_t (j := 70) rfl c12 rfl ?_
      obtain rfl := Option.some.inj h
      exact hq _ _ hu1
    · refine w_ifeq_f (j := 33) rfl c12 rfl ?_
      refine w_aload_n (j := 34) rfl rfl rfl ?_
      refine w_getR (j := 35) rfl rfl rfl rfl rfl rfl ?_
      refine w_aload_n (j := 36) rfl rfl rfl ?_
      refine w_getI (j := 37) rfl rfl rfl rfl rfl ?_
      rcases xite_inv h with ⟨g13, h⟩ | ⟨g13, h⟩
      · cases h
      · refine w_iaload (j := 38) rfl rfl g13 rfl ?_
        refine w_bipush (z := (33 : Int32)) (j := 39) rfl rfl rfl ?_
        rcases xite_inv h with ⟨c14, h⟩ | ⟨c14, h⟩
        · refine w_icmpeq_t (j := 70) rfl c14 rfl ?_
          obtain rfl := Option.some.inj h
          exact hq _ _ hu1
        · refine w_icmpeq_f (j := 40) rfl c14 rfl ?_
          refine w_aload_n (j := 41) rfl rfl rfl ?_
          obtain ⟨q15, hq15, h⟩ := Option.bind_eq_some_iff.mp h
          refine wc_A_I (j := 42) (T := []) rfl rfl rfl rfl rfl rfl rfl rfl rfl rfl ?_
          refine R_X10_order hq15 ⟨_, rfl, ?_⟩
          refine w_istore_n (j := 43) rfl (l1_2 hu1) rfl ?_
          refine w_iload_n (j := 44) rfl rfl rfl ?_
          rcases xite_inv h with ⟨c16, h⟩ | ⟨c16, h⟩
          · refine w_ifeq_t (j := 58) rfl c16 rfl ?_
            obtain ⟨q21, hq21, h⟩ := Option.bind_eq_some_iff.mp h
            refine RL_X10_line_58  _ _ _ _ _ hu1 hq21 (fun v22 hv22 => ?_)
            exact ih _ _ _ _ hv22 h hq
          · refine w_ifeq_f (j := 45) rfl c16 rfl ?_
            refine w_aload_n (j := 46) rfl rfl rfl ?_
            refine w_getR (j := 47) rfl rfl rfl rfl rfl rfl ?_
            refine w_aload_n (j := 48) rfl rfl rfl ?_
            refine w_getI (j := 49) rfl rfl rfl rfl rfl ?_
            rcases xite_inv h with ⟨g23, h⟩ | ⟨g23, h⟩
            · cases h
            · refine w_iaload (j := 50) rfl rfl g23 rfl ?_
              refine w_bipush (z := (33 : Int32)) (j := 51) rfl rfl rfl ?_
              rcases xite_inv h with ⟨c24, h⟩ | ⟨c24, h⟩
              · refine w_icmpeq_t (j := 58) rfl c24 rfl ?_
                obtain ⟨q25, hq25, h⟩ := Option.bind_eq_some_iff.mp h
                refine RL_X10_line_58  _ _ _ _ _ hu1 hq25 (fun v26 hv26 => ?_)
                exact ih _ _ _ _ hv26 h hq
              · refine w_icmpeq_f (j := 52) rfl c24 rfl ?_
                refine w_aload_n (j := 53) rfl rfl rfl ?_
                obtain ⟨q27, hq27, h⟩ := Option.bind_eq_some_iff.mp h
                refine wc_A_I (j := 54) (T := []) rfl rfl rfl rfl rfl rfl rfl rfl rfl rfl ?_
                refine R_X10_isBetween hq27 ⟨_, rfl, ?_⟩
                rcases xite_inv h with ⟨c28, h⟩ | ⟨c28, h⟩
                · refine w_ifne_f (j := 55) rfl c28 rfl ?_
                  refine w_aload_n (j := 56) rfl rfl rfl ?_
                  obtain ⟨q29, hq29, h⟩ := Option.bind_eq_some_iff.mp h
                  refine wc_A_I (j := 57) (T := []) rfl rfl rfl rfl rfl rfl rfl rfl rfl rfl ?_
                  refine R_X10_wrong hq29 ⟨_, rfl, ?_⟩
                  refine w_istore_n (j := 58) rfl (l1_2 hu1) rfl ?_
                  obtain ⟨q30, hq30, h⟩ := Option.bind_eq_some_iff.mp h
                  refine RL_X10_line_58  _ _ _ _ _ hu1 hq30 (fun v31 hv31 => ?_)
                  exact ih _ _ _ _ hv31 h hq
                · refine w_ifne_t (j := 58) rfl c28 rfl ?_
                  obtain ⟨q32, hq32, h⟩ := Option.bind_eq_some_iff.mp h
                  refine RL_X10_line_58  _ _ _ _ _ hu1 hq32 (fun v33 hv33 => ?_)
                  exact ih _ _ _ _ hv33 h hq
set_option maxHeartbeats 2000000 in
set_option maxRecDepth 20000 in
theorem R_X10_line {d : Nat}  {s : St} {q : Int32 × St} {Q : Option Value → xM → Prop}  (h : F_X10_line  s = some q) (hq : Q (some (.int q.1)) (SH, q.2.1, q.2.2)) : wp (d + 9) mX10_line 0 [some (.ref 94), none, none] [] (SH, s.1, s.2) Q := by
  unfold F_X10_line at h
  try dsimp only at h
  refine w_aload_n (j := 1) rfl rfl rfl ?_
  refine w_getI (j := 2) rfl rfl rfl rfl rfl ?_
  refine w_istore_n (j := 3) rfl (l1_1 rfl) rfl ?_
  refine w_aload_n (j := 4) rfl rfl rfl ?_
  refine w_iconst (z := (0 : Int32)) (j := 5) rfl rfl rfl ?_
  refine w_putI (j := 6) rfl rfl rfl rfl rfl ?_
  try dsimp only at h
  refine w_aload_n (j := 7) rfl rfl rfl ?_
  refine w_iconst (z := (0 : Int32)) (j := 8) rfl rfl rfl ?_
  refine w_putI (j := 9) rfl rfl rfl rfl rfl ?_
  try dsimp only at h
  refine w_aload_n (j := 10) rfl rfl rfl ?_
  refine w_iconst (z := (0 : Int32)) (j := 11) rfl rfl rfl ?_
  refine w_putI (j := 12) rfl rfl rfl rfl rfl ?_
  try dsimp only at h
  refine w_aload_n (j := 13) rfl rfl rfl ?_
  refine w_iconst (z := (0 : Int32)) (j := 14) rfl rfl rfl ?_
  refine w_putI (j := 15) rfl rfl rfl rfl rfl ?_
  try dsimp only at h
  refine w_aload_n (j := 16) rfl rfl rfl ?_
  refine w_iload_n (j := 17) rfl rfl rfl ?_
  obtain ⟨q5, hq5, h⟩ := Option.bind_eq_some_iff.mp h
  refine wc_AI_I (j := 18) (T := [none, none, none, none, none, none]) rfl rfl rfl rfl rfl rfl rfl rfl rfl rfl ?_
  refine R_X10_cuts hq5 ⟨_, rfl, ?_⟩
  refine w_istore_n (j := 19) rfl (l1_2 rfl) rfl ?_
  obtain ⟨q10, hq10, h⟩ := Option.bind_eq_some_iff.mp h
  refine RL_X10_line_19  _ _ _ _ _ rfl hq10 (fun v11 hv11 => ?_)
  obtain ⟨q34, hq34, h⟩ := Option.bind_eq_some_iff.mp h
  refine RL_X10_line_31  _ _ _ _ _ hv11 hq34 (fun v35 v36 hv35 => ?_)
  refine w_aload_n (j := 71) rfl rfl rfl ?_
  refine w_getI (j := 72) rfl rfl rfl rfl rfl ?_
  rcases xite_inv h with ⟨c37, h⟩ | ⟨c37, h⟩
  · refine w_ifne_f (j := 73) rfl c37 rfl ?_
    refine w_aload_n (j := 74) rfl rfl rfl ?_
    refine w_getI (j := 75) rfl rfl rfl rfl rfl ?_
    refine w_goto (j := 80) rfl rfl ?_
    obtain rfl := Option.some.inj h
    exact wp_ret rfl rfl rfl hq
  · refine w_ifne_t (j := 76) rfl c37 rfl ?_
    refine w_bipush (z := (-10 : Int32)) (j := 77) rfl rfl rfl ?_
    refine w_aload_n (j := 78) rfl rfl rfl ?_
    refine w_getI (j := 79) rfl rfl rfl rfl rfl ?_
    refine w_isub (j := 80) rfl rfl ?_
    obtain rfl := Option.some.inj h
    exact wp_ret rfl rfl rfl hq
set_option maxHeartbeats 2000000 in
set_option maxRecDepth 20000 in
theorem R_X10_fault {d : Nat}  {s : St} {q : Int32 × St} {Q : Option Value → xM → Prop}  (h : F_X10_fault  s = some q) (hq : Q (some (.int q.1)) (SH, q.2.1, q.2.2)) : wp (d + 0) mX10_fault 0 [some (.ref 94)] [] (SH, s.1, s.2) Q := by
  unfold F_X10_fault at h
  try dsimp only at h
  refine w_aload_n (j := 1) rfl rfl rfl ?_
  refine w_getI (j := 2) rfl rfl rfl rfl rfl ?_
  obtain rfl := Option.some.inj h
  exact wp_ret rfl rfl rfl hq
set_option maxHeartbeats 2000000 in
set_option maxRecDepth 20000 in
theorem R_X10_order_ {d : Nat} {a0 : Int32} {a1 : Int32} {s : St} {q : Int32 × St} {Q : Option Value → xM → Prop}  (h : F_X10_order_ a0 a1 s = some q) (hq : Q (some (.int q.1)) (SH, q.2.1, q.2.2)) : wp (d + 1) mX10_order_ 0 [some (.ref 94), some (.int a0), some (.int a1)] [] (SH, s.1, s.2) Q := by
  unfold F_X10_order_ at h
  try dsimp only at h
  refine w_iload_n (j := 1) rfl rfl rfl ?_
  refine w_iconst (z := (0 : Int32)) (j := 2) rfl rfl rfl ?_
  refine w_aload_n (j := 3) rfl rfl rfl ?_
  refine w_getI (j := 4) rfl rfl rfl rfl rfl ?_
  refine w_iconst (z := (1 : Int32)) (j := 5) rfl rfl rfl ?_
  refine w_isub (j := 6) rfl rfl ?_
  obtain ⟨q1, hq1, h⟩ := Option.bind_eq_some_iff.mp h
  refine wc_III_I (j := 7) (T := []) rfl rfl rfl rfl rfl rfl rfl rfl rfl rfl ?_
  refine R_X10_isIn hq1 ⟨_, rfl, ?_⟩
  rcases xite_inv h with ⟨c2, h⟩ | ⟨c2, h⟩
  · refine w_ifeq_t (j := 13) rfl c2 rfl ?_
    refine w_iconst (z := (-1 : Int32)) (j := 14) rfl rfl rfl ?_
    obtain rfl := Option.some.inj h
    exact wp_ret rfl rfl rfl hq
  · refine w_ifeq_f (j := 8) rfl c2 rfl ?_
    refine w_iload_n (j := 9) rfl rfl rfl ?_
    refine w_iconst (z := (0 : Int32)) (j := 10) rfl rfl rfl ?_
    refine w_iconst (z := (4 : Int32)) (j := 11) rfl rfl rfl ?_
    obtain ⟨q3, hq3, h⟩ := Option.bind_eq_some_iff.mp h
    refine wc_III_I (j := 12) (T := []) rfl rfl rfl rfl rfl rfl rfl rfl rfl rfl ?_
    refine R_X10_isIn hq3 ⟨_, rfl, ?_⟩
    rcases xite_inv h with ⟨c4, h⟩ | ⟨c4, h⟩
    · refine w_ifne_f (j := 13) rfl c4 rfl ?_
      refine w_iconst (z := (-1 : Int32)) (j := 14) rfl rfl rfl ?_
      obtain rfl := Option.some.inj h
      exact wp_ret rfl rfl rfl hq
    · refine w_ifne_t (j := 15) rfl c4 rfl ?_
      refine w_iload_n (j := 16) rfl rfl rfl ?_
      rcases xite_inv h with ⟨c5, h⟩ | ⟨c5, h⟩
      · refine w_ifne_f (j := 17) rfl c5 rfl ?_
        refine w_aload_n (j := 18) rfl rfl rfl ?_
        refine w_getR (j := 19) rfl rfl rfl rfl rfl rfl ?_
        refine w_iload_n (j := 20) rfl rfl rfl ?_
        rcases xite_inv h with ⟨g6, h⟩ | ⟨g6, h⟩
        · cases h
        · refine w_iaload (j := 21) rfl rfl g6 rfl ?_
          refine w_goto (j := 48) rfl rfl ?_
          obtain rfl := Option.some.inj h
          exact wp_ret rfl rfl rfl hq
      · refine w_ifne_t (j := 22) rfl c5 rfl ?_
        refine w_iload_n (j := 23) rfl rfl rfl ?_
        refine w_iconst (z := (1 : Int32)) (j := 24) rfl rfl rfl ?_
        rcases xite_inv h with ⟨c7, h⟩ | ⟨c7, h⟩
        · refine w_icmpne_f (j := 25) rfl c7 rfl ?_
          refine w_aload_n (j := 26) rfl rfl rfl ?_
          refine w_getR (j := 27) rfl rfl rfl rfl rfl rfl ?_
          refine w_iload_n (j := 28) rfl rfl rfl ?_
          rcases xite_inv h with ⟨g8, h⟩ | ⟨g8, h⟩
          · cases h
          · refine w_iaload (j := 29) rfl rfl g8 rfl ?_
            refine w_goto (j := 48) rfl rfl ?_
            obtain rfl := Option.some.inj h
            exact wp_ret rfl rfl rfl hq
        · refine w_icmpne_t (j := 30) rfl c7 rfl ?_
          refine w_iload_n (j := 31) rfl rfl rfl ?_
          refine w_iconst (z := (2 : Int32)) (j := 32) rfl rfl rfl ?_
          rcases xite_inv h with ⟨c9, h⟩ | ⟨c9, h⟩
          · refine w_icmpne_f (j := 33) rfl c9 rfl ?_
            refine w_aload_n (j := 34) rfl rfl rfl ?_
            refine w_getR (j := 35) rfl rfl rfl rfl rfl rfl ?_
            refine w_iload_n (j := 36) rfl rfl rfl ?_
            rcases xite_inv h with ⟨g10, h⟩ | ⟨g10, h⟩
            · cases h
            · refine w_iaload (j := 37) rfl rfl g10 rfl ?_
              refine w_goto (j := 48) rfl rfl ?_
              obtain rfl := Option.some.inj h
              exact wp_ret rfl rfl rfl hq
          · refine w_icmpne_t (j := 38) rfl c9 rfl ?_
            refine w_aload_n (j := 39) rfl rfl rfl ?_
            refine w_getR (j := 40) rfl rfl rfl rfl rfl rfl ?_
            refine w_iconst (z := (2 : Int32)) (j := 41) rfl rfl rfl ?_
            refine w_iload_n (j := 42) rfl rfl rfl ?_
            refine w_imul (j := 43) rfl rfl ?_
            refine w_iload_n (j := 44) rfl rfl rfl ?_
            refine w_iadd (j := 45) rfl rfl ?_
            refine w_iconst (z := (3 : Int32)) (j := 46) rfl rfl rfl ?_
            refine w_isub (j := 47) rfl rfl ?_
            rcases xite_inv h with ⟨g11, h⟩ | ⟨g11, h⟩
            · cases h
            · refine w_iaload (j := 48) rfl rfl g11 rfl ?_
              obtain rfl := Option.some.inj h
              exact wp_ret rfl rfl rfl hq
set_option maxHeartbeats 2000000 in
set_option maxRecDepth 20000 in
theorem R_X10_given {d : Nat} {a0 : Int32} {a1 : Int32} {a2 : Int32} {s : St} {q : Int32 × St} {Q : Option Value → xM → Prop}  (h : F_X10_given a0 a1 a2 s = some q) (hq : Q (some (.int q.1)) (SH, q.2.1, q.2.2)) : wp (d + 1) mX10_given 0 [some (.ref 94), some (.int a0), some (.int a1), some (.int a2)] [] (SH, s.1, s.2) Q := by
  unfold F_X10_given at h
  try dsimp only at h
  refine w_iload_n (j := 1) rfl rfl rfl ?_
  refine w_iconst (z := (0 : Int32)) (j := 2) rfl rfl rfl ?_
  refine w_aload_n (j := 3) rfl rfl rfl ?_
  refine w_getI (j := 4) rfl rfl rfl rfl rfl ?_
  refine w_iconst (z := (1 : Int32)) (j := 5) rfl rfl rfl ?_
  refine w_isub (j := 6) rfl rfl ?_
  obtain ⟨q1, hq1, h⟩ := Option.bind_eq_some_iff.mp h
  refine wc_III_I (j := 7) (T := []) rfl rfl rfl rfl rfl rfl rfl rfl rfl rfl ?_
  refine R_X10_isIn hq1 ⟨_, rfl, ?_⟩
  rcases xite_inv h with ⟨c2, h⟩ | ⟨c2, h⟩
  · refine w_ifeq_t (j := 40) rfl c2 rfl ?_
    refine w_iconst (z := (-1 : Int32)) (j := 41) rfl rfl rfl ?_
    obtain rfl := Option.some.inj h
    exact wp_ret rfl rfl rfl hq
  · refine w_ifeq_f (j := 8) rfl c2 rfl ?_
    refine w_iload_n (j := 9) rfl rfl rfl ?_
    refine w_iconst (z := (0 : Int32)) (j := 10) rfl rfl rfl ?_
    refine w_iconst (z := (1 : Int32)) (j := 11) rfl rfl rfl ?_
    obtain ⟨q3, hq3, h⟩ := Option.bind_eq_some_iff.mp h
    refine wc_III_I (j := 12) (T := []) rfl rfl rfl rfl rfl rfl rfl rfl rfl rfl ?_
    refine R_X10_isIn hq3 ⟨_, rfl, ?_⟩
    rcases xite_inv h with ⟨c4, h⟩ | ⟨c4, h⟩
    · refine w_ifeq_t (j := 40) rfl c4 rfl ?_
      refine w_iconst (z := (-1 : Int32)) (j := 41) rfl rfl rfl ?_
      obtain rfl := Option.some.inj h
      exact wp_ret rfl rfl rfl hq
    · refine w_ifeq_f (j := 13) rfl c4 rfl ?_
      refine w_iload_n (j := 14) rfl rfl rfl ?_
      refine w_iconst (z := (0 : Int32)) (j := 15) rfl rfl rfl ?_
      refine w_aload_n (j := 16) rfl rfl rfl ?_
      refine w_getR (j := 17) rfl rfl rfl rfl rfl rfl ?_
      refine w_iconst (z := (2 : Int32)) (j := 18) rfl rfl rfl ?_
      refine w_iload_n (j := 19) rfl rfl rfl ?_
      refine w_imul (j := 20) rfl rfl ?_
      refine w_iload_n (j := 21) rfl rfl rfl ?_
      refine w_iadd (j := 22) rfl rfl ?_
      rcases xite_inv h with ⟨g5, h⟩ | ⟨g5, h⟩
      · cases h
      · refine w_iaload (j := 23) rfl rfl g5 rfl ?_
        refine w_iconst (z := (1 : Int32)) (j := 24) rfl rfl rfl ?_
        refine w_isub (j := 25) rfl rfl ?_
        obtain ⟨q6, hq6, h⟩ := Option.bind_eq_some_iff.mp h
        refine wc_III_I (j := 26) (T := []) rfl rfl rfl rfl rfl rfl rfl rfl rfl rfl ?_
        refine R_X10_isIn hq6 ⟨_, rfl, ?_⟩
        rcases xite_inv h with ⟨c7, h⟩ | ⟨c7, h⟩
        · refine w_ifeq_t (j := 40) rfl c7 rfl ?_
          refine w_iconst (z := (-1 : Int32)) (j := 41) rfl rfl rfl ?_
          obtain rfl := Option.some.inj h
          exact wp_ret rfl rfl rfl hq
        · refine w_ifeq_f (j := 27) rfl c7 rfl ?_
          refine w_aload_n (j := 28) rfl rfl rfl ?_
          refine w_getR (j := 29) rfl rfl rfl rfl rfl rfl ?_
          refine w_bipush (z := (48 : Int32)) (j := 30) rfl rfl rfl ?_
          refine w_iload_n (j := 31) rfl rfl rfl ?_
          refine w_imul (j := 32) rfl rfl ?_
          refine w_bipush (z := (24 : Int32)) (j := 33) rfl rfl rfl ?_
          refine w_iload_n (j := 34) rfl rfl rfl ?_
          refine w_imul (j := 35) rfl rfl ?_
          refine w_iadd (j := 36) rfl rfl ?_
          refine w_iload_n (j := 37) rfl rfl rfl ?_
          refine w_iadd (j := 38) rfl rfl ?_
          rcases xite_inv h with ⟨g8, h⟩ | ⟨g8, h⟩
          · cases h
          · refine w_iaload (j := 39) rfl rfl g8 rfl ?_
            refine w_goto (j := 41) rfl rfl ?_
            obtain rfl := Option.some.inj h
            exact wp_ret rfl rfl rfl hq
set_option maxHeartbeats 2000000 in
set_option maxRecDepth 20000 in
theorem R_X10_table {d : Nat} {a0 : Int32} {a1 : Int32} {s : St} {q : Int32 × St} {Q : Option Value → xM → Prop}  (h : F_X10_table a0 a1 s = some q) (hq : Q (some (.int q.1)) (SH, q.2.1, q.2.2)) : wp (d + 1) mX10_table 0 [some (.ref 94), some (.int a0), some (.int a1)] [] (SH, s.1, s.2) Q := by
  unfold F_X10_table at h
  try dsimp only at h
  refine w_iload_n (j := 1) rfl rfl rfl ?_
  refine w_iconst (z := (0 : Int32)) (j := 2) rfl rfl rfl ?_
  refine w_iconst (z := (3 : Int32)) (j := 3) rfl rfl rfl ?_
  obtain ⟨q1, hq1, h⟩ := Option.bind_eq_some_iff.mp h
  refine wc_III_I (j := 4) (T := []) rfl rfl rfl rfl rfl rfl rfl rfl rfl rfl ?_
  refine R_X10_isIn hq1 ⟨_, rfl, ?_⟩
  rcases xite_inv h with ⟨c2, h⟩ | ⟨c2, h⟩
  · refine w_ifne_f (j := 5) rfl c2 rfl ?_
    refine w_iconst (z := (-1 : Int32)) (j := 6) rfl rfl rfl ?_
    obtain rfl := Option.some.inj h
    exact wp_ret rfl rfl rfl hq
  · refine w_ifne_t (j := 7) rfl c2 rfl ?_
    refine w_iload_n (j := 8) rfl rfl rfl ?_
    refine w_iconst (z := (0 : Int32)) (j := 9) rfl rfl rfl ?_
    refine w_aload_n (j := 10) rfl rfl rfl ?_
    refine w_getR (j := 11) rfl rfl rfl rfl rfl rfl ?_
    refine w_iload_n (j := 12) rfl rfl rfl ?_
    rcases xite_inv h with ⟨g3, h⟩ | ⟨g3, h⟩
    · cases h
    · refine w_iaload (j := 13) rfl rfl g3 rfl ?_
      refine w_iconst (z := (1 : Int32)) (j := 14) rfl rfl rfl ?_
      refine w_isub (j := 15) rfl rfl ?_
      obtain ⟨q4, hq4, h⟩ := Option.bind_eq_some_iff.mp h
      refine wc_III_I (j := 16) (T := []) rfl rfl rfl rfl rfl rfl rfl rfl rfl rfl ?_
      refine R_X10_isIn hq4 ⟨_, rfl, ?_⟩
      rcases xite_inv h with ⟨c5, h⟩ | ⟨c5, h⟩
      · refine w_ifeq_t (j := 26) rfl c5 rfl ?_
        refine w_bipush (z := (-4 : Int32)) (j := 27) rfl rfl rfl ?_
        obtain rfl := Option.some.inj h
        exact wp_ret rfl rfl rfl hq
      · refine w_ifeq_f (j := 17) rfl c5 rfl ?_
        refine w_aload_n (j := 18) rfl rfl rfl ?_
        refine w_getR (j := 19) rfl rfl rfl rfl rfl rfl ?_
        refine w_bipush (z := (24 : Int32)) (j := 20) rfl rfl rfl ?_
        refine w_iload_n (j := 21) rfl rfl rfl ?_
        refine w_imul (j := 22) rfl rfl ?_
        refine w_iload_n (j := 23) rfl rfl rfl ?_
        refine w_iadd (j := 24) rfl rfl ?_
        rcases xite_inv h with ⟨g6, h⟩ | ⟨g6, h⟩
        · cases h
        · refine w_iaload (j := 25) rfl rfl g6 rfl ?_
          refine w_goto (j := 27) rfl rfl ?_
          obtain rfl := Option.some.inj h
          exact wp_ret rfl rfl rfl hq
set_option maxHeartbeats 2000000 in
set_option maxRecDepth 20000 in
theorem R_X10_count {d : Nat} {a0 : Int32} {s : St} {q : Int32 × St} {Q : Option Value → xM → Prop}  (h : F_X10_count a0 s = some q) (hq : Q (some (.int q.1)) (SH, q.2.1, q.2.2)) : wp (d + 0) mX10_count 0 [some (.ref 94), some (.int a0)] [] (SH, s.1, s.2) Q := by
  unfold F_X10_count at h
  try dsimp only at h
  refine w_iload_n (j := 1) rfl rfl rfl ?_
  rcases xite_inv h with ⟨c1_0, h⟩ | ⟨c1_0, h⟩
  · refine w_table_in (q := 0) (j := 2) rfl (by rw [c1_0]; decide) (by rw [c1_0]; decide) rfl ?_
    refine w_aload_n (j := 3) rfl rfl rfl ?_
    refine w_getI (j := 4) rfl rfl rfl rfl rfl ?_
    obtain rfl := Option.some.inj h
    exact wp_ret rfl rfl rfl hq
  · rcases xite_inv h with ⟨c1_1, h⟩ | ⟨c1_1, h⟩
    · refine w_table_in (q := 1) (j := 5) rfl (by rw [c1_1]; decide) (by rw [c1_1]; decide) rfl ?_
      refine w_aload_n (j := 6) rfl rfl rfl ?_
      refine w_getI (j := 7) rfl rfl rfl rfl rfl ?_
      obtain rfl := Option.some.inj h
      exact wp_ret rfl rfl rfl hq
    · rcases xite_inv h with ⟨c1_2, h⟩ | ⟨c1_2, h⟩
      · refine w_table_in (q := 2) (j := 8) rfl (by rw [c1_2]; decide) (by rw [c1_2]; decide) rfl ?_
        refine w_aload_n (j := 9) rfl rfl rfl ?_
        refine w_getI (j := 10) rfl rfl rfl rfl rfl ?_
        obtain rfl := Option.some.inj h
        exact wp_ret rfl rfl rfl hq
      · rcases xite_inv h with ⟨c1_3, h⟩ | ⟨c1_3, h⟩
        · refine w_table_in (q := 3) (j := 11) rfl (by rw [c1_3]; decide) (by rw [c1_3]; decide) rfl ?_
          refine w_aload_n (j := 12) rfl rfl rfl ?_
          refine w_getI (j := 13) rfl rfl rfl rfl rfl ?_
          obtain rfl := Option.some.inj h
          exact wp_ret rfl rfl rfl hq
        · rcases xite_inv h with ⟨c1_4, h⟩ | ⟨c1_4, h⟩
          · refine w_table_in (q := 4) (j := 14) rfl (by rw [c1_4]; decide) (by rw [c1_4]; decide) rfl ?_
            refine w_aload_n (j := 15) rfl rfl rfl ?_
            refine w_getI (j := 16) rfl rfl rfl rfl rfl ?_
            obtain rfl := Option.some.inj h
            exact wp_ret rfl rfl rfl hq
          · refine w_table_out (j := 17) rfl (sw_out_0_4 c1_0 c1_1 c1_2 c1_3 c1_4) rfl ?_
            refine w_iconst (z := (-1 : Int32)) (j := 18) rfl rfl rfl ?_
            obtain rfl := Option.some.inj h
            exact wp_ret rfl rfl rfl hq
