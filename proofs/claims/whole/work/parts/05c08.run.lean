set_option maxHeartbeats 2000000 in
set_option maxRecDepth 20000 in
theorem RL_X10_placeIn_2 {d : Nat}  {Q : Option Value → xM → Prop}  : ∀ (n : Nat) (l1 : Int32) (l2 : Int32)  (s : St) (q : Int32 × St)   (h : L_X10_placeIn_2  n l1 l2 s = some q) (hq : Q (some (.int q.1)) (SH, q.2.1, q.2.2)), wp (d + 0) mX10_placeIn 2 [some (.ref 94), some (.int l1), some (.int l2)] [] (SH, s.1, s.2) Q := by
  intro n
  induction n with
  | zero => intro l1 l2 s q h; cases h
  | succ n ih =>
    intro l1 l2 s q h hq
    unfold L_X10_placeIn_2 at h
    try dsimp only at h
    refine w_iload_n (j := 3) rfl rfl rfl ?_
    refine w_aload_n (j := 4) rfl rfl rfl ?_
    refine w_getI (j := 5) rfl rfl rfl rfl rfl ?_
    rcases xite_inv h with ⟨c1, h⟩ | ⟨c1, h⟩
    · refine w_icmpge_t (j := 16) rfl c1 rfl ?_
      refine w_bipush (z := (-4 : Int32)) (j := 17) rfl rfl rfl ?_
      obtain rfl := Option.some.inj h
      exact wp_ret rfl rfl rfl hq
    · refine w_icmpge_f (j := 6) rfl c1 rfl ?_
      refine w_aload_n (j := 7) rfl rfl rfl ?_
      refine w_getR (j := 8) rfl rfl rfl rfl rfl rfl ?_
      refine w_iload_n (j := 9) rfl rfl rfl ?_
      rcases xite_inv h with ⟨g2, h⟩ | ⟨g2, h⟩
      · cases h
      · refine w_iaload (j := 10) rfl rfl g2 rfl ?_
        refine w_iload_n (j := 11) rfl rfl rfl ?_
        rcases xite_inv h with ⟨c3, h⟩ | ⟨c3, h⟩
        · refine w_icmpne_f (j := 12) rfl c3 rfl ?_
          refine w_iload_n (j := 13) rfl rfl rfl ?_
          obtain rfl := Option.some.inj h
          exact wp_ret rfl rfl rfl hq
        · refine w_icmpne_t (j := 14) rfl c3 rfl ?_
          refine w_iinc (cc := (1 : Int32)) (j := 15) rfl rfl rfl (l1_2 rfl) rfl ?_
          refine w_goto (j := 2) rfl rfl ?_
          exact ih _ _ _ _ h hq
set_option maxHeartbeats 2000000 in
set_option maxRecDepth 20000 in
theorem R_X10_placeIn {d : Nat} {a0 : Int32} {s : St} {q : Int32 × St} {Q : Option Value → xM → Prop}  (h : F_X10_placeIn a0 s = some q) (hq : Q (some (.int q.1)) (SH, q.2.1, q.2.2)) : wp (d + 0) mX10_placeIn 0 [some (.ref 94), some (.int a0), none] [] (SH, s.1, s.2) Q := by
  unfold F_X10_placeIn at h
  try dsimp only at h
  refine w_iconst (z := (0 : Int32)) (j := 1) rfl rfl rfl ?_
  refine w_istore_n (j := 2) rfl (l1_2 rfl) rfl ?_
  exact RL_X10_placeIn_2  _ _ _ _ _ h hq
set_option maxHeartbeats 2000000 in
set_option maxRecDepth 20000 in
theorem RL_X10_items_36 {d : Nat}  {Q : Option Value → xM → Prop}  : ∀ (n : Nat) (l1 : Int32) (l2 : Int32) (l4 : Int32) (l6 : Int32) (u3 u5 : Option Value) (s : St) (q : St)  (hu3 : xlong u3 = false) (hu5 : xlong u5 = false) (h : L_X10_items_36  n l1 l2 l4 l6 s = some q) (hq : ∀ (v3 v5 v6 : Option Value), xlong v3 = false → xlong v5 = false → wp (d + 3) mX10_items 52 [some (.ref 94), some (.int l1), some (.int l2), v3, some (.int l4), v5, v6] [] (SH, q.1, q.2) Q), wp (d + 3) mX10_items 36 [some (.ref 94), some (.int l1), some (.int l2), u3, some (.int l4), u5, some (.int l6)] [] (SH, s.1, s.2) Q := by
  intro n
  induction n with
  | zero => intro l1 l2 l4 l6 u3 u5 s q hu3 hu5 h; cases h
  | succ n ih =>
    intro l1 l2 l4 l6 u3 u5 s q hu3 hu5 h hq
    unfold L_X10_items_36 at h
    try dsimp only at h
    refine w_iload (j := 37) rfl rfl rfl ?_
    refine w_aload_n (j := 38) rfl rfl rfl ?_
    refine w_getI (j := 39) rfl rfl rfl rfl rfl ?_
    rcases xite_inv h with ⟨c14, h⟩ | ⟨c14, h⟩
    · refine w_icmpge_t (j := 52) rfl c14 rfl ?_
      obtain rfl := Option.some.inj h
      exact hq _ _ _ hu3 hu5
    · refine w_icmpge_f (j := 40) rfl c14 rfl ?_
      refine w_aload_n (j := 41) rfl rfl rfl ?_
      refine w_getR (j := 42) rfl rfl rfl rfl rfl rfl ?_
      refine w_iload (j := 43) rfl rfl rfl ?_
      refine w_aload_n (j := 44) rfl rfl rfl ?_
      refine w_getR (j := 45) rfl rfl rfl rfl rfl rfl ?_
      refine w_iload (j := 46) rfl rfl rfl ?_
      refine w_iconst (z := (1 : Int32)) (j := 47) rfl rfl rfl ?_
      refine w_iadd (j := 48) rfl rfl ?_
      rcases xite_inv h with ⟨g15, h⟩ | ⟨g15, h⟩
      · cases h
      · refine w_iaload (j := 49) rfl rfl g15 rfl ?_
        rcases xite_inv h with ⟨g16, h⟩ | ⟨g16, h⟩
        · cases h
        · refine w_iastore (j := 50) rfl rfl g16 rfl ?_
          try dsimp only at h
          refine w_iinc (cc := (1 : Int32)) (j := 51) rfl rfl rfl (l1_6 hu5) rfl ?_
          refine w_goto (j := 36) rfl rfl ?_
          exact ih _ _ _ _ _ _ _ _ hu3 hu5 h hq
set_option maxHeartbeats 2000000 in
set_option maxRecDepth 20000 in
theorem RL_X10_items_12 {d : Nat}  {Q : Option Value → xM → Prop}  : ∀ (n : Nat) (l1 : Int32) (l2 : Int32) (l4 : Int32) (u3 u5 u6 : Option Value) (s : St) (q : St)  (hu3 : xlong u3 = false) (hu5 : xlong u5 = false) (h : L_X10_items_12  n l1 l2 l4 s = some q) (hq : ∀ (v3 v4 v5 v6 : Option Value), xlong v3 = false → xlong v4 = false → xlong v5 = false → wp (d + 3) mX10_items 75 [some (.ref 94), some (.int l1), some (.int l2), v3, v4, v5, v6] [] (SH, q.1, q.2) Q), wp (d + 3) mX10_items 12 [some (.ref 94), some (.int l1), some (.int l2), u3, some (.int l4), u5, u6] [] (SH, s.1, s.2) Q := by
  intro n
  induction n with
  | zero => intro l1 l2 l4 u3 u5 u6 s q hu3 hu5 h; cases h
  | succ n ih =>
    intro l1 l2 l4 u3 u5 u6 s q hu3 hu5 h hq
    unfold L_X10_items_12 at h
    try dsimp only at h
    refine w_iload (j := 13) rfl rfl rfl ?_
    refine w_aload_n (j := 14) rfl rfl rfl ?_
    refine w_getI (j := 15) rfl rfl rfl rfl rfl ?_
    rcases xite_inv h with ⟨c4, h⟩ | ⟨c4, h⟩
    · refine w_icmpge_t (j := 75) rfl c4 rfl ?_
      obtain rfl := Option.some.inj h
      exact hq _ _ _ _ hu3 rfl hu5
    · refine w_icmpge_f (j := 16) rfl c4 rfl ?_
      refine w_aload_n (j := 17) rfl rfl rfl ?_
      refine w_aload_n (j := 18) rfl rfl rfl ?_
      refine w_getR (j := 19) rfl rfl rfl rfl rfl rfl ?_
      refine w_iload (j := 20) rfl rfl rfl ?_
      rcases xite_inv h with ⟨g5, h⟩ | ⟨g5, h⟩
      · cases h
      · refine w_iaload (j := 21) rfl rfl g5 rfl ?_
        obtain ⟨q6, hq6, h⟩ := Option.bind_eq_some_iff.mp h
        refine wc_AI_I (j := 22) (T := [none]) rfl rfl rfl rfl rfl rfl rfl rfl rfl rfl ?_
        refine R_X10_placeIn hq6 ⟨_, rfl, ?_⟩
        refine w_istore (j := 23) rfl (l1_5 rfl) rfl ?_
        refine w_iload_n (j := 24) rfl rfl rfl ?_
        rcases xite_inv h with ⟨c7, h⟩ | ⟨c7, h⟩
        · refine w_ifeq_t (j := 53) rfl c7 rfl ?_
          refine w_iload_n (j := 54) rfl rfl rfl ?_
          refine w_ifne_f (j := 55) rfl c7 rfl ?_
          refine w_iload (j := 56) rfl rfl rfl ?_
          refine w_bipush (z := (-4 : Int32)) (j := 57) rfl rfl rfl ?_
          rcases xite_inv h with ⟨c8, h⟩ | ⟨c8, h⟩
          · refine w_icmpne_f (j := 58) rfl c8 rfl ?_
            refine w_aload_n (j := 59) rfl rfl rfl ?_
            refine w_getR (j := 60) rfl rfl rfl rfl rfl rfl ?_
            refine w_aload_n (j := 61) rfl rfl rfl ?_
            refine w_getI (j := 62) rfl rfl rfl rfl rfl ?_
            refine w_aload_n (j := 63) rfl rfl rfl ?_
            refine w_getR (j := 64) rfl rfl rfl rfl rfl rfl ?_
            refine w_iload (j := 65) rfl rfl rfl ?_
            refine w_iaload (j := 66) rfl rfl g5 rfl ?_
            rcases xite_inv h with ⟨g9, h⟩ | ⟨g9, h⟩
            · cases h
            · refine w_iastore (j := 67) rfl rfl g9 rfl ?_
              try dsimp only at h
              refine w_aload_n (j := 68) rfl rfl rfl ?_
              refine w_dup (j := 69) rfl rfl rfl ?_
              refine w_getI (j := 70) rfl rfl rfl rfl rfl ?_
              refine w_iconst (z := (1 : Int32)) (j := 71) rfl rfl rfl ?_
              refine w_iadd (j := 72) rfl rfl ?_
              refine w_putI (j := 73) rfl rfl rfl rfl rfl ?_
              try dsimp only at h
              refine w_iinc (cc := (1 : Int32)) (j := 74) rfl rfl rfl (l1_4 hu3) rfl ?_
              refine w_goto (j := 12) rfl rfl ?_
              exact ih _ _ _ _ _ _ _ _ hu3 rfl h hq
          · refine w_icmpne_t (j := 73) rfl c8 rfl ?_
            refine w_iinc (cc := (1 : Int32)) (j := 74) rfl rfl rfl (l1_4 hu3) rfl ?_
            refine w_goto (j := 12) rfl rfl ?_
            exact ih _ _ _ _ _ _ _ _ hu3 rfl h hq
        · refine w_ifeq_f (j := 25) rfl c7 rfl ?_
          refine w_iload (j := 26) rfl rfl rfl ?_
          refine w_bipush (z := (-4 : Int32)) (j := 27) rfl rfl rfl ?_
          rcases xite_inv h with ⟨c12, h⟩ | ⟨c12, h⟩
          · refine w_icmpeq_t (j := 53) rfl c12 rfl ?_
            refine w_iload_n (j := 54) rfl rfl rfl ?_
            refine w_ifne_t (j := 73) rfl c7 rfl ?_
            refine w_iinc (cc := (1 : Int32)) (j := 74) rfl rfl rfl (l1_4 hu3) rfl ?_
            refine w_goto (j := 12) rfl rfl ?_
            exact ih _ _ _ _ _ _ _ _ hu3 rfl h hq
          · refine w_icmpeq_f (j := 28) rfl c12 rfl ?_
            refine w_aload_n (j := 29) rfl rfl rfl ?_
            refine w_dup (j := 30) rfl rfl rfl ?_
            refine w_getI (j := 31) rfl rfl rfl rfl rfl ?_
            refine w_iconst (z := (1 : Int32)) (j := 32) rfl rfl rfl ?_
            refine w_isub (j := 33) rfl rfl ?_
            refine w_putI (j := 34) rfl rfl rfl rfl rfl ?_
            try dsimp only at h
            refine w_iload (j := 35) rfl rfl rfl ?_
            refine w_istore (j := 36) rfl (l1_6 rfl) rfl ?_
            obtain ⟨q18, hq18, h⟩ := Option.bind_eq_some_iff.mp h
            refine RL_X10_items_36  _ _ _ _ _ _ _ _ _ hu3 rfl hq18 (fun v19 v20 v21 hv19 hv20 => ?_)
            refine w_goto (j := 73) rfl rfl ?_
            refine w_iinc (cc := (1 : Int32)) (j := 74) rfl rfl rfl (l1_4 hv19) rfl ?_
            refine w_goto (j := 12) rfl rfl ?_
            exact ih _ _ _ _ _ _ _ _ hv19 hv20 h hq
set_option maxHeartbeats 2000000 in
set_option maxRecDepth 20000 in
theorem RL_X10_items_2 {d : Nat}  {Q : Option Value → xM → Prop}  : ∀ (n : Nat) (l1 : Int32) (l2 : Int32) (l3 : Int32) (u4 u5 u6 : Option Value) (s : St) (q : Int32 × St)  (hu4 : xlong u4 = false) (hu5 : xlong u5 = false) (h : L_X10_items_2  n l1 l2 l3 s = some q) (hq : Q (some (.int q.1)) (SH, q.2.1, q.2.2)), wp (d + 3) mX10_items 2 [some (.ref 94), some (.int l1), some (.int l2), some (.int l3), u4, u5, u6] [] (SH, s.1, s.2) Q := by
  intro n
  induction n with
  | zero => intro l1 l2 l3 u4 u5 u6 s q hu4 hu5 h; cases h
  | succ n ih =>
    intro l1 l2 l3 u4 u5 u6 s q hu4 hu5 h hq
    unfold L_X10_items_2 at h
    try dsimp only at h
    refine w_iload_n (j := 3) rfl rfl rfl ?_
    rcases xite_inv h with ⟨c1, h⟩ | ⟨c1, h⟩
    · refine w_ifeq_t (j := 134) rfl c1 rfl ?_
      refine w_iconst (z := (1 : Int32)) (j := 135) rfl rfl rfl ?_
      obtain rfl := Option.some.inj h
      exact wp_ret rfl rfl rfl hq
    · refine w_ifeq_f (j := 4) rfl c1 rfl ?_
      refine w_aload_n (j := 5) rfl rfl rfl ?_
      refine w_iload_n (j := 6) rfl rfl rfl ?_
      obtain ⟨q2, hq2, h⟩ := Option.bind_eq_some_iff.mp h
      refine wc_AI_I (j := 7) (T := [none, none, none, none, none, none, none, none, none, none, none]) rfl rfl rfl rfl rfl rfl rfl rfl rfl rfl ?_
      refine R_X10_item hq2 ⟨_, rfl, ?_⟩
      rcases xite_inv h with ⟨c3, h⟩ | ⟨c3, h⟩
      · refine w_ifne_f (j := 8) rfl c3 rfl ?_
        refine w_iconst (z := (0 : Int32)) (j := 9) rfl rfl rfl ?_
        obtain rfl := Option.some.inj h
        exact wp_ret rfl rfl rfl hq
      · refine w_ifne_t (j := 10) rfl c3 rfl ?_
        refine w_iconst (z := (0 : Int32)) (j := 11) rfl rfl rfl ?_
        refine w_istore (j := 12) rfl (l1_4 rfl) rfl ?_
        obtain ⟨q22, hq22, h⟩ := Option.bind_eq_some_iff.mp h
        refine RL_X10_items_12  _ _ _ _ _ _ _ _ _ rfl hu5 hq22 (fun v23 v24 v25 v26 hv23 hv24 hv25 => ?_)
        refine w_aload_n (j := 76) rfl rfl rfl ?_
        refine w_getR (j := 77) rfl rfl rfl rfl rfl rfl ?_
        refine w_aload_n (j := 78) rfl rfl rfl ?_
        refine w_getI (j := 79) rfl rfl rfl rfl rfl ?_
        rcases xite_inv h with ⟨g27, h⟩ | ⟨g27, h⟩
        · cases h
        · refine w_iaload (j := 80) rfl rfl g27 rfl ?_
          refine w_bipush (z := (30 : Int32)) (j := 81) rfl rfl rfl ?_
          rcases xite_inv h with ⟨c28, h⟩ | ⟨c28, h⟩
          · refine w_icmpeq_t (j := 92) rfl c28 rfl ?_
            refine w_iconst (z := (1 : Int32)) (j := 93) rfl rfl rfl ?_
            refine w_goto (j := 95) rfl rfl ?_
            refine w_istore_n (j := 96) rfl (l1_3 rfl) rfl ?_
            refine w_iload_n (j := 97) rfl rfl rfl ?_
            refine w_ifeq_f (j := 98) rfl (by decide) rfl ?_
            refine w_aload_n (j := 99) rfl rfl rfl ?_
            refine w_getR (j := 100) rfl rfl rfl rfl rfl rfl ?_
            refine w_aload_n (j := 101) rfl rfl rfl ?_
            refine w_getI (j := 102) rfl rfl rfl rfl rfl ?_
            refine w_iaload (j := 103) rfl rfl g27 rfl ?_
            refine w_bipush (z := (30 : Int32)) (j := 104) rfl rfl rfl ?_
            refine w_icmpne_f (j := 105) rfl c28 rfl ?_
            refine w_iconst (z := (1 : Int32)) (j := 106) rfl rfl rfl ?_
            refine w_goto (j := 108) rfl rfl ?_
            refine w_istore (j := 109) rfl (l1_4 rfl) rfl ?_
            refine w_aload_n (j := 110) rfl rfl rfl ?_
            refine w_dup (j := 111) rfl rfl rfl ?_
            refine w_getI (j := 112) rfl rfl rfl rfl rfl ?_
            refine w_iconst (z := (1 : Int32)) (j := 113) rfl rfl rfl ?_
            refine w_iadd (j := 114) rfl rfl ?_
            refine w_putI (j := 115) rfl rfl rfl rfl rfl ?_
            try dsimp only at h
            refine w_iload (j := 116) rfl rfl rfl ?_
            refine w_ifeq_f (j := 117) rfl (by decide) rfl ?_
            refine w_aload_n (j := 118) rfl rfl rfl ?_
            refine w_getR (j := 119) rfl rfl rfl rfl rfl rfl ?_
            refine w_aload_n (j := 120) rfl rfl rfl ?_
            refine w_getI (j := 121) rfl rfl rfl rfl rfl ?_
            rcases xite_inv h with ⟨g30, h⟩ | ⟨g30, h⟩
            · cases h
            · refine w_iaload (j := 122) rfl rfl g30 rfl ?_
              refine w_iconst (z := (3 : Int32)) (j := 123) rfl rfl rfl ?_
              rcases xite_inv h with ⟨c31, h⟩ | ⟨c31, h⟩
              · refine w_icmpne_f (j := 124) rfl c31 rfl ?_
                refine w_aload_n (j := 125) rfl rfl rfl ?_
                obtain ⟨q32, hq32, h⟩ := Option.bind_eq_some_iff.mp h
                refine wc_A_I (j := 126) (T := []) rfl rfl rfl rfl rfl rfl rfl rfl rfl rfl ?_
                refine R_X10_isVerbBehind hq32 ⟨_, rfl, ?_⟩
                rcases xite_inv h with ⟨c33, h⟩ | ⟨c33, h⟩
                · refine w_ifne_f (j := 127) rfl c33 rfl ?_
                  refine w_aload_n (j := 128) rfl rfl rfl ?_
                  refine w_dup (j := 129) rfl rfl rfl ?_
                  refine w_getI (j := 130) rfl rfl rfl rfl rfl ?_
                  refine w_iconst (z := (1 : Int32)) (j := 131) rfl rfl rfl ?_
                  refine w_iadd (j := 132) rfl rfl ?_
                  refine w_putI (j := 133) rfl rfl rfl rfl rfl ?_
                  try dsimp only at h
                  refine w_goto (j := 2) rfl rfl ?_
                  exact ih _ _ _ _ _ _ _ _ rfl hv25 h hq
                · refine w_ifne_t (j := 133) rfl c33 rfl ?_
                  refine w_goto (j := 2) rfl rfl ?_
                  exact ih _ _ _ _ _ _ _ _ rfl hv25 h hq
              · refine w_icmpne_t (j := 133) rfl c31 rfl ?_
                refine w_goto (j := 2) rfl rfl ?_
                exact ih _ _ _ _ _ _ _ _ rfl hv25 h hq
          · refine w_icmpeq_f (j := 82) rfl c28 rfl ?_
            refine w_aload_n (j := 83) rfl rfl rfl ?_
            refine w_getR (j := 84) rfl rfl rfl rfl rfl rfl ?_
            refine w_aload_n (j := 85) rfl rfl rfl ?_
            refine w_getI (j := 86) rfl rfl rfl rfl rfl ?_
            refine w_iaload (j := 87) rfl rfl g27 rfl ?_
            refine w_iconst (z := (3 : Int32)) (j := 88) rfl rfl rfl ?_
            rcases xite_inv h with ⟨c35, h⟩ | ⟨c35, h⟩
            · refine w_icmpne_f (j := 89) rfl c35 rfl ?_
              refine w_aload_n (j := 90) rfl rfl rfl ?_
              obtain ⟨q36, hq36, h⟩ := Option.bind_eq_some_iff.mp h
              refine wc_A_I (j := 91) (T := []) rfl rfl rfl rfl rfl rfl rfl rfl rfl rfl ?_
              refine R_X10_isVerbBehind hq36 ⟨_, rfl, ?_⟩
              rcases xite_inv h with ⟨c37, h⟩ | ⟨c37, h⟩
              · refine w_ifne_f (j := 92) rfl c37 rfl ?_
                refine w_iconst (z := (1 : Int32)) (j := 93) rfl rfl rfl ?_
                refine w_goto (j := 95) rfl rfl ?_
                refine w_istore_n (j := 96) rfl (l1_3 rfl) rfl ?_
                refine w_iload_n (j := 97) rfl rfl rfl ?_
                refine w_ifeq_f (j := 98) rfl (by decide) rfl ?_
                refine w_aload_n (j := 99) rfl rfl rfl ?_
                refine w_getR (j := 100) rfl rfl rfl rfl rfl rfl ?_
                refine w_aload_n (j := 101) rfl rfl rfl ?_
                refine w_getI (j := 102) rfl rfl rfl rfl rfl ?_
                rcases xite_inv h with ⟨g38, h⟩ | ⟨g38, h⟩
                · cases h
                · refine w_iaload (j := 103) rfl rfl g38 rfl ?_
                  refine w_bipush (z := (30 : Int32)) (j := 104) rfl rfl rfl ?_
                  rcases xite_inv h with ⟨c39, h⟩ | ⟨c39, h⟩
                  · refine w_icmpne_f (j := 105) rfl c39 rfl ?_
                    refine w_iconst (z := (1 : Int32)) (j := 106) rfl rfl rfl ?_
                    refine w_goto (j := 108) rfl rfl ?_
                    refine w_istore (j := 109) rfl (l1_4 rfl) rfl ?_
                    refine w_aload_n (j := 110) rfl rfl rfl ?_
                    refine w_dup (j := 111) rfl rfl rfl ?_
                    refine w_getI (j := 112) rfl rfl rfl rfl rfl ?_
                    refine w_iconst (z := (1 : Int32)) (j := 113) rfl rfl rfl ?_
                    refine w_iadd (j := 114) rfl rfl ?_
                    refine w_putI (j := 115) rfl rfl rfl rfl rfl ?_
                    try dsimp only at h
                    refine w_iload (j := 116) rfl rfl rfl ?_
                    refine w_ifeq_f (j := 117) rfl (by decide) rfl ?_
                    refine w_aload_n (j := 118) rfl rfl rfl ?_
                    refine w_getR (j := 119) rfl rfl rfl rfl rfl rfl ?_
                    refine w_aload_n (j := 120) rfl rfl rfl ?_
                    refine w_getI (j := 121) rfl rfl rfl rfl rfl ?_
                    rcases xite_inv h with ⟨g41, h⟩ | ⟨g41, h⟩
                    · cases h
                    · refine w_iaload (j := 122) rfl rfl g41 rfl ?_
                      refine w_iconst (z := (3 : Int32)) (j := 123) rfl rfl rfl ?_
                      rcases xite_inv h with ⟨c42, h⟩ | ⟨c42, h⟩
                      · refine w_icmpne_f (j := 124) rfl c42 rfl ?_
                        refine w_aload_n (j := 125) rfl rfl rfl ?_
                        obtain ⟨q43, hq43, h⟩ := Option.bind_eq_some_iff.mp h
                        refine wc_A_I (j := 126) (T := []) rfl rfl rfl rfl rfl rfl rfl rfl rfl rfl ?_
                        refine R_X10_isVerbBehind hq43 ⟨_, rfl, ?_⟩
                        rcases xite_inv h with ⟨c44, h⟩ | ⟨c44, h⟩
                        · refine w_ifne_f (j := 127) rfl c44 rfl ?_
                          refine w_aload_n (j := 128) rfl rfl rfl ?_
                          refine w_dup (j := 129) rfl rfl rfl ?_
                          refine w_getI (j := 130) rfl rfl rfl rfl rfl ?_
                          refine w_iconst (z := (1 : Int32)) (j := 131) rfl rfl rfl ?_
                          refine w_iadd (j := 132) rfl rfl ?_
                          refine w_putI (j := 133) rfl rfl rfl rfl rfl ?_
                          try dsimp only at h
                          refine w_goto (j := 2) rfl rfl ?_
                          exact ih _ _ _ _ _ _ _ _ rfl hv25 h hq
                        · refine w_ifne_t (j := 133) rfl c44 rfl ?_
                          refine w_goto (j := 2) rfl rfl ?_
                          exact ih _ _ _ _ _ _ _ _ rfl hv25 h hq
                      · refine w_icmpne_t (j := 133) rfl c42 rfl ?_
                        refine w_goto (j := 2) rfl rfl ?_
                        exact ih _ _ _ _ _ _ _ _ rfl hv25 h hq
                  · refine w_icmpne_t (j := 107) rfl c39 rfl ?_
                    refine w_iconst (z := (0 : Int32)) (j := 108) rfl rfl rfl ?_
                    refine w_istore (j := 109) rfl (l1_4 rfl) rfl ?_
                    refine w_aload_n (j := 110) rfl rfl rfl ?_
                    refine w_dup (j := 111) rfl rfl rfl ?_
                    refine w_getI (j := 112) rfl rfl rfl rfl rfl ?_
                    refine w_iconst (z := (1 : Int32)) (j := 113) rfl rfl rfl ?_
                    refine w_iadd (j := 114) rfl rfl ?_
                    refine w_putI (j := 115) rfl rfl rfl rfl rfl ?_
                    try dsimp only at h
                    refine w_iload (j := 116) rfl rfl rfl ?_
                    refine w_ifeq_t (j := 133) rfl (by decide) rfl ?_
                    refine w_goto (j := 2) rfl rfl ?_
                    exact ih _ _ _ _ _ _ _ _ rfl hv25 h hq
              · refine w_ifne_t (j := 94) rfl c37 rfl ?_
                refine w_iconst (z := (0 : Int32)) (j := 95) rfl rfl rfl ?_
                refine w_istore_n (j := 96) rfl (l1_3 rfl) rfl ?_
                refine w_iload_n (j := 97) rfl rfl rfl ?_
                refine w_ifeq_t (j := 2) rfl (by decide) rfl ?_
                exact ih _ _ _ _ _ _ _ _ hv24 hv25 h hq
            · refine w_icmpne_t (j := 94) rfl c35 rfl ?_
              refine w_iconst (z := (0 : Int32)) (j := 95) rfl rfl rfl ?_
              refine w_istore_n (j := 96) rfl (l1_3 rfl) rfl ?_
              refine w_iload_n (j := 97) rfl rfl rfl ?_
              refine w_ifeq_t (j := 2) rfl (by decide) rfl ?_
              exact ih _ _ _ _ _ _ _ _ hv24 hv25 h hq
set_option maxHeartbeats 2000000 in
set_option maxRecDepth 20000 in
theorem R_X10_items {d : Nat} {a0 : Int32} {a1 : Int32} {s : St} {q : Int32 × St} {Q : Option Value → xM → Prop}  (h : F_X10_items a0 a1 s = some q) (hq : Q (some (.int q.1)) (SH, q.2.1, q.2.2)) : wp (d + 3) mX10_items 0 [some (.ref 94), some (.int a0), some (.int a1), none, none, none, none] [] (SH, s.1, s.2) Q := by
  unfold F_X10_items at h
  try dsimp only at h
  refine w_iconst (z := (1 : Int32)) (j := 1) rfl rfl rfl ?_
  refine w_istore_n (j := 2) rfl (l1_3 rfl) rfl ?_
  exact RL_X10_items_2  _ _ _ _ _ _ _ _ _ rfl rfl h hq
set_option maxHeartbeats 2000000 in
set_option maxRecDepth 20000 in
theorem R_X10_list {d : Nat} {a0 : Int32} {s : St} {q : Int32 × St} {Q : Option Value → xM → Prop}  (h : F_X10_list a0 s = some q) (hq : Q (some (.int q.1)) (SH, q.2.1, q.2.2)) : wp (d + 4) mX10_list 0 [some (.ref 94), some (.int a0), none] [] (SH, s.1, s.2) Q := by
  unfold F_X10_list at h
  try dsimp only at h
  refine w_aload_n (j := 1) rfl rfl rfl ?_
  refine w_iconst (z := (0 : Int32)) (j := 2) rfl rfl rfl ?_
  refine w_putI (j := 3) rfl rfl rfl rfl rfl ?_
  try dsimp only at h
  refine w_aload_n (j := 4) rfl rfl rfl ?_
  refine w_iload_n (j := 5) rfl rfl rfl ?_
  refine w_iconst (z := (0 : Int32)) (j := 6) rfl rfl rfl ?_
  obtain ⟨q2, hq2, h⟩ := Option.bind_eq_some_iff.mp h
  refine wc_AII_I (j := 7) (T := [none, none, none, none]) rfl rfl rfl rfl rfl rfl rfl rfl rfl rfl ?_
  refine R_X10_items hq2 ⟨_, rfl, ?_⟩
  rcases xite_inv h with ⟨c3, h⟩ | ⟨c3, h⟩
  · refine w_ifne_f (j := 8) rfl c3 rfl ?_
    refine w_iconst (z := (0 : Int32)) (j := 9) rfl rfl rfl ?_
    obtain rfl := Option.some.inj h
    exact wp_ret rfl rfl rfl hq
  · refine w_ifne_t (j := 10) rfl c3 rfl ?_
    refine w_aload_n (j := 11) rfl rfl rfl ?_
    refine w_getR (j := 12) rfl rfl rfl rfl rfl rfl ?_
    refine w_aload_n (j := 13) rfl rfl rfl ?_
    refine w_getI (j := 14) rfl rfl rfl rfl rfl ?_
    rcases xite_inv h with ⟨g4, h⟩ | ⟨g4, h⟩
    · cases h
    · refine w_iaload (j := 15) rfl rfl g4 rfl ?_
      refine w_bipush (z := (20 : Int32)) (j := 16) rfl rfl rfl ?_
      rcases xite_inv h with ⟨c5, h⟩ | ⟨c5, h⟩
      · refine w_icmpne_f (j := 17) rfl c5 rfl ?_
        refine w_aload_n (j := 18) rfl rfl rfl ?_
        refine w_getI (j := 19) rfl rfl rfl rfl rfl ?_
        refine w_istore_n (j := 20) rfl (l1_2 rfl) rfl ?_
        refine w_aload_n (j := 21) rfl rfl rfl ?_
        refine w_dup (j := 22) rfl rfl rfl ?_
        refine w_getI (j := 23) rfl rfl rfl rfl rfl ?_
        refine w_iconst (z := (1 : Int32)) (j := 24) rfl rfl rfl ?_
        refine w_iadd (j := 25) rfl rfl ?_
        refine w_putI (j := 26) rfl rfl rfl rfl rfl ?_
        try dsimp only at h
        refine w_aload_n (j := 27) rfl rfl rfl ?_
        refine w_iload_n (j := 28) rfl rfl rfl ?_
        refine w_iconst (z := (1 : Int32)) (j := 29) rfl rfl rfl ?_
        obtain ⟨q7, hq7, h⟩ := Option.bind_eq_some_iff.mp h
        refine wc_AII_I (j := 30) (T := [none, none, none, none]) rfl rfl rfl rfl rfl rfl rfl rfl rfl rfl ?_
        refine R_X10_items hq7 ⟨_, rfl, ?_⟩
        rcases xite_inv h with ⟨c8, h⟩ | ⟨c8, h⟩
        · refine w_ifne_f (j := 31) rfl c8 rfl ?_
          refine w_iconst (z := (0 : Int32)) (j := 32) rfl rfl rfl ?_
          obtain rfl := Option.some.inj h
          exact wp_ret rfl rfl rfl hq
        · refine w_ifne_t (j := 33) rfl c8 rfl ?_
          refine w_aload_n (j := 34) rfl rfl rfl ?_
          refine w_getI (j := 35) rfl rfl rfl rfl rfl ?_
          rcases xite_inv h with ⟨c9, h⟩ | ⟨c9, h⟩
          · refine w_ifne_f (j := 36) rfl c9 rfl ?_
            refine w_aload_n (j := 37) rfl rfl rfl ?_
            refine w_iconst (z := (4 : Int32)) (j := 38) rfl rfl rfl ?_
            refine w_aload_n (j := 39) rfl rfl rfl ?_
            refine w_getR (j := 40) rfl rfl rfl rfl rfl rfl ?_
            refine w_iload_n (j := 41) rfl rfl rfl ?_
            refine w_iaload (j := 42) rfl rfl g4 rfl ?_
            obtain ⟨q10, hq10, h⟩ := Option.bind_eq_some_iff.mp h
            refine wc_AII_I (j := 43) (T := []) rfl rfl rfl rfl rfl rfl rfl rfl rfl rfl ?_
            refine R_X10_fails hq10 ⟨_, rfl, ?_⟩
            rcases xite_inv h with ⟨hb, h⟩ | ⟨hb, h⟩
            · obtain rfl := Option.some.inj h
              exact wp_ret rfl rfl (xretb hb) hq
            · cases h
          · refine w_ifne_t (j := 44) rfl c9 rfl ?_
            refine w_iconst (z := (1 : Int32)) (j := 45) rfl rfl rfl ?_
            obtain rfl := Option.some.inj h
            exact wp_ret rfl rfl rfl hq
      · refine w_icmpne_t (j := 44) rfl c5 rfl ?_
        refine w_iconst (z := (1 : Int32)) (j := 45) rfl rfl rfl ?_
        obtain rfl := Option.some.inj h
        exact wp_ret rfl rfl rfl hq
set_option maxHeartbeats 2000000 in
set_option maxRecDepth 20000 in
theorem RL_X10_keeps_13 {d : Nat}  {Q : Option Value → xM → Prop}  : ∀ (n : Nat) (l1 : Int32) (l2 : Int32)  (s : St) (q : St)   (h : L_X10_keeps_13  n l1 l2 s = some q) (hq : ∀ (v0 v1 v2 : Option Value), xlong v1 = false → wp (d + 0) mX10_keeps 36 [v0, v1, v2] [] (SH, q.1, q.2) Q), wp (d + 0) mX10_keeps 13 [some (.ref 94), some (.int l1), some (.int l2)] [] (SH, s.1, s.2) Q := by
  intro n
  induction n with
  | zero => intro l1 l2 s q h; cases h
  | succ n ih =>
    intro l1 l2 s q h hq
    unfold L_X10_keeps_13 at h
    try dsimp only at h
    refine w_iload_n (j := 14) rfl rfl rfl ?_
    refine w_aload_n (j := 15) rfl rfl rfl ?_
    refine w_getI (j := 16) rfl rfl rfl rfl rfl ?_
    rcases xite_inv h with ⟨c3, h⟩ | ⟨c3, h⟩
    · refine w_icmpge_t (j := 36) rfl c3 rfl ?_
      obtain rfl := Option.some.inj h
      exact hq _ _ _ rfl
    · refine w_icmpge_f (j := 17) rfl c3 rfl ?_
      refine w_aload_n (j := 18) rfl rfl rfl ?_
      refine w_getR (j := 19) rfl rfl rfl rfl rfl rfl ?_
      refine w_bipush (z := (48 : Int32)) (j := 20) rfl rfl rfl ?_
      refine w_aload_n (j := 21) rfl rfl rfl ?_
      refine w_getI (j := 22) rfl rfl rfl rfl rfl ?_
      refine w_imul (j := 23) rfl rfl ?_
      refine w_bipush (z := (24 : Int32)) (j := 24) rfl rfl rfl ?_
      refine w_iload_n (j := 25) rfl rfl rfl ?_
      refine w_imul (j := 26) rfl rfl ?_
      refine w_iadd (j := 27) rfl rfl ?_
      refine w_iload_n (j := 28) rfl rfl rfl ?_
      refine w_iadd (j := 29) rfl rfl ?_
      refine w_aload_n (j := 30) rfl rfl rfl ?_
      refine w_getR (j := 31) rfl rfl rfl rfl rfl rfl ?_
      refine w_iload_n (j := 32) rfl rfl rfl ?_
      rcases xite_inv h with ⟨g4, h⟩ | ⟨g4, h⟩
      · cases h
      · refine w_iaload (j := 33) rfl rfl g4 rfl ?_
        rcases xite_inv h with ⟨g5, h⟩ | ⟨g5, h⟩
        · cases h
        · refine w_iastore (j := 34) rfl rfl g5 rfl ?_
          try dsimp only at h
          refine w_iinc (cc := (1 : Int32)) (j := 35) rfl rfl rfl (l1_2 rfl) rfl ?_
          refine w_goto (j := 13) rfl rfl ?_
          exact ih _ _ _ _ h hq
set_option maxHeartbeats 2000000 in
set_option maxRecDepth 20000 in
theorem R_X10_keeps {d : Nat} {a0 : Int32} {s : St} {q : St} {Q : Option Value → xM → Prop}  (h : F_X10_keeps a0 s = some q) (hq : Q none (SH, q.1, q.2)) : wp (d + 0) mX10_keeps 0 [some (.ref 94), some (.int a0), none] [] (SH, s.1, s.2) Q := by
  unfold F_X10_keeps at h
  try dsimp only at h
  refine w_aload_n (j := 1) rfl rfl rfl ?_
  refine w_getR (j := 2) rfl rfl rfl rfl rfl rfl ?_
  refine w_iconst (z := (2 : Int32)) (j := 3) rfl rfl rfl ?_
  refine w_aload_n (j := 4) rfl rfl rfl ?_
  refine w_getI (j := 5) rfl rfl rfl rfl rfl ?_
  refine w_imul (j := 6) rfl rfl ?_
  refine w_iload_n (j := 7) rfl rfl rfl ?_
  refine w_iadd (j := 8) rfl rfl ?_
  refine w_aload_n (j := 9) rfl rfl rfl ?_
  refine w_getI (j := 10) rfl rfl rfl rfl rfl ?_
  rcases xite_inv h with ⟨g1, h⟩ | ⟨g1, h⟩
  · cases h
  · refine w_iastore (j := 11) rfl rfl g1 rfl ?_
    try dsimp only at h
    refine w_iconst (z := (0 : Int32)) (j := 12) rfl rfl rfl ?_
    refine w_istore_n (j := 13) rfl (l1_2 rfl) rfl ?_
    obtain ⟨q7, hq7, h⟩ := Option.bind_eq_some_iff.mp h
    refine RL_X10_keeps_13  _ _ _ _ _ hq7 (fun v8 v9 v10 hv9 => ?_)
    obtain rfl := Option.some.inj h
    exact wp_vret rfl rfl rfl hq
set_option maxHeartbeats 2000000 in
set_option maxRecDepth 20000 in
theorem RL_X10_sets_50 {d : Nat}  {Q : Option Value → xM → Prop}  : ∀ (n : Nat) (l2 : Int32) (l3 : Int32) (l4 : Int32) (l5 : Int32) (u1 : Option Value) (s : St) (q : St)  (hu1 : xlong u1 = false) (h : L_X10_sets_50  n l2 l3 l4 l5 s = some q) (hq : ∀ (v0 v1 v2 v3 v4 v5 : Option Value), xlong v1 = false → xlong v2 = false → xlong v3 = false → xlong v4 = false → wp (d + 0) mX10_sets 69 [v0, v1, v2, v3, v4, v5] [] (SH, q.1, q.2) Q), wp (d + 0) mX10_sets 50 [some (.ref 94), u1, some (.int l2), some (.int l3), some (.int l4), some (.int l5)] [] (SH, s.1, s.2) Q := by
  intro n
  induction n with
  | zero => intro l2 l3 l4 l5 u1 s q hu1 h; cases h
  | succ n ih =>
    intro l2 l3 l4 l5 u1 s q hu1 h hq
    unfold L_X10_sets_50 at h
    try dsimp only at h
    refine w_iload (j := 51) rfl rfl rfl ?_
    refine w_iload_n (j := 52) rfl rfl rfl ?_
    rcases xite_inv h with ⟨c11, h⟩ | ⟨c11, h⟩
    · refine w_icmpge_t (j := 69) rfl c11 rfl ?_
      obtain rfl := Option.some.inj h
      exact hq _ _ _ _ _ _ hu1 rfl rfl rfl
    · refine w_icmpge_f (j := 53) rfl c11 rfl ?_
      refine w_aload_n (j := 54) rfl rfl rfl ?_
      refine w_getR (j := 55) rfl rfl rfl rfl rfl rfl ?_
      refine w_bipush (z := (24 : Int32)) (j := 56) rfl rfl rfl ?_
      refine w_iload (j := 57) rfl rfl rfl ?_
      refine w_imul (j := 58) rfl rfl ?_
      refine w_iload (j := 59) rfl rfl rfl ?_
      refine w_iadd (j := 60) rfl rfl ?_
      refine w_aload_n (j := 61) rfl rfl rfl ?_
      refine w_getR (j := 62) rfl rfl rfl rfl rfl rfl ?_
      refine w_iload_n (j := 63) rfl rfl rfl ?_
      refine w_iload (j := 64) rfl rfl rfl ?_
      refine w_iadd (j := 65) rfl rfl ?_
      rcases xite_inv h with ⟨g12, h⟩ | ⟨g12, h⟩
      · cases h
      · refine w_iaload (j := 66) rfl rfl g12 rfl ?_
        rcases xite_inv h with ⟨g13, h⟩ | ⟨g13, h⟩
        · cases h
        · refine w_iastore (j := 67) rfl rfl g13 rfl ?_
          try dsimp only at h
          refine w_iinc (cc := (1 : Int32)) (j := 68) rfl rfl rfl (l1_5 rfl) rfl ?_
          refine w_goto (j := 50) rfl rfl ?_
          exact ih _ _ _ _ _ _ _ hu1 h hq
set_option maxHeartbeats 2000000 in
set_option maxRecDepth 20000 in
theorem RJ_X10_sets_30 {d : Nat}  {Q : Option Value → xM → Prop}  {l2 : Int32} {l3 : Int32} {u1 u4 u5 : Option Value}  {s : St} {q : St}  (hu1 : xlong u1 = false) (hu4 : xlong u4 = false) (h : J_X10_sets_30  l2 l3  s = some q) (hq : Q none (SH, q.1, q.2)) : wp (d + 0) mX10_sets 30 [some (.ref 94), u1, some (.int l2), some (.int l3), u4, u5] [] (SH, s.1, s.2) Q := by
  unfold J_X10_sets_30 at h
  try dsimp only at h
  refine w_iload_n (j := 31) rfl rfl rfl ?_
  refine w_iconst (z := (1 : Int32)) (j := 32) rfl rfl rfl ?_
  rcases xite_inv h with ⟨c6, h⟩ | ⟨c6, h⟩
  · refine w_icmpne_f (j := 33) rfl c6 rfl ?_
    refine w_aload_n (j := 34) rfl rfl rfl ?_
    refine w_getR (j := 35) rfl rfl rfl rfl rfl rfl ?_
    refine w_aload_n (j := 36) rfl rfl rfl ?_
    refine w_getR (j := 37) rfl rfl rfl rfl rfl rfl ?_
    refine w_iload_n (j := 38) rfl rfl rfl ?_
    rcases xite_inv h with ⟨g7, h⟩ | ⟨g7, h⟩
    · cases h
    · refine w_iaload (j := 39) rfl rfl g7 rfl ?_
      rcases xite_inv h with ⟨g8, h⟩ | ⟨g8, h⟩
      · cases h
      · refine w_iaload (j := 40) rfl rfl g8 rfl ?_
        refine w_goto (j := 42) rfl rfl ?_
        refine w_istore (j := 43) rfl (l1_4 rfl) rfl ?_
        refine w_aload_n (j := 44) rfl rfl rfl ?_
        refine w_getR (j := 45) rfl rfl rfl rfl rfl rfl ?_
        refine w_iload (j := 46) rfl rfl rfl ?_
        refine w_iload_n (j := 47) rfl rfl rfl ?_
        rcases xite_inv h with ⟨g9, h⟩ | ⟨g9, h⟩
        · cases h
        · refine w_iastore (j := 48) rfl rfl g9 rfl ?_
          try dsimp only at h
          refine w_iconst (z := (0 : Int32)) (j := 49) rfl rfl rfl ?_
          refine w_istore (j := 50) rfl (l1_5 rfl) rfl ?_
          obtain ⟨q15, hq15, h⟩ := Option.bind_eq_some_iff.mp h
          refine RL_X10_sets_50  _ _ _ _ _ _ _ _ hu1 hq15 (fun v16 v17 v18 v19 v20 v21 hv17 hv18 hv19 hv20 => ?_)
          obtain rfl := Option.some.inj h
          exact wp_vret rfl rfl rfl hq
  · refine w_icmpne_t (j := 41) rfl c6 rfl ?_
    refine w_iconst (z := (3 : Int32)) (j := 42) rfl rfl rfl ?_
    refine w_istore (j := 43) rfl (l1_4 rfl) rfl ?_
    refine w_aload_n (j := 44) rfl rfl rfl ?_
    refine w_getR (j := 45) rfl rfl rfl rfl rfl rfl ?_
    refine w_iload (j := 46) rfl rfl rfl ?_
    refine w_iload_n (j := 47) rfl rfl rfl ?_
    refine w_iastore (j := 48) rfl rfl (by decide) rfl ?_
    try dsimp only at h
    refine w_iconst (z := (0 : Int32)) (j := 49) rfl rfl rfl ?_
    refine w_istore (j := 50) rfl (l1_5 rfl) rfl ?_
    obtain ⟨q23, hq23, h⟩ := Option.bind_eq_some_iff.mp h
    refine RL_X10_sets_50  _ _ _ _ _ _ _ _ hu1 hq23 (fun v24 v25 v26 v27 v28 v29 hv25 hv26 hv27 hv28 => ?_)
    obtain rfl := Option.some.inj h
    exact wp_vret rfl rfl rfl hq
set_option maxHeartbeats 2000000 in
set_option maxRecDepth 20000 in
theorem R_X10_sets {d : Nat} {a0 : Int32} {s : St} {q : St} {Q : Option Value → xM → Prop}  (h : F_X10_sets a0 s = some q) (hq : Q none (SH, q.1, q.2)) : wp (d + 0) mX10_sets 0 [some (.ref 94), some (.int a0), none, none, none, none] [] (SH, s.1, s.2) Q := by
  unfold F_X10_sets at h
  try dsimp only at h
  refine w_aload_n (j := 1) rfl rfl rfl ?_
  refine w_getR (j := 2) rfl rfl rfl rfl rfl rfl ?_
  refine w_iconst (z := (2 : Int32)) (j := 3) rfl rfl rfl ?_
  refine w_aload_n (j := 4) rfl rfl rfl ?_
  refine w_getI (j := 5) rfl rfl rfl rfl rfl ?_
  refine w_imul (j := 6) rfl rfl ?_
  refine w_iload_n (j := 7) rfl rfl rfl ?_
  refine w_iadd (j := 8) rfl rfl ?_
  rcases xite_inv h with ⟨g1, h⟩ | ⟨g1, h⟩
  · cases h
  · refine w_iaload (j := 9) rfl rfl g1 rfl ?_
    refine w_istore_n (j := 10) rfl (l1_2 rfl) rfl ?_
    refine w_bipush (z := (48 : Int32)) (j := 11) rfl rfl rfl ?_
    refine w_aload_n (j := 12) rfl rfl rfl ?_
    refine w_getI (j := 13) rfl rfl rfl rfl rfl ?_
    refine w_imul (j := 14) rfl rfl ?_
    refine w_bipush (z := (24 : Int32)) (j := 15) rfl rfl rfl ?_
    refine w_iload_n (j := 16) rfl rfl rfl ?_
    refine w_imul (j := 17) rfl rfl ?_
    refine w_iadd (j := 18) rfl rfl ?_
    refine w_istore_n (j := 19) rfl (l1_3 rfl) rfl ?_
    refine w_iload_n (j := 20) rfl rfl rfl ?_
    rcases xite_inv h with ⟨c2, h⟩ | ⟨c2, h⟩
    · refine w_ifeq_t (j := 29) rfl c2 rfl ?_
      obtain rfl := Option.some.inj h
      exact wp_vret rfl rfl rfl hq
    · refine w_ifeq_f (j := 21) rfl c2 rfl ?_
      refine w_iload_n (j := 22) rfl rfl rfl ?_
      refine w_iconst (z := (1 : Int32)) (j := 23) rfl rfl rfl ?_
      rcases xite_inv h with ⟨c3, h⟩ | ⟨c3, h⟩
      · refine w_icmpne_f (j := 24) rfl c3 rfl ?_
        refine w_aload_n (j := 25) rfl rfl rfl ?_
        refine w_getR (j := 26) rfl rfl rfl rfl rfl rfl ?_
        refine w_iload_n (j := 27) rfl rfl rfl ?_
        rcases xite_inv h with ⟨g4, h⟩ | ⟨g4, h⟩
        · cases h
        · refine w_iaload (j := 28) rfl rfl g4 rfl ?_
          rcases xite_inv h with ⟨c5, h⟩ | ⟨c5, h⟩
          · refine w_ifne_f (j := 29) rfl c5 rfl ?_
            obtain rfl := Option.some.inj h
            exact wp_vret rfl rfl rfl hq
          · refine w_ifne_t (j := 30) rfl c5 rfl ?_
            exact RJ_X10_sets_30  rfl rfl h hq
      · refine w_icmpne_t (j := 30) rfl c3 rfl ?_
        exact RJ_X10_sets_30  rfl rfl h hq
set_option maxHeartbeats 2000000 in
set_option maxRecDepth 20000 in
theorem RL_X10_understood_41 {d : Nat}  {Q : Option Value → xM → Prop}  : ∀ (n : Nat) (l1 : Int32) (l2 : Int32)  (s : St) (q : St)   (h : L_X10_understood_41  n l1 l2 s = some q) (hq : ∀ (v2 : Option Value), wp (d + 0) mX10_understood 70 [some (.ref 94), some (.int l1), v2] [] (SH, q.1, q.2) Q), wp (d + 0) mX10_understood 41 [some (.ref 94), some (.int l1), some (.int l2)] [] (SH, s.1, s.2) Q := by
  intro n
  induction n with
  | zero => intro l1 l2 s q h; cases h
  | succ n ih =>
    intro l1 l2 s q h hq
    unfold L_X10_understood_41 at h
    try dsimp only at h
    refine w_iload_n (j := 42) rfl rfl rfl ?_
    refine w_aload_n (j := 43) rfl rfl rfl ?_
    refine w_getR (j := 44) rfl rfl rfl rfl rfl rfl ?_
    refine w_iload_n (j := 45) rfl rfl rfl ?_
    rcases xite_inv h with ⟨g11, h⟩ | ⟨g11, h⟩
    · cases h
    · refine w_iaload (j := 46) rfl rfl g11 rfl ?_
      rcases xite_inv h with ⟨c12, h⟩ | ⟨c12, h⟩
      · refine w_icmpge_t (j := 70) rfl c12 rfl ?_
        obtain rfl := Option.some.inj h
        exact hq _
      · refine w_icmpge_f (j := 47) rfl c12 rfl ?_
        refine w_aload_n (j := 48) rfl rfl rfl ?_
        refine w_getR (j := 49) rfl rfl rfl rfl rfl rfl ?_
        refine w_bipush (z := (24 : Int32)) (j := 50) rfl rfl rfl ?_
        refine w_iload_n (j := 51) rfl rfl rfl ?_
        refine w_imul (j := 52) rfl rfl ?_
        refine w_iload_n (j := 53) rfl rfl rfl ?_
        refine w_iadd (j := 54) rfl rfl ?_
        refine w_aload_n (j := 55) rfl rfl rfl ?_
        refine w_getR (j := 56) rfl rfl rfl rfl rfl rfl ?_
        refine w_bipush (z := (48 : Int32)) (j := 57) rfl rfl rfl ?_
        refine w_aload_n (j := 58) rfl rfl rfl ?_
        refine w_getI (j := 59) rfl rfl rfl rfl rfl ?_
        refine w_imul (j := 60) rfl rfl ?_
        refine w_bipush (z := (24 : Int32)) (j := 61) rfl rfl rfl ?_
        refine w_iload_n (j := 62) rfl rfl rfl ?_
        refine w_imul (j := 63) rfl rfl ?_
        refine w_iadd (j := 64) rfl rfl ?_
        refine w_iload_n (j := 65) rfl rfl rfl ?_
        refine w_iadd (j := 66) rfl rfl ?_
        rcases xite_inv h with ⟨g13, h⟩ | ⟨g13, h⟩
        · cases h
        · refine w_iaload (j := 67) rfl rfl g13 rfl ?_
          rcases xite_inv h with ⟨g14, h⟩ | ⟨g14, h⟩
          · cases h
          · refine w_iastore (j := 68) rfl rfl g14 rfl ?_
            try dsimp only at h
            refine w_iinc (cc := (1 : Int32)) (j := 69) rfl rfl rfl (l1_2 rfl) rfl ?_
            refine w_goto (j := 41) rfl rfl ?_
            exact ih _ _ _ _ h hq
set_option maxHeartbeats 2000000 in
set_option maxRecDepth 20000 in
theorem RL_X10_understood_23 {d : Nat}  {Q : Option Value → xM → Prop}  : ∀ (n : Nat) (l1 : Int32) (u2 : Option Value) (s : St) (q : St)   (h : L_X10_understood_23  n l1 s = some q) (hq : ∀ (v1 v2 : Option Value), xlong v1 = false → wp (d + 0) mX10_understood 72 [some (.ref 94), v1, v2] [] (SH, q.1, q.2) Q), wp (d + 0) mX10_understood 23 [some (.ref 94), some (.int l1), u2] [] (SH, s.1, s.2) Q := by
  intro n
  induction n with
  | zero => intro l1 u2 s q h; cases h
  | succ n ih =>
    intro l1 u2 s q h hq
    unfold L_X10_understood_23 at h
    try dsimp only at h
    refine w_iload_n (j := 24) rfl rfl rfl ?_
    refine w_iconst (z := (2 : Int32)) (j := 25) rfl rfl rfl ?_
    rcases xite_inv h with ⟨c7, h⟩ | ⟨c7, h⟩
    · refine w_icmpge_t (j := 72) rfl c7 rfl ?_
      obtain rfl := Option.some.inj h
      exact hq _ _ rfl
    · refine w_icmpge_f (j := 26) rfl c7 rfl ?_
      refine w_aload_n (j := 27) rfl rfl rfl ?_
      refine w_getR (j := 28) rfl rfl rfl rfl rfl rfl ?_
      refine w_iload_n (j := 29) rfl rfl rfl ?_
      refine w_aload_n (j := 30) rfl rfl rfl ?_
      refine w_getR (j := 31) rfl rfl rfl rfl rfl rfl ?_
      refine w_iconst (z := (2 : Int32)) (j := 32) rfl rfl rfl ?_
      refine w_aload_n (j := 33) rfl rfl rfl ?_
      refine w_getI (j := 34) rfl rfl rfl rfl rfl ?_
      refine w_imul (j := 35) rfl rfl ?_
      refine w_iload_n (j := 36) rfl rfl rfl ?_
      refine w_iadd (j := 37) rfl rfl ?_
      rcases xite_inv h with ⟨g8, h⟩ | ⟨g8, h⟩
      · cases h
      · refine w_iaload (j := 38) rfl rfl g8 rfl ?_
        rcases xite_inv h with ⟨g9, h⟩ | ⟨g9, h⟩
        · cases h
        · refine w_iastore (j := 39) rfl rfl g9 rfl ?_
          try dsimp only at h
          refine w_iconst (z := (0 : Int32)) (j := 40) rfl rfl rfl ?_
          refine w_istore_n (j := 41) rfl (l1_2 rfl) rfl ?_
          obtain ⟨q16, hq16, h⟩ := Option.bind_eq_some_iff.mp h
          refine RL_X10_understood_41  _ _ _ _ _ hq16 (fun v17 => ?_)
          refine w_iinc (cc := (1 : Int32)) (j := 71) rfl rfl rfl (l1_1 rfl) rfl ?_
          refine w_goto (j := 23) rfl rfl ?_
          exact ih _ _ _ _ h hq
set_option maxHeartbeats 2000000 in
set_option maxRecDepth 20000 in
theorem R_X10_understood {d : Nat}  {s : St} {q : St} {Q : Option Value → xM → Prop}  (h : F_X10_understood  s = some q) (hq : Q none (SH, q.1, q.2)) : wp (d + 0) mX10_understood 0 [some (.ref 94), none, none] [] (SH, s.1, s.2) Q := by
  unfold F_X10_understood at h
  try dsimp only at h
  refine w_aload_n (j := 1) rfl rfl rfl ?_
  refine w_aload_n (j := 2) rfl rfl rfl ?_
  refine w_getR (j := 3) rfl rfl rfl rfl rfl rfl ?_
  refine w_aload_n (j := 4) rfl rfl rfl ?_
  refine w_getI (j := 5) rfl rfl rfl rfl rfl ?_
  rcases xite_inv h with ⟨g1, h⟩ | ⟨g1, h⟩
  · cases h
  · refine w_iaload (j := 6) rfl rfl g1 rfl ?_
    refine w_putI (j := 7) rfl rfl rfl rfl rfl ?_
    try dsimp only at h
    refine w_aload_n (j := 8) rfl rfl rfl ?_
    refine w_aload_n (j := 9) rfl rfl rfl ?_
    refine w_getR (j := 10) rfl rfl rfl rfl rfl rfl ?_
    refine w_aload_n (j := 11) rfl rfl rfl ?_
    refine w_getI (j := 12) rfl rfl rfl rfl rfl ?_
    rcases xite_inv h with ⟨g3, h⟩ | ⟨g3, h⟩
    · cases h
    · refine w_iaload (j := 13) rfl rfl g3 rfl ?_
      refine w_putI (j := 14) rfl rfl rfl rfl rfl ?_
      try dsimp only at h
      refine w_aload_n (j := 15) rfl rfl rfl ?_
      refine w_aload_n (j := 16) rfl rfl rfl ?_
      refine w_getR (j := 17) rfl rfl rfl rfl rfl rfl ?_
      refine w_aload_n (j := 18) rfl rfl rfl ?_
      refine w_getI (j := 19) rfl rfl rfl rfl rfl ?_
      rcases xite_inv h with ⟨g5, h⟩ | ⟨g5, h⟩
      · cases h
      · refine w_iaload (j := 20) rfl rfl g5 rfl ?_
        refine w_putI (j := 21) rfl rfl rfl rfl rfl ?_
        try dsimp only at h
        refine w_iconst (z := (0 : Int32)) (j := 22) rfl rfl rfl ?_
        refine w_istore_n (j := 23) rfl (l1_1 rfl) rfl ?_
        obtain ⟨q18, hq18, h⟩ := Option.bind_eq_some_iff.mp h
        refine RL_X10_understood_23  _ _ _ _ _ hq18 (fun v19 v20 hv19 => ?_)
        refine w_aload_n (j := 73) rfl rfl rfl ?_
        refine w_dup (j := 74) rfl rfl rfl ?_
        refine w_getI (j := 75) rfl rfl rfl rfl rfl ?_
        refine w_iconst (z := (1 : Int32)) (j := 76) rfl rfl rfl ?_
        refine w_iadd (j := 77) rfl rfl ?_
        refine w_putI (j := 78) rfl rfl rfl rfl rfl ?_
        try dsimp only at h
        refine w_aload_n (j := 79) rfl rfl rfl ?_
        refine w_dup (j := 80) rfl rfl rfl ?_
        refine w_getI (j := 81) rfl rfl rfl rfl rfl ?_
        refine w_iconst (z := (1 : Int32)) (j := 82) rfl rfl rfl ?_
        refine w_iadd (j := 83) rfl rfl ?_
        refine w_putI (j := 84) rfl rfl rfl rfl rfl ?_
        try dsimp only at h
        obtain rfl := Option.some.inj h
        exact wp_vret rfl rfl rfl hq
set_option maxHeartbeats 2000000 in
set_option maxRecDepth 20000 in
theorem R_X10_isBetween {d : Nat}  {s : St} {q : Int32 × St} {Q : Option Value → xM → Prop}  (h : F_X10_isBetween  s = some q) (hq : Q (some (.int q.1)) (SH, q.2.1, q.2.2)) : wp (d + 0) mX10_isBetween 0 [some (.ref 94)] [] (SH, s.1, s.2) Q := by
  unfold F_X10_isBetween at h
  try dsimp only at h
  refine w_aload_n (j := 1) rfl rfl rfl ?_
  refine w_getR (j := 2) rfl rfl rfl rfl rfl rfl ?_
  refine w_aload_n (j := 3) rfl rfl rfl ?_
  refine w_getI (j := 4) rfl rfl rfl rfl rfl ?_
  rcases xite_inv h with ⟨g1, h⟩ | ⟨g1, h⟩
  · cases h
  · refine w_iaload (j := 5) rfl rfl g1 rfl ?_
    refine w_bipush (z := (31 : Int32)) (j := 6) rfl rfl rfl ?_
    rcases xite_inv h with ⟨c2, h⟩ | ⟨c2, h⟩
    · refine w_icmpeq_t (j := 14) rfl c2 rfl ?_
      refine w_iconst (z := (1 : Int32)) (j := 15) rfl rfl rfl ?_
      refine w_goto (j := 17) rfl rfl ?_
      obtain rfl := Option.some.inj h
      exact wp_ret rfl rfl rfl hq
    · refine w_icmpeq_f (j := 7) rfl c2 rfl ?_
      refine w_aload_n (j := 8) rfl rfl rfl ?_
      refine w_getR (j := 9) rfl rfl rfl rfl rfl rfl ?_
      refine w_aload_n (j := 10) rfl rfl rfl ?_
      refine w_getI (j := 11) rfl rfl rfl rfl rfl ?_
      refine w_iaload (j := 12) rfl rfl g1 rfl ?_
      refine w_iconst (z := (4 : Int32)) (j := 13) rfl rfl rfl ?_
      rcases xite_inv h with ⟨c3, h⟩ | ⟨c3, h⟩
      · refine w_icmpne_f (j := 14) rfl c3 rfl ?_
        refine w_iconst (z := (1 : Int32)) (j := 15) rfl rfl rfl ?_
        refine w_goto (j := 17) rfl rfl ?_
        obtain rfl := Option.some.inj h
        exact wp_ret rfl rfl rfl hq
      · refine w_icmpne_t (j := 16) rfl c3 rfl ?_
        refine w_iconst (z := (0 : Int32)) (j := 17) rfl rfl rfl ?_
        obtain rfl := Option.some.inj h
        exact wp_ret rfl rfl rfl hq
