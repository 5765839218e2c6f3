set_option maxHeartbeats 2000000 in
set_option maxRecDepth 20000 in
theorem RJ_X10_command_163 {d : Nat}  {Q : Option Value → xM → Prop}  {l1 : Int32} {l2 : Int32} {u3 u4 u5 : Option Value}  {s : St} {q : Int32 × St}  (hu3 : xlong u3 = false) (hu4 : xlong u4 = false) (h : J_X10_command_163  l1 l2  s = some q) (hq : Q (some (.int q.1)) (SH, q.2.1, q.2.2)) : wp (d + 5) mX10_command 163 [some (.ref 94), some (.int l1), some (.int l2), u3, u4, u5] [] (SH, s.1, s.2) Q := by
  unfold J_X10_command_163 at h
  try dsimp only at h
  refine w_iload_n (j := 164) rfl rfl rfl ?_
  rcases xite_inv h with ⟨c30, h⟩ | ⟨c30, h⟩
  · refine w_ifeq_t (j := 185) rfl c30 rfl ?_
    refine w_aload_n (j := 186) rfl rfl rfl ?_
    refine w_iconst (z := (0 : Int32)) (j := 187) rfl rfl rfl ?_
    obtain ⟨q31, hq31, h⟩ := Option.bind_eq_some_iff.mp h
    refine wc_AI_V (j := 188) (T := [none, none, none, none]) rfl rfl rfl rfl rfl rfl rfl rfl rfl rfl ?_
    refine R_X10_sets hq31 ⟨rfl, ?_⟩
    refine w_aload_n (j := 189) rfl rfl rfl ?_
    refine w_iconst (z := (1 : Int32)) (j := 190) rfl rfl rfl ?_
    obtain ⟨q32, hq32, h⟩ := Option.bind_eq_some_iff.mp h
    refine wc_AI_V (j := 191) (T := [none, none, none, none]) rfl rfl rfl rfl rfl rfl rfl rfl rfl rfl ?_
    refine R_X10_sets hq32 ⟨rfl, ?_⟩
    refine w_aload_n (j := 192) rfl rfl rfl ?_
    obtain ⟨q33, hq33, h⟩ := Option.bind_eq_some_iff.mp h
    refine wc_A_V (j := 193) (T := [none, none]) rfl rfl rfl rfl rfl rfl rfl rfl rfl rfl ?_
    refine R_X10_understood hq33 ⟨rfl, ?_⟩
    refine w_iconst (z := (1 : Int32)) (j := 194) rfl rfl rfl ?_
    obtain rfl := Option.some.inj h
    exact wp_ret rfl rfl rfl hq
  · refine w_ifeq_f (j := 165) rfl c30 rfl ?_
    refine w_iload_n (j := 166) rfl rfl rfl ?_
    rcases xite_inv h with ⟨c34, h⟩ | ⟨c34, h⟩
    · refine w_ifeq_t (j := 185) rfl c34 rfl ?_
      refine w_aload_n (j := 186) rfl rfl rfl ?_
      refine w_iconst (z := (0 : Int32)) (j := 187) rfl rfl rfl ?_
      obtain ⟨q35, hq35, h⟩ := Option.bind_eq_some_iff.mp h
      refine wc_AI_V (j := 188) (T := [none, none, none, none]) rfl rfl rfl rfl rfl rfl rfl rfl rfl rfl ?_
      refine R_X10_sets hq35 ⟨rfl, ?_⟩
      refine w_aload_n (j := 189) rfl rfl rfl ?_
      refine w_iconst (z := (1 : Int32)) (j := 190) rfl rfl rfl ?_
      obtain ⟨q36, hq36, h⟩ := Option.bind_eq_some_iff.mp h
      refine wc_AI_V (j := 191) (T := [none, none, none, none]) rfl rfl rfl rfl rfl rfl rfl rfl rfl rfl ?_
      refine R_X10_sets hq36 ⟨rfl, ?_⟩
      refine w_aload_n (j := 192) rfl rfl rfl ?_
      obtain ⟨q37, hq37, h⟩ := Option.bind_eq_some_iff.mp h
      refine wc_A_V (j := 193) (T := [none, none]) rfl rfl rfl rfl rfl rfl rfl rfl rfl rfl ?_
      refine R_X10_understood hq37 ⟨rfl, ?_⟩
      refine w_iconst (z := (1 : Int32)) (j := 194) rfl rfl rfl ?_
      obtain rfl := Option.some.inj h
      exact wp_ret rfl rfl rfl hq
    · refine w_ifeq_f (j := 167) rfl c34 rfl ?_
      refine w_aload_n (j := 168) rfl rfl rfl ?_
      refine w_getR (j := 169) rfl rfl rfl rfl rfl rfl ?_
      refine w_aload_n (j := 170) rfl rfl rfl ?_
      refine w_getR (j := 171) rfl rfl rfl rfl rfl rfl ?_
      refine w_iload_n (j := 172) rfl rfl rfl ?_
      rcases xite_inv h with ⟨g38, h⟩ | ⟨g38, h⟩
      · cases h
      · refine w_iaload (j := 173) rfl rfl g38 rfl ?_
        refine w_iconst (z := (1 : Int32)) (j := 174) rfl rfl rfl ?_
        rcases xite_inv h with ⟨g39, h⟩ | ⟨g39, h⟩
        · cases h
        · refine w_iastore (j := 175) rfl rfl g39 rfl ?_
          try dsimp only at h
          refine w_aload_n (j := 176) rfl rfl rfl ?_
          refine w_getR (j := 177) rfl rfl rfl rfl rfl rfl ?_
          refine w_bipush (z := (24 : Int32)) (j := 178) rfl rfl rfl ?_
          refine w_aload_n (j := 179) rfl rfl rfl ?_
          refine w_getR (j := 180) rfl rfl rfl rfl rfl rfl ?_
          refine w_iload_n (j := 181) rfl rfl rfl ?_
          refine w_iaload (j := 182) rfl rfl g38 rfl ?_
          refine w_imul (j := 183) rfl rfl ?_
          refine w_iload_n (j := 184) rfl rfl rfl ?_
          rcases xite_inv h with ⟨g41, h⟩ | ⟨g41, h⟩
          · cases h
          · refine w_iastore (j := 185) rfl rfl g41 rfl ?_
            try dsimp only at h
            refine w_aload_n (j := 186) rfl rfl rfl ?_
            refine w_iconst (z := (0 : Int32)) (j := 187) rfl rfl rfl ?_
            obtain ⟨q43, hq43, h⟩ := Option.bind_eq_some_iff.mp h
            refine wc_AI_V (j := 188) (T := [none, none, none, none]) rfl rfl rfl rfl rfl rfl rfl rfl rfl rfl ?_
            refine R_X10_sets hq43 ⟨rfl, ?_⟩
            refine w_aload_n (j := 189) rfl rfl rfl ?_
            refine w_iconst (z := (1 : Int32)) (j := 190) rfl rfl rfl ?_
            obtain ⟨q44, hq44, h⟩ := Option.bind_eq_some_iff.mp h
            refine wc_AI_V (j := 191) (T := [none, none, none, none]) rfl rfl rfl rfl rfl rfl rfl rfl rfl rfl ?_
            refine R_X10_sets hq44 ⟨rfl, ?_⟩
            refine w_aload_n (j := 192) rfl rfl rfl ?_
            obtain ⟨q45, hq45, h⟩ := Option.bind_eq_some_iff.mp h
            refine wc_A_V (j := 193) (T := [none, none]) rfl rfl rfl rfl rfl rfl rfl rfl rfl rfl ?_
            refine R_X10_understood hq45 ⟨rfl, ?_⟩
            refine w_iconst (z := (1 : Int32)) (j := 194) rfl rfl rfl ?_
            obtain rfl := Option.some.inj h
            exact wp_ret rfl rfl rfl hq
set_option maxHeartbeats 2000000 in
set_option maxRecDepth 20000 in
theorem RJ_X10_command_150 {d : Nat}  {Q : Option Value → xM → Prop}  {l1 : Int32} {l2 : Int32} {u3 u4 u5 : Option Value}  {s : St} {q : Int32 × St}  (hu3 : xlong u3 = false) (hu4 : xlong u4 = false) (h : J_X10_command_150  l1 l2  s = some q) (hq : Q (some (.int q.1)) (SH, q.2.1, q.2.2)) : wp (d + 5) mX10_command 150 [some (.ref 94), some (.int l1), some (.int l2), u3, u4, u5] [] (SH, s.1, s.2) Q := by
  unfold J_X10_command_150 at h
  try dsimp only at h
  refine w_aload_n (j := 151) rfl rfl rfl ?_
  obtain ⟨q26, hq26, h⟩ := Option.bind_eq_some_iff.mp h
  refine wc_A_I (j := 152) (T := []) rfl rfl rfl rfl rfl rfl rfl rfl rfl rfl ?_
  refine R_X10_isBetween hq26 ⟨_, rfl, ?_⟩
  rcases xite_inv h with ⟨c27, h⟩ | ⟨c27, h⟩
  · refine w_ifne_f (j := 153) rfl c27 rfl ?_
    refine w_aload_n (j := 154) rfl rfl rfl ?_
    refine w_getR (j := 155) rfl rfl rfl rfl rfl rfl ?_
    refine w_aload_n (j := 156) rfl rfl rfl ?_
    refine w_getI (j := 157) rfl rfl rfl rfl rfl ?_
    rcases xite_inv h with ⟨g28, h⟩ | ⟨g28, h⟩
    · cases h
    · refine w_iaload (j := 158) rfl rfl g28 rfl ?_
      refine w_bipush (z := (33 : Int32)) (j := 159) rfl rfl rfl ?_
      rcases xite_inv h with ⟨c29, h⟩ | ⟨c29, h⟩
      · refine w_icmpeq_t (j := 163) rfl c29 rfl ?_
        exact RJ_X10_command_163  hu3 hu4 h hq
      · refine w_icmpeq_f (j := 160) rfl c29 rfl ?_
        refine w_aload_n (j := 161) rfl rfl rfl ?_
        obtain ⟨q46, hq46, h⟩ := Option.bind_eq_some_iff.mp h
        refine wc_A_I (j := 162) (T := []) rfl rfl rfl rfl rfl rfl rfl rfl rfl rfl ?_
        refine R_X10_wrong hq46 ⟨_, rfl, ?_⟩
        rcases xite_inv h with ⟨hb, h⟩ | ⟨hb, h⟩
        · obtain rfl := Option.some.inj h
          exact wp_ret rfl rfl (xretb hb) hq
        · cases h
  · refine w_ifne_t (j := 163) rfl c27 rfl ?_
    exact RJ_X10_command_163  hu3 hu4 h hq
set_option maxHeartbeats 2000000 in
set_option maxRecDepth 20000 in
theorem RJ_X10_command_140 {d : Nat}  {Q : Option Value → xM → Prop}  {l1 : Int32} {l2 : Int32} {u3 u4 u5 : Option Value}  {s : St} {q : Int32 × St}  (hu3 : xlong u3 = false) (hu4 : xlong u4 = false) (h : J_X10_command_140  l1 l2  s = some q) (hq : Q (some (.int q.1)) (SH, q.2.1, q.2.2)) : wp (d + 5) mX10_command 140 [some (.ref 94), some (.int l1), some (.int l2), u3, u4, u5] [] (SH, s.1, s.2) Q := by
  unfold J_X10_command_140 at h
  try dsimp only at h
  refine w_aload_n (j := 141) rfl rfl rfl ?_
  refine w_getR (j := 142) rfl rfl rfl rfl rfl rfl ?_
  refine w_aload_n (j := 143) rfl rfl rfl ?_
  refine w_getI (j := 144) rfl rfl rfl rfl rfl ?_
  rcases xite_inv h with ⟨g22, h⟩ | ⟨g22, h⟩
  · cases h
  · refine w_iaload (j := 145) rfl rfl g22 rfl ?_
    refine w_iconst (z := (3 : Int32)) (j := 146) rfl rfl rfl ?_
    rcases xite_inv h with ⟨c23, h⟩ | ⟨c23, h⟩
    · refine w_icmpne_f (j := 147) rfl c23 rfl ?_
      refine w_aload_n (j := 148) rfl rfl rfl ?_
      obtain ⟨q24, hq24, h⟩ := Option.bind_eq_some_iff.mp h
      refine wc_A_I (j := 149) (T := []) rfl rfl rfl rfl rfl rfl rfl rfl rfl rfl ?_
      refine R_X10_isVerbBehind hq24 ⟨_, rfl, ?_⟩
      rcases xite_inv h with ⟨c25, h⟩ | ⟨c25, h⟩
      · refine w_ifne_f (j := 150) rfl c25 rfl ?_
        exact RJ_X10_command_150  hu3 hu4 h hq
      · refine w_ifne_t (j := 163) rfl c25 rfl ?_
        exact RJ_X10_command_163  hu3 hu4 h hq
    · refine w_icmpne_t (j := 150) rfl c23 rfl ?_
      exact RJ_X10_command_150  hu3 hu4 h hq
set_option maxHeartbeats 2000000 in
set_option maxRecDepth 20000 in
theorem RJ_X10_command_108 {d : Nat}  {Q : Option Value → xM → Prop}  {l1 : Int32} {l2 : Int32} {l4 : Int32} {l5 : Int32} {u3 : Option Value}  {s : St} {q : Int32 × St}  (hu3 : xlong u3 = false) (h : J_X10_command_108  l1 l2 l4 l5  s = some q) (hq : Q (some (.int q.1)) (SH, q.2.1, q.2.2)) : wp (d + 5) mX10_command 108 [some (.ref 94), some (.int l1), some (.int l2), u3, some (.int l4), some (.int l5)] [] (SH, s.1, s.2) Q := by
  unfold J_X10_command_108 at h
  try dsimp only at h
  refine w_iload (j := 109) rfl rfl rfl ?_
  refine w_iconst (z := (1 : Int32)) (j := 110) rfl rfl rfl ?_
  rcases xite_inv h with ⟨c55, h⟩ | ⟨c55, h⟩
  · refine w_icmple_t (j := 140) rfl c55 rfl ?_
    exact RJ_X10_command_140  hu3 rfl h hq
  · refine w_icmple_f (j := 111) rfl c55 rfl ?_
    refine w_iload (j := 112) rfl rfl rfl ?_
    rcases xite_inv h with ⟨c56, h⟩ | ⟨c56, h⟩
    · refine w_ifeq_t (j := 140) rfl c56 rfl ?_
      exact RJ_X10_command_140  hu3 rfl h hq
    · refine w_ifeq_f (j := 113) rfl c56 rfl ?_
      refine w_aload_n (j := 114) rfl rfl rfl ?_
      refine w_getR (j := 115) rfl rfl rfl rfl rfl rfl ?_
      refine w_aload_n (j := 116) rfl rfl rfl ?_
      refine w_getI (j := 117) rfl rfl rfl rfl rfl ?_
      refine w_aload_n (j := 118) rfl rfl rfl ?_
      refine w_getR (j := 119) rfl rfl rfl rfl rfl rfl ?_
      refine w_aload_n (j := 120) rfl rfl rfl ?_
      refine w_getI (j := 121) rfl rfl rfl rfl rfl ?_
      rcases xite_inv h with ⟨g57, h⟩ | ⟨g57, h⟩
      · cases h
      · refine w_iaload (j := 122) rfl rfl g57 rfl ?_
        refine w_bipush (z := (100 : Int32)) (j := 123) rfl rfl rfl ?_
        refine w_isub (j := 124) rfl rfl ?_
        rcases xite_inv h with ⟨g58, h⟩ | ⟨g58, h⟩
        · cases h
        · refine w_iastore (j := 125) rfl rfl g58 rfl ?_
          try dsimp only at h
          refine w_aload_n (j := 126) rfl rfl rfl ?_
          refine w_dup (j := 127) rfl rfl rfl ?_
          refine w_getI (j := 128) rfl rfl rfl rfl rfl ?_
          refine w_iconst (z := (1 : Int32)) (j := 129) rfl rfl rfl ?_
          refine w_iadd (j := 130) rfl rfl ?_
          refine w_putI (j := 131) rfl rfl rfl rfl rfl ?_
          try dsimp only at h
          refine w_aload_n (j := 132) rfl rfl rfl ?_
          refine w_iload_n (j := 133) rfl rfl rfl ?_
          obtain ⟨q61, hq61, h⟩ := Option.bind_eq_some_iff.mp h
          refine wc_AI_I (j := 134) (T := [none]) rfl rfl rfl rfl rfl rfl rfl rfl rfl rfl ?_
          refine R_X10_list hq61 ⟨_, rfl, ?_⟩
          rcases xite_inv h with ⟨c62, h⟩ | ⟨c62, h⟩
          · refine w_ifne_f (j := 135) rfl c62 rfl ?_
            refine w_iconst (z := (0 : Int32)) (j := 136) rfl rfl rfl ?_
            obtain rfl := Option.some.inj h
            exact wp_ret rfl rfl rfl hq
          · refine w_ifne_t (j := 137) rfl c62 rfl ?_
            refine w_aload_n (j := 138) rfl rfl rfl ?_
            refine w_iconst (z := (1 : Int32)) (j := 139) rfl rfl rfl ?_
            obtain ⟨q63, hq63, h⟩ := Option.bind_eq_some_iff.mp h
            refine wc_AI_V (j := 140) (T := [none]) rfl rfl rfl rfl rfl rfl rfl rfl rfl rfl ?_
            refine R_X10_keeps hq63 ⟨rfl, ?_⟩
            exact RJ_X10_command_140  hu3 rfl h hq
set_option maxHeartbeats 2000000 in
set_option maxRecDepth 20000 in
theorem R_X10_command {d : Nat} {a0 : Int32} {a1 : Int32} {s : St} {q : Int32 × St} {Q : Option Value → xM → Prop}  (h : F_X10_command a0 a1 s = some q) (hq : Q (some (.int q.1)) (SH, q.2.1, q.2.2)) : wp (d + 5) mX10_command 0 [some (.ref 94), some (.int a0), some (.int a1), none, none, none] [] (SH, s.1, s.2) Q := by
  unfold F_X10_command at h
  try dsimp only at h
  refine w_aload_n (j := 1) rfl rfl rfl ?_
  refine w_aload_n (j := 2) rfl rfl rfl ?_
  refine w_getR (j := 3) rfl rfl rfl rfl rfl rfl ?_
  refine w_aload_n (j := 4) rfl rfl rfl ?_
  refine w_getI (j := 5) rfl rfl rfl rfl rfl ?_
  rcases xite_inv h with ⟨g1, h⟩ | ⟨g1, h⟩
  · cases h
  · refine w_iaload (j := 6) rfl rfl g1 rfl ?_
    refine w_iconst (z := (1 : Int32)) (j := 7) rfl rfl rfl ?_
    obtain ⟨q2, hq2, h⟩ := Option.bind_eq_some_iff.mp h
    refine wc_AII_I (j := 8) (T := []) rfl rfl rfl rfl rfl rfl rfl rfl rfl rfl ?_
    refine R_X10_isSort hq2 ⟨_, rfl, ?_⟩
    rcases xite_inv h with ⟨c3, h⟩ | ⟨c3, h⟩
    · refine w_ifne_f (j := 9) rfl c3 rfl ?_
      refine w_aload_n (j := 10) rfl rfl rfl ?_
      obtain ⟨q4, hq4, h⟩ := Option.bind_eq_some_iff.mp h
      refine wc_A_I (j := 11) (T := []) rfl rfl rfl rfl rfl rfl rfl rfl rfl rfl ?_
      refine R_X10_wrong hq4 ⟨_, rfl, ?_⟩
      rcases xite_inv h with ⟨hb, h⟩ | ⟨hb, h⟩
      · obtain rfl := Option.some.inj h
        exact wp_ret rfl rfl (xretb hb) hq
      · cases h
    · refine w_ifne_t (j := 12) rfl c3 rfl ?_
      refine w_aload_n (j := 13) rfl rfl rfl ?_
      refine w_getI (j := 14) rfl rfl rfl rfl rfl ?_
      refine w_bipush (z := (10 : Int32)) (j := 15) rfl rfl rfl ?_
      rcases xite_inv h with ⟨c5, h⟩ | ⟨c5, h⟩
      · refine w_icmpne_f (j := 16) rfl c5 rfl ?_
        refine w_aload_n (j := 17) rfl rfl rfl ?_
        refine w_bipush (z := (9 : Int32)) (j := 18) rfl rfl rfl ?_
        refine w_aload_n (j := 19) rfl rfl rfl ?_
        refine w_getR (j := 20) rfl rfl rfl rfl rfl rfl ?_
        refine w_aload_n (j := 21) rfl rfl rfl ?_
        refine w_getI (j := 22) rfl rfl rfl rfl rfl ?_
        rcases xite_inv h with ⟨g6, h⟩ | ⟨g6, h⟩
        · cases h
        · refine w_iaload (j := 23) rfl rfl g6 rfl ?_
          obtain ⟨q7, hq7, h⟩ := Option.bind_eq_some_iff.mp h
          refine wc_AII_I (j := 24) (T := []) rfl rfl rfl rfl rfl rfl rfl rfl rfl rfl ?_
          refine R_X10_fails hq7 ⟨_, rfl, ?_⟩
          rcases xite_inv h with ⟨hb, h⟩ | ⟨hb, h⟩
          · obtain rfl := Option.some.inj h
            exact wp_ret rfl rfl (xretb hb) hq
          · cases h
      · refine w_icmpne_t (j := 25) rfl c5 rfl ?_
        refine w_aload_n (j := 26) rfl rfl rfl ?_
        refine w_getR (j := 27) rfl rfl rfl rfl rfl rfl ?_
        refine w_aload_n (j := 28) rfl rfl rfl ?_
        refine w_getI (j := 29) rfl rfl rfl rfl rfl ?_
        rcases xite_inv h with ⟨g8, h⟩ | ⟨g8, h⟩
        · cases h
        · refine w_iaload (j := 30) rfl rfl g8 rfl ?_
          refine w_bipush (z := (100 : Int32)) (j := 31) rfl rfl rfl ?_
          refine w_isub (j := 32) rfl rfl ?_
          refine w_istore_n (j := 33) rfl (l1_3 rfl) rfl ?_
          refine w_aload_n (j := 34) rfl rfl rfl ?_
          refine w_getR (j := 35) rfl rfl rfl rfl rfl rfl ?_
          refine w_iload_n (j := 36) rfl rfl rfl ?_
          rcases xite_inv h with ⟨g9, h⟩ | ⟨g9, h⟩
          · cases h
          · refine w_iaload (j := 37) rfl rfl g9 rfl ?_
            refine w_istore (j := 38) rfl (l1_4 rfl) rfl ?_
            refine w_aload_n (j := 39) rfl rfl rfl ?_
            refine w_dup (j := 40) rfl rfl rfl ?_
            refine w_getI (j := 41) rfl rfl rfl rfl rfl ?_
            refine w_iconst (z := (1 : Int32)) (j := 42) rfl rfl rfl ?_
            refine w_iadd (j := 43) rfl rfl ?_
            refine w_putI (j := 44) rfl rfl rfl rfl rfl ?_
            try dsimp only at h
            refine w_aload_n (j := 45) rfl rfl rfl ?_
            refine w_getR (j := 46) rfl rfl rfl rfl rfl rfl ?_
            refine w_aload_n (j := 47) rfl rfl rfl ?_
            refine w_getI (j := 48) rfl rfl rfl rfl rfl ?_
            refine w_iload_n (j := 49) rfl rfl rfl ?_
            rcases xite_inv h with ⟨g11, h⟩ | ⟨g11, h⟩
            · cases h
            · refine w_iastore (j := 50) rfl rfl g11 rfl ?_
              try dsimp only at h
              refine w_aload_n (j := 51) rfl rfl rfl ?_
              refine w_getR (j := 52) rfl rfl rfl rfl rfl rfl ?_
              refine w_aload_n (j := 53) rfl rfl rfl ?_
              refine w_getI (j := 54) rfl rfl rfl rfl rfl ?_
              refine w_iload_n (j := 55) rfl rfl rfl ?_
              rcases xite_inv h with ⟨g13, h⟩ | ⟨g13, h⟩
              · cases h
              · refine w_iastore (j := 56) rfl rfl g13 rfl ?_
                try dsimp only at h
                refine w_aload_n (j := 57) rfl rfl rfl ?_
                refine w_getR (j := 58) rfl rfl rfl rfl rfl rfl ?_
                refine w_aload_n (j := 59) rfl rfl rfl ?_
                refine w_getI (j := 60) rfl rfl rfl rfl rfl ?_
                refine w_bipush (z := (-4 : Int32)) (j := 61) rfl rfl rfl ?_
                rcases xite_inv h with ⟨g15, h⟩ | ⟨g15, h⟩
                · cases h
                · refine w_iastore (j := 62) rfl rfl g15 rfl ?_
                  try dsimp only at h
                  refine w_aload_n (j := 63) rfl rfl rfl ?_
                  refine w_getR (j := 64) rfl rfl rfl rfl rfl rfl ?_
                  refine w_iconst (z := (2 : Int32)) (j := 65) rfl rfl rfl ?_
                  refine w_aload_n (j := 66) rfl rfl rfl ?_
                  refine w_getI (j := 67) rfl rfl rfl rfl rfl ?_
                  refine w_imul (j := 68) rfl rfl ?_
                  refine w_iconst (z := (0 : Int32)) (j := 69) rfl rfl rfl ?_
                  rcases xite_inv h with ⟨g17, h⟩ | ⟨g17, h⟩
                  · cases h
                  · refine w_iastore (j := 70) rfl rfl g17 rfl ?_
                    try dsimp only at h
                    refine w_aload_n (j := 71) rfl rfl rfl ?_
                    refine w_getR (j := 72) rfl rfl rfl rfl rfl rfl ?_
                    refine w_iconst (z := (2 : Int32)) (j := 73) rfl rfl rfl ?_
                    refine w_aload_n (j := 74) rfl rfl rfl ?_
                    refine w_getI (j := 75) rfl rfl rfl rfl rfl ?_
                    refine w_imul (j := 76) rfl rfl ?_
                    refine w_iconst (z := (1 : Int32)) (j := 77) rfl rfl rfl ?_
                    refine w_iadd (j := 78) rfl rfl ?_
                    refine w_iconst (z := (0 : Int32)) (j := 79) rfl rfl rfl ?_
                    rcases xite_inv h with ⟨g19, h⟩ | ⟨g19, h⟩
                    · cases h
                    · refine w_iastore (j := 80) rfl rfl g19 rfl ?_
                      try dsimp only at h
                      refine w_iload (j := 81) rfl rfl rfl ?_
                      rcases xite_inv h with ⟨c21, h⟩ | ⟨c21, h⟩
                      · refine w_ifle_t (j := 140) rfl c21 rfl ?_
                        exact RJ_X10_command_140  rfl rfl h hq
                      · refine w_ifle_f (j := 82) rfl c21 rfl ?_
                        refine w_aload_n (j := 83) rfl rfl rfl ?_
                        refine w_iload_n (j := 84) rfl rfl rfl ?_
                        obtain ⟨q47, hq47, h⟩ := Option.bind_eq_some_iff.mp h
                        refine wc_AI_I (j := 85) (T := [none]) rfl rfl rfl rfl rfl rfl rfl rfl rfl rfl ?_
                        refine R_X10_list hq47 ⟨_, rfl, ?_⟩
                        rcases xite_inv h with ⟨c48, h⟩ | ⟨c48, h⟩
                        · refine w_ifne_f (j := 86) rfl c48 rfl ?_
                          refine w_iconst (z := (0 : Int32)) (j := 87) rfl rfl rfl ?_
                          obtain rfl := Option.some.inj h
                          exact wp_ret rfl rfl rfl hq
                        · refine w_ifne_t (j := 88) rfl c48 rfl ?_
                          refine w_aload_n (j := 89) rfl rfl rfl ?_
                          refine w_iconst (z := (0 : Int32)) (j := 90) rfl rfl rfl ?_
                          obtain ⟨q49, hq49, h⟩ := Option.bind_eq_some_iff.mp h
                          refine wc_AI_V (j := 91) (T := [none]) rfl rfl rfl rfl rfl rfl rfl rfl rfl rfl ?_
                          refine R_X10_keeps hq49 ⟨rfl, ?_⟩
                          refine w_aload_n (j := 92) rfl rfl rfl ?_
                          refine w_aload_n (j := 93) rfl rfl rfl ?_
                          refine w_getR (j := 94) rfl rfl rfl rfl rfl rfl ?_
                          refine w_aload_n (j := 95) rfl rfl rfl ?_
                          refine w_getI (j := 96) rfl rfl rfl rfl rfl ?_
                          rcases xite_inv h with ⟨g50, h⟩ | ⟨g50, h⟩
                          · cases h
                          · refine w_iaload (j := 97) rfl rfl g50 rfl ?_
                            refine w_iconst (z := (2 : Int32)) (j := 98) rfl rfl rfl ?_
                            obtain ⟨q51, hq51, h⟩ := Option.bind_eq_some_iff.mp h
                            refine wc_AII_I (j := 99) (T := []) rfl rfl rfl rfl rfl rfl rfl rfl rfl rfl ?_
                            refine R_X10_isSort hq51 ⟨_, rfl, ?_⟩
                            refine w_istore (j := 100) rfl (l1_5 rfl) rfl ?_
                            refine w_iload (j := 101) rfl rfl rfl ?_
                            refine w_iconst (z := (2 : Int32)) (j := 102) rfl rfl rfl ?_
                            rcases xite_inv h with ⟨c52, h⟩ | ⟨c52, h⟩
                            · refine w_icmpne_f (j := 103) rfl c52 rfl ?_
                              refine w_iload (j := 104) rfl rfl rfl ?_
                              rcases xite_inv h with ⟨c53, h⟩ | ⟨c53, h⟩
                              · refine w_ifne_f (j := 105) rfl c53 rfl ?_
                                refine w_aload_n (j := 106) rfl rfl rfl ?_
                                obtain ⟨q54, hq54, h⟩ := Option.bind_eq_some_iff.mp h
                                refine wc_A_I (j := 107) (T := []) rfl rfl rfl rfl rfl rfl rfl rfl rfl rfl ?_
                                refine R_X10_wrong hq54 ⟨_, rfl, ?_⟩
                                rcases xite_inv h with ⟨hb, h⟩ | ⟨hb, h⟩
                                · obtain rfl := Option.some.inj h
                                  exact wp_ret rfl rfl (xretb hb) hq
                                · cases h
                              · refine w_ifne_t (j := 108) rfl c53 rfl ?_
                                exact RJ_X10_command_108  rfl h hq
                            · refine w_icmpne_t (j := 108) rfl c52 rfl ?_
                              exact RJ_X10_command_108  rfl h hq
set_option maxHeartbeats 2000000 in
set_option maxRecDepth 20000 in
theorem RL_X10_commands_5 {d : Nat}  {Q : Option Value → xM → Prop}  : ∀ (n : Nat) (l1 : Int32) (l2 : Int32)  (s : St) (q : Int32 × St)   (h : L_X10_commands_5  n l1 l2 s = some q) (hq : ∀ (v0 v1 : Option Value), xlong v1 = false → wp (d + 6) mX10_commands 29 [v0, v1, some (.int q.1)] [] (SH, q.2.1, q.2.2) Q), wp (d + 6) mX10_commands 5 [some (.ref 94), some (.int l1), some (.int l2)] [] (SH, s.1, s.2) Q := by
  intro n
  induction n with
  | zero => intro l1 l2 s q h; cases h
  | succ n ih =>
    intro l1 l2 s q h hq
    unfold L_X10_commands_5 at h
    try dsimp only at h
    refine w_iload_n (j := 6) rfl rfl rfl ?_
    rcases xite_inv h with ⟨c2, h⟩ | ⟨c2, h⟩
    · refine w_ifeq_t (j := 29) rfl c2 rfl ?_
      obtain rfl := Option.some.inj h
      exact hq _ _ rfl
    · refine w_ifeq_f (j := 7) rfl c2 rfl ?_
      refine w_aload_n (j := 8) rfl rfl rfl ?_
      refine w_getR (j := 9) rfl rfl rfl rfl rfl rfl ?_
      refine w_aload_n (j := 10) rfl rfl rfl ?_
      refine w_getI (j := 11) rfl rfl rfl rfl rfl ?_
      rcases xite_inv h with ⟨g3, h⟩ | ⟨g3, h⟩
      · cases h
      · refine w_iaload (j := 12) rfl rfl g3 rfl ?_
        refine w_iconst (z := (3 : Int32)) (j := 13) rfl rfl rfl ?_
        rcases xite_inv h with ⟨c4, h⟩ | ⟨c4, h⟩
        · refine w_icmpne_f (j := 14) rfl c4 rfl ?_
          refine w_aload_n (j := 15) rfl rfl rfl ?_
          obtain ⟨q5, hq5, h⟩ := Option.bind_eq_some_iff.mp h
          refine wc_A_I (j := 16) (T := []) rfl rfl rfl rfl rfl rfl rfl rfl rfl rfl ?_
          refine R_X10_isVerbBehind hq5 ⟨_, rfl, ?_⟩
          rcases xite_inv h with ⟨c6, h⟩ | ⟨c6, h⟩
          · refine w_ifeq_t (j := 29) rfl c6 rfl ?_
            obtain rfl := Option.some.inj h
            exact hq _ _ rfl
          · refine w_ifeq_f (j := 17) rfl c6 rfl ?_
            refine w_aload_n (j := 18) rfl rfl rfl ?_
            refine w_dup (j := 19) rfl rfl rfl ?_
            refine w_getI (j := 20) rfl rfl rfl rfl rfl ?_
            refine w_iconst (z := (1 : Int32)) (j := 21) rfl rfl rfl ?_
            refine w_iadd (j := 22) rfl rfl ?_
            refine w_putI (j := 23) rfl rfl rfl rfl rfl ?_
            try dsimp only at h
            refine w_aload_n (j := 24) rfl rfl rfl ?_
            refine w_iload_n (j := 25) rfl rfl rfl ?_
            refine w_iconst (z := (0 : Int32)) (j := 26) rfl rfl rfl ?_
            obtain ⟨q8, hq8, h⟩ := Option.bind_eq_some_iff.mp h
            refine wc_AII_I (j := 27) (T := [none, none, none]) rfl rfl rfl rfl rfl rfl rfl rfl rfl rfl ?_
            refine R_X10_command hq8 ⟨_, rfl, ?_⟩
            refine w_istore_n (j := 28) rfl (l1_2 rfl) rfl ?_
            refine w_goto (j := 5) rfl rfl ?_
            exact ih _ _ _ _ h hq
        · refine w_icmpne_t (j := 29) rfl c4 rfl ?_
          obtain rfl := Option.some.inj h
          exact hq _ _ rfl
set_option maxHeartbeats 2000000 in
set_option maxRecDepth 20000 in
theorem R_X10_commands {d : Nat} {a0 : Int32} {s : St} {q : Int32 × St} {Q : Option Value → xM → Prop}  (h : F_X10_commands a0 s = some q) (hq : Q (some (.int q.1)) (SH, q.2.1, q.2.2)) : wp (d + 6) mX10_commands 0 [some (.ref 94), some (.int a0), none] [] (SH, s.1, s.2) Q := by
  unfold F_X10_commands at h
  try dsimp only at h
  refine w_aload_n (j := 1) rfl rfl rfl ?_
  refine w_iload_n (j := 2) rfl rfl rfl ?_
  refine w_iconst (z := (1 : Int32)) (j := 3) rfl rfl rfl ?_
  obtain ⟨q1, hq1, h⟩ := Option.bind_eq_some_iff.mp h
  refine wc_AII_I (j := 4) (T := [none, none, none]) rfl rfl rfl rfl rfl rfl rfl rfl rfl rfl ?_
  refine R_X10_command hq1 ⟨_, rfl, ?_⟩
  refine w_istore_n (j := 5) rfl (l1_2 rfl) rfl ?_
  obtain ⟨q9, hq9, h⟩ := Option.bind_eq_some_iff.mp h
  refine RL_X10_commands_5  _ _ _ _ _ hq9 (fun v10 v11 hv11 => ?_)
  refine w_iload_n (j := 30) rfl rfl rfl ?_
  rcases xite_inv h with ⟨hb, h⟩ | ⟨hb, h⟩
  · obtain rfl := Option.some.inj h
    exact wp_ret rfl rfl (xretb hb) hq
  · cases h
set_option maxHeartbeats 2000000 in
set_option maxRecDepth 20000 in
theorem RL_X10_again_25 {d : Nat}  {Q : Option Value → xM → Prop}  : ∀ (n : Nat) (l1 : Int32) (l2 : Int32) (l3 : Int32)  (s : St) (q : Int32 × St)   (h : L_X10_again_25  n l1 l2 l3 s = some q) (hq : ∀ (v3 : Option Value), wp (d + 2) mX10_again 47 [some (.ref 94), some (.int q.1), some (.int l2), v3] [] (SH, q.2.1, q.2.2) Q), wp (d + 2) mX10_again 25 [some (.ref 94), some (.int l1), some (.int l2), some (.int l3)] [] (SH, s.1, s.2) Q := by
  intro n
  induction n with
  | zero => intro l1 l2 l3 s q h; cases h
  | succ n ih =>
    intro l1 l2 l3 s q h hq
    unfold L_X10_again_25 at h
    try dsimp only at h
    refine w_iload_n (j := 26) rfl rfl rfl ?_
    refine w_aload_n (j := 27) rfl rfl rfl ?_
    refine w_getR (j := 28) rfl rfl rfl rfl rfl rfl ?_
    refine w_iload_n (j := 29) rfl rfl rfl ?_
    rcases xite_inv h with ⟨g6, h⟩ | ⟨g6, h⟩
    · cases h
    · refine w_iaload (j := 30) rfl rfl g6 rfl ?_
      rcases xite_inv h with ⟨c7, h⟩ | ⟨c7, h⟩
      · refine w_icmpge_t (j := 47) rfl c7 rfl ?_
        obtain rfl := Option.some.inj h
        exact hq _
      · refine w_icmpge_f (j := 31) rfl c7 rfl ?_
        refine w_iload_n (j := 32) rfl rfl rfl ?_
        refine w_aload_n (j := 33) rfl rfl rfl ?_
        refine w_getR (j := 34) rfl rfl rfl rfl rfl rfl ?_
        refine w_aload_n (j := 35) rfl rfl rfl ?_
        refine w_getR (j := 36) rfl rfl rfl rfl rfl rfl ?_
        refine w_bipush (z := (24 : Int32)) (j := 37) rfl rfl rfl ?_
        refine w_iload_n (j := 38) rfl rfl rfl ?_
        refine w_imul (j := 39) rfl rfl ?_
        refine w_iload_n (j := 40) rfl rfl rfl ?_
        refine w_iadd (j := 41) rfl rfl ?_
        rcases xite_inv h with ⟨g8, h⟩ | ⟨g8, h⟩
        · cases h
        · refine w_iaload (j := 42) rfl rfl g8 rfl ?_
          rcases xite_inv h with ⟨g9, h⟩ | ⟨g9, h⟩
          · cases h
          · refine w_baload (j := 43) rfl rfl rfl g9 rfl ?_
            refine w_iand (j := 44) rfl rfl ?_
            refine w_istore_n (j := 45) rfl (l1_1 rfl) rfl ?_
            refine w_iinc (cc := (1 : Int32)) (j := 46) rfl rfl rfl (l1_3 rfl) rfl ?_
            refine w_goto (j := 25) rfl rfl ?_
            exact ih _ _ _ _ _ h hq
set_option maxHeartbeats 2000000 in
set_option maxRecDepth 20000 in
theorem RL_X10_again_20 {d : Nat}  {Q : Option Value → xM → Prop}  : ∀ (n : Nat) (l1 : Int32) (l2 : Int32) (u3 : Option Value) (s : St) (q : Int32 × St)   (h : L_X10_again_20  n l1 l2 s = some q) (hq : ∀ (v2 v3 : Option Value), xlong v2 = false → wp (d + 2) mX10_again 49 [some (.ref 94), some (.int q.1), v2, v3] [] (SH, q.2.1, q.2.2) Q), wp (d + 2) mX10_again 20 [some (.ref 94), some (.int l1), some (.int l2), u3] [] (SH, s.1, s.2) Q := by
  intro n
  induction n with
  | zero => intro l1 l2 u3 s q h; cases h
  | succ n ih =>
    intro l1 l2 u3 s q h hq
    unfold L_X10_again_20 at h
    try dsimp only at h
    refine w_iload_n (j := 21) rfl rfl rfl ?_
    refine w_iconst (z := (2 : Int32)) (j := 22) rfl rfl rfl ?_
    rcases xite_inv h with ⟨c5, h⟩ | ⟨c5, h⟩
    · refine w_icmpge_t (j := 49) rfl c5 rfl ?_
      obtain rfl := Option.some.inj h
      exact hq _ _ rfl
    · refine w_icmpge_f (j := 23) rfl c5 rfl ?_
      refine w_iconst (z := (0 : Int32)) (j := 24) rfl rfl rfl ?_
      refine w_istore_n (j := 25) rfl (l1_3 rfl) rfl ?_
      obtain ⟨q10, hq10, h⟩ := Option.bind_eq_some_iff.mp h
      refine RL_X10_again_25  _ _ _ _ _ _ hq10 (fun v11 => ?_)
      refine w_iinc (cc := (1 : Int32)) (j := 48) rfl rfl rfl (l1_2 rfl) rfl ?_
      refine w_goto (j := 20) rfl rfl ?_
      exact ih _ _ _ _ _ h hq
set_option maxHeartbeats 2000000 in
set_option maxRecDepth 20000 in
theorem RL_X10_again_133 {d : Nat}  {Q : Option Value → xM → Prop}  : ∀ (n : Nat) (l2 : Int32) (l3 : Int32) (u1 : Option Value) (s : St) (q : St)  (hu1 : xlong u1 = false) (h : L_X10_again_133  n l2 l3 s = some q) (hq : ∀ (v1 v3 : Option Value), xlong v1 = false → wp (d + 2) mX10_again 162 [some (.ref 94), v1, some (.int l2), v3] [] (SH, q.1, q.2) Q), wp (d + 2) mX10_again 133 [some (.ref 94), u1, some (.int l2), some (.int l3)] [] (SH, s.1, s.2) Q := by
  intro n
  induction n with
  | zero => intro l2 l3 u1 s q hu1 h; cases h
  | succ n ih =>
    intro l2 l3 u1 s q hu1 h hq
    unfold L_X10_again_133 at h
    try dsimp only at h
    refine w_iload_n (j := 134) rfl rfl rfl ?_
    refine w_aload_n (j := 135) rfl rfl rfl ?_
    refine w_getR (j := 136) rfl rfl rfl rfl rfl rfl ?_
    refine w_iload_n (j := 137) rfl rfl rfl ?_
    rcases xite_inv h with ⟨g36, h⟩ | ⟨g36, h⟩
    · cases h
    · refine w_iaload (j := 138) rfl rfl g36 rfl ?_
      rcases xite_inv h with ⟨c37, h⟩ | ⟨c37, h⟩
      · refine w_icmpge_t (j := 162) rfl c37 rfl ?_
        obtain rfl := Option.some.inj h
        exact hq _ _ hu1
      · refine w_icmpge_f (j := 139) rfl c37 rfl ?_
        refine w_aload_n (j := 140) rfl rfl rfl ?_
        refine w_getR (j := 141) rfl rfl rfl rfl rfl rfl ?_
        refine w_bipush (z := (48 : Int32)) (j := 142) rfl rfl rfl ?_
        refine w_aload_n (j := 143) rfl rfl rfl ?_
        refine w_getI (j := 144) rfl rfl rfl rfl rfl ?_
        refine w_imul (j := 145) rfl rfl ?_
        refine w_bipush (z := (24 : Int32)) (j := 146) rfl rfl rfl ?_
        refine w_iload_n (j := 147) rfl rfl rfl ?_
        refine w_imul (j := 148) rfl rfl ?_
        refine w_iadd (j := 149) rfl rfl ?_
        refine w_iload_n (j := 150) rfl rfl rfl ?_
        refine w_iadd (j := 151) rfl rfl ?_
        refine w_aload_n (j := 152) rfl rfl rfl ?_
        refine w_getR (j := 153) rfl rfl rfl rfl rfl rfl ?_
        refine w_bipush (z := (24 : Int32)) (j := 154) rfl rfl rfl ?_
        refine w_iload_n (j := 155) rfl rfl rfl ?_
        refine w_imul (j := 156) rfl rfl ?_
        refine w_iload_n (j := 157) rfl rfl rfl ?_
        refine w_iadd (j := 158) rfl rfl ?_
        rcases xite_inv h with ⟨g38, h⟩ | ⟨g38, h⟩
        · cases h
        · refine w_iaload (j := 159) rfl rfl g38 rfl ?_
          rcases xite_inv h with ⟨g39, h⟩ | ⟨g39, h⟩
          · cases h
          · refine w_iastore (j := 160) rfl rfl g39 rfl ?_
            try dsimp only at h
            refine w_iinc (cc := (1 : Int32)) (j := 161) rfl rfl rfl (l1_3 rfl) rfl ?_
            refine w_goto (j := 133) rfl rfl ?_
            exact ih _ _ _ _ _ hu1 h hq
set_option maxHeartbeats 2000000 in
set_option maxRecDepth 20000 in
theorem RL_X10_again_115 {d : Nat}  {Q : Option Value → xM → Prop}  : ∀ (n : Nat) (l2 : Int32) (u1 u3 : Option Value) (s : St) (q : St)  (hu1 : xlong u1 = false) (h : L_X10_again_115  n l2 s = some q) (hq : ∀ (v1 v2 v3 : Option Value), xlong v1 = false → xlong v2 = false → wp (d + 2) mX10_again 164 [some (.ref 94), v1, v2, v3] [] (SH, q.1, q.2) Q), wp (d + 2) mX10_again 115 [some (.ref 94), u1, some (.int l2), u3] [] (SH, s.1, s.2) Q := by
  intro n
  induction n with
  | zero => intro l2 u1 u3 s q hu1 h; cases h
  | succ n ih =>
    intro l2 u1 u3 s q hu1 h hq
    unfold L_X10_again_115 at h
    try dsimp only at h
    refine w_iload_n (j := 116) rfl rfl rfl ?_
    refine w_iconst (z := (2 : Int32)) (j := 117) rfl rfl rfl ?_
    rcases xite_inv h with ⟨c32, h⟩ | ⟨c32, h⟩
    · refine w_icmpge_t (j := 164) rfl c32 rfl ?_
      obtain rfl := Option.some.inj h
      exact hq _ _ _ hu1 rfl
    · refine w_icmpge_f (j := 118) rfl c32 rfl ?_
      refine w_aload_n (j := 119) rfl rfl rfl ?_
      refine w_getR (j := 120) rfl rfl rfl rfl rfl rfl ?_
      refine w_iconst (z := (2 : Int32)) (j := 121) rfl rfl rfl ?_
      refine w_aload_n (j := 122) rfl rfl rfl ?_
      refine w_getI (j := 123) rfl rfl rfl rfl rfl ?_
      refine w_imul (j := 124) rfl rfl ?_
      refine w_iload_n (j := 125) rfl rfl rfl ?_
      refine w_iadd (j := 126) rfl rfl ?_
      refine w_aload_n (j := 127) rfl rfl rfl ?_
      refine w_getR (j := 128) rfl rfl rfl rfl rfl rfl ?_
      refine w_iload_n (j := 129) rfl rfl rfl ?_
      rcases xite_inv h with ⟨g33, h⟩ | ⟨g33, h⟩
      · cases h
      · refine w_iaload (j := 130) rfl rfl g33 rfl ?_
        rcases xite_inv h with ⟨g34, h⟩ | ⟨g34, h⟩
        · cases h
        · refine w_iastore (j := 131) rfl rfl g34 rfl ?_
          try dsimp only at h
          refine w_iconst (z := (0 : Int32)) (j := 132) rfl rfl rfl ?_
          refine w_istore_n (j := 133) rfl (l1_3 rfl) rfl ?_
          obtain ⟨q41, hq41, h⟩ := Option.bind_eq_some_iff.mp h
          refine RL_X10_again_133  _ _ _ _ _ _ hu1 hq41 (fun v42 v43 hv42 => ?_)
          refine w_iinc (cc := (1 : Int32)) (j := 163) rfl rfl rfl (l1_2 hv42) rfl ?_
          refine w_goto (j := 115) rfl rfl ?_
          exact ih _ _ _ _ _ hv42 h hq
set_option maxHeartbeats 2000000 in
set_option maxRecDepth 20000 in
theorem RJ_X10_again_92 {d : Nat}  {Q : Option Value → xM → Prop}   {u1 u2 u3 : Option Value}  {s : St} {q : Int32 × St}  (hu1 : xlong u1 = false) (hu2 : xlong u2 = false) (h : J_X10_again_92    s = some q) (hq : Q (some (.int q.1)) (SH, q.2.1, q.2.2)) : wp (d + 2) mX10_again 92 [some (.ref 94), u1, u2, u3] [] (SH, s.1, s.2) Q := by
  unfold J_X10_again_92 at h
  try dsimp only at h
  refine w_aload_n (j := 93) rfl rfl rfl ?_
  refine w_getR (j := 94) rfl rfl rfl rfl rfl rfl ?_
  refine w_aload_n (j := 95) rfl rfl rfl ?_
  refine w_getI (j := 96) rfl rfl rfl rfl rfl ?_
  refine w_aload_n (j := 97) rfl rfl rfl ?_
  refine w_getI (j := 98) rfl rfl rfl rfl rfl ?_
  rcases xite_inv h with ⟨g26, h⟩ | ⟨g26, h⟩
  · cases h
  · refine w_iastore (j := 99) rfl rfl g26 rfl ?_
    try dsimp only at h
    refine w_aload_n (j := 100) rfl rfl rfl ?_
    refine w_getR (j := 101) rfl rfl rfl rfl rfl rfl ?_
    refine w_aload_n (j := 102) rfl rfl rfl ?_
    refine w_getI (j := 103) rfl rfl rfl rfl rfl ?_
    refine w_aload_n (j := 104) rfl rfl rfl ?_
    refine w_getI (j := 105) rfl rfl rfl rfl rfl ?_
    rcases xite_inv h with ⟨g28, h⟩ | ⟨g28, h⟩
    · cases h
    · refine w_iastore (j := 106) rfl rfl g28 rfl ?_
      try dsimp only at h
      refine w_aload_n (j := 107) rfl rfl rfl ?_
      refine w_getR (j := 108) rfl rfl rfl rfl rfl rfl ?_
      refine w_aload_n (j := 109) rfl rfl rfl ?_
      refine w_getI (j := 110) rfl rfl rfl rfl rfl ?_
      refine w_aload_n (j := 111) rfl rfl rfl ?_
      refine w_getI (j := 112) rfl rfl rfl rfl rfl ?_
      rcases xite_inv h with ⟨g30, h⟩ | ⟨g30, h⟩
      · cases h
      · refine w_iastore (j := 113) rfl rfl g30 rfl ?_
        try dsimp only at h
        refine w_iconst (z := (0 : Int32)) (j := 114) rfl rfl rfl ?_
        refine w_istore_n (j := 115) rfl (l1_2 hu1) rfl ?_
        obtain ⟨q44, hq44, h⟩ := Option.bind_eq_some_iff.mp h
        refine RL_X10_again_115  _ _ _ _ _ _ hu1 hq44 (fun v45 v46 v47 hv45 hv46 => ?_)
        refine w_aload_n (j := 165) rfl rfl rfl ?_
        refine w_dup (j := 166) rfl rfl rfl ?_
        refine w_getI (j := 167) rfl rfl rfl rfl rfl ?_
        refine w_iconst (z := (1 : Int32)) (j := 168) rfl rfl rfl ?_
        refine w_iadd (j := 169) rfl rfl ?_
        refine w_putI (j := 170) rfl rfl rfl rfl rfl ?_
        try dsimp only at h
        refine w_aload_n (j := 171) rfl rfl rfl ?_
        refine w_dup (j := 172) rfl rfl rfl ?_
        refine w_getI (j := 173) rfl rfl rfl rfl rfl ?_
        refine w_iconst (z := (1 : Int32)) (j := 174) rfl rfl rfl ?_
        refine w_iadd (j := 175) rfl rfl ?_
        refine w_putI (j := 176) rfl rfl rfl rfl rfl ?_
        try dsimp only at h
        refine w_iconst (z := (1 : Int32)) (j := 177) rfl rfl rfl ?_
        obtain rfl := Option.some.inj h
        exact wp_ret rfl rfl rfl hq
set_option maxHeartbeats 2000000 in
set_option maxRecDepth 20000 in
theorem R_X10_again {d : Nat}  {s : St} {q : Int32 × St} {Q : Option Value → xM → Prop}  (h : F_X10_again  s = some q) (hq : Q (some (.int q.1)) (SH, q.2.1, q.2.2)) : wp (d + 2) mX10_again 0 [some (.ref 94), none, none, none] [] (SH, s.1, s.2) Q := by
  unfold F_X10_again at h
  try dsimp only at h
  refine w_aload_n (j := 1) rfl rfl rfl ?_
  refine w_getI (j := 2) rfl rfl rfl rfl rfl ?_
  rcases xite_inv h with ⟨c1, h⟩ | ⟨c1, h⟩
  · refine w_ifne_f (j := 3) rfl c1 rfl ?_
    refine w_aload_n (j := 4) rfl rfl rfl ?_
    refine w_bipush (z := (6 : Int32)) (j := 5) rfl rfl rfl ?_
    refine w_aload_n (j := 6) rfl rfl rfl ?_
    refine w_getR (j := 7) rfl rfl rfl rfl rfl rfl ?_
    refine w_aload_n (j := 8) rfl rfl rfl ?_
    refine w_getI (j := 9) rfl rfl rfl rfl rfl ?_
    rcases xite_inv h with ⟨g2, h⟩ | ⟨g2, h⟩
    · cases h
    · refine w_iaload (j := 10) rfl rfl g2 rfl ?_
      obtain ⟨q3, hq3, h⟩ := Option.bind_eq_some_iff.mp h
      refine wc_AII_I (j := 11) (T := []) rfl rfl rfl rfl rfl rfl rfl rfl rfl rfl ?_
      refine R_X10_fails hq3 ⟨_, rfl, ?_⟩
      rcases xite_inv h with ⟨hb, h⟩ | ⟨hb, h⟩
      · obtain rfl := Option.some.inj h
        exact wp_ret rfl rfl (xretb hb) hq
      · cases h
  · refine w_ifne_t (j := 12) rfl c1 rfl ?_
    refine w_aload_n (j := 13) rfl rfl rfl ?_
    refine w_getR (j := 14) rfl rfl rfl rfl rfl rfl ?_
    refine w_aload_n (j := 15) rfl rfl rfl ?_
    refine w_getI (j := 16) rfl rfl rfl rfl rfl ?_
    rcases xite_inv h with ⟨g4, h⟩ | ⟨g4, h⟩
    · cases h
    · refine w_baload (j := 17) rfl rfl rfl g4 rfl ?_
      refine w_istore_n (j := 18) rfl (l1_1 rfl) rfl ?_
      refine w_iconst (z := (0 : Int32)) (j := 19) rfl rfl rfl ?_
      refine w_istore_n (j := 20) rfl (l1_2 rfl) rfl ?_
      obtain ⟨q12, hq12, h⟩ := Option.bind_eq_some_iff.mp h
      refine RL_X10_again_20  _ _ _ _ _ _ hq12 (fun v13 v14 hv13 => ?_)
      refine w_iload_n (j := 50) rfl rfl rfl ?_
      rcases xite_inv h with ⟨c15, h⟩ | ⟨c15, h⟩
      · refine w_ifne_f (j := 51) rfl c15 rfl ?_
        refine w_aload_n (j := 52) rfl rfl rfl ?_
        refine w_bipush (z := (7 : Int32)) (j := 53) rfl rfl rfl ?_
        refine w_aload_n (j := 54) rfl rfl rfl ?_
        refine w_getR (j := 55) rfl rfl rfl rfl rfl rfl ?_
        refine w_aload_n (j := 56) rfl rfl rfl ?_
        refine w_getI (j := 57) rfl rfl rfl rfl rfl ?_
        rcases xite_inv h with ⟨g16, h⟩ | ⟨g16, h⟩
        · cases h
        · refine w_iaload (j := 58) rfl rfl g16 rfl ?_
          obtain ⟨q17, hq17, h⟩ := Option.bind_eq_some_iff.mp h
          refine wc_AII_I (j := 59) (T := []) rfl rfl rfl rfl rfl rfl rfl rfl rfl rfl ?_
          refine R_X10_fails hq17 ⟨_, rfl, ?_⟩
          rcases xite_inv h with ⟨hb, h⟩ | ⟨hb, h⟩
          · obtain rfl := Option.some.inj h
            exact wp_ret rfl rfl (xretb hb) hq
          · cases h
      · refine w_ifne_t (j := 60) rfl c15 rfl ?_
        refine w_aload_n (j := 61) rfl rfl rfl ?_
        refine w_getI (j := 62) rfl rfl rfl rfl rfl ?_
        refine w_bipush (z := (10 : Int32)) (j := 63) rfl rfl rfl ?_
        rcases xite_inv h with ⟨c18, h⟩ | ⟨c18, h⟩
        · refine w_icmpne_f (j := 64) rfl c18 rfl ?_
          refine w_aload_n (j := 65) rfl rfl rfl ?_
          refine w_bipush (z := (9 : Int32)) (j := 66) rfl rfl rfl ?_
          refine w_aload_n (j := 67) rfl rfl rfl ?_
          refine w_getR (j := 68) rfl rfl rfl rfl rfl rfl ?_
          refine w_aload_n (j := 69) rfl rfl rfl ?_
          refine w_getI (j := 70) rfl rfl rfl rfl rfl ?_
          rcases xite_inv h with ⟨g19, h⟩ | ⟨g19, h⟩
          · cases h
          · refine w_iaload (j := 71) rfl rfl g19 rfl ?_
            obtain ⟨q20, hq20, h⟩ := Option.bind_eq_some_iff.mp h
            refine wc_AII_I (j := 72) (T := []) rfl rfl rfl rfl rfl rfl rfl rfl rfl rfl ?_
            refine R_X10_fails hq20 ⟨_, rfl, ?_⟩
            rcases xite_inv h with ⟨hb, h⟩ | ⟨hb, h⟩
            · obtain rfl := Option.some.inj h
              exact wp_ret rfl rfl (xretb hb) hq
            · cases h
        · refine w_icmpne_t (j := 73) rfl c18 rfl ?_
          refine w_aload_n (j := 74) rfl rfl rfl ?_
          refine w_dup (j := 75) rfl rfl rfl ?_
          refine w_getI (j := 76) rfl rfl rfl rfl rfl ?_
          refine w_iconst (z := (1 : Int32)) (j := 77) rfl rfl rfl ?_
          refine w_iadd (j := 78) rfl rfl ?_
          refine w_putI (j := 79) rfl rfl rfl rfl rfl ?_
          try dsimp only at h
          refine w_aload_n (j := 80) rfl rfl rfl ?_
          obtain ⟨q22, hq22, h⟩ := Option.bind_eq_some_iff.mp h
          refine wc_A_I (j := 81) (T := []) rfl rfl rfl rfl rfl rfl rfl rfl rfl rfl ?_
          refine R_X10_isBetween hq22 ⟨_, rfl, ?_⟩
          rcases xite_inv h with ⟨c23, h⟩ | ⟨c23, h⟩
          · refine w_ifne_f (j := 82) rfl c23 rfl ?_
            refine w_aload_n (j := 83) rfl rfl rfl ?_
            refine w_getR (j := 84) rfl rfl rfl rfl rfl rfl ?_
            refine w_aload_n (j := 85) rfl rfl rfl ?_
            refine w_getI (j := 86) rfl rfl rfl rfl rfl ?_
            rcases xite_inv h with ⟨g24, h⟩ | ⟨g24, h⟩
            · cases h
            · refine w_iaload (j := 87) rfl rfl g24 rfl ?_
              refine w_bipush (z := (33 : Int32)) (j := 88) rfl rfl rfl ?_
              rcases xite_inv h with ⟨c25, h⟩ | ⟨c25, h⟩
              · refine w_icmpeq_t (j := 92) rfl c25 rfl ?_
                exact RJ_X10_again_92  rfl hv13 h hq
              · refine w_icmpeq_f (j := 89) rfl c25 rfl ?_
                refine w_aload_n (j := 90) rfl rfl rfl ?_
                obtain ⟨q50, hq50, h⟩ := Option.bind_eq_some_iff.mp h
                refine wc_A_I (j := 91) (T := []) rfl rfl rfl rfl rfl rfl rfl rfl rfl rfl ?_
                refine R_X10_wrong hq50 ⟨_, rfl, ?_⟩
                rcases xite_inv h with ⟨hb, h⟩ | ⟨hb, h⟩
                · obtain rfl := Option.some.inj h
                  exact wp_ret rfl rfl (xretb hb) hq
                · cases h
          · refine w_ifne_t (j := 92) rfl c23 rfl ?_
            exact RJ_X10_again_92  rfl hv13 h hq
set_option maxHeartbeats 2000000 in
set_option maxRecDepth 20000 in
theorem RJ_X10_someone_40 {d : Nat}  {Q : Option Value → xM → Prop}  {l1 : Int32} {l3 : Int32} {u2 : Option Value}  {s : St} {q : Int32 × St}  (hu2 : xlong u2 = false) (h : J_X10_someone_40  l1 l3  s = some q) (hq : Q (some (.int q.1)) (SH, q.2.1, q.2.2)) : wp (d + 7) mX10_someone 40 [some (.ref 94), some (.int l1), u2, some (.int l3)] [] (SH, s.1, s.2) Q := by
  unfold J_X10_someone_40 at h
  try dsimp only at h
  refine w_aload_n (j := 41) rfl rfl rfl ?_
  refine w_getR (j := 42) rfl rfl rfl rfl rfl rfl ?_
  refine w_aload_n (j := 43) rfl rfl rfl ?_
  refine w_getI (j := 44) rfl rfl rfl rfl rfl ?_
  rcases xite_inv h with ⟨g11, h⟩ | ⟨g11, h⟩
  · cases h
  · refine w_iaload (j := 45) rfl rfl g11 rfl ?_
    refine w_iload_n (j := 46) rfl rfl rfl ?_
    rcases xite_inv h with ⟨c12, h⟩ | ⟨c12, h⟩
    · refine w_icmpeq_t (j := 50) rfl c12 rfl ?_
      refine w_aload_n (j := 51) rfl rfl rfl ?_
      refine w_dup (j := 52) rfl rfl rfl ?_
      refine w_getI (j := 53) rfl rfl rfl rfl rfl ?_
      refine w_iconst (z := (1 : Int32)) (j := 54) rfl rfl rfl ?_
      refine w_iadd (j := 55) rfl rfl ?_
      refine w_putI (j := 56) rfl rfl rfl rfl rfl ?_
      try dsimp only at h
      refine w_aload_n (j := 57) rfl rfl rfl ?_
      refine w_iload_n (j := 58) rfl rfl rfl ?_
      obtain ⟨q14, hq14, h⟩ := Option.bind_eq_some_iff.mp h
      refine wc_AI_I (j := 59) (T := [none]) rfl rfl rfl rfl rfl rfl rfl rfl rfl rfl ?_
      refine R_X10_commands hq14 ⟨_, rfl, ?_⟩
      rcases xite_inv h with ⟨hb, h⟩ | ⟨hb, h⟩
      · obtain rfl := Option.some.inj h
        exact wp_ret rfl rfl (xretb hb) hq
      · cases h
    · refine w_icmpeq_f (j := 47) rfl c12 rfl ?_
      refine w_aload_n (j := 48) rfl rfl rfl ?_
      obtain ⟨q15, hq15, h⟩ := Option.bind_eq_some_iff.mp h
      refine wc_A_I (j := 49) (T := []) rfl rfl rfl rfl rfl rfl rfl rfl rfl rfl ?_
      refine R_X10_wrong hq15 ⟨_, rfl, ?_⟩
      rcases xite_inv h with ⟨hb, h⟩ | ⟨hb, h⟩
      · obtain rfl := Option.some.inj h
        exact wp_ret rfl rfl (xretb hb) hq
      · cases h
set_option maxHeartbeats 2000000 in
set_option maxRecDepth 20000 in
theorem R_X10_someone {d : Nat} {a0 : Int32} {s : St} {q : Int32 × St} {Q : Option Value → xM → Prop}  (h : F_X10_someone a0 s = some q) (hq : Q (some (.int q.1)) (SH, q.2.1, q.2.2)) : wp (d + 7) mX10_someone 0 [some (.ref 94), some (.int a0), none, none] [] (SH, s.1, s.2) Q := by
  unfold F_X10_someone at h
  try dsimp only at h
  refine w_aload_n (j := 1) rfl rfl rfl ?_
  refine w_getI (j := 2) rfl rfl rfl rfl rfl ?_
  refine w_istore_n (j := 3) rfl (l1_2 rfl) rfl ?_
  refine w_aload_n (j := 4) rfl rfl rfl ?_
  refine w_iconst (z := (0 : Int32)) (j := 5) rfl rfl rfl ?_
  obtain ⟨q1, hq1, h⟩ := Option.bind_eq_some_iff.mp h
  refine wc_AI_I (j := 6) (T := [none, none, none, none, none, none, none, none, none, none, none]) rfl rfl rfl rfl rfl rfl rfl rfl rfl rfl ?_
  refine R_X10_item hq1 ⟨_, rfl, ?_⟩
  rcases xite_inv h with ⟨c2, h⟩ | ⟨c2, h⟩
  · refine w_ifne_f (j := 7) rfl c2 rfl ?_
    refine w_iconst (z := (0 : Int32)) (j := 8) rfl rfl rfl ?_
    obtain rfl := Option.some.inj h
    exact wp_ret rfl rfl rfl hq
  · refine w_ifne_t (j := 9) rfl c2 rfl ?_
    refine w_aload_n (j := 10) rfl rfl rfl ?_
    refine w_getR (j := 11) rfl rfl rfl rfl rfl rfl ?_
    refine w_iconst (z := (0 : Int32)) (j := 12) rfl rfl rfl ?_
    refine w_iaload (j := 13) rfl rfl (by decide) rfl ?_
    refine w_istore_n (j := 14) rfl (l1_3 rfl) rfl ?_
    refine w_aload_n (j := 15) rfl rfl rfl ?_
    refine w_getI (j := 16) rfl rfl rfl rfl rfl ?_
    refine w_iconst (z := (1 : Int32)) (j := 17) rfl rfl rfl ?_
    rcases xite_inv h with ⟨c3, h⟩ | ⟨c3, h⟩
    · refine w_icmpgt_t (j := 32) rfl c3 rfl ?_
      refine w_aload_n (j := 33) rfl rfl rfl ?_
      refine w_bipush (z := (8 : Int32)) (j := 34) rfl rfl rfl ?_
      refine w_aload_n (j := 35) rfl rfl rfl ?_
      refine w_getR (j := 36) rfl rfl rfl rfl rfl rfl ?_
      refine w_iload_n (j := 37) rfl rfl rfl ?_
      rcases xite_inv h with ⟨g4, h⟩ | ⟨g4, h⟩
      · cases h
      · refine w_iaload (j := 38) rfl rfl g4 rfl ?_
        obtain ⟨q5, hq5, h⟩ := Option.bind_eq_some_iff.mp h
        refine wc_AII_I (j := 39) (T := []) rfl rfl rfl rfl rfl rfl rfl rfl rfl rfl ?_
        refine R_X10_fails hq5 ⟨_, rfl, ?_⟩
        rcases xite_inv h with ⟨hb, h⟩ | ⟨hb, h⟩
        · obtain rfl := Option.some.inj h
          exact wp_ret rfl rfl (xretb hb) hq
        · cases h
    · refine w_icmpgt_f (j := 18) rfl c3 rfl ?_
      refine w_iload_n (j := 19) rfl rfl rfl ?_
      rcases xite_inv h with ⟨c6, h⟩ | ⟨c6, h⟩
      · refine w_ifeq_t (j := 32) rfl c6 rfl ?_
        refine w_aload_n (j := 33) rfl rfl rfl ?_
        refine w_bipush (z := (8 : Int32)) (j := 34) rfl rfl rfl ?_
        refine w_aload_n (j := 35) rfl rfl rfl ?_
        refine w_getR (j := 36) rfl rfl rfl rfl rfl rfl ?_
        refine w_iload_n (j := 37) rfl rfl rfl ?_
        rcases xite_inv h with ⟨g7, h⟩ | ⟨g7, h⟩
        · cases h
        · refine w_iaload (j := 38) rfl rfl g7 rfl ?_
          obtain ⟨q8, hq8, h⟩ := Option.bind_eq_some_iff.mp h
          refine wc_AII_I (j := 39) (T := []) rfl rfl rfl rfl rfl rfl rfl rfl rfl rfl ?_
          refine R_X10_fails hq8 ⟨_, rfl, ?_⟩
          rcases xite_inv h with ⟨hb, h⟩ | ⟨hb, h⟩
          · obtain rfl := Option.some.inj h
            exact wp_ret rfl rfl (xretb hb) hq
          · cases h
      · refine w_ifeq_f (j := 20) rfl c6 rfl ?_
        refine w_aload_n (j := 21) rfl rfl rfl ?_
        refine w_getR (j := 22) rfl rfl rfl rfl rfl rfl ?_
        refine w_iload_n (j := 23) rfl rfl rfl ?_
        rcases xite_inv h with ⟨g9, h⟩ | ⟨g9, h⟩
        · cases h
        · refine w_iaload (j := 24) rfl rfl g9 rfl ?_
          refine w_iconst (z := (1 : Int32)) (j := 25) rfl rfl rfl ?_
          rcases xite_inv h with ⟨c10, h⟩ | ⟨c10, h⟩
          · refine w_icmpeq_t (j := 40) rfl c10 rfl ?_
            exact RJ_X10_someone_40  rfl h hq
          · refine w_icmpeq_f (j := 26) rfl c10 rfl ?_
            refine w_aload_n (j := 27) rfl rfl rfl ?_
            refine w_getR (j := 28) rfl rfl rfl rfl rfl rfl ?_
            refine w_iload_n (j := 29) rfl rfl rfl ?_
            refine w_iaload (j := 30) rfl rfl g9 rfl ?_
            refine w_iconst (z := (2 : Int32)) (j := 31) rfl rfl rfl ?_
            rcases xite_inv h with ⟨c16, h⟩ | ⟨c16, h⟩
            · refine w_icmpeq_t (j := 40) rfl c16 rfl ?_
              exact RJ_X10_someone_40  rfl h hq
            · refine w_icmpeq_f (j := 32) rfl c16 rfl ?_
              refine w_aload_n (j := 33) rfl rfl rfl ?_
              refine w_bipush (z := (8 : Int32)) (j := 34) rfl rfl rfl ?_
              refine w_aload_n (j := 35) rfl rfl rfl ?_
              refine w_getR (j := 36) rfl rfl rfl rfl rfl rfl ?_
              refine w_iload_n (j := 37) rfl rfl rfl ?_
              rcases xite_inv h with ⟨g17, h⟩ | ⟨g17, h⟩
              · cases h
              · refine w_iaload (j := 38) rfl rfl g17 rfl ?_
                obtain ⟨q18, hq18, h⟩ := Option.bind_eq_some_iff.mp h
                refine wc_AII_I (j := 39) (T := []) rfl rfl rfl rfl rfl rfl rfl rfl rfl rfl ?_
                refine R_X10_fails hq18 ⟨_, rfl, ?_⟩
                rcases xite_inv h with ⟨hb, h⟩ | ⟨hb, h⟩
                · obtain rfl := Option.some.inj h
                  exact wp_ret rfl rfl (xretb hb) hq
                · cases h
set_option maxHeartbeats 2000000 in
set_option maxRecDepth 20000 in
theorem R_X10_order {d : Nat}  {s : St} {q : Int32 × St} {Q : Option Value → xM → Prop}  (h : F_X10_order  s = some q) (hq : Q (some (.int q.1)) (SH, q.2.1, q.2.2)) : wp (d + 8) mX10_order 0 [some (.ref 94)] [] (SH, s.1, s.2) Q := by
  unfold F_X10_order at h
  try dsimp only at h
  refine w_aload_n (j := 1) rfl rfl rfl ?_
  refine w_getR (j := 2) rfl rfl rfl rfl rfl rfl ?_
  refine w_aload_n (j := 3) rfl rfl rfl ?_
  refine w_getI (j := 4) rfl rfl rfl rfl rfl ?_
  rcases xite_inv h with ⟨g1, h⟩ | ⟨g1, h⟩
  · cases h
  · refine w_iaload (j := 5) rfl rfl g1 rfl ?_
    refine w_bipush (z := (7 : Int32)) (j := 6) rfl rfl rfl ?_
    rcases xite_inv h with ⟨c2, h⟩ | ⟨c2, h⟩
    · refine w_icmpne_f (j := 7) rfl c2 rfl ?_
      refine w_aload_n (j := 8) rfl rfl rfl ?_
      obtain ⟨q3, hq3, h⟩ := Option.bind_eq_some_iff.mp h
      refine wc_A_I (j := 9) (T := [none, none, none]) rfl rfl rfl rfl rfl rfl rfl rfl rfl rfl ?_
      refine R_X10_again hq3 ⟨_, rfl, ?_⟩
      rcases xite_inv h with ⟨hb, h⟩ | ⟨hb, h⟩
      · obtain rfl := Option.some.inj h
        exact wp_ret rfl rfl (xretb hb) hq
      · cases h
    · refine w_icmpne_t (j := 10) rfl c2 rfl ?_
      refine w_aload_n (j := 11) rfl rfl rfl ?_
      refine w_getR (j := 12) rfl rfl rfl rfl rfl rfl ?_
      refine w_aload_n (j := 13) rfl rfl rfl ?_
      refine w_getI (j := 14) rfl rfl rfl rfl rfl ?_
      refine w_iaload (j := 15) rfl rfl g1 rfl ?_
      refine w_iconst (z := (5 : Int32)) (j := 16) rfl rfl rfl ?_
      rcases xite_inv h with ⟨c4, h⟩ | ⟨c4, h⟩
      · refine w_icmpne_f (j := 17) rfl c4 rfl ?_
        refine w_aload_n (j := 18) rfl rfl rfl ?_
        refine w_dup (j := 19) rfl rfl rfl ?_
        refine w_getI (j := 20) rfl rfl rfl rfl rfl ?_
        refine w_iconst (z := (1 : Int32)) (j := 21) rfl rfl rfl ?_
        refine w_iadd (j := 22) rfl rfl ?_
        refine w_putI (j := 23) rfl rfl rfl rfl rfl ?_
        try dsimp only at h
        refine w_aload_n (j := 24) rfl rfl rfl ?_
        refine w_bipush (z := (6 : Int32)) (j := 25) rfl rfl rfl ?_
        obtain ⟨q6, hq6, h⟩ := Option.bind_eq_some_iff.mp h
        refine wc_AI_I (j := 26) (T := [none, none]) rfl rfl rfl rfl rfl rfl rfl rfl rfl rfl ?_
        refine R_X10_someone hq6 ⟨_, rfl, ?_⟩
        rcases xite_inv h with ⟨hb, h⟩ | ⟨hb, h⟩
        · obtain rfl := Option.some.inj h
          exact wp_ret rfl rfl (xretb hb) hq
        · cases h
      · refine w_icmpne_t (j := 27) rfl c4 rfl ?_
        refine w_aload_n (j := 28) rfl rfl rfl ?_
        refine w_aload_n (j := 29) rfl rfl rfl ?_
        refine w_getR (j := 30) rfl rfl rfl rfl rfl rfl ?_
        refine w_aload_n (j := 31) rfl rfl rfl ?_
        refine w_getI (j := 32) rfl rfl rfl rfl rfl ?_
        refine w_iaload (j := 33) rfl rfl g1 rfl ?_
        refine w_iconst (z := (1 : Int32)) (j := 34) rfl rfl rfl ?_
        obtain ⟨q7, hq7, h⟩ := Option.bind_eq_some_iff.mp h
        refine wc_AII_I (j := 35) (T := []) rfl rfl rfl rfl rfl rfl rfl rfl rfl rfl ?_
        refine R_X10_isSort hq7 ⟨_, rfl, ?_⟩
        rcases xite_inv h with ⟨c8, h⟩ | ⟨c8, h⟩
        · refine w_ifeq_t (j := 40) rfl c8 rfl ?_
          refine w_aload_n (j := 41) rfl rfl rfl ?_
          refine w_bipush (z := (30 : Int32)) (j := 42) rfl rfl rfl ?_
          obtain ⟨q9, hq9, h⟩ := Option.bind_eq_some_iff.mp h
          refine wc_AI_I (j := 43) (T := [none, none]) rfl rfl rfl rfl rfl rfl rfl rfl rfl rfl ?_
          refine R_X10_someone hq9 ⟨_, rfl, ?_⟩
          rcases xite_inv h with ⟨hb, h⟩ | ⟨hb, h⟩
          · obtain rfl := Option.some.inj h
            exact wp_ret rfl rfl (xretb hb) hq
          · cases h
        · refine w_ifeq_f (j := 36) rfl c8 rfl ?_
          refine w_aload_n (j := 37) rfl rfl rfl ?_
          refine w_iconst (z := (0 : Int32)) (j := 38) rfl rfl rfl ?_
          obtain ⟨q10, hq10, h⟩ := Option.bind_eq_some_iff.mp h
          refine wc_AI_I (j := 39) (T := [none]) rfl rfl rfl rfl rfl rfl rfl rfl rfl rfl ?_
          refine R_X10_commands hq10 ⟨_, rfl, ?_⟩
          refine w_goto (j := 43) rfl rfl ?_
          rcases xite_inv h with ⟨hb, h⟩ | ⟨hb, h⟩
          · obtain rfl := Option.some.inj h
            exact wp_ret rfl rfl (xretb hb) hq
          · cases h
