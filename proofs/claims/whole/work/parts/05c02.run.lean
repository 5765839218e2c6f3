set_option maxHeartbeats 2000000 in
set_option maxRecDepth 20000 in
theorem RL_X2_readPronoun_33 {d : Nat} {a1 : Nat} {Q : Option Value → xM → Prop} (h1 : TL a1) : ∀ (n : Nat) (l3 : Nat) (l4 : Int32) (u0 u1 : Option Value) (s : St) (q : St) (hl3 : TL l3)  (h : L_X2_readPronoun_33 a1 n l3 l4 s = some q) (hq : ∀ (v0 v1 v2 v3 v4 : Option Value), xlong v2 = false → xlong v3 = false → wp (d + 1) mX2_readPronoun 44 [v0, v1, v2, v3, v4] [] (SH, q.1, q.2) Q), wp (d + 1) mX2_readPronoun 33 [u0, u1, some (.ref a1), some (.ref l3), some (.int l4)] [] (SH, s.1, s.2) Q := by
  intro n
  induction n with
  | zero => intro l3 l4 u0 u1 s q hl3 h; cases h
  | succ n ih =>
    intro l3 l4 u0 u1 s q hl3 h hq
    unfold L_X2_readPronoun_33 at h
    try dsimp only at h
    refine w_iload (j := 34) rfl rfl rfl ?_
    refine w_aload_n (j := 35) rfl rfl rfl ?_
    refine wc_A_I (j := 36) (T := []) rfl rfl rfl rfl rfl rfl rfl rfl (xrecv_s rfl rfl hl3.1 rfl) rfl ?_
    refine w_aload_n (j := 1) rfl rfl rfl ?_
    refine w_getI (j := 2) rfl hl3.1 rfl rfl rfl ?_
    refine wp_ret rfl rfl rfl ⟨_, rfl, ?_⟩
    rcases xite_inv h with ⟨c11, h⟩ | ⟨c11, h⟩
    · refine w_icmpge_t (j := 44) rfl c11 rfl ?_
      obtain rfl := Option.some.inj h
      exact hq _ _ _ _ _ rfl rfl
    · refine w_icmpge_f (j := 37) rfl c11 rfl ?_
      refine w_aload_n (j := 38) rfl rfl rfl ?_
      refine w_aload_n (j := 39) rfl rfl rfl ?_
      refine w_iload (j := 40) rfl rfl rfl ?_
      obtain ⟨q12, hq12, h⟩ := Option.bind_eq_some_iff.mp h
      refine wc_AI_I (j := 41) (T := []) rfl rfl rfl rfl rfl rfl rfl rfl (xrecv_s rfl rfl hl3.1 rfl) rfl ?_
      refine R_X5_at hl3 hq12 ⟨_, rfl, ?_⟩
      obtain ⟨q13, hq13, h⟩ := Option.bind_eq_some_iff.mp h
      refine wc_AI_V (j := 42) (T := [none]) rfl rfl rfl rfl rfl rfl rfl rfl (xrecv_s rfl rfl h1.1 rfl) rfl ?_
      refine R_X5_add h1 hq13 ⟨rfl, ?_⟩
      refine w_iinc (cc := (1 : Int32)) (j := 43) rfl rfl rfl (l1_4 rfl) rfl ?_
      refine w_goto (j := 33) rfl rfl ?_
      exact ih _ _ _ _ _ _ hl3 h hq
set_option maxHeartbeats 2000000 in
set_option maxRecDepth 20000 in
theorem R_X2_readPronoun {d : Nat} {a0 : Int32} {a1 : Nat} {s : St} {q : St} {Q : Option Value → xM → Prop} (h1 : TL a1) (h : F_X2_readPronoun a0 a1 s = some q) (hq : Q none (SH, q.1, q.2)) : wp (d + 1) mX2_readPronoun 0 [some (.ref 80), some (.int a0), some (.ref a1), none, none] [] (SH, s.1, s.2) Q := by
  unfold F_X2_readPronoun at h
  try dsimp only at h
  refine w_aload_n (j := 1) rfl rfl rfl ?_
  refine w_dup (j := 2) rfl rfl rfl ?_
  refine w_getI (j := 3) rfl rfl rfl rfl rfl ?_
  refine w_iconst (z := (1 : Int32)) (j := 4) rfl rfl rfl ?_
  refine w_iadd (j := 5) rfl rfl ?_
  refine w_putI (j := 6) rfl rfl rfl rfl rfl ?_
  try dsimp only at h
  refine w_iload_n (j := 7) rfl rfl rfl ?_
  refine w_bipush (z := (12 : Int32)) (j := 8) rfl rfl rfl ?_
  rcases xite_inv h with ⟨c2, h⟩ | ⟨c2, h⟩
  · refine w_icmpeq_t (j := 12) rfl c2 rfl ?_
    refine w_aload_n (j := 13) rfl rfl rfl ?_
    refine w_iconst (z := (0 : Int32)) (j := 14) rfl rfl rfl ?_
    obtain ⟨q3, hq3, h⟩ := Option.bind_eq_some_iff.mp h
    refine wc_AI_V (j := 15) (T := [none]) rfl rfl rfl rfl rfl rfl rfl rfl (xrecv_s rfl rfl h1.1 rfl) rfl ?_
    refine R_X5_add h1 hq3 ⟨rfl, ?_⟩
    refine w_goto (j := 44) rfl rfl ?_
    obtain rfl := Option.some.inj h
    exact wp_vret rfl rfl rfl hq
  · refine w_icmpeq_f (j := 9) rfl c2 rfl ?_
    refine w_iload_n (j := 10) rfl rfl rfl ?_
    refine w_bipush (z := (13 : Int32)) (j := 11) rfl rfl rfl ?_
    rcases xite_inv h with ⟨c4, h⟩ | ⟨c4, h⟩
    · refine w_icmpne_f (j := 12) rfl c4 rfl ?_
      refine w_aload_n (j := 13) rfl rfl rfl ?_
      refine w_iconst (z := (0 : Int32)) (j := 14) rfl rfl rfl ?_
      obtain ⟨q5, hq5, h⟩ := Option.bind_eq_some_iff.mp h
      refine wc_AI_V (j := 15) (T := [none]) rfl rfl rfl rfl rfl rfl rfl rfl (xrecv_s rfl rfl h1.1 rfl) rfl ?_
      refine R_X5_add h1 hq5 ⟨rfl, ?_⟩
      refine w_goto (j := 44) rfl rfl ?_
      obtain rfl := Option.some.inj h
      exact wp_vret rfl rfl rfl hq
    · refine w_icmpne_t (j := 16) rfl c4 rfl ?_
      refine w_iload_n (j := 17) rfl rfl rfl ?_
      refine w_bipush (z := (14 : Int32)) (j := 18) rfl rfl rfl ?_
      rcases xite_inv h with ⟨c6, h⟩ | ⟨c6, h⟩
      · refine w_icmpne_f (j := 19) rfl c6 rfl ?_
        refine w_aload_n (j := 20) rfl rfl rfl ?_
        refine w_aload_n (j := 21) rfl rfl rfl ?_
        refine w_getR (j := 22) rfl rfl rfl rfl rfl rfl ?_
        refine w_getI (j := 23) rfl rfl rfl rfl rfl ?_
        obtain ⟨q7, hq7, h⟩ := Option.bind_eq_some_iff.mp h
        refine wc_AI_V (j := 24) (T := [none]) rfl rfl rfl rfl rfl rfl rfl rfl (xrecv_s rfl rfl h1.1 rfl) rfl ?_
        refine R_X5_add h1 hq7 ⟨rfl, ?_⟩
        refine w_goto (j := 44) rfl rfl ?_
        obtain rfl := Option.some.inj h
        exact wp_vret rfl rfl rfl hq
      · refine w_icmpne_t (j := 25) rfl c6 rfl ?_
        refine w_aload_n (j := 26) rfl rfl rfl ?_
        refine w_getR (j := 27) rfl rfl rfl rfl rfl rfl ?_
        refine w_iload_n (j := 28) rfl rfl rfl ?_
        obtain ⟨q8, hq8, h⟩ := Option.bind_eq_some_iff.mp h
        refine wc_I_I (j := 29) (T := []) rfl rfl rfl rfl rfl rfl rfl rfl rfl rfl ?_
        refine R_X2_pronounOf hq8 ⟨_, rfl, ?_⟩
        obtain ⟨q9, hq9, h⟩ := Option.bind_eq_some_iff.mp h
        refine wc_AI_A (j := 30) (T := []) rfl rfl rfl rfl rfl rfl rfl rfl rfl rfl ?_
        refine R_X3_meantBy hq9 ⟨_, rfl, ?_⟩
        have t10 := T_X3_meantBy hq9
        refine w_astore_n (j := 31) rfl (l1_3 rfl) rfl ?_
        refine w_iconst (z := (0 : Int32)) (j := 32) rfl rfl rfl ?_
        refine w_istore (j := 33) rfl (l1_4 rfl) rfl ?_
        obtain ⟨q14, hq14, h⟩ := Option.bind_eq_some_iff.mp h
        refine RL_X2_readPronoun_33 h1 _ _ _ _ _ _ _ t10 hq14 (fun v15 v16 v17 v18 v19 hv17 hv18 => ?_)
        obtain rfl := Option.some.inj h
        exact wp_vret rfl rfl rfl hq
set_option maxHeartbeats 2000000 in
set_option maxRecDepth 20000 in
theorem RL_X6_ownedBy_4 {d : Nat}  {Q : Option Value → xM → Prop}  : ∀ (n : Nat) (l1 : Int32) (l2 : Int32) (l3 : Int32)  (s : St) (q : Int32 × St)   (h : L_X6_ownedBy_4  n l1 l2 l3 s = some q) (hq : ∀ (v0 v1 v3 : Option Value), xlong v1 = false → wp (d + 1) mX6_ownedBy 22 [v0, v1, some (.int q.1), v3] [] (SH, q.2.1, q.2.2) Q), wp (d + 1) mX6_ownedBy 4 [some (.ref 1), some (.int l1), some (.int l2), some (.int l3)] [] (SH, s.1, s.2) Q := by
  intro n
  induction n with
  | zero => intro l1 l2 l3 s q h; cases h
  | succ n ih =>
    intro l1 l2 l3 s q h hq
    unfold L_X6_ownedBy_4 at h
    try dsimp only at h
    refine w_iload_n (j := 5) rfl rfl rfl ?_
    refine w_aload_n (j := 6) rfl rfl rfl ?_
    refine w_getI (j := 7) rfl rfl rfl rfl rfl ?_
    rcases xite_inv h with ⟨c1, h⟩ | ⟨c1, h⟩
    · refine w_icmpge_t (j := 22) rfl c1 rfl ?_
      obtain rfl := Option.some.inj h
      exact hq _ _ _ rfl
    · refine w_icmpge_f (j := 8) rfl c1 rfl ?_
      refine w_iload_n (j := 9) rfl rfl rfl ?_
      refine w_aload_n (j := 10) rfl rfl rfl ?_
      refine w_getR (j := 11) rfl rfl rfl rfl rfl rfl ?_
      refine w_iload_n (j := 12) rfl rfl rfl ?_
      rcases xite_inv h with ⟨g2, h⟩ | ⟨g2, h⟩
      · cases h
      · refine w_iaload (j := 13) rfl rfl g2 rfl ?_
        obtain ⟨q3, hq3, h⟩ := Option.bind_eq_some_iff.mp h
        refine wc_II_I (j := 14) (T := []) rfl rfl rfl rfl rfl rfl rfl rfl rfl rfl ?_
        refine R_X9_isIn hq3 ⟨_, rfl, ?_⟩
        rcases xite_inv h with ⟨c4, h⟩ | ⟨c4, h⟩
        · refine w_ifeq_t (j := 20) rfl c4 rfl ?_
          refine w_iinc (cc := (1 : Int32)) (j := 21) rfl rfl rfl (l1_3 rfl) rfl ?_
          refine w_goto (j := 4) rfl rfl ?_
          exact ih _ _ _ _ _ h hq
        · refine w_ifeq_f (j := 15) rfl c4 rfl ?_
          refine w_iload_n (j := 16) rfl rfl rfl ?_
          refine w_iload_n (j := 17) rfl rfl rfl ?_
          obtain ⟨q5, hq5, h⟩ := Option.bind_eq_some_iff.mp h
          refine wc_I_I (j := 18) (T := []) rfl rfl rfl rfl rfl rfl rfl rfl rfl rfl ?_
          refine R_X9_bitOf hq5 ⟨_, rfl, ?_⟩
          refine w_ior (j := 19) rfl rfl ?_
          refine w_istore_n (j := 20) rfl (l1_2 rfl) rfl ?_
          refine w_iinc (cc := (1 : Int32)) (j := 21) rfl rfl rfl (l1_3 rfl) rfl ?_
          refine w_goto (j := 4) rfl rfl ?_
          exact ih _ _ _ _ _ h hq
set_option maxHeartbeats 2000000 in
set_option maxRecDepth 20000 in
theorem R_X6_ownedBy {d : Nat} {a0 : Int32} {s : St} {q : Int32 × St} {Q : Option Value → xM → Prop}  (h : F_X6_ownedBy a0 s = some q) (hq : Q (some (.int q.1)) (SH, q.2.1, q.2.2)) : wp (d + 1) mX6_ownedBy 0 [some (.ref 1), some (.int a0), none, none] [] (SH, s.1, s.2) Q := by
  unfold F_X6_ownedBy at h
  try dsimp only at h
  refine w_iconst (z := (0 : Int32)) (j := 1) rfl rfl rfl ?_
  refine w_istore_n (j := 2) rfl (l1_2 rfl) rfl ?_
  refine w_iconst (z := (0 : Int32)) (j := 3) rfl rfl rfl ?_
  refine w_istore_n (j := 4) rfl (l1_3 rfl) rfl ?_
  obtain ⟨q6, hq6, h⟩ := Option.bind_eq_some_iff.mp h
  refine RL_X6_ownedBy_4  _ _ _ _ _ _ hq6 (fun v7 v8 v9 hv8 => ?_)
  refine w_iload_n (j := 23) rfl rfl rfl ?_
  obtain rfl := Option.some.inj h
  exact wp_ret rfl rfl rfl hq
set_option maxHeartbeats 2000000 in
set_option maxRecDepth 20000 in
theorem RJ_X2_readItem_84 {d : Nat} {a0 : Nat} {Q : Option Value → xM → Prop} (h0 : TL a0) {l4 : Int32} {u2 u3 : Option Value}  {s : St} {q : Int32 × St}  (hu2 : xlong u2 = false) (hu3 : xlong u3 = false) (h : J_X2_readItem_84 a0 l4  s = some q) (hq : Q (some (.int q.1)) (SH, q.2.1, q.2.2)) : wp (d + 2) mX2_readItem 84 [some (.ref 80), some (.ref a0), u2, u3, some (.int l4)] [] (SH, s.1, s.2) Q := by
  unfold J_X2_readItem_84 at h
  try dsimp only at h
  refine w_aload_n (j := 85) rfl rfl rfl ?_
  refine w_getR (j := 86) rfl rfl rfl rfl rfl rfl ?_
  refine w_aload_n (j := 87) rfl rfl rfl ?_
  refine w_getI (j := 88) rfl rfl rfl rfl rfl ?_
  obtain ⟨q18, hq18, h⟩ := Option.bind_eq_some_iff.mp h
  refine wc_AI_I (j := 89) (T := []) rfl rfl rfl rfl rfl rfl rfl rfl rfl rfl ?_
  refine R_X7_kindAt hq18 ⟨_, rfl, ?_⟩
  refine w_bipush (z := (23 : Int32)) (j := 90) rfl rfl rfl ?_
  rcases xite_inv h with ⟨c19, h⟩ | ⟨c19, h⟩
  · refine w_icmpne_f (j := 91) rfl c19 rfl ?_
    refine w_aload_n (j := 92) rfl rfl rfl ?_
    refine w_aload_n (j := 93) rfl rfl rfl ?_
    refine w_iload (j := 94) rfl rfl rfl ?_
    obtain ⟨q20, hq20, h⟩ := Option.bind_eq_some_iff.mp h
    refine wc_AAI_I (j := 95) (T := [none, none, none, none, none]) rfl rfl rfl rfl rfl rfl rfl rfl rfl rfl ?_
    refine R_X2_readNames h0 hq20 ⟨_, rfl, ?_⟩
    refine w_goto (j := 98) rfl rfl ?_
    rcases xite_inv h with ⟨hb, h⟩ | ⟨hb, h⟩
    · obtain rfl := Option.some.inj h
      exact wp_ret rfl rfl (xretb hb) hq
    · cases h
  · refine w_icmpne_t (j := 96) rfl c19 rfl ?_
    refine w_aload_n (j := 97) rfl rfl rfl ?_
    obtain ⟨q21, hq21, h⟩ := Option.bind_eq_some_iff.mp h
    refine wc_A_I (j := 98) (T := []) rfl rfl rfl rfl rfl rfl rfl rfl rfl rfl ?_
    refine R_X2_failMisplaced hq21 ⟨_, rfl, ?_⟩
    rcases xite_inv h with ⟨hb, h⟩ | ⟨hb, h⟩
    · obtain rfl := Option.some.inj h
      exact wp_ret rfl rfl (xretb hb) hq
    · cases h
set_option maxHeartbeats 2000000 in
set_option maxRecDepth 20000 in
theorem RJ_X2_readItem_78 {d : Nat} {a0 : Nat} {Q : Option Value → xM → Prop} (h0 : TL a0) {l4 : Int32} {u2 u3 : Option Value}  {s : St} {q : Int32 × St}  (hu2 : xlong u2 = false) (hu3 : xlong u3 = false) (h : J_X2_readItem_78 a0 l4  s = some q) (hq : Q (some (.int q.1)) (SH, q.2.1, q.2.2)) : wp (d + 2) mX2_readItem 78 [some (.ref 80), some (.ref a0), u2, u3, some (.int l4)] [] (SH, s.1, s.2) Q := by
  unfold J_X2_readItem_78 at h
  try dsimp only at h
  refine w_aload_n (j := 79) rfl rfl rfl ?_
  refine w_dup (j := 80) rfl rfl rfl ?_
  refine w_getI (j := 81) rfl rfl rfl rfl rfl ?_
  refine w_iconst (z := (1 : Int32)) (j := 82) rfl rfl rfl ?_
  refine w_iadd (j := 83) rfl rfl ?_
  refine w_putI (j := 84) rfl rfl rfl rfl rfl ?_
  try dsimp only at h
  exact RJ_X2_readItem_84 h0 hu2 hu3 h hq
set_option maxHeartbeats 2000000 in
set_option maxRecDepth 20000 in
theorem RJ_X2_readItem_68 {d : Nat} {a0 : Nat} {Q : Option Value → xM → Prop} (h0 : TL a0) {l2 : Int32} {l3 : Int32} {l4 : Int32}   {s : St} {q : Int32 × St}   (h : J_X2_readItem_68 a0 l2 l3 l4  s = some q) (hq : Q (some (.int q.1)) (SH, q.2.1, q.2.2)) : wp (d + 2) mX2_readItem 68 [some (.ref 80), some (.ref a0), some (.int l2), some (.int l3), some (.int l4)] [] (SH, s.1, s.2) Q := by
  unfold J_X2_readItem_68 at h
  try dsimp only at h
  refine w_iload_n (j := 69) rfl rfl rfl ?_
  rcases xite_inv h with ⟨c15, h⟩ | ⟨c15, h⟩
  · refine w_ifne_f (j := 70) rfl c15 rfl ?_
    refine w_iload_n (j := 71) rfl rfl rfl ?_
    rcases xite_inv h with ⟨c16, h⟩ | ⟨c16, h⟩
    · refine w_ifeq_t (j := 78) rfl c16 rfl ?_
      exact RJ_X2_readItem_78 h0 rfl rfl h hq
    · refine w_ifeq_f (j := 72) rfl c16 rfl ?_
      refine w_iload_n (j := 73) rfl rfl rfl ?_
      refine w_iconst (z := (1 : Int32)) (j := 74) rfl rfl rfl ?_
      rcases xite_inv h with ⟨c22, h⟩ | ⟨c22, h⟩
      · refine w_icmpeq_t (j := 78) rfl c22 rfl ?_
        exact RJ_X2_readItem_78 h0 rfl rfl h hq
      · refine w_icmpeq_f (j := 75) rfl c22 rfl ?_
        refine w_iload_n (j := 76) rfl rfl rfl ?_
        refine w_iconst (z := (2 : Int32)) (j := 77) rfl rfl rfl ?_
        rcases xite_inv h with ⟨c23, h⟩ | ⟨c23, h⟩
        · refine w_icmpne_f (j := 78) rfl c23 rfl ?_
          exact RJ_X2_readItem_78 h0 rfl rfl h hq
        · refine w_icmpne_t (j := 84) rfl c23 rfl ?_
          exact RJ_X2_readItem_84 h0 rfl rfl h hq
  · refine w_ifne_t (j := 78) rfl c15 rfl ?_
    exact RJ_X2_readItem_78 h0 rfl rfl h hq
set_option maxHeartbeats 2000000 in
set_option maxRecDepth 20000 in
theorem RJ_X2_readItem_53 {d : Nat} {a0 : Nat} {Q : Option Value → xM → Prop} (h0 : TL a0) {l2 : Int32} {l3 : Int32} {u4 : Option Value}  {s : St} {q : Int32 × St}   (h : J_X2_readItem_53 a0 l2 l3  s = some q) (hq : Q (some (.int q.1)) (SH, q.2.1, q.2.2)) : wp (d + 2) mX2_readItem 53 [some (.ref 80), some (.ref a0), some (.int l2), some (.int l3), u4] [] (SH, s.1, s.2) Q := by
  unfold J_X2_readItem_53 at h
  try dsimp only at h
  refine w_aload_n (j := 54) rfl rfl rfl ?_
  refine w_getR (j := 55) rfl rfl rfl rfl rfl rfl ?_
  refine wc_A_I (j := 56) (T := []) rfl rfl rfl rfl rfl rfl rfl rfl rfl rfl ?_
  refine w_aload_n (j := 1) rfl rfl rfl ?_
  refine w_getI (j := 2) rfl rfl rfl rfl rfl ?_
  refine wp_ret rfl rfl rfl ⟨_, rfl, ?_⟩
  refine w_istore (j := 57) rfl (l1_4 rfl) rfl ?_
  refine w_iload_n (j := 58) rfl rfl rfl ?_
  rcases xite_inv h with ⟨c14, h⟩ | ⟨c14, h⟩
  · refine w_ifeq_t (j := 68) rfl c14 rfl ?_
    exact RJ_X2_readItem_68 h0  h hq
  · refine w_ifeq_f (j := 59) rfl c14 rfl ?_
    refine w_iload (j := 60) rfl rfl rfl ?_
    refine w_aload_n (j := 61) rfl rfl rfl ?_
    refine w_getR (j := 62) rfl rfl rfl rfl rfl rfl ?_
    refine w_aload_n (j := 63) rfl rfl rfl ?_
    refine w_iload_n (j := 64) rfl rfl rfl ?_
    obtain ⟨q24, hq24, h⟩ := Option.bind_eq_some_iff.mp h
    refine wc_AI_I (j := 65) (T := []) rfl rfl rfl rfl rfl rfl rfl rfl rfl rfl ?_
    refine R_X2_ownersFor hq24 ⟨_, rfl, ?_⟩
    obtain ⟨q25, hq25, h⟩ := Option.bind_eq_some_iff.mp h
    refine wc_AI_I (j := 66) (T := [none, none]) rfl rfl rfl rfl rfl rfl rfl rfl rfl rfl ?_
    refine R_X6_ownedBy hq25 ⟨_, rfl, ?_⟩
    refine w_iand (j := 67) rfl rfl ?_
    refine w_istore (j := 68) rfl (l1_4 rfl) rfl ?_
    exact RJ_X2_readItem_68 h0  h hq
set_option maxHeartbeats 2000000 in
set_option maxRecDepth 20000 in
theorem RJ_X2_readItem_41 {d : Nat} {a0 : Nat} {Q : Option Value → xM → Prop} (h0 : TL a0) {l2 : Int32} {u3 u4 : Option Value} {t0 : Int32} {s : St} {q : Int32 × St}  (hu3 : xlong u3 = false) (h : J_X2_readItem_41 a0 l2 t0 s = some q) (hq : Q (some (.int q.1)) (SH, q.2.1, q.2.2)) : wp (d + 2) mX2_readItem 41 [some (.ref 80), some (.ref a0), some (.int l2), u3, u4] [.int t0] (SH, s.1, s.2) Q := by
  unfold J_X2_readItem_41 at h
  try dsimp only at h
  refine w_istore_n (j := 42) rfl (l1_3 rfl) rfl ?_
  refine w_iload_n (j := 43) rfl rfl rfl ?_
  rcases xite_inv h with ⟨c11, h⟩ | ⟨c11, h⟩
  · refine w_ifne_f (j := 44) rfl c11 rfl ?_
    refine w_iload_n (j := 45) rfl rfl rfl ?_
    obtain ⟨q12, hq12, h⟩ := Option.bind_eq_some_iff.mp h
    refine wc_I_I (j := 46) (T := []) rfl rfl rfl rfl rfl rfl rfl rfl rfl rfl ?_
    refine R_X2_isPronoun hq12 ⟨_, rfl, ?_⟩
    rcases xite_inv h with ⟨c13, h⟩ | ⟨c13, h⟩
    · refine w_ifeq_t (j := 53) rfl c13 rfl ?_
      exact RJ_X2_readItem_53 h0  h hq
    · refine w_ifeq_f (j := 47) rfl c13 rfl ?_
      refine w_aload_n (j := 48) rfl rfl rfl ?_
      refine w_iload_n (j := 49) rfl rfl rfl ?_
      refine w_aload_n (j := 50) rfl rfl rfl ?_
      obtain ⟨q26, hq26, h⟩ := Option.bind_eq_some_iff.mp h
      refine wc_AIA_V (j := 51) (T := [none, none]) rfl rfl rfl rfl rfl rfl rfl rfl rfl rfl ?_
      refine R_X2_readPronoun h0 hq26 ⟨rfl, ?_⟩
      refine w_iconst (z := (1 : Int32)) (j := 52) rfl rfl rfl ?_
      obtain rfl := Option.some.inj h
      exact wp_ret rfl rfl rfl hq
  · refine w_ifne_t (j := 53) rfl c11 rfl ?_
    exact RJ_X2_readItem_53 h0  h hq
set_option maxHeartbeats 2000000 in
set_option maxRecDepth 20000 in
theorem RJ_X2_readItem_38 {d : Nat} {a0 : Nat} {Q : Option Value → xM → Prop} (h0 : TL a0) {l2 : Int32} {u3 u4 : Option Value}  {s : St} {q : Int32 × St}  (hu3 : xlong u3 = false) (h : J_X2_readItem_38 a0 l2  s = some q) (hq : Q (some (.int q.1)) (SH, q.2.1, q.2.2)) : wp (d + 2) mX2_readItem 38 [some (.ref 80), some (.ref a0), some (.int l2), u3, u4] [] (SH, s.1, s.2) Q := by
  unfold J_X2_readItem_38 at h
  try dsimp only at h
  refine w_iconst (z := (1 : Int32)) (j := 39) rfl rfl rfl ?_
  refine w_goto (j := 41) rfl rfl ?_
  exact RJ_X2_readItem_41 h0 hu3 h hq
set_option maxHeartbeats 2000000 in
set_option maxRecDepth 20000 in
theorem RJ_X2_readItem_40 {d : Nat} {a0 : Nat} {Q : Option Value → xM → Prop} (h0 : TL a0) {l2 : Int32} {u3 u4 : Option Value}  {s : St} {q : Int32 × St}  (hu3 : xlong u3 = false) (h : J_X2_readItem_40 a0 l2  s = some q) (hq : Q (some (.int q.1)) (SH, q.2.1, q.2.2)) : wp (d + 2) mX2_readItem 40 [some (.ref 80), some (.ref a0), some (.int l2), u3, u4] [] (SH, s.1, s.2) Q := by
  unfold J_X2_readItem_40 at h
  try dsimp only at h
  refine w_iconst (z := (0 : Int32)) (j := 41) rfl rfl rfl ?_
  exact RJ_X2_readItem_41 h0 hu3 h hq
set_option maxHeartbeats 2000000 in
set_option maxRecDepth 20000 in
theorem RJ_X2_readItem_16 {d : Nat} {a0 : Nat} {Q : Option Value → xM → Prop} (h0 : TL a0) {l2 : Int32} {u3 u4 : Option Value}  {s : St} {q : Int32 × St}  (hu3 : xlong u3 = false) (h : J_X2_readItem_16 a0 l2  s = some q) (hq : Q (some (.int q.1)) (SH, q.2.1, q.2.2)) : wp (d + 2) mX2_readItem 16 [some (.ref 80), some (.ref a0), some (.int l2), u3, u4] [] (SH, s.1, s.2) Q := by
  unfold J_X2_readItem_16 at h
  try dsimp only at h
  refine w_iload_n (j := 17) rfl rfl rfl ?_
  refine w_bipush (z := (19 : Int32)) (j := 18) rfl rfl rfl ?_
  rcases xite_inv h with ⟨c4, h⟩ | ⟨c4, h⟩
  · refine w_icmpne_f (j := 19) rfl c4 rfl ?_
    refine w_aload_n (j := 20) rfl rfl rfl ?_
    refine w_aload_n (j := 21) rfl rfl rfl ?_
    obtain ⟨q5, hq5, h⟩ := Option.bind_eq_some_iff.mp h
    refine wc_AA_I (j := 22) (T := [none, none, none]) rfl rfl rfl rfl rfl rfl rfl rfl rfl rfl ?_
    refine R_X2_readAll h0 hq5 ⟨_, rfl, ?_⟩
    rcases xite_inv h with ⟨hb, h⟩ | ⟨hb, h⟩
    · obtain rfl := Option.some.inj h
      exact wp_ret rfl rfl (xretb hb) hq
    · cases h
  · refine w_icmpne_t (j := 23) rfl c4 rfl ?_
    refine w_iload_n (j := 24) rfl rfl rfl ?_
    obtain ⟨q6, hq6, h⟩ := Option.bind_eq_some_iff.mp h
    refine wc_I_I (j := 25) (T := []) rfl rfl rfl rfl rfl rfl rfl rfl rfl rfl ?_
    refine R_X2_isWhose hq6 ⟨_, rfl, ?_⟩
    rcases xite_inv h with ⟨c7, h⟩ | ⟨c7, h⟩
    · refine w_ifne_f (j := 26) rfl c7 rfl ?_
      refine w_iload_n (j := 27) rfl rfl rfl ?_
      refine w_bipush (z := (10 : Int32)) (j := 28) rfl rfl rfl ?_
      rcases xite_inv h with ⟨c8, h⟩ | ⟨c8, h⟩
      · refine w_icmpne_f (j := 29) rfl c8 rfl ?_
        refine w_aload_n (j := 30) rfl rfl rfl ?_
        refine w_getR (j := 31) rfl rfl rfl rfl rfl rfl ?_
        refine w_aload_n (j := 32) rfl rfl rfl ?_
        refine w_getI (j := 33) rfl rfl rfl rfl rfl ?_
        refine w_iconst (z := (1 : Int32)) (j := 34) rfl rfl rfl ?_
        refine w_iadd (j := 35) rfl rfl ?_
        obtain ⟨q9, hq9, h⟩ := Option.bind_eq_some_iff.mp h
        refine wc_AI_I (j := 36) (T := []) rfl rfl rfl rfl rfl rfl rfl rfl rfl rfl ?_
        refine R_X7_kindAt hq9 ⟨_, rfl, ?_⟩
        refine w_bipush (z := (23 : Int32)) (j := 37) rfl rfl rfl ?_
        rcases xite_inv h with ⟨c10, h⟩ | ⟨c10, h⟩
        · refine w_icmpne_f (j := 38) rfl c10 rfl ?_
          exact RJ_X2_readItem_38 h0 hu3 h hq
        · refine w_icmpne_t (j := 40) rfl c10 rfl ?_
          exact RJ_X2_readItem_40 h0 hu3 h hq
      · refine w_icmpne_t (j := 40) rfl c8 rfl ?_
        exact RJ_X2_readItem_40 h0 hu3 h hq
    · refine w_ifne_t (j := 38) rfl c7 rfl ?_
      exact RJ_X2_readItem_38 h0 hu3 h hq
set_option maxHeartbeats 2000000 in
set_option maxRecDepth 20000 in
theorem R_X2_readItem {d : Nat} {a0 : Nat} {s : St} {q : Int32 × St} {Q : Option Value → xM → Prop} (h0 : TL a0) (h : F_X2_readItem a0 s = some q) (hq : Q (some (.int q.1)) (SH, q.2.1, q.2.2)) : wp (d + 2) mX2_readItem 0 [some (.ref 80), some (.ref a0), none, none, none] [] (SH, s.1, s.2) Q := by
  unfold F_X2_readItem at h
  try dsimp only at h
  refine w_aload_n (j := 1) rfl rfl rfl ?_
  refine w_getR (j := 2) rfl rfl rfl rfl rfl rfl ?_
  refine w_aload_n (j := 3) rfl rfl rfl ?_
  refine w_getI (j := 4) rfl rfl rfl rfl rfl ?_
  obtain ⟨q1, hq1, h⟩ := Option.bind_eq_some_iff.mp h
  refine wc_AI_I (j := 5) (T := []) rfl rfl rfl rfl rfl rfl rfl rfl rfl rfl ?_
  refine R_X7_kindAt hq1 ⟨_, rfl, ?_⟩
  refine w_istore_n (j := 6) rfl (l1_2 rfl) rfl ?_
  refine w_iload_n (j := 7) rfl rfl rfl ?_
  obtain ⟨q2, hq2, h⟩ := Option.bind_eq_some_iff.mp h
  refine wc_I_I (j := 8) (T := []) rfl rfl rfl rfl rfl rfl rfl rfl rfl rfl ?_
  refine R_X2_isFromTable hq2 ⟨_, rfl, ?_⟩
  rcases xite_inv h with ⟨c3, h⟩ | ⟨c3, h⟩
  · refine w_ifeq_t (j := 16) rfl c3 rfl ?_
    exact RJ_X2_readItem_16 h0 rfl h hq
  · refine w_ifeq_f (j := 9) rfl c3 rfl ?_
    refine w_aload_n (j := 10) rfl rfl rfl ?_
    refine w_iload_n (j := 11) rfl rfl rfl ?_
    obtain ⟨q27, hq27, h⟩ := Option.bind_eq_some_iff.mp h
    refine wc_I_I (j := 12) (T := []) rfl rfl rfl rfl rfl rfl rfl rfl rfl rfl ?_
    refine R_X2_pronounOf hq27 ⟨_, rfl, ?_⟩
    obtain ⟨q28, hq28, h⟩ := Option.bind_eq_some_iff.mp h
    refine wc_AI_I (j := 13) (T := [none, none]) rfl rfl rfl rfl rfl rfl rfl rfl rfl rfl ?_
    refine R_X2_isTableReady hq28 ⟨_, rfl, ?_⟩
    rcases xite_inv h with ⟨c29, h⟩ | ⟨c29, h⟩
    · refine w_ifne_f (j := 14) rfl c29 rfl ?_
      refine w_iconst (z := (0 : Int32)) (j := 15) rfl rfl rfl ?_
      obtain rfl := Option.some.inj h
      exact wp_ret rfl rfl rfl hq
    · refine w_ifne_t (j := 16) rfl c29 rfl ?_
      exact RJ_X2_readItem_16 h0 rfl h hq
set_option maxHeartbeats 2000000 in
set_option maxRecDepth 20000 in
theorem RJ_X2_readActor_61 {d : Nat}  {Q : Option Value → xM → Prop}  {l3 : Int32} {u1 u2 : Option Value} {t0 : Int32} {t1 : Int32} {s : St} {q : Int32 × St}  (hu1 : xlong u1 = false) (hu2 : xlong u2 = false) (h : J_X2_readActor_61  l3 t0 t1 s = some q) (hq : Q (some (.int q.1)) (SH, q.2.1, q.2.2)) : wp (d + 3) mX2_readActor 61 [some (.ref 80), u1, u2, some (.int l3)] [.int t1, .int t0] (SH, s.1, s.2) Q := by
  unfold J_X2_readActor_61 at h
  try dsimp only at h
  rcases xite_inv h with ⟨c15, h⟩ | ⟨c15, h⟩
  · refine w_icmpeq_t (j := 65) rfl c15 rfl ?_
    refine w_aload_n (j := 66) rfl rfl rfl ?_
    refine w_dup (j := 67) rfl rfl rfl ?_
    refine w_getI (j := 68) rfl rfl rfl rfl rfl ?_
    refine w_iconst (z := (1 : Int32)) (j := 69) rfl rfl rfl ?_
    refine w_iadd (j := 70) rfl rfl ?_
    refine w_putI (j := 71) rfl rfl rfl rfl rfl ?_
    try dsimp only at h
    refine w_aload_n (j := 72) rfl rfl rfl ?_
    refine w_getR (j := 73) rfl rfl rfl rfl rfl rfl ?_
    refine w_iload_n (j := 74) rfl rfl rfl ?_
    refine w_putI (j := 75) rfl rfl rfl rfl rfl ?_
    try dsimp only at h
    refine w_iconst (z := (1 : Int32)) (j := 76) rfl rfl rfl ?_
    obtain rfl := Option.some.inj h
    exact wp_ret rfl rfl rfl hq
  · refine w_icmpeq_f (j := 62) rfl c15 rfl ?_
    refine w_aload_n (j := 63) rfl rfl rfl ?_
    obtain ⟨q18, hq18, h⟩ := Option.bind_eq_some_iff.mp h
    refine wc_A_I (j := 64) (T := []) rfl rfl rfl rfl rfl rfl rfl rfl rfl rfl ?_
    refine R_X2_failMisplaced hq18 ⟨_, rfl, ?_⟩
    rcases xite_inv h with ⟨hb, h⟩ | ⟨hb, h⟩
    · obtain rfl := Option.some.inj h
      exact wp_ret rfl rfl (xretb hb) hq
    · cases h
set_option maxHeartbeats 2000000 in
set_option maxRecDepth 20000 in
theorem RJ_X2_readActor_19 {d : Nat}  {Q : Option Value → xM → Prop}  {l1 : Int32} {u2 u3 : Option Value}  {s : St} {q : Int32 × St}  (hu2 : xlong u2 = false) (h : J_X2_readActor_19  l1  s = some q) (hq : Q (some (.int q.1)) (SH, q.2.1, q.2.2)) : wp (d + 3) mX2_readActor 19 [some (.ref 80), some (.int l1), u2, u3] [] (SH, s.1, s.2) Q := by
  unfold J_X2_readActor_19 at h
  try dsimp only at h
  refine w_aload_n (j := 20) rfl rfl rfl ?_
  refine w_getI (j := 21) rfl rfl rfl rfl rfl ?_
  refine w_istore_n (j := 22) rfl (l1_2 rfl) rfl ?_
  refine w_aload_n (j := 23) rfl rfl rfl ?_
  refine w_aload_n (j := 24) rfl rfl rfl ?_
  refine w_getR (j := 25) rfl rfl rfl rfl rfl rfl ?_
  obtain ⟨q4, hq4, h⟩ := Option.bind_eq_some_iff.mp h
  refine wc_AA_I (j := 26) (T := [none, none, none]) rfl rfl rfl rfl rfl rfl rfl rfl rfl rfl ?_
  refine R_X2_readItem (show TL 92 from ⟨rfl, rfl⟩) hq4 ⟨_, rfl, ?_⟩
  rcases xite_inv h with ⟨c5, h⟩ | ⟨c5, h⟩
  · refine w_ifne_f (j := 27) rfl c5 rfl ?_
    refine w_iconst (z := (0 : Int32)) (j := 28) rfl rfl rfl ?_
    obtain rfl := Option.some.inj h
    exact wp_ret rfl rfl rfl hq
  · refine w_ifne_t (j := 29) rfl c5 rfl ?_
    refine w_aload_n (j := 30) rfl rfl rfl ?_
    refine w_getR (j := 31) rfl rfl rfl rfl rfl rfl ?_
    refine w_iconst (z := (0 : Int32)) (j := 32) rfl rfl rfl ?_
    obtain ⟨q6, hq6, h⟩ := Option.bind_eq_some_iff.mp h
    refine wc_AI_I (j := 33) (T := []) rfl rfl rfl rfl rfl rfl rfl rfl rfl rfl ?_
    refine R_X5_at (show TL 92 from ⟨rfl, rfl⟩) hq6 ⟨_, rfl, ?_⟩
    refine w_istore_n (j := 34) rfl (l1_3 rfl) rfl ?_
    refine w_aload_n (j := 35) rfl rfl rfl ?_
    refine w_getR (j := 36) rfl rfl rfl rfl rfl rfl ?_
    refine wc_A_I (j := 37) (T := []) rfl rfl rfl rfl rfl rfl rfl rfl rfl rfl ?_
    refine w_aload_n (j := 1) rfl rfl rfl ?_
    refine w_getI (j := 2) rfl rfl rfl rfl rfl ?_
    refine wp_ret rfl rfl rfl ⟨_, rfl, ?_⟩
    refine w_iconst (z := (1 : Int32)) (j := 38) rfl rfl rfl ?_
    rcases xite_inv h with ⟨c7, h⟩ | ⟨c7, h⟩
    · refine w_icmpne_f (j := 39) rfl c7 rfl ?_
      refine w_iload_n (j := 40) rfl rfl rfl ?_
      rcases xite_inv h with ⟨c8, h⟩ | ⟨c8, h⟩
      · refine w_ifeq_t (j := 46) rfl c8 rfl ?_
        refine w_aload_n (j := 47) rfl rfl rfl ?_
        refine w_bipush (z := (8 : Int32)) (j := 48) rfl rfl rfl ?_
        refine w_iload_n (j := 49) rfl rfl rfl ?_
        obtain ⟨q9, hq9, h⟩ := Option.bind_eq_some_iff.mp h
        refine wc_AII_I (j := 50) (T := []) rfl rfl rfl rfl rfl rfl rfl rfl rfl rfl ?_
        refine R_X2_fail hq9 ⟨_, rfl, ?_⟩
        rcases xite_inv h with ⟨hb, h⟩ | ⟨hb, h⟩
        · obtain rfl := Option.some.inj h
          exact wp_ret rfl rfl (xretb hb) hq
        · cases h
      · refine w_ifeq_f (j := 41) rfl c8 rfl ?_
        refine w_aload_n (j := 42) rfl rfl rfl ?_
        refine w_getR (j := 43) rfl rfl rfl rfl rfl rfl ?_
        refine w_iload_n (j := 44) rfl rfl rfl ?_
        obtain ⟨q10, hq10, h⟩ := Option.bind_eq_some_iff.mp h
        refine wc_AI_I (j := 45) (T := []) rfl rfl rfl rfl rfl rfl rfl rfl rfl rfl ?_
        refine R_X6_isPerson hq10 ⟨_, rfl, ?_⟩
        rcases xite_inv h with ⟨c11, h⟩ | ⟨c11, h⟩
        · refine w_ifne_f (j := 46) rfl c11 rfl ?_
          refine w_aload_n (j := 47) rfl rfl rfl ?_
          refine w_bipush (z := (8 : Int32)) (j := 48) rfl rfl rfl ?_
          refine w_iload_n (j := 49) rfl rfl rfl ?_
          obtain ⟨q12, hq12, h⟩ := Option.bind_eq_some_iff.mp h
          refine wc_AII_I (j := 50) (T := []) rfl rfl rfl rfl rfl rfl rfl rfl rfl rfl ?_
          refine R_X2_fail hq12 ⟨_, rfl, ?_⟩
          rcases xite_inv h with ⟨hb, h⟩ | ⟨hb, h⟩
          · obtain rfl := Option.some.inj h
            exact wp_ret rfl rfl (xretb hb) hq
          · cases h
        · refine w_ifne_t (j := 51) rfl c11 rfl ?_
          refine w_aload_n (j := 52) rfl rfl rfl ?_
          refine w_getR (j := 53) rfl rfl rfl rfl rfl rfl ?_
          refine w_aload_n (j := 54) rfl rfl rfl ?_
          refine w_getI (j := 55) rfl rfl rfl rfl rfl ?_
          obtain ⟨q13, hq13, h⟩ := Option.bind_eq_some_iff.mp h
          refine wc_AI_I (j := 56) (T := []) rfl rfl rfl rfl rfl rfl rfl rfl rfl rfl ?_
          refine R_X7_kindAt hq13 ⟨_, rfl, ?_⟩
          refine w_iload_n (j := 57) rfl rfl rfl ?_
          rcases xite_inv h with ⟨c14, h⟩ | ⟨c14, h⟩
          · refine w_ifeq_t (j := 60) rfl c14 rfl ?_
            refine w_bipush (z := (21 : Int32)) (j := 61) rfl rfl rfl ?_
            exact RJ_X2_readActor_61  rfl rfl h hq
          · refine w_ifeq_f (j := 58) rfl c14 rfl ?_
            refine w_bipush (z := (6 : Int32)) (j := 59) rfl rfl rfl ?_
            refine w_goto (j := 61) rfl rfl ?_
            exact RJ_X2_readActor_61  rfl rfl h hq
    · refine w_icmpne_t (j := 46) rfl c7 rfl ?_
      refine w_aload_n (j := 47) rfl rfl rfl ?_
      refine w_bipush (z := (8 : Int32)) (j := 48) rfl rfl rfl ?_
      refine w_iload_n (j := 49) rfl rfl rfl ?_
      obtain ⟨q19, hq19, h⟩ := Option.bind_eq_some_iff.mp h
      refine wc_AII_I (j := 50) (T := []) rfl rfl rfl rfl rfl rfl rfl rfl rfl rfl ?_
      refine R_X2_fail hq19 ⟨_, rfl, ?_⟩
      rcases xite_inv h with ⟨hb, h⟩ | ⟨hb, h⟩
      · obtain rfl := Option.some.inj h
        exact wp_ret rfl rfl (xretb hb) hq
      · cases h
set_option maxHeartbeats 2000000 in
set_option maxRecDepth 20000 in
theorem RJ_X2_readActor_10 {d : Nat}  {Q : Option Value → xM → Prop}   {u1 u2 u3 : Option Value} {t0 : Int32} {s : St} {q : Int32 × St}  (hu1 : xlong u1 = false) (hu2 : xlong u2 = false) (h : J_X2_readActor_10   t0 s = some q) (hq : Q (some (.int q.1)) (SH, q.2.1, q.2.2)) : wp (d + 3) mX2_readActor 10 [some (.ref 80), u1, u2, u3] [.int t0] (SH, s.1, s.2) Q := by
  unfold J_X2_readActor_10 at h
  try dsimp only at h
  refine w_istore_n (j := 11) rfl (l1_1 rfl) rfl ?_
  refine w_iload_n (j := 12) rfl rfl rfl ?_
  rcases xite_inv h with ⟨c3, h⟩ | ⟨c3, h⟩
  · refine w_ifeq_t (j := 19) rfl c3 rfl ?_
    exact RJ_X2_readActor_19  hu2 h hq
  · refine w_ifeq_f (j := 13) rfl c3 rfl ?_
    refine w_aload_n (j := 14) rfl rfl rfl ?_
    refine w_dup (j := 15) rfl rfl rfl ?_
    refine w_getI (j := 16) rfl rfl rfl rfl rfl ?_
    refine w_iconst (z := (1 : Int32)) (j := 17) rfl rfl rfl ?_
    refine w_iadd (j := 18) rfl rfl ?_
    refine w_putI (j := 19) rfl rfl rfl rfl rfl ?_
    try dsimp only at h
    exact RJ_X2_readActor_19  hu2 h hq
set_option maxHeartbeats 2000000 in
set_option maxRecDepth 20000 in
theorem R_X2_readActor {d : Nat}  {s : St} {q : Int32 × St} {Q : Option Value → xM → Prop}  (h : F_X2_readActor  s = some q) (hq : Q (some (.int q.1)) (SH, q.2.1, q.2.2)) : wp (d + 3) mX2_readActor 0 [some (.ref 80), none, none, none] [] (SH, s.1, s.2) Q := by
  unfold F_X2_readActor at h
  try dsimp only at h
  refine w_aload_n (j := 1) rfl rfl rfl ?_
  refine w_getR (j := 2) rfl rfl rfl rfl rfl rfl ?_
  refine w_aload_n (j := 3) rfl rfl rfl ?_
  refine w_getI (j := 4) rfl rfl rfl rfl rfl ?_
  obtain ⟨q1, hq1, h⟩ := Option.bind_eq_some_iff.mp h
  refine wc_AI_I (j := 5) (T := []) rfl rfl rfl rfl rfl rfl rfl rfl rfl rfl ?_
  refine R_X7_kindAt hq1 ⟨_, rfl, ?_⟩
  refine w_iconst (z := (5 : Int32)) (j := 6) rfl rfl rfl ?_
  rcases xite_inv h with ⟨c2, h⟩ | ⟨c2, h⟩
  · refine w_icmpne_f (j := 7) rfl c2 rfl ?_
    refine w_iconst (z := (1 : Int32)) (j := 8) rfl rfl rfl ?_
    refine w_goto (j := 10) rfl rfl ?_
    exact RJ_X2_readActor_10  rfl rfl h hq
  · refine w_icmpne_t (j := 9) rfl c2 rfl ?_
    refine w_iconst (z := (0 : Int32)) (j := 10) rfl rfl rfl ?_
    exact RJ_X2_readActor_10  rfl rfl h hq
set_option maxHeartbeats 2000000 in
set_option maxRecDepth 20000 in
theorem R_X2_readAgain {d : Nat}  {s : St} {q : Int32 × St} {Q : Option Value → xM → Prop}  (h : F_X2_readAgain  s = some q) (hq : Q (some (.int q.1)) (SH, q.2.1, q.2.2)) : wp (d + 3) mX2_readAgain 0 [some (.ref 80)] [] (SH, s.1, s.2) Q := by
  unfold F_X2_readAgain at h
  try dsimp only at h
  refine w_aload_n (j := 1) rfl rfl rfl ?_
  refine w_getR (j := 2) rfl rfl rfl rfl rfl rfl ?_
  refine wc_A_I (j := 3) (T := []) rfl rfl rfl rfl rfl rfl rfl rfl rfl rfl ?_
  refine w_aload_n (j := 1) rfl rfl rfl ?_
  refine w_getI (j := 2) rfl rfl rfl rfl rfl ?_
  refine wp_ret rfl rfl rfl ⟨_, rfl, ?_⟩
  rcases xite_inv h with ⟨c1, h⟩ | ⟨c1, h⟩
  · refine w_ifne_f (j := 4) rfl c1 rfl ?_
    refine w_aload_n (j := 5) rfl rfl rfl ?_
    refine w_bipush (z := (6 : Int32)) (j := 6) rfl rfl rfl ?_
    refine w_aload_n (j := 7) rfl rfl rfl ?_
    refine w_getI (j := 8) rfl rfl rfl rfl rfl ?_
    obtain ⟨q2, hq2, h⟩ := Option.bind_eq_some_iff.mp h
    refine wc_AII_I (j := 9) (T := []) rfl rfl rfl rfl rfl rfl rfl rfl rfl rfl ?_
    refine R_X2_fail hq2 ⟨_, rfl, ?_⟩
    rcases xite_inv h with ⟨hb, h⟩ | ⟨hb, h⟩
    · obtain rfl := Option.some.inj h
      exact wp_ret rfl rfl (xretb hb) hq
    · cases h
  · refine w_ifne_t (j := 10) rfl c1 rfl ?_
    refine w_aload_n (j := 11) rfl rfl rfl ?_
    refine w_getR (j := 12) rfl rfl rfl rfl rfl rfl ?_
    refine wc_A_A (j := 13) (T := []) rfl rfl rfl rfl rfl rfl rfl rfl rfl rfl ?_
    refine w_aload_n (j := 1) rfl rfl rfl ?_
    refine w_getR (j := 2) rfl rfl rfl rfl rfl rfl ?_
    refine wp_ret rfl rfl rfl ⟨_, rfl, ?_⟩
    obtain ⟨q3, hq3, h⟩ := Option.bind_eq_some_iff.mp h
    refine wc_A_I (j := 14) (T := []) rfl rfl rfl rfl rfl rfl rfl rfl rfl rfl ?_
    refine R_X0_members (show OR 25 from ⟨rfl, ⟨rfl, rfl⟩, ⟨rfl, rfl⟩⟩) hq3 ⟨_, rfl, ?_⟩
    refine w_aload_n (j := 15) rfl rfl rfl ?_
    refine w_getR (j := 16) rfl rfl rfl rfl rfl rfl ?_
    refine wc_A_I (j := 17) (T := []) rfl rfl rfl rfl rfl rfl rfl rfl rfl rfl ?_
    refine w_aload_n (j := 1) rfl rfl rfl ?_
    refine w_getI (j := 2) rfl rfl rfl rfl rfl ?_
    refine wp_ret rfl rfl rfl ⟨_, rfl, ?_⟩
    refine w_iconst (z := (-1 : Int32)) (j := 18) rfl rfl rfl ?_
    refine w_ixor (j := 19) rfl rfl ?_
    refine w_iand (j := 20) rfl rfl ?_
    rcases xite_inv h with ⟨c4, h⟩ | ⟨c4, h⟩
    · refine w_ifeq_t (j := 27) rfl c4 rfl ?_
      refine w_aload_n (j := 28) rfl rfl rfl ?_
      refine w_getR (j := 29) rfl rfl rfl rfl rfl rfl ?_
      obtain ⟨q5, hq5, h⟩ := Option.bind_eq_some_iff.mp h
      refine wc_A_I (j := 30) (T := []) rfl rfl rfl rfl rfl rfl rfl rfl rfl rfl ?_
      refine R_X1_areFull hq5 ⟨_, rfl, ?_⟩
      rcases xite_inv h with ⟨c6, h⟩ | ⟨c6, h⟩
      · refine w_ifeq_t (j := 37) rfl c6 rfl ?_
        refine w_aload_n (j := 38) rfl rfl rfl ?_
        refine w_dup (j := 39) rfl rfl rfl ?_
        refine w_getI (j := 40) rfl rfl rfl rfl rfl ?_
        refine w_iconst (z := (1 : Int32)) (j := 41) rfl rfl rfl ?_
        refine w_iadd (j := 42) rfl rfl ?_
        refine w_putI (j := 43) rfl rfl rfl rfl rfl ?_
        try dsimp only at h
        refine w_aload_n (j := 44) rfl rfl rfl ?_
        obtain ⟨q8, hq8, h⟩ := Option.bind_eq_some_iff.mp h
        refine wc_A_I (j := 45) (T := [none]) rfl rfl rfl rfl rfl rfl rfl rfl rfl rfl ?_
        refine R_X2_isOrderEnd hq8 ⟨_, rfl, ?_⟩
        rcases xite_inv h with ⟨c9, h⟩ | ⟨c9, h⟩
        · refine w_ifne_f (j := 46) rfl c9 rfl ?_
          refine w_aload_n (j := 47) rfl rfl rfl ?_
          obtain ⟨q10, hq10, h⟩ := Option.bind_eq_some_iff.mp h
          refine wc_A_I (j := 48) (T := []) rfl rfl rfl rfl rfl rfl rfl rfl rfl rfl ?_
          refine R_X2_failMisplaced hq10 ⟨_, rfl, ?_⟩
          rcases xite_inv h with ⟨hb, h⟩ | ⟨hb, h⟩
          · obtain rfl := Option.some.inj h
            exact wp_ret rfl rfl (xretb hb) hq
          · cases h
        · refine w_ifne_t (j := 49) rfl c9 rfl ?_
          refine w_aload_n (j := 50) rfl rfl rfl ?_
          refine w_getR (j := 51) rfl rfl rfl rfl rfl rfl ?_
          refine w_aload_n (j := 52) rfl rfl rfl ?_
          refine w_getR (j := 53) rfl rfl rfl rfl rfl rfl ?_
          refine wc_A_A (j := 54) (T := []) rfl rfl rfl rfl rfl rfl rfl rfl rfl rfl ?_
          refine w_aload_n (j := 1) rfl rfl rfl ?_
          refine w_getR (j := 2) rfl rfl rfl rfl rfl rfl ?_
          refine wp_ret rfl rfl rfl ⟨_, rfl, ?_⟩
          obtain ⟨q11, hq11, h⟩ := Option.bind_eq_some_iff.mp h
          refine wc_AA_V (j := 55) (T := []) rfl rfl rfl rfl rfl rfl rfl rfl rfl rfl ?_
          refine R_X1_keep (show OR 25 from ⟨rfl, ⟨rfl, rfl⟩, ⟨rfl, rfl⟩⟩) hq11 ⟨rfl, ?_⟩
          refine w_iconst (z := (1 : Int32)) (j := 56) rfl rfl rfl ?_
          obtain rfl := Option.some.inj h
          exact wp_ret rfl rfl rfl hq
      · refine w_ifeq_f (j := 31) rfl c6 rfl ?_
        refine w_aload_n (j := 32) rfl rfl rfl ?_
        refine w_bipush (z := (9 : Int32)) (j := 33) rfl rfl rfl ?_
        refine w_aload_n (j := 34) rfl rfl rfl ?_
        refine w_getI (j := 35) rfl rfl rfl rfl rfl ?_
        obtain ⟨q12, hq12, h⟩ := Option.bind_eq_some_iff.mp h
        refine wc_AII_I (j := 36) (T := []) rfl rfl rfl rfl rfl rfl rfl rfl rfl rfl ?_
        refine R_X2_fail hq12 ⟨_, rfl, ?_⟩
        rcases xite_inv h with ⟨hb, h⟩ | ⟨hb, h⟩
        · obtain rfl := Option.some.inj h
          exact wp_ret rfl rfl (xretb hb) hq
        · cases h
    · refine w_ifeq_f (j := 21) rfl c4 rfl ?_
      refine w_aload_n (j := 22) rfl rfl rfl ?_
      refine w_bipush (z := (7 : Int32)) (j := 23) rfl rfl rfl ?_
      refine w_aload_n (j := 24) rfl rfl rfl ?_
      refine w_getI (j := 25) rfl rfl rfl rfl rfl ?_
      obtain ⟨q13, hq13, h⟩ := Option.bind_eq_some_iff.mp h
      refine wc_AII_I (j := 26) (T := []) rfl rfl rfl rfl rfl rfl rfl rfl rfl rfl ?_
      refine R_X2_fail hq13 ⟨_, rfl, ?_⟩
      rcases xite_inv h with ⟨hb, h⟩ | ⟨hb, h⟩
      · obtain rfl := Option.some.inj h
        exact wp_ret rfl rfl (xretb hb) hq
      · cases h
set_option maxHeartbeats 2000000 in
set_option maxRecDepth 20000 in
theorem RJ_X2_skipSeparator_16 {d : Nat}  {Q : Option Value → xM → Prop}  {l1 : Int32}   {s : St} {q : Int32 × St}   (h : J_X2_skipSeparator_16  l1  s = some q) (hq : Q (some (.int q.1)) (SH, q.2.1, q.2.2)) : wp (d + 1) mX2_skipSeparator 16 [some (.ref 80), some (.int l1)] [] (SH, s.1, s.2) Q := by
  unfold J_X2_skipSeparator_16 at h
  try dsimp only at h
  refine w_aload_n (j := 17) rfl rfl rfl ?_
  refine w_getR (j := 18) rfl rfl rfl rfl rfl rfl ?_
  refine w_aload_n (j := 19) rfl rfl rfl ?_
  refine w_getI (j := 20) rfl rfl rfl rfl rfl ?_
  obtain ⟨q4, hq4, h⟩ := Option.bind_eq_some_iff.mp h
  refine wc_AI_I (j := 21) (T := []) rfl rfl rfl rfl rfl rfl rfl rfl rfl rfl ?_
  refine R_X7_kindAt hq4 ⟨_, rfl, ?_⟩
  refine w_iconst (z := (3 : Int32)) (j := 22) rfl rfl rfl ?_
  rcases xite_inv h with ⟨c5, h⟩ | ⟨c5, h⟩
  · refine w_icmpne_f (j := 23) rfl c5 rfl ?_
    refine w_aload_n (j := 24) rfl rfl rfl ?_
    refine w_getR (j := 25) rfl rfl rfl rfl rfl rfl ?_
    refine w_aload_n (j := 26) rfl rfl rfl ?_
    refine w_getI (j := 27) rfl rfl rfl rfl rfl ?_
    refine w_iconst (z := (1 : Int32)) (j := 28) rfl rfl rfl ?_
    refine w_iadd (j := 29) rfl rfl ?_
    obtain ⟨q6, hq6, h⟩ := Option.bind_eq_some_iff.mp h
    refine wc_AI_I (j := 30) (T := []) rfl rfl rfl rfl rfl rfl rfl rfl rfl rfl ?_
    refine R_X7_kindAt hq6 ⟨_, rfl, ?_⟩
    refine w_bipush (z := (24 : Int32)) (j := 31) rfl rfl rfl ?_
    rcases xite_inv h with ⟨c7, h⟩ | ⟨c7, h⟩
    · refine w_icmpeq_t (j := 38) rfl c7 rfl ?_
      refine w_aload_n (j := 39) rfl rfl rfl ?_
      refine w_getI (j := 40) rfl rfl rfl rfl rfl ?_
      refine w_iload_n (j := 41) rfl rfl rfl ?_
      rcases xite_inv h with ⟨c8, h⟩ | ⟨c8, h⟩
      · refine w_icmple_t (j := 44) rfl c8 rfl ?_
        refine w_iconst (z := (0 : Int32)) (j := 45) rfl rfl rfl ?_
        obtain rfl := Option.some.inj h
        exact wp_ret rfl rfl rfl hq
      · refine w_icmple_f (j := 42) rfl c8 rfl ?_
        refine w_iconst (z := (1 : Int32)) (j := 43) rfl rfl rfl ?_
        refine w_goto (j := 45) rfl rfl ?_
        obtain rfl := Option.some.inj h
        exact wp_ret rfl rfl rfl hq
    · refine w_icmpeq_f (j := 32) rfl c7 rfl ?_
      refine w_aload_n (j := 33) rfl rfl rfl ?_
      refine w_dup (j := 34) rfl rfl rfl ?_
      refine w_getI (j := 35) rfl rfl rfl rfl rfl ?_
      refine w_iconst (z := (1 : Int32)) (j := 36) rfl rfl rfl ?_
      refine w_iadd (j := 37) rfl rfl ?_
      refine w_putI (j := 38) rfl rfl rfl rfl rfl ?_
      try dsimp only at h
      refine w_aload_n (j := 39) rfl rfl rfl ?_
      refine w_getI (j := 40) rfl rfl rfl rfl rfl ?_
      refine w_iload_n (j := 41) rfl rfl rfl ?_
      rcases xite_inv h with ⟨c10, h⟩ | ⟨c10, h⟩
      · refine w_icmple_t (j := 44) rfl c10 rfl ?_
        refine w_iconst (z := (0 : Int32)) (j := 45) rfl rfl rfl ?_
        obtain rfl := Option.some.inj h
        exact wp_ret rfl rfl rfl hq
      · refine w_icmple_f (j := 42) rfl c10 rfl ?_
        refine w_iconst (z := (1 : Int32)) (j := 43) rfl rfl rfl ?_
        refine w_goto (j := 45) rfl rfl ?_
        obtain rfl := Option.some.inj h
        exact wp_ret rfl rfl rfl hq
  · refine w_icmpne_t (j := 38) rfl c5 rfl ?_
    refine w_aload_n (j := 39) rfl rfl rfl ?_
    refine w_getI (j := 40) rfl rfl rfl rfl rfl ?_
    refine w_iload_n (j := 41) rfl rfl rfl ?_
    rcases xite_inv h with ⟨c11, h⟩ | ⟨c11, h⟩
    · refine w_icmple_t (j := 44) rfl c11 rfl ?_
      refine w_iconst (z := (0 : Int32)) (j := 45) rfl rfl rfl ?_
      obtain rfl := Option.some.inj h
      exact wp_ret rfl rfl rfl hq
    · refine w_icmple_f (j := 42) rfl c11 rfl ?_
      refine w_iconst (z := (1 : Int32)) (j := 43) rfl rfl rfl ?_
      refine w_goto (j := 45) rfl rfl ?_
      obtain rfl := Option.some.inj h
      exact wp_ret rfl rfl rfl hq
set_option maxHeartbeats 2000000 in
set_option maxRecDepth 20000 in
theorem R_X2_skipSeparator {d : Nat}  {s : St} {q : Int32 × St} {Q : Option Value → xM → Prop}  (h : F_X2_skipSeparator  s = some q) (hq : Q (some (.int q.1)) (SH, q.2.1, q.2.2)) : wp (d + 1) mX2_skipSeparator 0 [some (.ref 80), none] [] (SH, s.1, s.2) Q := by
  unfold F_X2_skipSeparator at h
  try dsimp only at h
  refine w_aload_n (j := 1) rfl rfl rfl ?_
  refine w_getI (j := 2) rfl rfl rfl rfl rfl ?_
  refine w_istore_n (j := 3) rfl (l1_1 rfl) rfl ?_
  refine w_aload_n (j := 4) rfl rfl rfl ?_
  refine w_getR (j := 5) rfl rfl rfl rfl rfl rfl ?_
  refine w_aload_n (j := 6) rfl rfl rfl ?_
  refine w_getI (j := 7) rfl rfl rfl rfl rfl ?_
  obtain ⟨q1, hq1, h⟩ := Option.bind_eq_some_iff.mp h
  refine wc_AI_I (j := 8) (T := []) rfl rfl rfl rfl rfl rfl rfl rfl rfl rfl ?_
  refine R_X7_kindAt hq1 ⟨_, rfl, ?_⟩
  refine w_bipush (z := (21 : Int32)) (j := 9) rfl rfl rfl ?_
  rcases xite_inv h with ⟨c2, h⟩ | ⟨c2, h⟩
  · refine w_icmpne_f (j := 10) rfl c2 rfl ?_
    refine w_aload_n (j := 11) rfl rfl rfl ?_
    refine w_dup (j := 12) rfl rfl rfl ?_
    refine w_getI (j := 13) rfl rfl rfl rfl rfl ?_
    refine w_iconst (z := (1 : Int32)) (j := 14) rfl rfl rfl ?_
    refine w_iadd (j := 15) rfl rfl ?_
    refine w_putI (j := 16) rfl rfl rfl rfl rfl ?_
    try dsimp only at h
    exact RJ_X2_skipSeparator_16   h hq
  · refine w_icmpne_t (j := 16) rfl c2 rfl ?_
    exact RJ_X2_skipSeparator_16   h hq
set_option maxHeartbeats 2000000 in
set_option maxRecDepth 20000 in
theorem RL_X5_remove_4 {d : Nat} {o : Nat} {Q : Option Value → xM → Prop} (ho : TL o) : ∀ (n : Nat) (l1 : Int32) (l2 : Int32) (l3 : Int32)  (s : St) (q : Int32 × St)   (h : L_X5_remove_4 o n l1 l2 l3 s = some q) (hq : ∀ (v3 : Option Value), wp (d + 1) mX5_remove 26 [some (.ref o), some (.int l1), some (.int q.1), v3] [] (SH, q.2.1, q.2.2) Q), wp (d + 1) mX5_remove 4 [some (.ref o), some (.int l1), some (.int l2), some (.int l3)] [] (SH, s.1, s.2) Q := by
  intro n
  induction n with
  | zero => intro l1 l2 l3 s q h; cases h
  | succ n ih =>
    intro l1 l2 l3 s q h hq
    unfold L_X5_remove_4 at h
    try dsimp only at h
    refine w_iload_n (j := 5) rfl rfl rfl ?_
    refine w_aload_n (j := 6) rfl rfl rfl ?_
    refine w_getI (j := 7) rfl ho.1 rfl rfl rfl ?_
    rcases xite_inv h with ⟨c1, h⟩ | ⟨c1, h⟩
    · refine w_icmpge_t (j := 26) rfl c1 rfl ?_
      obtain rfl := Option.some.inj h
      exact hq _
    · refine w_icmpge_f (j := 8) rfl c1 rfl ?_
      refine w_iload_n (j := 9) rfl rfl rfl ?_
      refine w_aload_n (j := 10) rfl rfl rfl ?_
      refine w_getR (j := 11) rfl ho.1 rfl rfl rfl rfl ?_
      refine w_iload_n (j := 12) rfl rfl rfl ?_
      rcases xite_inv h with ⟨g2, h⟩ | ⟨g2, h⟩
      · cases h
      · refine w_iaload (j := 13) rfl ho.2 g2 rfl ?_
        obtain ⟨q3, hq3, h⟩ := Option.bind_eq_some_iff.mp h
        refine wc_II_I (j := 14) (T := []) rfl rfl rfl rfl rfl rfl rfl rfl rfl rfl ?_
        refine R_X9_isIn hq3 ⟨_, rfl, ?_⟩
        rcases xite_inv h with ⟨c4, h⟩ | ⟨c4, h⟩
        · refine w_ifne_f (j := 15) rfl c4 rfl ?_
          refine w_aload_n (j := 16) rfl rfl rfl ?_
          refine w_getR (j := 17) rfl ho.1 rfl rfl rfl rfl ?_
          refine w_iload_n (j := 18) rfl rfl rfl ?_
          refine w_aload_n (j := 19) rfl rfl rfl ?_
          refine w_getR (j := 20) rfl ho.1 rfl rfl rfl rfl ?_
          refine w_iload_n (j := 21) rfl rfl rfl ?_
          refine w_iaload (j := 22) rfl ho.2 g2 rfl ?_
          rcases xite_inv h with ⟨g5, h⟩ | ⟨g5, h⟩
          · cases h
          · refine w_iastore (j := 23) rfl ho.2 g5 rfl ?_
            try dsimp only at h
            refine w_iinc (cc := (1 : Int32)) (j := 24) rfl rfl rfl (l1_2 rfl) rfl ?_
            refine w_iinc (cc := (1 : Int32)) (j := 25) rfl rfl rfl (l1_3 rfl) rfl ?_
            refine w_goto (j := 4) rfl rfl ?_
            exact ih _ _ _ _ _ h hq
        · refine w_ifne_t (j := 24) rfl c4 rfl ?_
          refine w_iinc (cc := (1 : Int32)) (j := 25) rfl rfl rfl (l1_3 rfl) rfl ?_
          refine w_goto (j := 4) rfl rfl ?_
          exact ih _ _ _ _ _ h hq
set_option maxHeartbeats 2000000 in
set_option maxRecDepth 20000 in
theorem R_X5_remove {d : Nat} {o : Nat} {a0 : Int32} {s : St} {q : St} {Q : Option Value → xM → Prop} (ho : TL o) (h : F_X5_remove o a0 s = some q) (hq : Q none (SH, q.1, q.2)) : wp (d + 1) mX5_remove 0 [some (.ref o), some (.int a0), none, none] [] (SH, s.1, s.2) Q := by
  unfold F_X5_remove at h
  try dsimp only at h
  refine w_iconst (z := (0 : Int32)) (j := 1) rfl rfl rfl ?_
  refine w_istore_n (j := 2) rfl (l1_2 rfl) rfl ?_
  refine w_iconst (z := (0 : Int32)) (j := 3) rfl rfl rfl ?_
  refine w_istore_n (j := 4) rfl (l1_3 rfl) rfl ?_
  obtain ⟨q7, hq7, h⟩ := Option.bind_eq_some_iff.mp h
  refine RL_X5_remove_4 ho _ _ _ _ _ _ hq7 (fun v8 => ?_)
  refine w_aload_n (j := 27) rfl rfl rfl ?_
  refine w_iload_n (j := 28) rfl rfl rfl ?_
  refine w_putI (j := 29) rfl ho.1 rfl rfl rfl ?_
  try dsimp only at h
  refine w_aload_n (j := 30) rfl rfl rfl ?_
  refine w_dup (j := 31) rfl rfl rfl ?_
  refine w_getI (j := 32) rfl ho.1 rfl rfl rfl ?_
  refine w_iload_n (j := 33) rfl rfl rfl ?_
  refine w_iconst (z := (-1 : Int32)) (j := 34) rfl rfl rfl ?_
  refine w_ixor (j := 35) rfl rfl ?_
  refine w_iand (j := 36) rfl rfl ?_
  refine w_putI (j := 37) rfl ho.1 rfl rfl rfl ?_
  try dsimp only at h
  obtain rfl := Option.some.inj h
  exact wp_vret rfl rfl rfl hq
set_option maxHeartbeats 2000000 in
set_option maxRecDepth 20000 in
theorem RL_X2_readList_9 {d : Nat} {a0 : Nat} {Q : Option Value → xM → Prop} (h0 : TL a0) : ∀ (n : Nat) (l2 : Nat) (l3 : Int32) (l4 : Int32)  (s : St) (q : Int32 × St) (hl2 : TL l2)  (h : L_X2_readList_9 a0 n l2 l3 l4 s = some q) (hq : Q (some (.int q.1)) (SH, q.2.1, q.2.2)), wp (d + 3) mX2_readList 9 [some (.ref 80), some (.ref a0), some (.ref l2), some (.int l3), some (.int l4)] [] (SH, s.1, s.2) Q := by
  intro n
  induction n with
  | zero => intro l2 l3 l4 s q hl2 h; cases h
  | succ n ih =>
    intro l2 l3 l4 s q hl2 h hq
    unfold L_X2_readList_9 at h
    try dsimp only at h
    refine w_iload (j := 10) rfl rfl rfl ?_
    refine w_sipush (z := (200 : Int32)) (j := 11) rfl rfl rfl ?_
    rcases xite_inv h with ⟨c2, h⟩ | ⟨c2, h⟩
    · refine w_icmpge_t (j := 47) rfl c2 rfl ?_
      refine w_aload_n (j := 48) rfl rfl rfl ?_
      refine w_aload_n (j := 49) rfl rfl rfl ?_
      refine w_getR (j := 50) rfl rfl rfl rfl rfl rfl ?_
      refine wc_A_I (j := 51) (T := []) rfl rfl rfl rfl rfl rfl rfl rfl rfl rfl ?_
      refine w_aload_n (j := 1) rfl rfl rfl ?_
      refine w_getI (j := 2) rfl rfl rfl rfl rfl ?_
      refine wp_ret rfl rfl rfl ⟨_, rfl, ?_⟩
      obtain ⟨q3, hq3, h⟩ := Option.bind_eq_some_iff.mp h
      refine wc_AI_V (j := 52) (T := [none, none]) rfl rfl rfl rfl rfl rfl rfl rfl (xrecv_s rfl rfl h0.1 rfl) rfl ?_
      refine R_X5_remove h0 hq3 ⟨rfl, ?_⟩
      refine w_aload_n (j := 53) rfl rfl rfl ?_
      refine wc_A_I (j := 54) (T := []) rfl rfl rfl rfl rfl rfl rfl rfl (xrecv_s rfl rfl h0.1 rfl) rfl ?_
      refine w_aload_n (j := 1) rfl rfl rfl ?_
      refine w_getI (j := 2) rfl h0.1 rfl rfl rfl ?_
      refine wp_ret rfl rfl rfl ⟨_, rfl, ?_⟩
      rcases xite_inv h with ⟨c4, h⟩ | ⟨c4, h⟩
      · refine w_ifgt_t (j := 60) rfl c4 rfl ?_
        refine w_iconst (z := (1 : Int32)) (j := 61) rfl rfl rfl ?_
        refine w_goto (j := 63) rfl rfl ?_
        obtain rfl := Option.some.inj h
        exact wp_ret rfl rfl rfl hq
      · refine w_ifgt_f (j := 55) rfl c4 rfl ?_
        refine w_aload_n (j := 56) rfl rfl rfl ?_
        refine w_iconst (z := (4 : Int32)) (j := 57) rfl rfl rfl ?_
        refine w_iload_n (j := 58) rfl rfl rfl ?_
        obtain ⟨q5, hq5, h⟩ := Option.bind_eq_some_iff.mp h
        refine wc_AII_I (j := 59) (T := []) rfl rfl rfl rfl rfl rfl rfl rfl rfl rfl ?_
        refine R_X2_fail hq5 ⟨_, rfl, ?_⟩
        rcases xite_inv h with ⟨c6, h⟩ | ⟨c6, h⟩
        · refine w_ifeq_t (j := 62) rfl c6 rfl ?_
          refine w_iconst (z := (0 : Int32)) (j := 63) rfl rfl rfl ?_
          obtain rfl := Option.some.inj h
          exact wp_ret rfl rfl rfl hq
        · refine w_ifeq_f (j := 60) rfl c6 rfl ?_
          refine w_iconst (z := (1 : Int32)) (j := 61) rfl rfl rfl ?_
          refine w_goto (j := 63) rfl rfl ?_
          obtain rfl := Option.some.inj h
          exact wp_ret rfl rfl rfl hq
    · refine w_icmpge_f (j := 12) rfl c2 rfl ?_
      refine w_aload_n (j := 13) rfl rfl rfl ?_
      refine w_aload_n (j := 14) rfl rfl rfl ?_
      obtain ⟨q7, hq7, h⟩ := Option.bind_eq_some_iff.mp h
      refine wc_AA_I (j := 15) (T := [none, none, none]) rfl rfl rfl rfl rfl rfl rfl rfl rfl rfl ?_
      refine R_X2_readItem hl2 hq7 ⟨_, rfl, ?_⟩
      rcases xite_inv h with ⟨c8, h⟩ | ⟨c8, h⟩
      · refine w_ifne_f (j := 16) rfl c8 rfl ?_
        refine w_iconst (z := (0 : Int32)) (j := 17) rfl rfl rfl ?_
        obtain rfl := Option.some.inj h
        exact wp_ret rfl rfl rfl hq
      · refine w_ifne_t (j := 18) rfl c8 rfl ?_
        refine w_aload_n (j := 19) rfl rfl rfl ?_
        obtain ⟨q9, hq9, h⟩ := Option.bind_eq_some_iff.mp h
        refine wc_A_I (j := 20) (T := [none]) rfl rfl rfl rfl rfl rfl rfl rfl rfl rfl ?_
        refine R_X2_skipSeparator hq9 ⟨_, rfl, ?_⟩
        rcases xite_inv h with ⟨c10, h⟩ | ⟨c10, h⟩
        · refine w_ifeq_t (j := 22) rfl c10 rfl ?_
          refine w_aload_n (j := 23) rfl rfl rfl ?_
          refine w_getR (j := 24) rfl rfl rfl rfl rfl rfl ?_
          refine w_aload_n (j := 25) rfl rfl rfl ?_
          refine w_getI (j := 26) rfl rfl rfl rfl rfl ?_
          obtain ⟨q11, hq11, h⟩ := Option.bind_eq_some_iff.mp h
          refine wc_AI_I (j := 27) (T := []) rfl rfl rfl rfl rfl rfl rfl rfl rfl rfl ?_
          refine R_X7_kindAt hq11 ⟨_, rfl, ?_⟩
          refine w_bipush (z := (20 : Int32)) (j := 28) rfl rfl rfl ?_
          rcases xite_inv h with ⟨c12, h⟩ | ⟨c12, h⟩
          · refine w_icmpne_f (j := 29) rfl c12 rfl ?_
            refine w_iload_n (j := 30) rfl rfl rfl ?_
            refine w_bipush (z := (-4 : Int32)) (j := 31) rfl rfl rfl ?_
            rcases xite_inv h with ⟨c13, h⟩ | ⟨c13, h⟩
            · refine w_icmpeq_t (j := 33) rfl c13 rfl ?_
              refine w_aload_n (j := 34) rfl rfl rfl ?_
              refine w_getI (j := 35) rfl rfl rfl rfl rfl ?_
              refine w_istore_n (j := 36) rfl (l1_3 rfl) rfl ?_
              refine w_aload_n (j := 37) rfl rfl rfl ?_
              refine w_dup (j := 38) rfl rfl rfl ?_
              refine w_getI (j := 39) rfl rfl rfl rfl rfl ?_
              refine w_iconst (z := (1 : Int32)) (j := 40) rfl rfl rfl ?_
              refine w_iadd (j := 41) rfl rfl ?_
              refine w_putI (j := 42) rfl rfl rfl rfl rfl ?_
              try dsimp only at h
              refine w_aload_n (j := 43) rfl rfl rfl ?_
              refine w_getR (j := 44) rfl rfl rfl rfl rfl rfl ?_
              refine w_astore_n (j := 45) rfl (l1_2 rfl) rfl ?_
              refine w_iinc (cc := (1 : Int32)) (j := 46) rfl rfl rfl (l1_4 rfl) rfl ?_
              refine w_goto (j := 9) rfl rfl ?_
              exact ih _ _ _ _ _ (show TL 90 from ⟨rfl, rfl⟩) h hq
            · refine w_icmpeq_f (j := 32) rfl c13 rfl ?_
              refine w_goto (j := 47) rfl rfl ?_
              refine w_aload_n (j := 48) rfl rfl rfl ?_
              refine w_aload_n (j := 49) rfl rfl rfl ?_
              refine w_getR (j := 50) rfl rfl rfl rfl rfl rfl ?_
              refine wc_A_I (j := 51) (T := []) rfl rfl rfl rfl rfl rfl rfl rfl rfl rfl ?_
              refine w_aload_n (j := 1) rfl rfl rfl ?_
              refine w_getI (j := 2) rfl rfl rfl rfl rfl ?_
              refine wp_ret rfl rfl rfl ⟨_, rfl, ?_⟩
              obtain ⟨q15, hq15, h⟩ := Option.bind_eq_some_iff.mp h
              refine wc_AI_V (j := 52) (T := [none, none]) rfl rfl rfl rfl rfl rfl rfl rfl (xrecv_s rfl rfl h0.1 rfl) rfl ?_
              refine R_X5_remove h0 hq15 ⟨rfl, ?_⟩
              refine w_aload_n (j := 53) rfl rfl rfl ?_
              refine wc_A_I (j := 54) (T := []) rfl rfl rfl rfl rfl rfl rfl rfl (xrecv_s rfl rfl h0.1 rfl) rfl ?_
              refine w_aload_n (j := 1) rfl rfl rfl ?_
              refine w_getI (j := 2) rfl h0.1 rfl rfl rfl ?_
              refine wp_ret rfl rfl rfl ⟨_, rfl, ?_⟩
              rcases xite_inv h with ⟨c16, h⟩ | ⟨c16, h⟩
              · refine w_ifgt_t (j := 60) rfl c16 rfl ?_
                refine w_iconst (z := (1 : Int32)) (j := 61) rfl rfl rfl ?_
                refine w_goto (j := 63) rfl rfl ?_
                obtain rfl := Option.some.inj h
                exact wp_ret rfl rfl rfl hq
              · refine w_ifgt_f (j := 55) rfl c16 rfl ?_
                refine w_aload_n (j := 56) rfl rfl rfl ?_
                refine w_iconst (z := (4 : Int32)) (j := 57) rfl rfl rfl ?_
                refine w_iload_n (j := 58) rfl rfl rfl ?_
                obtain ⟨q17, hq17, h⟩ := Option.bind_eq_some_iff.mp h
                refine wc_AII_I (j := 59) (T := []) rfl rfl rfl rfl rfl rfl rfl rfl rfl rfl ?_
                refine R_X2_fail hq17 ⟨_, rfl, ?_⟩
                rcases xite_inv h with ⟨c18, h⟩ | ⟨c18, h⟩
                · refine w_ifeq_t (j := 62) rfl c18 rfl ?_
                  refine w_iconst (z := (0 : Int32)) (j := 63) rfl rfl rfl ?_
                  obtain rfl := Option.some.inj h
                  exact wp_ret rfl rfl rfl hq
                · refine w_ifeq_f (j := 60) rfl c18 rfl ?_
                  refine w_iconst (z := (1 : Int32)) (j := 61) rfl rfl rfl ?_
                  refine w_goto (j := 63) rfl rfl ?_
                  obtain rfl := Option.some.inj h
                  exact wp_ret rfl rfl rfl hq
          · refine w_icmpne_t (j := 47) rfl c12 rfl ?_
            refine w_aload_n (j := 48) rfl rfl rfl ?_
            refine w_aload_n (j := 49) rfl rfl rfl ?_
            refine w_getR (j := 50) rfl rfl rfl rfl rfl rfl ?_
            refine wc_A_I (j := 51) (T := []) rfl rfl rfl rfl rfl rfl rfl rfl rfl rfl ?_
            refine w_aload_n (j := 1) rfl rfl rfl ?_
            refine w_getI (j := 2) rfl rfl rfl rfl rfl ?_
            refine wp_ret rfl rfl rfl ⟨_, rfl, ?_⟩
            obtain ⟨q19, hq19, h⟩ := Option.bind_eq_some_iff.mp h
            refine wc_AI_V (j := 52) (T := [none, none]) rfl rfl rfl rfl rfl rfl rfl rfl (xrecv_s rfl rfl h0.1 rfl) rfl ?_
            refine R_X5_remove h0 hq19 ⟨rfl, ?_⟩
            refine w_aload_n (j := 53) rfl rfl rfl ?_
            refine wc_A_I (j := 54) (T := []) rfl rfl rfl rfl rfl rfl rfl rfl (xrecv_s rfl rfl h0.1 rfl) rfl ?_
            refine w_aload_n (j := 1) rfl rfl rfl ?_
            refine w_getI (j := 2) rfl h0.1 rfl rfl rfl ?_
            refine wp_ret rfl rfl rfl ⟨_, rfl, ?_⟩
            rcases xite_inv h with ⟨c20, h⟩ | ⟨c20, h⟩
            · refine w_ifgt_t (j := 60) rfl c20 rfl ?_
              refine w_iconst (z := (1 : Int32)) (j := 61) rfl rfl rfl ?_
              refine w_goto (j := 63) rfl rfl ?_
              obtain rfl := Option.some.inj h
              exact wp_ret rfl rfl rfl hq
            · refine w_ifgt_f (j := 55) rfl c20 rfl ?_
              refine w_aload_n (j := 56) rfl rfl rfl ?_
              refine w_iconst (z := (4 : Int32)) (j := 57) rfl rfl rfl ?_
              refine w_iload_n (j := 58) rfl rfl rfl ?_
              obtain ⟨q21, hq21, h⟩ := Option.bind_eq_some_iff.mp h
              refine wc_AII_I (j := 59) (T := []) rfl rfl rfl rfl rfl rfl rfl rfl rfl rfl ?_
              refine R_X2_fail hq21 ⟨_, rfl, ?_⟩
              rcases xite_inv h with ⟨c22, h⟩ | ⟨c22, h⟩
              · refine w_ifeq_t (j := 62) rfl c22 rfl ?_
                refine w_iconst (z := (0 : Int32)) (j := 63) rfl rfl rfl ?_
                obtain rfl := Option.some.inj h
                exact wp_ret rfl rfl rfl hq
              · refine w_ifeq_f (j := 60) rfl c22 rfl ?_
                refine w_iconst (z := (1 : Int32)) (j := 61) rfl rfl rfl ?_
                refine w_goto (j := 63) rfl rfl ?_
                obtain rfl := Option.some.inj h
                exact wp_ret rfl rfl rfl hq
        · refine w_ifeq_f (j := 21) rfl c10 rfl ?_
          refine w_goto (j := 45) rfl rfl ?_
          refine w_iinc (cc := (1 : Int32)) (j := 46) rfl rfl rfl (l1_4 rfl) rfl ?_
          refine w_goto (j := 9) rfl rfl ?_
          exact ih _ _ _ _ _ hl2 h hq
set_option maxHeartbeats 2000000 in
set_option maxRecDepth 20000 in
theorem R_X2_readList {d : Nat} {a0 : Nat} {s : St} {q : Int32 × St} {Q : Option Value → xM → Prop} (h0 : TL a0) (h : F_X2_readList a0 s = some q) (hq : Q (some (.int q.1)) (SH, q.2.1, q.2.2)) : wp (d + 3) mX2_readList 0 [some (.ref 80), some (.ref a0), none, none, none] [] (SH, s.1, s.2) Q := by
  unfold F_X2_readList at h
  try dsimp only at h
  refine w_aload_n (j := 1) rfl rfl rfl ?_
  refine w_astore_n (j := 2) rfl (l1_2 rfl) rfl ?_
  refine w_bipush (z := (-4 : Int32)) (j := 3) rfl rfl rfl ?_
  refine w_istore_n (j := 4) rfl (l1_3 rfl) rfl ?_
  refine w_aload_n (j := 5) rfl rfl rfl ?_
  refine w_getR (j := 6) rfl rfl rfl rfl rfl rfl ?_
  obtain ⟨q1, hq1, h⟩ := Option.bind_eq_some_iff.mp h
  refine wc_A_V (j := 7) (T := []) rfl rfl rfl rfl rfl rfl rfl rfl rfl rfl ?_
  refine R_X5_clear (show TL 90 from ⟨rfl, rfl⟩) hq1 ⟨rfl, ?_⟩
  refine w_iconst (z := (0 : Int32)) (j := 8) rfl rfl rfl ?_
  refine w_istore (j := 9) rfl (l1_4 rfl) rfl ?_
  exact RL_X2_readList_9 h0 _ _ _ _ _ _ h0 h hq
