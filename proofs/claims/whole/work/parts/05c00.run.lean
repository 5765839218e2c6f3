set_option maxHeartbeats 2000000 in
set_option maxRecDepth 20000 in
theorem R_X5_clear {d : Nat} {o : Nat} {s : St} {q : St} {Q : Option Value → xM → Prop} (ho : TL o) (h : F_X5_clear o s = some q) (hq : Q none (SH, q.1, q.2)) : wp (d + 0) mX5_clear 0 [some (.ref o)] [] (SH, s.1, s.2) Q := by
  unfold F_X5_clear at h
  try dsimp only at h
  refine w_aload_n (j := 1) rfl rfl rfl ?_
  refine w_iconst (z := (0 : Int32)) (j := 2) rfl rfl rfl ?_
  refine w_putI (j := 3) rfl ho.1 rfl rfl rfl ?_
  try dsimp only at h
  refine w_aload_n (j := 4) rfl rfl rfl ?_
  refine w_iconst (z := (0 : Int32)) (j := 5) rfl rfl rfl ?_
  refine w_putI (j := 6) rfl ho.1 rfl rfl rfl ?_
  try dsimp only at h
  obtain rfl := Option.some.inj h
  exact wp_vret rfl rfl rfl hq
set_option maxHeartbeats 2000000 in
set_option maxRecDepth 20000 in
theorem R_X0_startVerb {d : Nat} {o : Nat} {a0 : Int32} {s : St} {q : St} {Q : Option Value → xM → Prop} (ho : OR o) (h : F_X0_startVerb o a0 s = some q) (hq : Q none (SH, q.1, q.2)) : wp (d + 1) mX0_startVerb 0 [some (.ref o), some (.int a0)] [] (SH, s.1, s.2) Q := by
  unfold F_X0_startVerb at h
  try dsimp only at h
  refine w_aload_n (j := 1) rfl rfl rfl ?_
  refine w_iload_n (j := 2) rfl rfl rfl ?_
  refine w_putI (j := 3) rfl ho.1 rfl rfl rfl ?_
  try dsimp only at h
  refine w_aload_n (j := 4) rfl rfl rfl ?_
  refine w_bipush (z := (-4 : Int32)) (j := 5) rfl rfl rfl ?_
  refine w_putI (j := 6) rfl ho.1 rfl rfl rfl ?_
  try dsimp only at h
  refine w_aload_n (j := 7) rfl rfl rfl ?_
  refine w_getR (j := 8) rfl ho.1 rfl rfl rfl rfl ?_
  obtain ⟨q3, hq3, h⟩ := Option.bind_eq_some_iff.mp h
  refine wc_A_V (j := 9) (T := []) rfl rfl rfl rfl rfl rfl rfl rfl (xrecv_s rfl rfl ho.2.1.1 rfl) rfl ?_
  refine R_X5_clear ho.2.1 hq3 ⟨rfl, ?_⟩
  refine w_aload_n (j := 10) rfl rfl rfl ?_
  refine w_getR (j := 11) rfl ho.1 rfl rfl rfl rfl ?_
  obtain ⟨q4, hq4, h⟩ := Option.bind_eq_some_iff.mp h
  refine wc_A_V (j := 12) (T := []) rfl rfl rfl rfl rfl rfl rfl rfl (xrecv_s rfl rfl ho.2.2.1 rfl) rfl ?_
  refine R_X5_clear ho.2.2 hq4 ⟨rfl, ?_⟩
  obtain rfl := Option.some.inj h
  exact wp_vret rfl rfl rfl hq
set_option maxHeartbeats 2000000 in
set_option maxRecDepth 20000 in
theorem RL_X5_copyFrom_2 {d : Nat} {o : Nat} {a0 : Nat} {Q : Option Value → xM → Prop} (ho : TL o) (h0 : TL a0) : ∀ (n : Nat) (l2 : Int32)  (s : St) (q : St)   (h : L_X5_copyFrom_2 o a0 n l2 s = some q) (hq : ∀ (v2 : Option Value), wp (d + 0) mX5_copyFrom 16 [some (.ref o), some (.ref a0), v2] [] (SH, q.1, q.2) Q), wp (d + 0) mX5_copyFrom 2 [some (.ref o), some (.ref a0), some (.int l2)] [] (SH, s.1, s.2) Q := by
  intro n
  induction n with
  | zero => intro l2 s q h; cases h
  | succ n ih =>
    intro l2 s q h hq
    unfold L_X5_copyFrom_2 at h
    try dsimp only at h
    refine w_iload_n (j := 3) rfl rfl rfl ?_
    refine w_aload_n (j := 4) rfl rfl rfl ?_
    refine w_getI (j := 5) rfl h0.1 rfl rfl rfl ?_
    rcases xite_inv h with ⟨c1, h⟩ | ⟨c1, h⟩
    · refine w_icmpge_t (j := 16) rfl c1 rfl ?_
      obtain rfl := Option.some.inj h
      exact hq _
    · refine w_icmpge_f (j := 6) rfl c1 rfl ?_
      refine w_aload_n (j := 7) rfl rfl rfl ?_
      refine w_getR (j := 8) rfl ho.1 rfl rfl rfl rfl ?_
      refine w_iload_n (j := 9) rfl rfl rfl ?_
      refine w_aload_n (j := 10) rfl rfl rfl ?_
      refine w_getR (j := 11) rfl h0.1 rfl rfl rfl rfl ?_
      refine w_iload_n (j := 12) rfl rfl rfl ?_
      rcases xite_inv h with ⟨g2, h⟩ | ⟨g2, h⟩
      · cases h
      · refine w_iaload (j := 13) rfl h0.2 g2 rfl ?_
        refine w_iastore (j := 14) rfl ho.2 g2 rfl ?_
        try dsimp only at h
        refine w_iinc (cc := (1 : Int32)) (j := 15) rfl rfl rfl (l1_2 rfl) rfl ?_
        refine w_goto (j := 2) rfl rfl ?_
        exact ih _ _ _ h hq
set_option maxHeartbeats 2000000 in
set_option maxRecDepth 20000 in
theorem R_X5_copyFrom {d : Nat} {o : Nat} {a0 : Nat} {s : St} {q : St} {Q : Option Value → xM → Prop} (ho : TL o) (h0 : TL a0) (h : F_X5_copyFrom o a0 s = some q) (hq : Q none (SH, q.1, q.2)) : wp (d + 0) mX5_copyFrom 0 [some (.ref o), some (.ref a0), none] [] (SH, s.1, s.2) Q := by
  unfold F_X5_copyFrom at h
  try dsimp only at h
  refine w_iconst (z := (0 : Int32)) (j := 1) rfl rfl rfl ?_
  refine w_istore_n (j := 2) rfl (l1_2 rfl) rfl ?_
  obtain ⟨q4, hq4, h⟩ := Option.bind_eq_some_iff.mp h
  refine RL_X5_copyFrom_2 ho h0 _ _ _ _ hq4 (fun v5 => ?_)
  refine w_aload_n (j := 17) rfl rfl rfl ?_
  refine w_aload_n (j := 18) rfl rfl rfl ?_
  refine w_getI (j := 19) rfl h0.1 rfl rfl rfl ?_
  refine w_putI (j := 20) rfl ho.1 rfl rfl rfl ?_
  try dsimp only at h
  refine w_aload_n (j := 21) rfl rfl rfl ?_
  refine w_aload_n (j := 22) rfl rfl rfl ?_
  refine w_getI (j := 23) rfl h0.1 rfl rfl rfl ?_
  refine w_putI (j := 24) rfl ho.1 rfl rfl rfl ?_
  try dsimp only at h
  obtain rfl := Option.some.inj h
  exact wp_vret rfl rfl rfl hq
set_option maxHeartbeats 2000000 in
set_option maxRecDepth 20000 in
theorem R_X0_copyFrom {d : Nat} {o : Nat} {a0 : Nat} {s : St} {q : St} {Q : Option Value → xM → Prop} (ho : OR o) (h0 : OR a0) (h : F_X0_copyFrom o a0 s = some q) (hq : Q none (SH, q.1, q.2)) : wp (d + 1) mX0_copyFrom 0 [some (.ref o), some (.ref a0)] [] (SH, s.1, s.2) Q := by
  unfold F_X0_copyFrom at h
  try dsimp only at h
  refine w_aload_n (j := 1) rfl rfl rfl ?_
  refine w_aload_n (j := 2) rfl rfl rfl ?_
  refine w_getI (j := 3) rfl h0.1 rfl rfl rfl ?_
  refine w_putI (j := 4) rfl ho.1 rfl rfl rfl ?_
  try dsimp only at h
  refine w_aload_n (j := 5) rfl rfl rfl ?_
  refine w_aload_n (j := 6) rfl rfl rfl ?_
  refine w_getI (j := 7) rfl h0.1 rfl rfl rfl ?_
  refine w_putI (j := 8) rfl ho.1 rfl rfl rfl ?_
  try dsimp only at h
  refine w_aload_n (j := 9) rfl rfl rfl ?_
  refine w_aload_n (j := 10) rfl rfl rfl ?_
  refine w_getI (j := 11) rfl h0.1 rfl rfl rfl ?_
  refine w_putI (j := 12) rfl ho.1 rfl rfl rfl ?_
  try dsimp only at h
  refine w_aload_n (j := 13) rfl rfl rfl ?_
  refine w_getR (j := 14) rfl ho.1 rfl rfl rfl rfl ?_
  refine w_aload_n (j := 15) rfl rfl rfl ?_
  refine w_getR (j := 16) rfl h0.1 rfl rfl rfl rfl ?_
  obtain ⟨q4, hq4, h⟩ := Option.bind_eq_some_iff.mp h
  refine wc_AA_V (j := 17) (T := [none]) rfl rfl rfl rfl rfl rfl rfl rfl (xrecv_s rfl rfl ho.2.1.1 rfl) rfl ?_
  refine R_X5_copyFrom ho.2.1 h0.2.1 hq4 ⟨rfl, ?_⟩
  refine w_aload_n (j := 18) rfl rfl rfl ?_
  refine w_getR (j := 19) rfl ho.1 rfl rfl rfl rfl ?_
  refine w_aload_n (j := 20) rfl rfl rfl ?_
  refine w_getR (j := 21) rfl h0.1 rfl rfl rfl rfl ?_
  obtain ⟨q5, hq5, h⟩ := Option.bind_eq_some_iff.mp h
  refine wc_AA_V (j := 22) (T := [none]) rfl rfl rfl rfl rfl rfl rfl rfl (xrecv_s rfl rfl ho.2.2.1 rfl) rfl ?_
  refine R_X5_copyFrom ho.2.2 h0.2.2 hq5 ⟨rfl, ?_⟩
  obtain rfl := Option.some.inj h
  exact wp_vret rfl rfl rfl hq
set_option maxHeartbeats 2000000 in
set_option maxRecDepth 20000 in
theorem R_X9_bitOf {d : Nat} {a0 : Int32} {s : St} {q : Int32 × St} {Q : Option Value → xM → Prop}  (h : F_X9_bitOf a0 s = some q) (hq : Q (some (.int q.1)) (SH, q.2.1, q.2.2)) : wp (d + 0) mX9_bitOf 0 [some (.int a0)] [] (SH, s.1, s.2) Q := by
  unfold F_X9_bitOf at h
  try dsimp only at h
  refine w_iload_n (j := 1) rfl rfl rfl ?_
  rcases xite_inv h with ⟨c1, h⟩ | ⟨c1, h⟩
  · refine w_iflt_t (j := 9) rfl c1 rfl ?_
    refine w_iconst (z := (0 : Int32)) (j := 10) rfl rfl rfl ?_
    obtain rfl := Option.some.inj h
    exact wp_ret rfl rfl rfl hq
  · refine w_iflt_f (j := 2) rfl c1 rfl ?_
    refine w_iload_n (j := 3) rfl rfl rfl ?_
    refine w_bipush (z := (24 : Int32)) (j := 4) rfl rfl rfl ?_
    rcases xite_inv h with ⟨c2, h⟩ | ⟨c2, h⟩
    · refine w_icmpge_t (j := 9) rfl c2 rfl ?_
      refine w_iconst (z := (0 : Int32)) (j := 10) rfl rfl rfl ?_
      obtain rfl := Option.some.inj h
      exact wp_ret rfl rfl rfl hq
    · refine w_icmpge_f (j := 5) rfl c2 rfl ?_
      refine w_iconst (z := (1 : Int32)) (j := 6) rfl rfl rfl ?_
      refine w_iload_n (j := 7) rfl rfl rfl ?_
      refine w_ishl (j := 8) rfl rfl ?_
      refine w_goto (j := 10) rfl rfl ?_
      obtain rfl := Option.some.inj h
      exact wp_ret rfl rfl rfl hq
set_option maxHeartbeats 2000000 in
set_option maxRecDepth 20000 in
theorem R_X0_members {d : Nat} {o : Nat} {s : St} {q : Int32 × St} {Q : Option Value → xM → Prop} (ho : OR o) (h : F_X0_members o s = some q) (hq : Q (some (.int q.1)) (SH, q.2.1, q.2.2)) : wp (d + 1) mX0_members 0 [some (.ref o)] [] (SH, s.1, s.2) Q := by
  unfold F_X0_members at h
  try dsimp only at h
  refine w_aload_n (j := 1) rfl rfl rfl ?_
  refine w_getI (j := 2) rfl ho.1 rfl rfl rfl ?_
  obtain ⟨q1, hq1, h⟩ := Option.bind_eq_some_iff.mp h
  refine wc_I_I (j := 3) (T := []) rfl rfl rfl rfl rfl rfl rfl rfl rfl rfl ?_
  refine R_X9_bitOf hq1 ⟨_, rfl, ?_⟩
  refine w_aload_n (j := 4) rfl rfl rfl ?_
  refine w_getR (j := 5) rfl ho.1 rfl rfl rfl rfl ?_
  refine wc_A_I (j := 6) (T := []) rfl rfl rfl rfl rfl rfl rfl rfl (xrecv_s rfl rfl ho.2.1.1 rfl) rfl ?_
  refine w_aload_n (j := 1) rfl rfl rfl ?_
  refine w_getI (j := 2) rfl ho.2.1.1 rfl rfl rfl ?_
  refine wp_ret rfl rfl rfl ⟨_, rfl, ?_⟩
  refine w_ior (j := 7) rfl rfl ?_
  refine w_aload_n (j := 8) rfl rfl rfl ?_
  refine w_getR (j := 9) rfl ho.1 rfl rfl rfl rfl ?_
  refine wc_A_I (j := 10) (T := []) rfl rfl rfl rfl rfl rfl rfl rfl (xrecv_s rfl rfl ho.2.2.1 rfl) rfl ?_
  refine w_aload_n (j := 1) rfl rfl rfl ?_
  refine w_getI (j := 2) rfl ho.2.2.1 rfl rfl rfl ?_
  refine wp_ret rfl rfl rfl ⟨_, rfl, ?_⟩
  refine w_ior (j := 11) rfl rfl ?_
  obtain rfl := Option.some.inj h
  exact wp_ret rfl rfl rfl hq
set_option maxHeartbeats 2000000 in
set_option maxRecDepth 20000 in
theorem R_X1_startLine {d : Nat}  {s : St} {q : St} {Q : Option Value → xM → Prop}  (h : F_X1_startLine  s = some q) (hq : Q none (SH, q.1, q.2)) : wp (d + 0) mX1_startLine 0 [some (.ref 23)] [] (SH, s.1, s.2) Q := by
  unfold F_X1_startLine at h
  try dsimp only at h
  refine w_aload_n (j := 1) rfl rfl rfl ?_
  refine w_iconst (z := (0 : Int32)) (j := 2) rfl rfl rfl ?_
  refine w_putI (j := 3) rfl rfl rfl rfl rfl ?_
  try dsimp only at h
  obtain rfl := Option.some.inj h
  exact wp_vret rfl rfl rfl hq
set_option maxHeartbeats 2000000 in
set_option maxRecDepth 20000 in
theorem R_X1_areFull {d : Nat}  {s : St} {q : Int32 × St} {Q : Option Value → xM → Prop}  (h : F_X1_areFull  s = some q) (hq : Q (some (.int q.1)) (SH, q.2.1, q.2.2)) : wp (d + 0) mX1_areFull 0 [some (.ref 23)] [] (SH, s.1, s.2) Q := by
  unfold F_X1_areFull at h
  try dsimp only at h
  refine w_aload_n (j := 1) rfl rfl rfl ?_
  refine w_getI (j := 2) rfl rfl rfl rfl rfl ?_
  refine w_bipush (z := (10 : Int32)) (j := 3) rfl rfl rfl ?_
  rcases xite_inv h with ⟨c1, h⟩ | ⟨c1, h⟩
  · refine w_icmplt_t (j := 6) rfl c1 rfl ?_
    refine w_iconst (z := (0 : Int32)) (j := 7) rfl rfl rfl ?_
    obtain rfl := Option.some.inj h
    exact wp_ret rfl rfl rfl hq
  · refine w_icmplt_f (j := 4) rfl c1 rfl ?_
    refine w_iconst (z := (1 : Int32)) (j := 5) rfl rfl rfl ?_
    refine w_goto (j := 7) rfl rfl ?_
    obtain rfl := Option.some.inj h
    exact wp_ret rfl rfl rfl hq
set_option maxHeartbeats 2000000 in
set_option maxRecDepth 20000 in
theorem R_X1_keep {d : Nat} {a0 : Nat} {s : St} {q : St} {Q : Option Value → xM → Prop} (h0 : OR a0) (h : F_X1_keep a0 s = some q) (hq : Q none (SH, q.1, q.2)) : wp (d + 2) mX1_keep 0 [some (.ref 23), some (.ref a0)] [] (SH, s.1, s.2) Q := by
  unfold F_X1_keep at h
  try dsimp only at h
  refine w_aload_n (j := 1) rfl rfl rfl ?_
  refine w_getI (j := 2) rfl rfl rfl rfl rfl ?_
  refine w_bipush (z := (10 : Int32)) (j := 3) rfl rfl rfl ?_
  rcases xite_inv h with ⟨c1, h⟩ | ⟨c1, h⟩
  · refine w_icmpge_t (j := 27) rfl c1 rfl ?_
    obtain rfl := Option.some.inj h
    exact wp_vret rfl rfl rfl hq
  · refine w_icmpge_f (j := 4) rfl c1 rfl ?_
    refine w_aload_n (j := 5) rfl rfl rfl ?_
    refine w_getR (j := 6) rfl rfl rfl rfl rfl rfl ?_
    refine w_aload_n (j := 7) rfl rfl rfl ?_
    refine w_getI (j := 8) rfl rfl rfl rfl rfl ?_
    rcases xite_inv h with ⟨g2, h⟩ | ⟨g2, h⟩
    · cases h
    · have k3 := kept_OR g2
      refine w_aaload (j := 9) rfl rfl g2 (kept_get g2) rfl ?_
      refine w_aload_n (j := 10) rfl rfl rfl ?_
      obtain ⟨q4, hq4, h⟩ := Option.bind_eq_some_iff.mp h
      refine wc_AA_V (j := 11) (T := []) rfl rfl rfl rfl rfl rfl rfl rfl (xrecv_s rfl rfl k3.1 rfl) rfl ?_
      refine R_X0_copyFrom k3 h0 hq4 ⟨rfl, ?_⟩
      refine w_aload_n (j := 12) rfl rfl rfl ?_
      refine w_getR (j := 13) rfl rfl rfl rfl rfl rfl ?_
      refine w_aload_n (j := 14) rfl rfl rfl ?_
      obtain ⟨q5, hq5, h⟩ := Option.bind_eq_some_iff.mp h
      refine wc_AA_V (j := 15) (T := []) rfl rfl rfl rfl rfl rfl rfl rfl rfl rfl ?_
      refine R_X0_copyFrom (show OR 25 from ⟨rfl, ⟨rfl, rfl⟩, ⟨rfl, rfl⟩⟩) h0 hq5 ⟨rfl, ?_⟩
      refine w_aload_n (j := 16) rfl rfl rfl ?_
      refine w_dup (j := 17) rfl rfl rfl ?_
      refine w_getI (j := 18) rfl rfl rfl rfl rfl ?_
      refine w_iconst (z := (1 : Int32)) (j := 19) rfl rfl rfl ?_
      refine w_iadd (j := 20) rfl rfl ?_
      refine w_putI (j := 21) rfl rfl rfl rfl rfl ?_
      try dsimp only at h
      refine w_aload_n (j := 22) rfl rfl rfl ?_
      refine w_dup (j := 23) rfl rfl rfl ?_
      refine w_getI (j := 24) rfl rfl rfl rfl rfl ?_
      refine w_iconst (z := (1 : Int32)) (j := 25) rfl rfl rfl ?_
      refine w_iadd (j := 26) rfl rfl ?_
      refine w_putI (j := 27) rfl rfl rfl rfl rfl ?_
      try dsimp only at h
      obtain rfl := Option.some.inj h
      exact wp_vret rfl rfl rfl hq
set_option maxHeartbeats 2000000 in
set_option maxRecDepth 20000 in
theorem R_X7_placeAt {d : Nat} {a0 : Int32} {s : St} {q : Int32 × St} {Q : Option Value → xM → Prop}  (h : F_X7_placeAt a0 s = some q) (hq : Q (some (.int q.1)) (SH, q.2.1, q.2.2)) : wp (d + 0) mX7_placeAt 0 [some (.ref 81), some (.int a0)] [] (SH, s.1, s.2) Q := by
  unfold F_X7_placeAt at h
  try dsimp only at h
  refine w_iload_n (j := 1) rfl rfl rfl ?_
  rcases xite_inv h with ⟨c1, h⟩ | ⟨c1, h⟩
  · refine w_iflt_t (j := 11) rfl c1 rfl ?_
    refine w_aload_n (j := 12) rfl rfl rfl ?_
    refine w_getI (j := 13) rfl rfl rfl rfl rfl ?_
    obtain rfl := Option.some.inj h
    exact wp_ret rfl rfl rfl hq
  · refine w_iflt_f (j := 2) rfl c1 rfl ?_
    refine w_iload_n (j := 3) rfl rfl rfl ?_
    refine w_aload_n (j := 4) rfl rfl rfl ?_
    refine w_getI (j := 5) rfl rfl rfl rfl rfl ?_
    rcases xite_inv h with ⟨c2, h⟩ | ⟨c2, h⟩
    · refine w_icmpge_t (j := 11) rfl c2 rfl ?_
      refine w_aload_n (j := 12) rfl rfl rfl ?_
      refine w_getI (j := 13) rfl rfl rfl rfl rfl ?_
      obtain rfl := Option.some.inj h
      exact wp_ret rfl rfl rfl hq
    · refine w_icmpge_f (j := 6) rfl c2 rfl ?_
      refine w_aload_n (j := 7) rfl rfl rfl ?_
      refine w_getR (j := 8) rfl rfl rfl rfl rfl rfl ?_
      refine w_iload_n (j := 9) rfl rfl rfl ?_
      rcases xite_inv h with ⟨g3, h⟩ | ⟨g3, h⟩
      · cases h
      · refine w_iaload (j := 10) rfl rfl g3 rfl ?_
        refine w_goto (j := 13) rfl rfl ?_
        obtain rfl := Option.some.inj h
        exact wp_ret rfl rfl rfl hq
set_option maxHeartbeats 2000000 in
set_option maxRecDepth 20000 in
theorem R_X2_faultPlace {d : Nat}  {s : St} {q : Int32 × St} {Q : Option Value → xM → Prop}  (h : F_X2_faultPlace  s = some q) (hq : Q (some (.int q.1)) (SH, q.2.1, q.2.2)) : wp (d + 1) mX2_faultPlace 0 [some (.ref 80)] [] (SH, s.1, s.2) Q := by
  unfold F_X2_faultPlace at h
  try dsimp only at h
  refine w_aload_n (j := 1) rfl rfl rfl ?_
  refine w_getR (j := 2) rfl rfl rfl rfl rfl rfl ?_
  refine w_aload_n (j := 3) rfl rfl rfl ?_
  refine w_getI (j := 4) rfl rfl rfl rfl rfl ?_
  obtain ⟨q1, hq1, h⟩ := Option.bind_eq_some_iff.mp h
  refine wc_AI_I (j := 5) (T := []) rfl rfl rfl rfl rfl rfl rfl rfl rfl rfl ?_
  refine R_X7_placeAt hq1 ⟨_, rfl, ?_⟩
  obtain rfl := Option.some.inj h
  exact wp_ret rfl rfl rfl hq
set_option maxHeartbeats 2000000 in
set_option maxRecDepth 20000 in
theorem R_X4_at {d : Nat} {a0 : Int32} {s : St} {q : Int32 × St} {Q : Option Value → xM → Prop}  (h : F_X4_at a0 s = some q) (hq : Q (some (.int q.1)) (SH, q.2.1, q.2.2)) : wp (d + 0) mX4_at 0 [some (.ref 12), some (.int a0)] [] (SH, s.1, s.2) Q := by
  unfold F_X4_at at h
  try dsimp only at h
  refine w_iload_n (j := 1) rfl rfl rfl ?_
  rcases xite_inv h with ⟨c1, h⟩ | ⟨c1, h⟩
  · refine w_iflt_t (j := 11) rfl c1 rfl ?_
    refine w_bipush (z := (-4 : Int32)) (j := 12) rfl rfl rfl ?_
    obtain rfl := Option.some.inj h
    exact wp_ret rfl rfl rfl hq
  · refine w_iflt_f (j := 2) rfl c1 rfl ?_
    refine w_iload_n (j := 3) rfl rfl rfl ?_
    refine w_aload_n (j := 4) rfl rfl rfl ?_
    refine w_getI (j := 5) rfl rfl rfl rfl rfl ?_
    rcases xite_inv h with ⟨c2, h⟩ | ⟨c2, h⟩
    · refine w_icmpge_t (j := 11) rfl c2 rfl ?_
      refine w_bipush (z := (-4 : Int32)) (j := 12) rfl rfl rfl ?_
      obtain rfl := Option.some.inj h
      exact wp_ret rfl rfl rfl hq
    · refine w_icmpge_f (j := 6) rfl c2 rfl ?_
      refine w_aload_n (j := 7) rfl rfl rfl ?_
      refine w_getR (j := 8) rfl rfl rfl rfl rfl rfl ?_
      refine w_iload_n (j := 9) rfl rfl rfl ?_
      rcases xite_inv h with ⟨g3, h⟩ | ⟨g3, h⟩
      · cases h
      · refine w_iaload (j := 10) rfl rfl g3 rfl ?_
        refine w_goto (j := 12) rfl rfl ?_
        obtain rfl := Option.some.inj h
        exact wp_ret rfl rfl rfl hq
set_option maxHeartbeats 2000000 in
set_option maxRecDepth 20000 in
theorem R_X4_letterAt {d : Nat} {a0 : Int32} {s : St} {q : Int32 × St} {Q : Option Value → xM → Prop}  (h : F_X4_letterAt a0 s = some q) (hq : Q (some (.int q.1)) (SH, q.2.1, q.2.2)) : wp (d + 1) mX4_letterAt 0 [some (.ref 12), some (.int a0), none] [] (SH, s.1, s.2) Q := by
  unfold F_X4_letterAt at h
  try dsimp only at h
  refine w_aload_n (j := 1) rfl rfl rfl ?_
  refine w_iload_n (j := 2) rfl rfl rfl ?_
  obtain ⟨q1, hq1, h⟩ := Option.bind_eq_some_iff.mp h
  refine wc_AI_I (j := 3) (T := []) rfl rfl rfl rfl rfl rfl rfl rfl rfl rfl ?_
  refine R_X4_at hq1 ⟨_, rfl, ?_⟩
  refine w_istore_n (j := 4) rfl (l1_2 rfl) rfl ?_
  refine w_iload_n (j := 5) rfl rfl rfl ?_
  refine w_bipush (z := (97 : Int32)) (j := 6) rfl rfl rfl ?_
  rcases xite_inv h with ⟨c2, h⟩ | ⟨c2, h⟩
  · refine w_icmplt_t (j := 16) rfl c2 rfl ?_
    refine w_iload_n (j := 17) rfl rfl rfl ?_
    refine w_bipush (z := (65 : Int32)) (j := 18) rfl rfl rfl ?_
    rcases xite_inv h with ⟨c3, h⟩ | ⟨c3, h⟩
    · refine w_icmplt_t (j := 28) rfl c3 rfl ?_
      refine w_iconst (z := (0 : Int32)) (j := 29) rfl rfl rfl ?_
      obtain rfl := Option.some.inj h
      exact wp_ret rfl rfl rfl hq
    · refine w_icmplt_f (j := 19) rfl c3 rfl ?_
      refine w_iload_n (j := 20) rfl rfl rfl ?_
      refine w_bipush (z := (90 : Int32)) (j := 21) rfl rfl rfl ?_
      rcases xite_inv h with ⟨c4, h⟩ | ⟨c4, h⟩
      · refine w_icmpgt_t (j := 28) rfl c4 rfl ?_
        refine w_iconst (z := (0 : Int32)) (j := 29) rfl rfl rfl ?_
        obtain rfl := Option.some.inj h
        exact wp_ret rfl rfl rfl hq
      · refine w_icmpgt_f (j := 22) rfl c4 rfl ?_
        refine w_iload_n (j := 23) rfl rfl rfl ?_
        refine w_bipush (z := (65 : Int32)) (j := 24) rfl rfl rfl ?_
        refine w_isub (j := 25) rfl rfl ?_
        refine w_iconst (z := (1 : Int32)) (j := 26) rfl rfl rfl ?_
        refine w_iadd (j := 27) rfl rfl ?_
        refine w_goto (j := 29) rfl rfl ?_
        obtain rfl := Option.some.inj h
        exact wp_ret rfl rfl rfl hq
  · refine w_icmplt_f (j := 7) rfl c2 rfl ?_
    refine w_iload_n (j := 8) rfl rfl rfl ?_
    refine w_bipush (z := (122 : Int32)) (j := 9) rfl rfl rfl ?_
    rcases xite_inv h with ⟨c5, h⟩ | ⟨c5, h⟩
    · refine w_icmpgt_t (j := 16) rfl c5 rfl ?_
      refine w_iload_n (j := 17) rfl rfl rfl ?_
      refine w_bipush (z := (65 : Int32)) (j := 18) rfl rfl rfl ?_
      rcases xite_inv h with ⟨c6, h⟩ | ⟨c6, h⟩
      · refine w_icmplt_t (j := 28) rfl c6 rfl ?_
        refine w_iconst (z := (0 : Int32)) (j := 29) rfl rfl rfl ?_
        obtain rfl := Option.some.inj h
        exact wp_ret rfl rfl rfl hq
      · refine w_icmplt_f (j := 19) rfl c6 rfl ?_
        refine w_iload_n (j := 20) rfl rfl rfl ?_
        refine w_bipush (z := (90 : Int32)) (j := 21) rfl rfl rfl ?_
        rcases xite_inv h with ⟨c7, h⟩ | ⟨c7, h⟩
        · refine w_icmpgt_t (j := 28) rfl c7 rfl ?_
          refine w_iconst (z := (0 : Int32)) (j := 29) rfl rfl rfl ?_
          obtain rfl := Option.some.inj h
          exact wp_ret rfl rfl rfl hq
        · refine w_icmpgt_f (j := 22) rfl c7 rfl ?_
          refine w_iload_n (j := 23) rfl rfl rfl ?_
          refine w_bipush (z := (65 : Int32)) (j := 24) rfl rfl rfl ?_
          refine w_isub (j := 25) rfl rfl ?_
          refine w_iconst (z := (1 : Int32)) (j := 26) rfl rfl rfl ?_
          refine w_iadd (j := 27) rfl rfl ?_
          refine w_goto (j := 29) rfl rfl ?_
          obtain rfl := Option.some.inj h
          exact wp_ret rfl rfl rfl hq
    · refine w_icmpgt_f (j := 10) rfl c5 rfl ?_
      refine w_iload_n (j := 11) rfl rfl rfl ?_
      refine w_bipush (z := (97 : Int32)) (j := 12) rfl rfl rfl ?_
      refine w_isub (j := 13) rfl rfl ?_
      refine w_iconst (z := (1 : Int32)) (j := 14) rfl rfl rfl ?_
      refine w_iadd (j := 15) rfl rfl ?_
      obtain rfl := Option.some.inj h
      exact wp_ret rfl rfl rfl hq
set_option maxHeartbeats 2000000 in
set_option maxRecDepth 20000 in
theorem RL_X4_keyAt_4 {d : Nat}  {Q : Option Value → xM → Prop}  : ∀ (n : Nat) (l1 : Int32) (l2 : Int64) (l4 : Int32) (u5 : Option Value) (s : St) (q : Int64 × St)   (h : L_X4_keyAt_4  n l1 l2 l4 s = some q) (hq : Q (some (.long q.1)) (SH, q.2.1, q.2.2)), wp (d + 2) mX4_keyAt 4 [some (.ref 12), some (.int l1), some (.long l2), none, some (.int l4), u5] [] (SH, s.1, s.2) Q := by
  intro n
  induction n with
  | zero => intro l1 l2 l4 u5 s q h; cases h
  | succ n ih =>
    intro l1 l2 l4 u5 s q h hq
    unfold L_X4_keyAt_4 at h
    try dsimp only at h
    refine w_iload (j := 5) rfl rfl rfl ?_
    refine w_bipush (z := (8 : Int32)) (j := 6) rfl rfl rfl ?_
    rcases xite_inv h with ⟨c1, h⟩ | ⟨c1, h⟩
    · refine w_icmpge_t (j := 25) rfl c1 rfl ?_
      refine w_lload_n (j := 26) rfl rfl rfl ?_
      obtain rfl := Option.some.inj h
      exact wp_ret rfl rfl rfl hq
    · refine w_icmpge_f (j := 7) rfl c1 rfl ?_
      refine w_aload_n (j := 8) rfl rfl rfl ?_
      refine w_iload_n (j := 9) rfl rfl rfl ?_
      refine w_iload (j := 10) rfl rfl rfl ?_
      refine w_iadd (j := 11) rfl rfl ?_
      obtain ⟨q2, hq2, h⟩ := Option.bind_eq_some_iff.mp h
      refine wc_AI_I (j := 12) (T := [none]) rfl rfl rfl rfl rfl rfl rfl rfl rfl rfl ?_
      refine R_X4_letterAt hq2 ⟨_, rfl, ?_⟩
      refine w_istore (j := 13) rfl (l1_5 rfl) rfl ?_
      refine w_iload (j := 14) rfl rfl rfl ?_
      rcases xite_inv h with ⟨c3, h⟩ | ⟨c3, h⟩
      · refine w_ifne_f (j := 15) rfl c3 rfl ?_
        refine w_goto (j := 25) rfl rfl ?_
        refine w_lload_n (j := 26) rfl rfl rfl ?_
        obtain rfl := Option.some.inj h
        exact wp_ret rfl rfl rfl hq
      · refine w_ifne_t (j := 16) rfl c3 rfl ?_
        refine w_lload_n (j := 17) rfl rfl rfl ?_
        refine w_ldc2_w (z := (27 : Int64)) (j := 18) rfl rfl rfl ?_
        refine w_lmul (j := 19) rfl rfl ?_
        refine w_iload (j := 20) rfl rfl rfl ?_
        refine w_i2l (j := 21) rfl rfl ?_
        refine w_ladd (j := 22) rfl rfl ?_
        refine w_lstore_n (j := 23) rfl (l2_2 rfl) rfl ?_
        refine w_iinc (cc := (1 : Int32)) (j := 24) rfl rfl rfl (l1_4 rfl) rfl ?_
        refine w_goto (j := 4) rfl rfl ?_
        exact ih _ _ _ _ _ _ h hq
set_option maxHeartbeats 2000000 in
set_option maxRecDepth 20000 in
theorem R_X4_keyAt {d : Nat} {a0 : Int32} {s : St} {q : Int64 × St} {Q : Option Value → xM → Prop}  (h : F_X4_keyAt a0 s = some q) (hq : Q (some (.long q.1)) (SH, q.2.1, q.2.2)) : wp (d + 2) mX4_keyAt 0 [some (.ref 12), some (.int a0), none, none, none, none] [] (SH, s.1, s.2) Q := by
  unfold F_X4_keyAt at h
  try dsimp only at h
  refine w_lconst (z := (0 : Int64)) (j := 1) rfl rfl rfl ?_
  refine w_lstore_n (j := 2) rfl (l2_2 rfl) rfl ?_
  refine w_iconst (z := (0 : Int32)) (j := 3) rfl rfl rfl ?_
  refine w_istore (j := 4) rfl (l1_4 rfl) rfl ?_
  exact RL_X4_keyAt_4  _ _ _ _ _ _ _ h hq
set_option maxHeartbeats 2000000 in
set_option maxRecDepth 20000 in
theorem R_X7_add {d : Nat} {a0 : Int32} {a1 : Int32} {a2 : Int32} {s : St} {q : St} {Q : Option Value → xM → Prop}  (h : F_X7_add a0 a1 a2 s = some q) (hq : Q none (SH, q.1, q.2)) : wp (d + 0) mX7_add 0 [some (.ref 81), some (.int a0), some (.int a1), some (.int a2)] [] (SH, s.1, s.2) Q := by
  unfold F_X7_add at h
  try dsimp only at h
  refine w_aload_n (j := 1) rfl rfl rfl ?_
  refine w_getI (j := 2) rfl rfl rfl rfl rfl ?_
  refine w_sipush (z := (200 : Int32)) (j := 3) rfl rfl rfl ?_
  rcases xite_inv h with ⟨c1, h⟩ | ⟨c1, h⟩
  · refine w_icmpge_t (j := 28) rfl c1 rfl ?_
    obtain rfl := Option.some.inj h
    exact wp_vret rfl rfl rfl hq
  · refine w_icmpge_f (j := 4) rfl c1 rfl ?_
    refine w_aload_n (j := 5) rfl rfl rfl ?_
    refine w_getR (j := 6) rfl rfl rfl rfl rfl rfl ?_
    refine w_aload_n (j := 7) rfl rfl rfl ?_
    refine w_getI (j := 8) rfl rfl rfl rfl rfl ?_
    refine w_iload_n (j := 9) rfl rfl rfl ?_
    rcases xite_inv h with ⟨g2, h⟩ | ⟨g2, h⟩
    · cases h
    · refine w_iastore (j := 10) rfl rfl g2 rfl ?_
      try dsimp only at h
      refine w_aload_n (j := 11) rfl rfl rfl ?_
      refine w_getR (j := 12) rfl rfl rfl rfl rfl rfl ?_
      refine w_aload_n (j := 13) rfl rfl rfl ?_
      refine w_getI (j := 14) rfl rfl rfl rfl rfl ?_
      refine w_iload_n (j := 15) rfl rfl rfl ?_
      rcases xite_inv h with ⟨g4, h⟩ | ⟨g4, h⟩
      · cases h
      · refine w_iastore (j := 16) rfl rfl g4 rfl ?_
        try dsimp only at h
        refine w_aload_n (j := 17) rfl rfl rfl ?_
        refine w_getR (j := 18) rfl rfl rfl rfl rfl rfl ?_
        refine w_aload_n (j := 19) rfl rfl rfl ?_
        refine w_getI (j := 20) rfl rfl rfl rfl rfl ?_
        refine w_iload_n (j := 21) rfl rfl rfl ?_
        rcases xite_inv h with ⟨g6, h⟩ | ⟨g6, h⟩
        · cases h
        · refine w_iastore (j := 22) rfl rfl g6 rfl ?_
          try dsimp only at h
          refine w_aload_n (j := 23) rfl rfl rfl ?_
          refine w_dup (j := 24) rfl rfl rfl ?_
          refine w_getI (j := 25) rfl rfl rfl rfl rfl ?_
          refine w_iconst (z := (1 : Int32)) (j := 26) rfl rfl rfl ?_
          refine w_iadd (j := 27) rfl rfl ?_
          refine w_putI (j := 28) rfl rfl rfl rfl rfl ?_
          try dsimp only at h
          obtain rfl := Option.some.inj h
          exact wp_vret rfl rfl rfl hq
set_option maxHeartbeats 2000000 in
set_option maxRecDepth 20000 in
theorem R_X7_kindOfSort {d : Nat} {a0 : Int32} {s : St} {q : Int32 × St} {Q : Option Value → xM → Prop}  (h : F_X7_kindOfSort a0 s = some q) (hq : Q (some (.int q.1)) (SH, q.2.1, q.2.2)) : wp (d + 0) mX7_kindOfSort 0 [some (.int a0)] [] (SH, s.1, s.2) Q := by
  unfold F_X7_kindOfSort at h
  try dsimp only at h
  refine w_iload_n (j := 1) rfl rfl rfl ?_
  rcases xite_inv h with ⟨c1_0, h⟩ | ⟨c1_0, h⟩
  · refine w_table_in (q := 0) (j := 2) rfl (by rw [c1_0]; decide) (by rw [c1_0]; decide) rfl ?_
    refine w_bipush (z := (23 : Int32)) (j := 3) rfl rfl rfl ?_
    obtain rfl := Option.some.inj h
    exact wp_ret rfl rfl rfl hq
  · rcases xite_inv h with ⟨c1_1, h⟩ | ⟨c1_1, h⟩
    · refine w_table_in (q := 1) (j := 4) rfl (by rw [c1_1]; decide) (by rw [c1_1]; decide) rfl ?_
      refine w_bipush (z := (24 : Int32)) (j := 5) rfl rfl rfl ?_
      obtain rfl := Option.some.inj h
      exact wp_ret rfl rfl rfl hq
    · rcases xite_inv h with ⟨c1_2, h⟩ | ⟨c1_2, h⟩
      · refine w_table_in (q := 2) (j := 6) rfl (by rw [c1_2]; decide) (by rw [c1_2]; decide) rfl ?_
        refine w_bipush (z := (25 : Int32)) (j := 7) rfl rfl rfl ?_
        obtain rfl := Option.some.inj h
        exact wp_ret rfl rfl rfl hq
      · refine w_table_out (j := 8) rfl (sw_out_0_2 c1_0 c1_1 c1_2) rfl ?_
        refine w_bipush (z := (26 : Int32)) (j := 9) rfl rfl rfl ?_
        obtain rfl := Option.some.inj h
        exact wp_ret rfl rfl rfl hq
set_option maxHeartbeats 2000000 in
set_option maxRecDepth 20000 in
theorem RL_X8_find_2 {d : Nat}  {Q : Option Value → xM → Prop}  : ∀ (n : Nat) (l1 : Int64) (l3 : Int32)  (s : St) (q : Int32 × St)   (h : L_X8_find_2  n l1 l3 s = some q) (hq : Q (some (.int q.1)) (SH, q.2.1, q.2.2)), wp (d + 0) mX8_find 2 [some (.ref 4), some (.long l1), none, some (.int l3)] [] (SH, s.1, s.2) Q := by
  intro n
  induction n with
  | zero => intro l1 l3 s q h; cases h
  | succ n ih =>
    intro l1 l3 s q h hq
    unfold L_X8_find_2 at h
    try dsimp only at h
    refine w_iload_n (j := 3) rfl rfl rfl ?_
    refine w_aload_n (j := 4) rfl rfl rfl ?_
    refine w_getI (j := 5) rfl rfl rfl rfl rfl ?_
    rcases xite_inv h with ⟨c1, h⟩ | ⟨c1, h⟩
    · refine w_icmpge_t (j := 17) rfl c1 rfl ?_
      refine w_bipush (z := (-4 : Int32)) (j := 18) rfl rfl rfl ?_
      obtain rfl := Option.some.inj h
      exact wp_ret rfl rfl rfl hq
    · refine w_icmpge_f (j := 6) rfl c1 rfl ?_
      refine w_aload_n (j := 7) rfl rfl rfl ?_
      refine w_getR (j := 8) rfl rfl rfl rfl rfl rfl ?_
      refine w_iload_n (j := 9) rfl rfl rfl ?_
      rcases xite_inv h with ⟨g2, h⟩ | ⟨g2, h⟩
      · cases h
      · refine w_laload (j := 10) rfl rfl g2 rfl ?_
        refine w_lload_n (j := 11) rfl rfl rfl ?_
        refine w_lcmp (j := 12) rfl rfl ?_
        rcases xite_inv h with ⟨c3, h⟩ | ⟨c3, h⟩
        · refine w_ifne_f (j := 13) rfl c3 rfl ?_
          refine w_iload_n (j := 14) rfl rfl rfl ?_
          obtain rfl := Option.some.inj h
          exact wp_ret rfl rfl rfl hq
        · refine w_ifne_t (j := 15) rfl c3 rfl ?_
          refine w_iinc (cc := (1 : Int32)) (j := 16) rfl rfl rfl (l1_3 rfl) rfl ?_
          refine w_goto (j := 2) rfl rfl ?_
          exact ih _ _ _ _ h hq
set_option maxHeartbeats 2000000 in
set_option maxRecDepth 20000 in
theorem R_X8_find {d : Nat} {a0 : Int64} {s : St} {q : Int32 × St} {Q : Option Value → xM → Prop}  (h : F_X8_find a0 s = some q) (hq : Q (some (.int q.1)) (SH, q.2.1, q.2.2)) : wp (d + 0) mX8_find 0 [some (.ref 4), some (.long a0), none, none] [] (SH, s.1, s.2) Q := by
  unfold F_X8_find at h
  try dsimp only at h
  refine w_iconst (z := (0 : Int32)) (j := 1) rfl rfl rfl ?_
  refine w_istore_n (j := 2) rfl (l1_3 rfl) rfl ?_
  exact RL_X8_find_2  _ _ _ _ _ h hq
set_option maxHeartbeats 2000000 in
set_option maxRecDepth 20000 in
theorem RL_X8_fixedNumber_2 {d : Nat}  {Q : Option Value → xM → Prop}  : ∀ (n : Nat) (l1 : Int64) (l3 : Int32)  (s : St) (q : Int32 × St)   (h : L_X8_fixedNumber_2  n l1 l3 s = some q) (hq : Q (some (.int q.1)) (SH, q.2.1, q.2.2)), wp (d + 0) mX8_fixedNumber 2 [some (.ref 4), some (.long l1), none, some (.int l3)] [] (SH, s.1, s.2) Q := by
  intro n
  induction n with
  | zero => intro l1 l3 s q h; cases h
  | succ n ih =>
    intro l1 l3 s q h hq
    unfold L_X8_fixedNumber_2 at h
    try dsimp only at h
    refine w_iload_n (j := 3) rfl rfl rfl ?_
    refine w_bipush (z := (21 : Int32)) (j := 4) rfl rfl rfl ?_
    rcases xite_inv h with ⟨c1, h⟩ | ⟨c1, h⟩
    · refine w_icmpge_t (j := 16) rfl c1 rfl ?_
      refine w_bipush (z := (-4 : Int32)) (j := 17) rfl rfl rfl ?_
      obtain rfl := Option.some.inj h
      exact wp_ret rfl rfl rfl hq
    · refine w_icmpge_f (j := 5) rfl c1 rfl ?_
      refine w_aload_n (j := 6) rfl rfl rfl ?_
      refine w_getR (j := 7) rfl rfl rfl rfl rfl rfl ?_
      refine w_iload_n (j := 8) rfl rfl rfl ?_
      rcases xite_inv h with ⟨g2, h⟩ | ⟨g2, h⟩
      · cases h
      · refine w_laload (j := 9) rfl rfl g2 rfl ?_
        refine w_lload_n (j := 10) rfl rfl rfl ?_
        refine w_lcmp (j := 11) rfl rfl ?_
        rcases xite_inv h with ⟨c3, h⟩ | ⟨c3, h⟩
        · refine w_ifne_f (j := 12) rfl c3 rfl ?_
          refine w_iload_n (j := 13) rfl rfl rfl ?_
          obtain rfl := Option.some.inj h
          exact wp_ret rfl rfl rfl hq
        · refine w_ifne_t (j := 14) rfl c3 rfl ?_
          refine w_iinc (cc := (1 : Int32)) (j := 15) rfl rfl rfl (l1_3 rfl) rfl ?_
          refine w_goto (j := 2) rfl rfl ?_
          exact ih _ _ _ _ h hq
set_option maxHeartbeats 2000000 in
set_option maxRecDepth 20000 in
theorem R_X8_fixedNumber {d : Nat} {a0 : Int64} {s : St} {q : Int32 × St} {Q : Option Value → xM → Prop}  (h : F_X8_fixedNumber a0 s = some q) (hq : Q (some (.int q.1)) (SH, q.2.1, q.2.2)) : wp (d + 0) mX8_fixedNumber 0 [some (.ref 4), some (.long a0), none, none] [] (SH, s.1, s.2) Q := by
  unfold F_X8_fixedNumber at h
  try dsimp only at h
  refine w_iconst (z := (0 : Int32)) (j := 1) rfl rfl rfl ?_
  refine w_istore_n (j := 2) rfl (l1_3 rfl) rfl ?_
  exact RL_X8_fixedNumber_2  _ _ _ _ _ h hq
set_option maxHeartbeats 2000000 in
set_option maxRecDepth 20000 in
theorem R_X8_rootOf {d : Nat} {a0 : Int32} {s : St} {q : Int32 × St} {Q : Option Value → xM → Prop}  (h : F_X8_rootOf a0 s = some q) (hq : Q (some (.int q.1)) (SH, q.2.1, q.2.2)) : wp (d + 0) mX8_rootOf 0 [some (.ref 4), some (.int a0)] [] (SH, s.1, s.2) Q := by
  unfold F_X8_rootOf at h
  try dsimp only at h
  refine w_iload_n (j := 1) rfl rfl rfl ?_
  rcases xite_inv h with ⟨c1, h⟩ | ⟨c1, h⟩
  · refine w_iflt_t (j := 11) rfl c1 rfl ?_
    refine w_bipush (z := (-4 : Int32)) (j := 12) rfl rfl rfl ?_
    obtain rfl := Option.some.inj h
    exact wp_ret rfl rfl rfl hq
  · refine w_iflt_f (j := 2) rfl c1 rfl ?_
    refine w_iload_n (j := 3) rfl rfl rfl ?_
    refine w_aload_n (j := 4) rfl rfl rfl ?_
    refine w_getI (j := 5) rfl rfl rfl rfl rfl ?_
    rcases xite_inv h with ⟨c2, h⟩ | ⟨c2, h⟩
    · refine w_icmpge_t (j := 11) rfl c2 rfl ?_
      refine w_bipush (z := (-4 : Int32)) (j := 12) rfl rfl rfl ?_
      obtain rfl := Option.some.inj h
      exact wp_ret rfl rfl rfl hq
    · refine w_icmpge_f (j := 6) rfl c2 rfl ?_
      refine w_aload_n (j := 7) rfl rfl rfl ?_
      refine w_getR (j := 8) rfl rfl rfl rfl rfl rfl ?_
      refine w_iload_n (j := 9) rfl rfl rfl ?_
      rcases xite_inv h with ⟨g3, h⟩ | ⟨g3, h⟩
      · cases h
      · refine w_iaload (j := 10) rfl rfl g3 rfl ?_
        refine w_goto (j := 12) rfl rfl ?_
        obtain rfl := Option.some.inj h
        exact wp_ret rfl rfl rfl hq
set_option maxHeartbeats 2000000 in
set_option maxRecDepth 20000 in
theorem R_X8_sortOf {d : Nat} {a0 : Int32} {s : St} {q : Int32 × St} {Q : Option Value → xM → Prop}  (h : F_X8_sortOf a0 s = some q) (hq : Q (some (.int q.1)) (SH, q.2.1, q.2.2)) : wp (d + 0) mX8_sortOf 0 [some (.ref 4), some (.int a0)] [] (SH, s.1, s.2) Q := by
  unfold F_X8_sortOf at h
  try dsimp only at h
  refine w_iload_n (j := 1) rfl rfl rfl ?_
  rcases xite_inv h with ⟨c1, h⟩ | ⟨c1, h⟩
  · refine w_iflt_t (j := 11) rfl c1 rfl ?_
    refine w_bipush (z := (-4 : Int32)) (j := 12) rfl rfl rfl ?_
    obtain rfl := Option.some.inj h
    exact wp_ret rfl rfl rfl hq
  · refine w_iflt_f (j := 2) rfl c1 rfl ?_
    refine w_iload_n (j := 3) rfl rfl rfl ?_
    refine w_aload_n (j := 4) rfl rfl rfl ?_
    refine w_getI (j := 5) rfl rfl rfl rfl rfl ?_
    rcases xite_inv h with ⟨c2, h⟩ | ⟨c2, h⟩
    · refine w_icmpge_t (j := 11) rfl c2 rfl ?_
      refine w_bipush (z := (-4 : Int32)) (j := 12) rfl rfl rfl ?_
      obtain rfl := Option.some.inj h
      exact wp_ret rfl rfl rfl hq
    · refine w_icmpge_f (j := 6) rfl c2 rfl ?_
      refine w_aload_n (j := 7) rfl rfl rfl ?_
      refine w_getR (j := 8) rfl rfl rfl rfl rfl rfl ?_
      refine w_iload_n (j := 9) rfl rfl rfl ?_
      rcases xite_inv h with ⟨g3, h⟩ | ⟨g3, h⟩
      · cases h
      · refine w_iaload (j := 10) rfl rfl g3 rfl ?_
        refine w_goto (j := 12) rfl rfl ?_
        obtain rfl := Option.some.inj h
        exact wp_ret rfl rfl rfl hq
set_option maxHeartbeats 2000000 in
set_option maxRecDepth 20000 in
theorem R_X7_addRow {d : Nat} {a0 : Int64} {a1 : Int32} {s : St} {q : St} {Q : Option Value → xM → Prop}  (h : F_X7_addRow a0 a1 s = some q) (hq : Q none (SH, q.1, q.2)) : wp (d + 1) mX7_addRow 0 [some (.ref 81), some (.long a0), none, some (.int a1), some (.ref 4), none, none, none] [] (SH, s.1, s.2) Q := by
  unfold F_X7_addRow at h
  try dsimp only at h
  refine w_aload (j := 1) rfl rfl rfl ?_
  refine w_lload_n (j := 2) rfl rfl rfl ?_
  obtain ⟨q1, hq1, h⟩ := Option.bind_eq_some_iff.mp h
  refine wc_AJ_I (j := 3) (T := [none]) rfl rfl rfl rfl rfl rfl rfl rfl rfl rfl ?_
  refine R_X8_fixedNumber hq1 ⟨_, rfl, ?_⟩
  refine w_istore (j := 4) rfl (l1_5 rfl) rfl ?_
  refine w_iload (j := 5) rfl rfl rfl ?_
  refine w_bipush (z := (-4 : Int32)) (j := 6) rfl rfl rfl ?_
  rcases xite_inv h with ⟨c2, h⟩ | ⟨c2, h⟩
  · refine w_icmpeq_t (j := 13) rfl c2 rfl ?_
    refine w_aload (j := 14) rfl rfl rfl ?_
    refine w_aload (j := 15) rfl rfl rfl ?_
    refine w_lload_n (j := 16) rfl rfl rfl ?_
    obtain ⟨q3, hq3, h⟩ := Option.bind_eq_some_iff.mp h
    refine wc_AJ_I (j := 17) (T := [none]) rfl rfl rfl rfl rfl rfl rfl rfl rfl rfl ?_
    refine R_X8_find hq3 ⟨_, rfl, ?_⟩
    obtain ⟨q4, hq4, h⟩ := Option.bind_eq_some_iff.mp h
    refine wc_AI_I (j := 18) (T := []) rfl rfl rfl rfl rfl rfl rfl rfl rfl rfl ?_
    refine R_X8_rootOf hq4 ⟨_, rfl, ?_⟩
    refine w_istore (j := 19) rfl (l1_6 rfl) rfl ?_
    refine w_aload (j := 20) rfl rfl rfl ?_
    refine w_iload (j := 21) rfl rfl rfl ?_
    obtain ⟨q5, hq5, h⟩ := Option.bind_eq_some_iff.mp h
    refine wc_AI_I (j := 22) (T := []) rfl rfl rfl rfl rfl rfl rfl rfl rfl rfl ?_
    refine R_X8_sortOf hq5 ⟨_, rfl, ?_⟩
    refine w_istore (j := 23) rfl (l1_7 rfl) rfl ?_
    refine w_iload (j := 24) rfl rfl rfl ?_
    refine w_iconst (z := (3 : Int32)) (j := 25) rfl rfl rfl ?_
    rcases xite_inv h with ⟨c6, h⟩ | ⟨c6, h⟩
    · refine w_icmpeq_t (j := 32) rfl c6 rfl ?_
      obtain rfl := Option.some.inj h
      exact wp_vret rfl rfl rfl hq
    · refine w_icmpeq_f (j := 26) rfl c6 rfl ?_
      refine w_aload_n (j := 27) rfl rfl rfl ?_
      refine w_iload (j := 28) rfl rfl rfl ?_
      obtain ⟨q7, hq7, h⟩ := Option.bind_eq_some_iff.mp h
      refine wc_I_I (j := 29) (T := []) rfl rfl rfl rfl rfl rfl rfl rfl rfl rfl ?_
      refine R_X7_kindOfSort hq7 ⟨_, rfl, ?_⟩
      refine w_iload (j := 30) rfl rfl rfl ?_
      refine w_iload_n (j := 31) rfl rfl rfl ?_
      obtain ⟨q8, hq8, h⟩ := Option.bind_eq_some_iff.mp h
      refine wc_AIII_V (j := 32) (T := []) rfl rfl rfl rfl rfl rfl rfl rfl rfl rfl ?_
      refine R_X7_add hq8 ⟨rfl, ?_⟩
      obtain rfl := Option.some.inj h
      exact wp_vret rfl rfl rfl hq
  · refine w_icmpeq_f (j := 7) rfl c2 rfl ?_
    refine w_aload_n (j := 8) rfl rfl rfl ?_
    refine w_iload (j := 9) rfl rfl rfl ?_
    refine w_bipush (z := (-4 : Int32)) (j := 10) rfl rfl rfl ?_
    refine w_iload_n (j := 11) rfl rfl rfl ?_
    obtain ⟨q9, hq9, h⟩ := Option.bind_eq_some_iff.mp h
    refine wc_AIII_V (j := 12) (T := []) rfl rfl rfl rfl rfl rfl rfl rfl rfl rfl ?_
    refine R_X7_add hq9 ⟨rfl, ?_⟩
    obtain rfl := Option.some.inj h
    exact wp_vret rfl rfl rfl hq
set_option maxHeartbeats 2000000 in
set_option maxRecDepth 20000 in
theorem R_X7_leaveOnlyStrangeByte {d : Nat} {a0 : Int32} {s : St} {q : St} {Q : Option Value → xM → Prop}  (h : F_X7_leaveOnlyStrangeByte a0 s = some q) (hq : Q none (SH, q.1, q.2)) : wp (d + 1) mX7_leaveOnlyStrangeByte 0 [some (.ref 81), some (.int a0)] [] (SH, s.1, s.2) Q := by
  unfold F_X7_leaveOnlyStrangeByte at h
  try dsimp only at h
  refine w_aload_n (j := 1) rfl rfl rfl ?_
  refine w_iconst (z := (0 : Int32)) (j := 2) rfl rfl rfl ?_
  refine w_putI (j := 3) rfl rfl rfl rfl rfl ?_
  try dsimp only at h
  refine w_aload_n (j := 4) rfl rfl rfl ?_
  refine w_bipush (z := (27 : Int32)) (j := 5) rfl rfl rfl ?_
  refine w_bipush (z := (-4 : Int32)) (j := 6) rfl rfl rfl ?_
  refine w_iload_n (j := 7) rfl rfl rfl ?_
  obtain ⟨q2, hq2, h⟩ := Option.bind_eq_some_iff.mp h
  refine wc_AIII_V (j := 8) (T := []) rfl rfl rfl rfl rfl rfl rfl rfl rfl rfl ?_
  refine R_X7_add hq2 ⟨rfl, ?_⟩
  obtain rfl := Option.some.inj h
  exact wp_vret rfl rfl rfl hq
set_option maxHeartbeats 2000000 in
set_option maxRecDepth 20000 in
theorem RL_X7_split_9 {d : Nat}  {Q : Option Value → xM → Prop}  : ∀ (n : Nat) (l3 : Int32) (u4 : Option Value) (s : St) (q : St)   (h : L_X7_split_9  n l3 s = some q) (hq : Q none (SH, q.1, q.2)), wp (d + 3) mX7_split 9 [some (.ref 81), some (.ref 12), some (.ref 4), some (.int l3), u4] [] (SH, s.1, s.2) Q := by
  intro n
  induction n with
  | zero => intro l3 u4 s q h; cases h
  | succ n ih =>
    intro l3 u4 s q h hq
    unfold L_X7_split_9 at h
    try dsimp only at h
    refine w_iload_n (j := 10) rfl rfl rfl ?_
    refine w_aload_n (j := 11) rfl rfl rfl ?_
    refine w_getI (j := 12) rfl rfl rfl rfl rfl ?_
    rcases xite_inv h with ⟨c3, h⟩ | ⟨c3, h⟩
    · refine w_icmpge_t (j := 62) rfl c3 rfl ?_
      obtain rfl := Option.some.inj h
      exact wp_vret rfl rfl rfl hq
    · refine w_icmpge_f (j := 13) rfl c3 rfl ?_
      refine w_aload_n (j := 14) rfl rfl rfl ?_
      refine w_iload_n (j := 15) rfl rfl rfl ?_
      obtain ⟨q4, hq4, h⟩ := Option.bind_eq_some_iff.mp h
      refine wc_AI_I (j := 16) (T := []) rfl rfl rfl rfl rfl rfl rfl rfl rfl rfl ?_
      refine R_X4_at hq4 ⟨_, rfl, ?_⟩
      refine w_istore (j := 17) rfl (l1_4 rfl) rfl ?_
      refine w_aload_n (j := 18) rfl rfl rfl ?_
      refine w_iload_n (j := 19) rfl rfl rfl ?_
      obtain ⟨q5, hq5, h⟩ := Option.bind_eq_some_iff.mp h
      refine wc_AI_I (j := 20) (T := [none]) rfl rfl rfl rfl rfl rfl rfl rfl rfl rfl ?_
      refine R_X4_letterAt hq5 ⟨_, rfl, ?_⟩
      rcases xite_inv h with ⟨c6, h⟩ | ⟨c6, h⟩
      · refine w_ifeq_t (j := 35) rfl c6 rfl ?_
        refine w_iload (j := 36) rfl rfl rfl ?_
        refine w_bipush (z := (44 : Int32)) (j := 37) rfl rfl rfl ?_
        rcases xite_inv h with ⟨c7, h⟩ | ⟨c7, h⟩
        · refine w_icmpne_f (j := 38) rfl c7 rfl ?_
          refine w_aload_n (j := 39) rfl rfl rfl ?_
          refine w_bipush (z := (21 : Int32)) (j := 40) rfl rfl rfl ?_
          refine w_bipush (z := (-4 : Int32)) (j := 41) rfl rfl rfl ?_
          refine w_iload_n (j := 42) rfl rfl rfl ?_
          obtain ⟨q8, hq8, h⟩ := Option.bind_eq_some_iff.mp h
          refine wc_AIII_V (j := 43) (T := []) rfl rfl rfl rfl rfl rfl rfl rfl rfl rfl ?_
          refine R_X7_add hq8 ⟨rfl, ?_⟩
          refine w_goto (j := 60) rfl rfl ?_
          refine w_iinc (cc := (1 : Int32)) (j := 61) rfl rfl rfl (l1_3 rfl) rfl ?_
          refine w_goto (j := 9) rfl rfl ?_
          exact ih _ _ _ _ h hq
        · refine w_icmpne_t (j := 44) rfl c7 rfl ?_
          refine w_iload (j := 45) rfl rfl rfl ?_
          refine w_bipush (z := (46 : Int32)) (j := 46) rfl rfl rfl ?_
          rcases xite_inv h with ⟨c9, h⟩ | ⟨c9, h⟩
          · refine w_icmpne_f (j := 47) rfl c9 rfl ?_
            refine w_aload_n (j := 48) rfl rfl rfl ?_
            refine w_bipush (z := (22 : Int32)) (j := 49) rfl rfl rfl ?_
            refine w_bipush (z := (-4 : Int32)) (j := 50) rfl rfl rfl ?_
            refine w_iload_n (j := 51) rfl rfl rfl ?_
            obtain ⟨q10, hq10, h⟩ := Option.bind_eq_some_iff.mp h
            refine wc_AIII_V (j := 52) (T := []) rfl rfl rfl rfl rfl rfl rfl rfl rfl rfl ?_
            refine R_X7_add hq10 ⟨rfl, ?_⟩
            refine w_goto (j := 60) rfl rfl ?_
            refine w_iinc (cc := (1 : Int32)) (j := 61) rfl rfl rfl (l1_3 rfl) rfl ?_
            refine w_goto (j := 9) rfl rfl ?_
            exact ih _ _ _ _ h hq
          · refine w_icmpne_t (j := 53) rfl c9 rfl ?_
            refine w_iload (j := 54) rfl rfl rfl ?_
            refine w_bipush (z := (32 : Int32)) (j := 55) rfl rfl rfl ?_
            rcases xite_inv h with ⟨c11, h⟩ | ⟨c11, h⟩
            · refine w_icmpeq_t (j := 60) rfl c11 rfl ?_
              refine w_iinc (cc := (1 : Int32)) (j := 61) rfl rfl rfl (l1_3 rfl) rfl ?_
              refine w_goto (j := 9) rfl rfl ?_
              exact ih _ _ _ _ h hq
            · refine w_icmpeq_f (j := 56) rfl c11 rfl ?_
              refine w_aload_n (j := 57) rfl rfl rfl ?_
              refine w_iload_n (j := 58) rfl rfl rfl ?_
              obtain ⟨q12, hq12, h⟩ := Option.bind_eq_some_iff.mp h
              refine wc_AI_V (j := 59) (T := []) rfl rfl rfl rfl rfl rfl rfl rfl rfl rfl ?_
              refine R_X7_leaveOnlyStrangeByte hq12 ⟨rfl, ?_⟩
              obtain rfl := Option.some.inj h
              exact wp_vret rfl rfl rfl hq
      · refine w_ifeq_f (j := 21) rfl c6 rfl ?_
        refine w_aload_n (j := 22) rfl rfl rfl ?_
        refine w_iload_n (j := 23) rfl rfl rfl ?_
        refine w_iconst (z := (1 : Int32)) (j := 24) rfl rfl rfl ?_
        refine w_isub (j := 25) rfl rfl ?_
        obtain ⟨q13, hq13, h⟩ := Option.bind_eq_some_iff.mp h
        refine wc_AI_I (j := 26) (T := [none]) rfl rfl rfl rfl rfl rfl rfl rfl rfl rfl ?_
        refine R_X4_letterAt hq13 ⟨_, rfl, ?_⟩
        rcases xite_inv h with ⟨c14, h⟩ | ⟨c14, h⟩
        · refine w_ifne_f (j := 27) rfl c14 rfl ?_
          refine w_aload_n (j := 28) rfl rfl rfl ?_
          refine w_aload_n (j := 29) rfl rfl rfl ?_
          refine w_iload_n (j := 30) rfl rfl rfl ?_
          obtain ⟨q15, hq15, h⟩ := Option.bind_eq_some_iff.mp h
          refine wc_AI_J (j := 31) (T := [none, none, none, none]) rfl rfl rfl rfl rfl rfl rfl rfl rfl rfl ?_
          refine R_X4_keyAt hq15 ⟨_, rfl, ?_⟩
          refine w_iload_n (j := 32) rfl rfl rfl ?_
          refine w_aload_n (j := 33) rfl rfl rfl ?_
          obtain ⟨q16, hq16, h⟩ := Option.bind_eq_some_iff.mp h
          refine wc_AJIA_V (j := 34) (T := [none, none, none]) rfl rfl rfl rfl rfl rfl rfl rfl rfl rfl ?_
          refine R_X7_addRow hq16 ⟨rfl, ?_⟩
          refine w_goto (j := 60) rfl rfl ?_
          refine w_iinc (cc := (1 : Int32)) (j := 61) rfl rfl rfl (l1_3 rfl) rfl ?_
          refine w_goto (j := 9) rfl rfl ?_
          exact ih _ _ _ _ h hq
        · refine w_ifne_t (j := 60) rfl c14 rfl ?_
          refine w_iinc (cc := (1 : Int32)) (j := 61) rfl rfl rfl (l1_3 rfl) rfl ?_
          refine w_goto (j := 9) rfl rfl ?_
          exact ih _ _ _ _ h hq
set_option maxHeartbeats 2000000 in
set_option maxRecDepth 20000 in
theorem R_X7_split {d : Nat}  {s : St} {q : St} {Q : Option Value → xM → Prop}  (h : F_X7_split  s = some q) (hq : Q none (SH, q.1, q.2)) : wp (d + 3) mX7_split 0 [some (.ref 81), some (.ref 12), some (.ref 4), none, none] [] (SH, s.1, s.2) Q := by
  unfold F_X7_split at h
  try dsimp only at h
  refine w_aload_n (j := 1) rfl rfl rfl ?_
  refine w_iconst (z := (0 : Int32)) (j := 2) rfl rfl rfl ?_
  refine w_putI (j := 3) rfl rfl rfl rfl rfl ?_
  try dsimp only at h
  refine w_aload_n (j := 4) rfl rfl rfl ?_
  refine w_aload_n (j := 5) rfl rfl rfl ?_
  refine wc_A_I (j := 6) (T := []) rfl rfl rfl rfl rfl rfl rfl rfl rfl rfl ?_
  refine w_aload_n (j := 1) rfl rfl rfl ?_
  refine w_getI (j := 2) rfl rfl rfl rfl rfl ?_
  refine wp_ret rfl rfl rfl ⟨_, rfl, ?_⟩
  refine w_putI (j := 7) rfl rfl rfl rfl rfl ?_
  try dsimp only at h
  refine w_iconst (z := (0 : Int32)) (j := 8) rfl rfl rfl ?_
  refine w_istore_n (j := 9) rfl (l1_3 rfl) rfl ?_
  exact RL_X7_split_9  _ _ _ _ _ h hq
set_option maxHeartbeats 2000000 in
set_option maxRecDepth 20000 in
theorem R_X2_begin {d : Nat}  {s : St} {q : St} {Q : Option Value → xM → Prop}  (h : F_X2_begin  s = some q) (hq : Q none (SH, q.1, q.2)) : wp (d + 4) mX2_begin 0 [some (.ref 80), some (.ref 12)] [] (SH, s.1, s.2) Q := by
  unfold F_X2_begin at h
  try dsimp only at h
  refine w_aload_n (j := 1) rfl rfl rfl ?_
  refine w_getR (j := 2) rfl rfl rfl rfl rfl rfl ?_
  refine w_aload_n (j := 3) rfl rfl rfl ?_
  refine w_aload_n (j := 4) rfl rfl rfl ?_
  refine w_getR (j := 5) rfl rfl rfl rfl rfl rfl ?_
  obtain ⟨q1, hq1, h⟩ := Option.bind_eq_some_iff.mp h
  refine wc_AAA_V (j := 6) (T := [none, none]) rfl rfl rfl rfl rfl rfl rfl rfl rfl rfl ?_
  refine R_X7_split hq1 ⟨rfl, ?_⟩
  refine w_aload_n (j := 7) rfl rfl rfl ?_
  refine w_getR (j := 8) rfl rfl rfl rfl rfl rfl ?_
  obtain ⟨q2, hq2, h⟩ := Option.bind_eq_some_iff.mp h
  refine wc_A_V (j := 9) (T := []) rfl rfl rfl rfl rfl rfl rfl rfl rfl rfl ?_
  refine R_X1_startLine hq2 ⟨rfl, ?_⟩
  refine w_aload_n (j := 10) rfl rfl rfl ?_
  refine w_iconst (z := (0 : Int32)) (j := 11) rfl rfl rfl ?_
  refine w_putI (j := 12) rfl rfl rfl rfl rfl ?_
  try dsimp only at h
  refine w_aload_n (j := 13) rfl rfl rfl ?_
  refine w_iconst (z := (0 : Int32)) (j := 14) rfl rfl rfl ?_
  refine w_putI (j := 15) rfl rfl rfl rfl rfl ?_
  try dsimp only at h
  refine w_aload_n (j := 16) rfl rfl rfl ?_
  refine w_iconst (z := (0 : Int32)) (j := 17) rfl rfl rfl ?_
  refine w_putI (j := 18) rfl rfl rfl rfl rfl ?_
  try dsimp only at h
  obtain rfl := Option.some.inj h
  exact wp_vret rfl rfl rfl hq
set_option maxHeartbeats 2000000 in
set_option maxRecDepth 20000 in
theorem R_X2_fail {d : Nat} {a0 : Int32} {a1 : Int32} {s : St} {q : Int32 × St} {Q : Option Value → xM → Prop}  (h : F_X2_fail a0 a1 s = some q) (hq : Q (some (.int q.1)) (SH, q.2.1, q.2.2)) : wp (d + 0) mX2_fail 0 [some (.ref 80), some (.int a0), some (.int a1)] [] (SH, s.1, s.2) Q := by
  unfold F_X2_fail at h
  try dsimp only at h
  refine w_aload_n (j := 1) rfl rfl rfl ?_
  refine w_iload_n (j := 2) rfl rfl rfl ?_
  refine w_putI (j := 3) rfl rfl rfl rfl rfl ?_
  try dsimp only at h
  refine w_aload_n (j := 4) rfl rfl rfl ?_
  refine w_iload_n (j := 5) rfl rfl rfl ?_
  refine w_putI (j := 6) rfl rfl rfl rfl rfl ?_
  try dsimp only at h
  refine w_iconst (z := (0 : Int32)) (j := 7) rfl rfl rfl ?_
  obtain rfl := Option.some.inj h
  exact wp_ret rfl rfl rfl hq
set_option maxHeartbeats 2000000 in
set_option maxRecDepth 20000 in
theorem R_X7_kindAt {d : Nat} {a0 : Int32} {s : St} {q : Int32 × St} {Q : Option Value → xM → Prop}  (h : F_X7_kindAt a0 s = some q) (hq : Q (some (.int q.1)) (SH, q.2.1, q.2.2)) : wp (d + 0) mX7_kindAt 0 [some (.ref 81), some (.int a0)] [] (SH, s.1, s.2) Q := by
  unfold F_X7_kindAt at h
  try dsimp only at h
  refine w_iload_n (j := 1) rfl rfl rfl ?_
  rcases xite_inv h with ⟨c1, h⟩ | ⟨c1, h⟩
  · refine w_iflt_t (j := 11) rfl c1 rfl ?_
    refine w_bipush (z := (28 : Int32)) (j := 12) rfl rfl rfl ?_
    obtain rfl := Option.some.inj h
    exact wp_ret rfl rfl rfl hq
  · refine w_iflt_f (j := 2) rfl c1 rfl ?_
    refine w_iload_n (j := 3) rfl rfl rfl ?_
    refine w_aload_n (j := 4) rfl rfl rfl ?_
    refine w_getI (j := 5) rfl rfl rfl rfl rfl ?_
    rcases xite_inv h with ⟨c2, h⟩ | ⟨c2, h⟩
    · refine w_icmpge_t (j := 11) rfl c2 rfl ?_
      refine w_bipush (z := (28 : Int32)) (j := 12) rfl rfl rfl ?_
      obtain rfl := Option.some.inj h
      exact wp_ret rfl rfl rfl hq
    · refine w_icmpge_f (j := 6) rfl c2 rfl ?_
      refine w_aload_n (j := 7) rfl rfl rfl ?_
      refine w_getR (j := 8) rfl rfl rfl rfl rfl rfl ?_
      refine w_iload_n (j := 9) rfl rfl rfl ?_
      rcases xite_inv h with ⟨g3, h⟩ | ⟨g3, h⟩
      · cases h
      · refine w_iaload (j := 10) rfl rfl g3 rfl ?_
        refine w_goto (j := 12) rfl rfl ?_
        obtain rfl := Option.some.inj h
        exact wp_ret rfl rfl rfl hq
set_option maxHeartbeats 2000000 in
set_option maxRecDepth 20000 in
theorem R_X2_failMisplaced {d : Nat}  {s : St} {q : Int32 × St} {Q : Option Value → xM → Prop}  (h : F_X2_failMisplaced  s = some q) (hq : Q (some (.int q.1)) (SH, q.2.1, q.2.2)) : wp (d + 1) mX2_failMisplaced 0 [some (.ref 80)] [] (SH, s.1, s.2) Q := by
  unfold F_X2_failMisplaced at h
  try dsimp only at h
  refine w_aload_n (j := 1) rfl rfl rfl ?_
  refine w_getR (j := 2) rfl rfl rfl rfl rfl rfl ?_
  refine w_aload_n (j := 3) rfl rfl rfl ?_
  refine w_getI (j := 4) rfl rfl rfl rfl rfl ?_
  obtain ⟨q1, hq1, h⟩ := Option.bind_eq_some_iff.mp h
  refine wc_AI_I (j := 5) (T := []) rfl rfl rfl rfl rfl rfl rfl rfl rfl rfl ?_
  refine R_X7_kindAt hq1 ⟨_, rfl, ?_⟩
  rcases xite_inv h with ⟨c2_0, h⟩ | ⟨c2_0, h⟩
  · refine w_lookup (j := 12) rfl (by rw [c2_0]; decide) ?_
    refine w_aload_n (j := 13) rfl rfl rfl ?_
    refine w_iconst (z := (2 : Int32)) (j := 14) rfl rfl rfl ?_
    refine w_aload_n (j := 15) rfl rfl rfl ?_
    refine w_getI (j := 16) rfl rfl rfl rfl rfl ?_
    obtain ⟨q3, hq3, h⟩ := Option.bind_eq_some_iff.mp h
    refine wc_AII_I (j := 17) (T := []) rfl rfl rfl rfl rfl rfl rfl rfl rfl rfl ?_
    refine R_X2_fail hq3 ⟨_, rfl, ?_⟩
    rcases xite_inv h with ⟨hb, h⟩ | ⟨hb, h⟩
    · obtain rfl := Option.some.inj h
      exact wp_ret rfl rfl (xretb hb) hq
    · cases h
  · rcases xite_inv h with ⟨c2_1, h⟩ | ⟨c2_1, h⟩
    · refine w_lookup (j := 6) rfl (by rw [c2_1]; decide) ?_
      refine w_aload_n (j := 7) rfl rfl rfl ?_
      refine w_iconst (z := (1 : Int32)) (j := 8) rfl rfl rfl ?_
      refine w_aload_n (j := 9) rfl rfl rfl ?_
      refine w_getI (j := 10) rfl rfl rfl rfl rfl ?_
      obtain ⟨q4, hq4, h⟩ := Option.bind_eq_some_iff.mp h
      refine wc_AII_I (j := 11) (T := []) rfl rfl rfl rfl rfl rfl rfl rfl rfl rfl ?_
      refine R_X2_fail hq4 ⟨_, rfl, ?_⟩
      rcases xite_inv h with ⟨hb, h⟩ | ⟨hb, h⟩
      · obtain rfl := Option.some.inj h
        exact wp_ret rfl rfl (xretb hb) hq
      · cases h
    · refine w_lookup (j := 18) rfl (lk_out c2_0 c2_1) ?_
      refine w_aload_n (j := 19) rfl rfl rfl ?_
      refine w_iconst (z := (3 : Int32)) (j := 20) rfl rfl rfl ?_
      refine w_aload_n (j := 21) rfl rfl rfl ?_
      refine w_getI (j := 22) rfl rfl rfl rfl rfl ?_
      obtain ⟨q5, hq5, h⟩ := Option.bind_eq_some_iff.mp h
      refine wc_AII_I (j := 23) (T := []) rfl rfl rfl rfl rfl rfl rfl rfl rfl rfl ?_
      refine R_X2_fail hq5 ⟨_, rfl, ?_⟩
      rcases xite_inv h with ⟨hb, h⟩ | ⟨hb, h⟩
      · obtain rfl := Option.some.inj h
        exact wp_ret rfl rfl (xretb hb) hq
      · cases h
set_option maxHeartbeats 2000000 in
set_option maxRecDepth 20000 in
theorem R_X2_isCommandAnd {d : Nat}  {s : St} {q : Int32 × St} {Q : Option Value → xM → Prop}  (h : F_X2_isCommandAnd  s = some q) (hq : Q (some (.int q.1)) (SH, q.2.1, q.2.2)) : wp (d + 1) mX2_isCommandAnd 0 [some (.ref 80)] [] (SH, s.1, s.2) Q := by
  unfold F_X2_isCommandAnd at h
  try dsimp only at h
  refine w_aload_n (j := 1) rfl rfl rfl ?_
  refine w_getR (j := 2) rfl rfl rfl rfl rfl rfl ?_
  refine w_aload_n (j := 3) rfl rfl rfl ?_
  refine w_getI (j := 4) rfl rfl rfl rfl rfl ?_
  obtain ⟨q1, hq1, h⟩ := Option.bind_eq_some_iff.mp h
  refine wc_AI_I (j := 5) (T := []) rfl rfl rfl rfl rfl rfl rfl rfl rfl rfl ?_
  refine R_X7_kindAt hq1 ⟨_, rfl, ?_⟩
  refine w_iconst (z := (3 : Int32)) (j := 6) rfl rfl rfl ?_
  rcases xite_inv h with ⟨c2, h⟩ | ⟨c2, h⟩
  · refine w_icmpne_f (j := 7) rfl c2 rfl ?_
    refine w_aload_n (j := 8) rfl rfl rfl ?_
    refine w_getR (j := 9) rfl rfl rfl rfl rfl rfl ?_
    refine w_aload_n (j := 10) rfl rfl rfl ?_
    refine w_getI (j := 11) rfl rfl rfl rfl rfl ?_
    refine w_iconst (z := (1 : Int32)) (j := 12) rfl rfl rfl ?_
    refine w_iadd (j := 13) rfl rfl ?_
    obtain ⟨q3, hq3, h⟩ := Option.bind_eq_some_iff.mp h
    refine wc_AI_I (j := 14) (T := []) rfl rfl rfl rfl rfl rfl rfl rfl rfl rfl ?_
    refine R_X7_kindAt hq3 ⟨_, rfl, ?_⟩
    refine w_bipush (z := (24 : Int32)) (j := 15) rfl rfl rfl ?_
    rcases xite_inv h with ⟨c4, h⟩ | ⟨c4, h⟩
    · refine w_icmpne_f (j := 16) rfl c4 rfl ?_
      refine w_iconst (z := (1 : Int32)) (j := 17) rfl rfl rfl ?_
      refine w_goto (j := 19) rfl rfl ?_
      obtain rfl := Option.some.inj h
      exact wp_ret rfl rfl rfl hq
    · refine w_icmpne_t (j := 18) rfl c4 rfl ?_
      refine w_iconst (z := (0 : Int32)) (j := 19) rfl rfl rfl ?_
      obtain rfl := Option.some.inj h
      exact wp_ret rfl rfl rfl hq
  · refine w_icmpne_t (j := 18) rfl c2 rfl ?_
    refine w_iconst (z := (0 : Int32)) (j := 19) rfl rfl rfl ?_
    obtain rfl := Option.some.inj h
    exact wp_ret rfl rfl rfl hq
set_option maxHeartbeats 2000000 in
set_option maxRecDepth 20000 in
theorem R_X2_isStop {d : Nat} {a0 : Int32} {s : St} {q : Int32 × St} {Q : Option Value → xM → Prop}  (h : F_X2_isStop a0 s = some q) (hq : Q (some (.int q.1)) (SH, q.2.1, q.2.2)) : wp (d + 0) mX2_isStop 0 [some (.int a0)] [] (SH, s.1, s.2) Q := by
  unfold F_X2_isStop at h
  try dsimp only at h
  refine w_iload_n (j := 1) rfl rfl rfl ?_
  refine w_bipush (z := (22 : Int32)) (j := 2) rfl rfl rfl ?_
  rcases xite_inv h with ⟨c1, h⟩ | ⟨c1, h⟩
  · refine w_icmpeq_t (j := 6) rfl c1 rfl ?_
    refine w_iconst (z := (1 : Int32)) (j := 7) rfl rfl rfl ?_
    refine w_goto (j := 9) rfl rfl ?_
    obtain rfl := Option.some.inj h
    exact wp_ret rfl rfl rfl hq
  · refine w_icmpeq_f (j := 3) rfl c1 rfl ?_
    refine w_iload_n (j := 4) rfl rfl rfl ?_
    refine w_iconst (z := (4 : Int32)) (j := 5) rfl rfl rfl ?_
    rcases xite_inv h with ⟨c2, h⟩ | ⟨c2, h⟩
    · refine w_icmpne_f (j := 6) rfl c2 rfl ?_
      refine w_iconst (z := (1 : Int32)) (j := 7) rfl rfl rfl ?_
      refine w_goto (j := 9) rfl rfl ?_
      obtain rfl := Option.some.inj h
      exact wp_ret rfl rfl rfl hq
    · refine w_icmpne_t (j := 8) rfl c2 rfl ?_
      refine w_iconst (z := (0 : Int32)) (j := 9) rfl rfl rfl ?_
      obtain rfl := Option.some.inj h
      exact wp_ret rfl rfl rfl hq
set_option maxHeartbeats 2000000 in
set_option maxRecDepth 20000 in
theorem R_X2_isOrderEnd {d : Nat}  {s : St} {q : Int32 × St} {Q : Option Value → xM → Prop}  (h : F_X2_isOrderEnd  s = some q) (hq : Q (some (.int q.1)) (SH, q.2.1, q.2.2)) : wp (d + 1) mX2_isOrderEnd 0 [some (.ref 80), none] [] (SH, s.1, s.2) Q := by
  unfold F_X2_isOrderEnd at h
  try dsimp only at h
  refine w_aload_n (j := 1) rfl rfl rfl ?_
  refine w_getR (j := 2) rfl rfl rfl rfl rfl rfl ?_
  refine w_aload_n (j := 3) rfl rfl rfl ?_
  refine w_getI (j := 4) rfl rfl rfl rfl rfl ?_
  obtain ⟨q1, hq1, h⟩ := Option.bind_eq_some_iff.mp h
  refine wc_AI_I (j := 5) (T := []) rfl rfl rfl rfl rfl rfl rfl rfl rfl rfl ?_
  refine R_X7_kindAt hq1 ⟨_, rfl, ?_⟩
  refine w_istore_n (j := 6) rfl (l1_1 rfl) rfl ?_
  refine w_iload_n (j := 7) rfl rfl rfl ?_
  refine w_bipush (z := (28 : Int32)) (j := 8) rfl rfl rfl ?_
  rcases xite_inv h with ⟨c2, h⟩ | ⟨c2, h⟩
  · refine w_icmpeq_t (j := 12) rfl c2 rfl ?_
    refine w_iconst (z := (1 : Int32)) (j := 13) rfl rfl rfl ?_
    refine w_goto (j := 15) rfl rfl ?_
    obtain rfl := Option.some.inj h
    exact wp_ret rfl rfl rfl hq
  · refine w_icmpeq_f (j := 9) rfl c2 rfl ?_
    refine w_iload_n (j := 10) rfl rfl rfl ?_
    obtain ⟨q3, hq3, h⟩ := Option.bind_eq_some_iff.mp h
    refine wc_I_I (j := 11) (T := []) rfl rfl rfl rfl rfl rfl rfl rfl rfl rfl ?_
    refine R_X2_isStop hq3 ⟨_, rfl, ?_⟩
    rcases xite_inv h with ⟨c4, h⟩ | ⟨c4, h⟩
    · refine w_ifeq_t (j := 14) rfl c4 rfl ?_
      refine w_iconst (z := (0 : Int32)) (j := 15) rfl rfl rfl ?_
      obtain rfl := Option.some.inj h
      exact wp_ret rfl rfl rfl hq
    · refine w_ifeq_f (j := 12) rfl c4 rfl ?_
      refine w_iconst (z := (1 : Int32)) (j := 13) rfl rfl rfl ?_
      refine w_goto (j := 15) rfl rfl ?_
      obtain rfl := Option.some.inj h
      exact wp_ret rfl rfl rfl hq
