set_option maxHeartbeats 2000000 in
set_option maxRecDepth 20000 in
theorem RL_X10_item_23 {d : Nat}  {Q : Option Value → xM → Prop}  : ∀ (n : Nat) (l1 : Int32) (l2 : Int32) (l4 : Int32) (u3 u5 u6 u7 u8 u9 u10 u11 u12 : Option Value) (s : St) (q : St)  (hu3 : xlong u3 = false) (hu5 : xlong u5 = false) (hu6 : xlong u6 = false) (hu7 : xlong u7 = false) (hu8 : xlong u8 = false) (hu9 : xlong u9 = false) (hu10 : xlong u10 = false) (hu11 : xlong u11 = false) (h : L_X10_item_23  n l1 l2 l4 s = some q) (hq : ∀ (v1 v3 v4 v5 v6 v7 v8 v9 v10 v11 v12 : Option Value), xlong v1 = false → xlong v3 = false → xlong v4 = false → xlong v5 = false → xlong v6 = false → xlong v7 = false → xlong v8 = false → xlong v9 = false → xlong v10 = false → xlong v11 = false → wp (d + 2) mX10_item 61 [some (.ref 94), v1, some (.int l2), v3, v4, v5, v6, v7, v8, v9, v10, v11, v12] [] (SH, q.1, q.2) Q), wp (d + 2) mX10_item 23 [some (.ref 94), some (.int l1), some (.int l2), u3, some (.int l4), u5, u6, u7, u8, u9, u10, u11, u12] [] (SH, s.1, s.2) Q := by
  intro n
  induction n with
  | zero => intro l1 l2 l4 u3 u5 u6 u7 u8 u9 u10 u11 u12 s q hu3 hu5 hu6 hu7 hu8 hu9 hu10 hu11 h; cases h
  | succ n ih =>
    intro l1 l2 l4 u3 u5 u6 u7 u8 u9 u10 u11 u12 s q hu3 hu5 hu6 hu7 hu8 hu9 hu10 hu11 h hq
    unfold L_X10_item_23 at h
    try dsimp only at h
    refine w_iload (j := 24) rfl rfl rfl ?_
    refine w_aload_n (j := 25) rfl rfl rfl ?_
    refine w_getI (j := 26) rfl rfl rfl rfl rfl ?_
    rcases xite_inv h with ⟨c5, h⟩ | ⟨c5, h⟩
    · refine w_icmpge_t (j := 61) rfl c5 rfl ?_
      obtain rfl := Option.some.inj h
      exact hq _ _ _ _ _ _ _ _ _ _ _ rfl hu3 rfl hu5 hu6 hu7 hu8 hu9 hu10 hu11
    · refine w_icmpge_f (j := 27) rfl c5 rfl ?_
      refine w_aload_n (j := 28) rfl rfl rfl ?_
      refine w_getR (j := 29) rfl rfl rfl rfl rfl rfl ?_
      refine w_iload (j := 30) rfl rfl rfl ?_
      rcases xite_inv h with ⟨g6, h⟩ | ⟨g6, h⟩
      · cases h
      · refine w_baload (j := 31) rfl rfl rfl g6 rfl ?_
        rcases xite_inv h with ⟨c7, h⟩ | ⟨c7, h⟩
        · refine w_ifeq_t (j := 59) rfl c7 rfl ?_
          refine w_iinc (cc := (1 : Int32)) (j := 60) rfl rfl rfl (l1_4 hu3) rfl ?_
          refine w_goto (j := 23) rfl rfl ?_
          exact ih _ _ _ _ _ _ _ _ _ _ _ _ _ _ hu3 hu5 hu6 hu7 hu8 hu9 hu10 hu11 h hq
        · refine w_ifeq_f (j := 32) rfl c7 rfl ?_
          refine w_iload (j := 33) rfl rfl rfl ?_
          refine w_iload_n (j := 34) rfl rfl rfl ?_
          rcases xite_inv h with ⟨c8, h⟩ | ⟨c8, h⟩
          · refine w_icmpeq_t (j := 59) rfl c8 rfl ?_
            refine w_iinc (cc := (1 : Int32)) (j := 60) rfl rfl rfl (l1_4 hu3) rfl ?_
            refine w_goto (j := 23) rfl rfl ?_
            exact ih _ _ _ _ _ _ _ _ _ _ _ _ _ _ hu3 hu5 hu6 hu7 hu8 hu9 hu10 hu11 h hq
          · refine w_icmpeq_f (j := 35) rfl c8 rfl ?_
            refine w_aload_n (j := 36) rfl rfl rfl ?_
            refine w_getR (j := 37) rfl rfl rfl rfl rfl rfl ?_
            refine w_iload (j := 38) rfl rfl rfl ?_
            refine w_iaload (j := 39) rfl rfl g6 rfl ?_
            refine w_iconst (z := (1 : Int32)) (j := 40) rfl rfl rfl ?_
            rcases xite_inv h with ⟨c9, h⟩ | ⟨c9, h⟩
            · refine w_icmpeq_t (j := 59) rfl c9 rfl ?_
              refine w_iinc (cc := (1 : Int32)) (j := 60) rfl rfl rfl (l1_4 hu3) rfl ?_
              refine w_goto (j := 23) rfl rfl ?_
              exact ih _ _ _ _ _ _ _ _ _ _ _ _ _ _ hu3 hu5 hu6 hu7 hu8 hu9 hu10 hu11 h hq
            · refine w_icmpeq_f (j := 41) rfl c9 rfl ?_
              refine w_aload_n (j := 42) rfl rfl rfl ?_
              refine w_getR (j := 43) rfl rfl rfl rfl rfl rfl ?_
              refine w_iload (j := 44) rfl rfl rfl ?_
              refine w_iaload (j := 45) rfl rfl g6 rfl ?_
              refine w_iconst (z := (2 : Int32)) (j := 46) rfl rfl rfl ?_
              rcases xite_inv h with ⟨c10, h⟩ | ⟨c10, h⟩
              · refine w_icmpeq_t (j := 59) rfl c10 rfl ?_
                refine w_iinc (cc := (1 : Int32)) (j := 60) rfl rfl rfl (l1_4 hu3) rfl ?_
                refine w_goto (j := 23) rfl rfl ?_
                exact ih _ _ _ _ _ _ _ _ _ _ _ _ _ _ hu3 hu5 hu6 hu7 hu8 hu9 hu10 hu11 h hq
              · refine w_icmpeq_f (j := 47) rfl c10 rfl ?_
                refine w_aload_n (j := 48) rfl rfl rfl ?_
                refine w_getR (j := 49) rfl rfl rfl rfl rfl rfl ?_
                refine w_aload_n (j := 50) rfl rfl rfl ?_
                refine w_getI (j := 51) rfl rfl rfl rfl rfl ?_
                refine w_iload (j := 52) rfl rfl rfl ?_
                rcases xite_inv h with ⟨g11, h⟩ | ⟨g11, h⟩
                · cases h
                · refine w_iastore (j := 53) rfl rfl g11 rfl ?_
                  try dsimp only at h
                  refine w_aload_n (j := 54) rfl rfl rfl ?_
                  refine w_dup (j := 55) rfl rfl rfl ?_
                  refine w_getI (j := 56) rfl rfl rfl rfl rfl ?_
                  refine w_iconst (z := (1 : Int32)) (j := 57) rfl rfl rfl ?_
                  refine w_iadd (j := 58) rfl rfl ?_
                  refine w_putI (j := 59) rfl rfl rfl rfl rfl ?_
                  try dsimp only at h
                  refine w_iinc (cc := (1 : Int32)) (j := 60) rfl rfl rfl (l1_4 hu3) rfl ?_
                  refine w_goto (j := 23) rfl rfl ?_
                  exact ih _ _ _ _ _ _ _ _ _ _ _ _ _ _ hu3 hu5 hu6 hu7 hu8 hu9 hu10 hu11 h hq
set_option maxHeartbeats 2000000 in
set_option maxRecDepth 20000 in
theorem RL_X10_item_210 {d : Nat}  {Q : Option Value → xM → Prop}  : ∀ (n : Nat) (l5 : Int32) (l6 : Int32) (l7 : Int32) (u1 u2 u3 u4 u8 u9 u10 u11 u12 : Option Value) (s : St) (q : St)  (hu1 : xlong u1 = false) (hu2 : xlong u2 = false) (hu3 : xlong u3 = false) (hu4 : xlong u4 = false) (hu8 : xlong u8 = false) (hu9 : xlong u9 = false) (hu10 : xlong u10 = false) (hu11 : xlong u11 = false) (h : L_X10_item_210  n l5 l6 l7 s = some q) (hq : ∀ (v1 v2 v3 v4 v8 v9 v10 v11 v12 : Option Value), xlong v1 = false → xlong v2 = false → xlong v3 = false → xlong v4 = false → xlong v8 = false → xlong v9 = false → xlong v10 = false → xlong v11 = false → wp (d + 2) mX10_item 226 [some (.ref 94), v1, v2, v3, v4, some (.int l5), some (.int l6), some (.int l7), v8, v9, v10, v11, v12] [] (SH, q.1, q.2) Q), wp (d + 2) mX10_item 210 [some (.ref 94), u1, u2, u3, u4, some (.int l5), some (.int l6), some (.int l7), u8, u9, u10, u11, u12] [] (SH, s.1, s.2) Q := by
  intro n
  induction n with
  | zero => intro l5 l6 l7 u1 u2 u3 u4 u8 u9 u10 u11 u12 s q hu1 hu2 hu3 hu4 hu8 hu9 hu10 hu11 h; cases h
  | succ n ih =>
    intro l5 l6 l7 u1 u2 u3 u4 u8 u9 u10 u11 u12 s q hu1 hu2 hu3 hu4 hu8 hu9 hu10 hu11 h hq
    unfold L_X10_item_210 at h
    try dsimp only at h
    refine w_aload_n (j := 211) rfl rfl rfl ?_
    refine w_aload_n (j := 212) rfl rfl rfl ?_
    refine w_getR (j := 213) rfl rfl rfl rfl rfl rfl ?_
    refine w_aload_n (j := 214) rfl rfl rfl ?_
    refine w_getI (j := 215) rfl rfl rfl rfl rfl ?_
    rcases xite_inv h with ⟨g44, h⟩ | ⟨g44, h⟩
    · cases h
    · refine w_iaload (j := 216) rfl rfl g44 rfl ?_
      refine w_iconst (z := (0 : Int32)) (j := 217) rfl rfl rfl ?_
      obtain ⟨q45, hq45, h⟩ := Option.bind_eq_some_iff.mp h
      refine wc_AII_I (j := 218) (T := []) rfl rfl rfl rfl rfl rfl rfl rfl rfl rfl ?_
      refine R_X10_isSort hq45 ⟨_, rfl, ?_⟩
      rcases xite_inv h with ⟨c46, h⟩ | ⟨c46, h⟩
      · refine w_ifeq_t (j := 226) rfl c46 rfl ?_
        obtain rfl := Option.some.inj h
        exact hq _ _ _ _ _ _ _ _ _ hu1 hu2 hu3 hu4 hu8 hu9 hu10 hu11
      · refine w_ifeq_f (j := 219) rfl c46 rfl ?_
        refine w_aload_n (j := 220) rfl rfl rfl ?_
        refine w_dup (j := 221) rfl rfl rfl ?_
        refine w_getI (j := 222) rfl rfl rfl rfl rfl ?_
        refine w_iconst (z := (1 : Int32)) (j := 223) rfl rfl rfl ?_
        refine w_iadd (j := 224) rfl rfl ?_
        refine w_putI (j := 225) rfl rfl rfl rfl rfl ?_
        try dsimp only at h
        refine w_goto (j := 210) rfl rfl ?_
        exact ih _ _ _ _ _ _ _ _ _ _ _ _ _ _ hu1 hu2 hu3 hu4 hu8 hu9 hu10 hu11 h hq
set_option maxHeartbeats 2000000 in
set_option maxRecDepth 20000 in
theorem RL_X10_item_230 {d : Nat}  {Q : Option Value → xM → Prop}  : ∀ (n : Nat) (l5 : Int32) (l6 : Int32) (l7 : Int32) (l8 : Int32) (l9 : Int32) (u1 u2 u3 u4 u10 u11 u12 : Option Value) (s : St) (q : Int32 × St)  (hu1 : xlong u1 = false) (hu2 : xlong u2 = false) (hu3 : xlong u3 = false) (hu4 : xlong u4 = false) (hu10 : xlong u10 = false) (hu11 : xlong u11 = false) (h : L_X10_item_230  n l5 l6 l7 l8 l9 s = some q) (hq : ∀ (v1 v2 v3 v4 v9 v10 v11 v12 : Option Value), xlong v1 = false → xlong v2 = false → xlong v3 = false → xlong v4 = false → xlong v9 = false → xlong v10 = false → xlong v11 = false → wp (d + 2) mX10_item 249 [some (.ref 94), v1, v2, v3, v4, some (.int l5), some (.int l6), some (.int l7), some (.int q.1), v9, v10, v11, v12] [] (SH, q.2.1, q.2.2) Q), wp (d + 2) mX10_item 230 [some (.ref 94), u1, u2, u3, u4, some (.int l5), some (.int l6), some (.int l7), some (.int l8), some (.int l9), u10, u11, u12] [] (SH, s.1, s.2) Q := by
  intro n
  induction n with
  | zero => intro l5 l6 l7 l8 l9 u1 u2 u3 u4 u10 u11 u12 s q hu1 hu2 hu3 hu4 hu10 hu11 h; cases h
  | succ n ih =>
    intro l5 l6 l7 l8 l9 u1 u2 u3 u4 u10 u11 u12 s q hu1 hu2 hu3 hu4 hu10 hu11 h hq
    unfold L_X10_item_230 at h
    try dsimp only at h
    refine w_iload (j := 231) rfl rfl rfl ?_
    refine w_aload_n (j := 232) rfl rfl rfl ?_
    refine w_getI (j := 233) rfl rfl rfl rfl rfl ?_
    rcases xite_inv h with ⟨c58, h⟩ | ⟨c58, h⟩
    · refine w_icmpge_t (j := 249) rfl c58 rfl ?_
      obtain rfl := Option.some.inj h
      exact hq _ _ _ _ _ _ _ _ hu1 hu2 hu3 hu4 rfl hu10 hu11
    · refine w_icmpge_f (j := 234) rfl c58 rfl ?_
      refine w_iload (j := 235) rfl rfl rfl ?_
      rcases xite_inv h with ⟨c59, h⟩ | ⟨c59, h⟩
      · refine w_ifeq_t (j := 249) rfl c59 rfl ?_
        obtain rfl := Option.some.inj h
        exact hq _ _ _ _ _ _ _ _ hu1 hu2 hu3 hu4 rfl hu10 hu11
      · refine w_ifeq_f (j := 236) rfl c59 rfl ?_
        refine w_iload (j := 237) rfl rfl rfl ?_
        rcases xite_inv h with ⟨c60, h⟩ | ⟨c60, h⟩
        · refine w_ifne_f (j := 238) rfl c60 rfl ?_
          refine w_iload (j := 239) rfl rfl rfl ?_
          refine w_iconst (z := (1 : Int32)) (j := 240) rfl rfl rfl ?_
          refine w_aload_n (j := 241) rfl rfl rfl ?_
          refine w_getR (j := 242) rfl rfl rfl rfl rfl rfl ?_
          refine w_iload (j := 243) rfl rfl rfl ?_
          rcases xite_inv h with ⟨g61, h⟩ | ⟨g61, h⟩
          · cases h
          · refine w_iaload (j := 244) rfl rfl g61 rfl ?_
            refine w_ishl (j := 245) rfl rfl ?_
            refine w_ior (j := 246) rfl rfl ?_
            refine w_istore (j := 247) rfl (l1_8 rfl) rfl ?_
            refine w_iinc (cc := (1 : Int32)) (j := 248) rfl rfl rfl (l1_9 rfl) rfl ?_
            refine w_goto (j := 230) rfl rfl ?_
            exact ih _ _ _ _ _ _ _ _ _ _ _ _ _ _ hu1 hu2 hu3 hu4 hu10 hu11 h hq
        · refine w_ifne_t (j := 249) rfl c60 rfl ?_
          obtain rfl := Option.some.inj h
          exact hq _ _ _ _ _ _ _ _ hu1 hu2 hu3 hu4 rfl hu10 hu11
set_option maxHeartbeats 2000000 in
set_option maxRecDepth 20000 in
theorem RL_X10_item_293 {d : Nat}  {Q : Option Value → xM → Prop}  : ∀ (n : Nat) (l5 : Int32) (l7 : Int32) (l8 : Int32) (l9 : Int32) (l10 : Int32) (l11 : Int32) (u1 u2 u3 u4 u6 u12 : Option Value) (s : St) (q : Int32 × St)  (hu1 : xlong u1 = false) (hu2 : xlong u2 = false) (hu3 : xlong u3 = false) (hu4 : xlong u4 = false) (hu6 : xlong u6 = false) (h : L_X10_item_293  n l5 l7 l8 l9 l10 l11 s = some q) (hq : ∀ (v1 v2 v3 v4 v6 v11 v12 : Option Value), xlong v1 = false → xlong v2 = false → xlong v3 = false → xlong v4 = false → xlong v6 = false → xlong v11 = false → wp (d + 2) mX10_item 336 [some (.ref 94), v1, v2, v3, v4, some (.int l5), v6, some (.int l7), some (.int l8), some (.int l9), some (.int q.1), v11, v12] [] (SH, q.2.1, q.2.2) Q), wp (d + 2) mX10_item 293 [some (.ref 94), u1, u2, u3, u4, some (.int l5), u6, some (.int l7), some (.int l8), some (.int l9), some (.int l10), some (.int l11), u12] [] (SH, s.1, s.2) Q := by
  intro n
  induction n with
  | zero => intro l5 l7 l8 l9 l10 l11 u1 u2 u3 u4 u6 u12 s q hu1 hu2 hu3 hu4 hu6 h; cases h
  | succ n ih =>
    intro l5 l7 l8 l9 l10 l11 u1 u2 u3 u4 u6 u12 s q hu1 hu2 hu3 hu4 hu6 h hq
    unfold L_X10_item_293 at h
    try dsimp only at h
    refine w_iload (j := 294) rfl rfl rfl ?_
    refine w_aload_n (j := 295) rfl rfl rfl ?_
    refine w_getI (j := 296) rfl rfl rfl rfl rfl ?_
    rcases xite_inv h with ⟨c76, h⟩ | ⟨c76, h⟩
    · refine w_icmpge_t (j := 336) rfl c76 rfl ?_
      obtain rfl := Option.some.inj h
      exact hq _ _ _ _ _ _ _ hu1 hu2 hu3 hu4 hu6 rfl
    · refine w_icmpge_f (j := 297) rfl c76 rfl ?_
      refine w_iload (j := 298) rfl rfl rfl ?_
      rcases xite_inv h with ⟨c77, h⟩ | ⟨c77, h⟩
      · refine w_ifeq_t (j := 336) rfl c77 rfl ?_
        obtain rfl := Option.some.inj h
        exact hq _ _ _ _ _ _ _ hu1 hu2 hu3 hu4 hu6 rfl
      · refine w_ifeq_f (j := 299) rfl c77 rfl ?_
        refine w_aload_n (j := 300) rfl rfl rfl ?_
        refine w_getR (j := 301) rfl rfl rfl rfl rfl rfl ?_
        refine w_bipush (z := (24 : Int32)) (j := 302) rfl rfl rfl ?_
        refine w_aload_n (j := 303) rfl rfl rfl ?_
        refine w_getR (j := 304) rfl rfl rfl rfl rfl rfl ?_
        refine w_iload (j := 305) rfl rfl rfl ?_
        rcases xite_inv h with ⟨g78, h⟩ | ⟨g78, h⟩
        · cases h
        · refine w_iaload (j := 306) rfl rfl g78 rfl ?_
          refine w_bipush (z := (100 : Int32)) (j := 307) rfl rfl rfl ?_
          refine w_isub (j := 308) rfl rfl ?_
          refine w_imul (j := 309) rfl rfl ?_
          refine w_iload (j := 310) rfl rfl rfl ?_
          refine w_iadd (j := 311) rfl rfl ?_
          rcases xite_inv h with ⟨g79, h⟩ | ⟨g79, h⟩
          · cases h
          · refine w_iaload (j := 312) rfl rfl g79 rfl ?_
            refine w_istore (j := 313) rfl (l1_12 rfl) rfl ?_
            refine w_iload (j := 314) rfl rfl rfl ?_
            refine w_aload_n (j := 315) rfl rfl rfl ?_
            refine w_getI (j := 316) rfl rfl rfl rfl rfl ?_
            refine w_iconst (z := (1 : Int32)) (j := 317) rfl rfl rfl ?_
            refine w_isub (j := 318) rfl rfl ?_
            rcases xite_inv h with ⟨c80, h⟩ | ⟨c80, h⟩
            · refine w_icmpne_f (j := 319) rfl c80 rfl ?_
              refine w_iload (j := 320) rfl rfl rfl ?_
              refine w_iconst (z := (1 : Int32)) (j := 321) rfl rfl rfl ?_
              refine w_iand (j := 322) rfl rfl ?_
              refine w_iconst (z := (1 : Int32)) (j := 323) rfl rfl rfl ?_
              rcases xite_inv h with ⟨c81, h⟩ | ⟨c81, h⟩
              · refine w_icmpne_f (j := 324) rfl c81 rfl ?_
                refine w_iconst (z := (1 : Int32)) (j := 325) rfl rfl rfl ?_
                refine w_goto (j := 333) rfl rfl ?_
                refine w_istore (j := 334) rfl (l1_10 rfl) rfl ?_
                refine w_iinc (cc := (1 : Int32)) (j := 335) rfl rfl rfl (l1_11 rfl) rfl ?_
                refine w_goto (j := 293) rfl rfl ?_
                exact ih _ _ _ _ _ _ _ _ _ _ _ _ _ _ hu1 hu2 hu3 hu4 hu6 h hq
              · refine w_icmpne_t (j := 326) rfl c81 rfl ?_
                refine w_iconst (z := (0 : Int32)) (j := 327) rfl rfl rfl ?_
                refine w_goto (j := 333) rfl rfl ?_
                refine w_istore (j := 334) rfl (l1_10 rfl) rfl ?_
                refine w_iinc (cc := (1 : Int32)) (j := 335) rfl rfl rfl (l1_11 rfl) rfl ?_
                refine w_goto (j := 293) rfl rfl ?_
                exact ih _ _ _ _ _ _ _ _ _ _ _ _ _ _ hu1 hu2 hu3 hu4 hu6 h hq
            · refine w_icmpne_t (j := 328) rfl c80 rfl ?_
              refine w_iload (j := 329) rfl rfl rfl ?_
              rcases xite_inv h with ⟨c82, h⟩ | ⟨c82, h⟩
              · refine w_ifeq_t (j := 332) rfl c82 rfl ?_
                refine w_iconst (z := (0 : Int32)) (j := 333) rfl rfl rfl ?_
                refine w_istore (j := 334) rfl (l1_10 rfl) rfl ?_
                refine w_iinc (cc := (1 : Int32)) (j := 335) rfl rfl rfl (l1_11 rfl) rfl ?_
                refine w_goto (j := 293) rfl rfl ?_
                exact ih _ _ _ _ _ _ _ _ _ _ _ _ _ _ hu1 hu2 hu3 hu4 hu6 h hq
              · refine w_ifeq_f (j := 330) rfl c82 rfl ?_
                refine w_iconst (z := (1 : Int32)) (j := 331) rfl rfl rfl ?_
                refine w_goto (j := 333) rfl rfl ?_
                refine w_istore (j := 334) rfl (l1_10 rfl) rfl ?_
                refine w_iinc (cc := (1 : Int32)) (j := 335) rfl rfl rfl (l1_11 rfl) rfl ?_
                refine w_goto (j := 293) rfl rfl ?_
                exact ih _ _ _ _ _ _ _ _ _ _ _ _ _ _ hu1 hu2 hu3 hu4 hu6 h hq
set_option maxHeartbeats 2000000 in
set_option maxRecDepth 20000 in
theorem RL_X10_item_260 {d : Nat}  {Q : Option Value → xM → Prop}  : ∀ (n : Nat) (l5 : Int32) (l7 : Int32) (l8 : Int32) (l9 : Int32) (u1 u2 u3 u4 u6 u10 u11 u12 : Option Value) (s : St) (q : St)  (hu1 : xlong u1 = false) (hu2 : xlong u2 = false) (hu3 : xlong u3 = false) (hu4 : xlong u4 = false) (hu6 : xlong u6 = false) (hu10 : xlong u10 = false) (hu11 : xlong u11 = false) (h : L_X10_item_260  n l5 l7 l8 l9 s = some q) (hq : ∀ (v1 v2 v3 v4 v5 v6 v8 v9 v10 v11 v12 : Option Value), xlong v1 = false → xlong v2 = false → xlong v3 = false → xlong v4 = false → xlong v5 = false → xlong v6 = false → xlong v8 = false → xlong v9 = false → xlong v10 = false → xlong v11 = false → wp (d + 2) mX10_item 352 [some (.ref 94), v1, v2, v3, v4, v5, v6, some (.int l7), v8, v9, v10, v11, v12] [] (SH, q.1, q.2) Q), wp (d + 2) mX10_item 260 [some (.ref 94), u1, u2, u3, u4, some (.int l5), u6, some (.int l7), some (.int l8), some (.int l9), u10, u11, u12] [] (SH, s.1, s.2) Q := by
  intro n
  induction n with
  | zero => intro l5 l7 l8 l9 u1 u2 u3 u4 u6 u10 u11 u12 s q hu1 hu2 hu3 hu4 hu6 hu10 hu11 h; cases h
  | succ n ih =>
    intro l5 l7 l8 l9 u1 u2 u3 u4 u6 u10 u11 u12 s q hu1 hu2 hu3 hu4 hu6 hu10 hu11 h hq
    unfold L_X10_item_260 at h
    try dsimp only at h
    refine w_iload (j := 261) rfl rfl rfl ?_
    refine w_aload_n (j := 262) rfl rfl rfl ?_
    refine w_getI (j := 263) rfl rfl rfl rfl rfl ?_
    rcases xite_inv h with ⟨c73, h⟩ | ⟨c73, h⟩
    · refine w_icmpge_t (j := 352) rfl c73 rfl ?_
      obtain rfl := Option.some.inj h
      exact hq _ _ _ _ _ _ _ _ _ _ _ hu1 hu2 hu3 hu4 rfl hu6 rfl rfl hu10 hu11
    · refine w_icmpge_f (j := 264) rfl c73 rfl ?_
      refine w_aload_n (j := 265) rfl rfl rfl ?_
      refine w_getR (j := 266) rfl rfl rfl rfl rfl rfl ?_
      refine w_iload (j := 267) rfl rfl rfl ?_
      rcases xite_inv h with ⟨g74, h⟩ | ⟨g74, h⟩
      · cases h
      · refine w_baload (j := 268) rfl rfl rfl g74 rfl ?_
        rcases xite_inv h with ⟨c75, h⟩ | ⟨c75, h⟩
        · refine w_ifeq_t (j := 289) rfl c75 rfl ?_
          refine w_iconst (z := (0 : Int32)) (j := 290) rfl rfl rfl ?_
          refine w_istore (j := 291) rfl (l1_10 rfl) rfl ?_
          refine w_iload (j := 292) rfl rfl rfl ?_
          refine w_istore (j := 293) rfl (l1_11 rfl) rfl ?_
          obtain ⟨q83, hq83, h⟩ := Option.bind_eq_some_iff.mp h
          refine RL_X10_item_293  _ _ _ _ _ _ _ _ _ _ _ _ _ _ _ hu1 hu2 hu3 hu4 hu6 hq83 (fun v84 v85 v86 v87 v88 v89 v90 hv84 hv85 hv86 hv87 hv88 hv89 => ?_)
          refine w_iload (j := 337) rfl rfl rfl ?_
          rcases xite_inv h with ⟨c91, h⟩ | ⟨c91, h⟩
          · refine w_ifeq_t (j := 350) rfl c91 rfl ?_
            refine w_iinc (cc := (1 : Int32)) (j := 351) rfl rfl rfl (l1_9 rfl) rfl ?_
            refine w_goto (j := 260) rfl rfl ?_
            exact ih _ _ _ _ _ _ _ _ _ _ _ _ _ _ hv84 hv85 hv86 hv87 hv88 rfl hv89 h hq
          · refine w_ifeq_f (j := 338) rfl c91 rfl ?_
            refine w_aload_n (j := 339) rfl rfl rfl ?_
            refine w_getR (j := 340) rfl rfl rfl rfl rfl rfl ?_
            refine w_aload_n (j := 341) rfl rfl rfl ?_
            refine w_getI (j := 342) rfl rfl rfl rfl rfl ?_
            refine w_iload (j := 343) rfl rfl rfl ?_
            rcases xite_inv h with ⟨g92, h⟩ | ⟨g92, h⟩
            · cases h
            · refine w_iastore (j := 344) rfl rfl g92 rfl ?_
              try dsimp only at h
              refine w_aload_n (j := 345) rfl rfl rfl ?_
              refine w_dup (j := 346) rfl rfl rfl ?_
              refine w_getI (j := 347) rfl rfl rfl rfl rfl ?_
              refine w_iconst (z := (1 : Int32)) (j := 348) rfl rfl rfl ?_
              refine w_iadd (j := 349) rfl rfl ?_
              refine w_putI (j := 350) rfl rfl rfl rfl rfl ?_
              try dsimp only at h
              refine w_iinc (cc := (1 : Int32)) (j := 351) rfl rfl rfl (l1_9 rfl) rfl ?_
              refine w_goto (j := 260) rfl rfl ?_
              exact ih _ _ _ _ _ _ _ _ _ _ _ _ _ _ hv84 hv85 hv86 hv87 hv88 rfl hv89 h hq
        · refine w_ifeq_f (j := 269) rfl c75 rfl ?_
          refine w_iload (j := 270) rfl rfl rfl ?_
          rcases xite_inv h with ⟨c95, h⟩ | ⟨c95, h⟩
          · refine w_ifeq_t (j := 287) rfl c95 rfl ?_
            refine w_iconst (z := (1 : Int32)) (j := 288) rfl rfl rfl ?_
            refine w_goto (j := 290) rfl rfl ?_
            refine w_istore (j := 291) rfl (l1_10 rfl) rfl ?_
            refine w_iload (j := 292) rfl rfl rfl ?_
            refine w_istore (j := 293) rfl (l1_11 rfl) rfl ?_
            obtain ⟨q96, hq96, h⟩ := Option.bind_eq_some_iff.mp h
            refine RL_X10_item_293  _ _ _ _ _ _ _ _ _ _ _ _ _ _ _ hu1 hu2 hu3 hu4 hu6 hq96 (fun v97 v98 v99 v100 v101 v102 v103 hv97 hv98 hv99 hv100 hv101 hv102 => ?_)
            refine w_iload (j := 337) rfl rfl rfl ?_
            rcases xite_inv h with ⟨c104, h⟩ | ⟨c104, h⟩
            · refine w_ifeq_t (j := 350) rfl c104 rfl ?_
              refine w_iinc (cc := (1 : Int32)) (j := 351) rfl rfl rfl (l1_9 rfl) rfl ?_
              refine w_goto (j := 260) rfl rfl ?_
              exact ih _ _ _ _ _ _ _ _ _ _ _ _ _ _ hv97 hv98 hv99 hv100 hv101 rfl hv102 h hq
            · refine w_ifeq_f (j := 338) rfl c104 rfl ?_
              refine w_aload_n (j := 339) rfl rfl rfl ?_
              refine w_getR (j := 340) rfl rfl rfl rfl rfl rfl ?_
              refine w_aload_n (j := 341) rfl rfl rfl ?_
              refine w_getI (j := 342) rfl rfl rfl rfl rfl ?_
              refine w_iload (j := 343) rfl rfl rfl ?_
              rcases xite_inv h with ⟨g105, h⟩ | ⟨g105, h⟩
              · cases h
              · refine w_iastore (j := 344) rfl rfl g105 rfl ?_
                try dsimp only at h
                refine w_aload_n (j := 345) rfl rfl rfl ?_
                refine w_dup (j := 346) rfl rfl rfl ?_
                refine w_getI (j := 347) rfl rfl rfl rfl rfl ?_
                refine w_iconst (z := (1 : Int32)) (j := 348) rfl rfl rfl ?_
                refine w_iadd (j := 349) rfl rfl ?_
                refine w_putI (j := 350) rfl rfl rfl rfl rfl ?_
                try dsimp only at h
                refine w_iinc (cc := (1 : Int32)) (j := 351) rfl rfl rfl (l1_9 rfl) rfl ?_
                refine w_goto (j := 260) rfl rfl ?_
                exact ih _ _ _ _ _ _ _ _ _ _ _ _ _ _ hv97 hv98 hv99 hv100 hv101 rfl hv102 h hq
          · refine w_ifeq_f (j := 271) rfl c95 rfl ?_
            refine w_aload_n (j := 272) rfl rfl rfl ?_
            refine w_getR (j := 273) rfl rfl rfl rfl rfl rfl ?_
            refine w_iload (j := 274) rfl rfl rfl ?_
            refine w_iaload (j := 275) rfl rfl g74 rfl ?_
            refine w_bipush (z := (-4 : Int32)) (j := 276) rfl rfl rfl ?_
            rcases xite_inv h with ⟨c108, h⟩ | ⟨c108, h⟩
            · refine w_icmpeq_t (j := 289) rfl c108 rfl ?_
              refine w_iconst (z := (0 : Int32)) (j := 290) rfl rfl rfl ?_
              refine w_istore (j := 291) rfl (l1_10 rfl) rfl ?_
              refine w_iload (j := 292) rfl rfl rfl ?_
              refine w_istore (j := 293) rfl (l1_11 rfl) rfl ?_
              obtain ⟨q109, hq109, h⟩ := Option.bind_eq_some_iff.mp h
              refine RL_X10_item_293  _ _ _ _ _ _ _ _ _ _ _ _ _ _ _ hu1 hu2 hu3 hu4 hu6 hq109 (fun v110 v111 v112 v113 v114 v115 v116 hv110 hv111 hv112 hv113 hv114 hv115 => ?_)
              refine w_iload (j := 337) rfl rfl rfl ?_
              rcases xite_inv h with ⟨c117, h⟩ | ⟨c117, h⟩
              · refine w_ifeq_t (j := 350) rfl c117 rfl ?_
                refine w_iinc (cc := (1 : Int32)) (j := 351) rfl rfl rfl (l1_9 rfl) rfl ?_
                refine w_goto (j := 260) rfl rfl ?_
                exact ih _ _ _ _ _ _ _ _ _ _ _ _ _ _ hv110 hv111 hv112 hv113 hv114 rfl hv115 h hq
              · refine w_ifeq_f (j := 338) rfl c117 rfl ?_
                refine w_aload_n (j := 339) rfl rfl rfl ?_
                refine w_getR (j := 340) rfl rfl rfl rfl rfl rfl ?_
                refine w_aload_n (j := 341) rfl rfl rfl ?_
                refine w_getI (j := 342) rfl rfl rfl rfl rfl ?_
                refine w_iload (j := 343) rfl rfl rfl ?_
                rcases xite_inv h with ⟨g118, h⟩ | ⟨g118, h⟩
                · cases h
                · refine w_iastore (j := 344) rfl rfl g118 rfl ?_
                  try dsimp only at h
                  refine w_aload_n (j := 345) rfl rfl rfl ?_
                  refine w_dup (j := 346) rfl rfl rfl ?_
                  refine w_getI (j := 347) rfl rfl rfl rfl rfl ?_
                  refine w_iconst (z := (1 : Int32)) (j := 348) rfl rfl rfl ?_
                  refine w_iadd (j := 349) rfl rfl ?_
                  refine w_putI (j := 350) rfl rfl rfl rfl rfl ?_
                  try dsimp only at h
                  refine w_iinc (cc := (1 : Int32)) (j := 351) rfl rfl rfl (l1_9 rfl) rfl ?_
                  refine w_goto (j := 260) rfl rfl ?_
                  exact ih _ _ _ _ _ _ _ _ _ _ _ _ _ _ hv110 hv111 hv112 hv113 hv114 rfl hv115 h hq
            · refine w_icmpeq_f (j := 277) rfl c108 rfl ?_
              refine w_iload (j := 278) rfl rfl rfl ?_
              refine w_aload_n (j := 279) rfl rfl rfl ?_
              refine w_getR (j := 280) rfl rfl rfl rfl rfl rfl ?_
              refine w_iload (j := 281) rfl rfl rfl ?_
              refine w_iaload (j := 282) rfl rfl g74 rfl ?_
              refine w_ishr (j := 283) rfl rfl ?_
              refine w_iconst (z := (1 : Int32)) (j := 284) rfl rfl rfl ?_
              refine w_iand (j := 285) rfl rfl ?_
              refine w_iconst (z := (1 : Int32)) (j := 286) rfl rfl rfl ?_
              rcases xite_inv h with ⟨c121, h⟩ | ⟨c121, h⟩
              · refine w_icmpne_f (j := 287) rfl c121 rfl ?_
                refine w_iconst (z := (1 : Int32)) (j := 288) rfl rfl rfl ?_
                refine w_goto (j := 290) rfl rfl ?_
                refine w_istore (j := 291) rfl (l1_10 rfl) rfl ?_
                refine w_iload (j := 292) rfl rfl rfl ?_
                refine w_istore (j := 293) rfl (l1_11 rfl) rfl ?_
                obtain ⟨q122, hq122, h⟩ := Option.bind_eq_some_iff.mp h
                refine RL_X10_item_293  _ _ _ _ _ _ _ _ _ _ _ _ _ _ _ hu1 hu2 hu3 hu4 hu6 hq122 (fun v123 v124 v125 v126 v127 v128 v129 hv123 hv124 hv125 hv126 hv127 hv128 => ?_)
                refine w_iload (j := 337) rfl rfl rfl ?_
                rcases xite_inv h with ⟨c130, h⟩ | ⟨c130, h⟩
                · refine w_ifeq_t (j := 350) rfl c130 rfl ?_
                  refine w_iinc (cc := (1 : Int32)) (j := 351) rfl rfl rfl (l1_9 rfl) rfl ?_
                  refine w_goto (j := 260) rfl rfl ?_
                  exact ih _ _ _ _ _ _ _ _ _ _ _ _ _ _ hv123 hv124 hv125 hv126 hv127 rfl hv128 h hq
                · refine w_ifeq_f (j := 338) rfl c130 rfl ?_
                  refine w_aload_n (j := 339) rfl rfl rfl ?_
                  refine w_getR (j := 340) rfl rfl rfl rfl rfl rfl ?_
                  refine w_aload_n (j := 341) rfl rfl rfl ?_
                  refine w_getI (j := 342) rfl rfl rfl rfl rfl ?_
                  refine w_iload (j := 343) rfl rfl rfl ?_
                  rcases xite_inv h with ⟨g131, h⟩ | ⟨g131, h⟩
                  · cases h
                  · refine w_iastore (j := 344) rfl rfl g131 rfl ?_
                    try dsimp only at h
                    refine w_aload_n (j := 345) rfl rfl rfl ?_
                    refine w_dup (j := 346) rfl rfl rfl ?_
                    refine w_getI (j := 347) rfl rfl rfl rfl rfl ?_
                    refine w_iconst (z := (1 : Int32)) (j := 348) rfl rfl rfl ?_
                    refine w_iadd (j := 349) rfl rfl ?_
                    refine w_putI (j := 350) rfl rfl rfl rfl rfl ?_
                    try dsimp only at h
                    refine w_iinc (cc := (1 : Int32)) (j := 351) rfl rfl rfl (l1_9 rfl) rfl ?_
                    refine w_goto (j := 260) rfl rfl ?_
                    exact ih _ _ _ _ _ _ _ _ _ _ _ _ _ _ hv123 hv124 hv125 hv126 hv127 rfl hv128 h hq
              · refine w_icmpne_t (j := 289) rfl c121 rfl ?_
                refine w_iconst (z := (0 : Int32)) (j := 290) rfl rfl rfl ?_
                refine w_istore (j := 291) rfl (l1_10 rfl) rfl ?_
                refine w_iload (j := 292) rfl rfl rfl ?_
                refine w_istore (j := 293) rfl (l1_11 rfl) rfl ?_
                obtain ⟨q134, hq134, h⟩ := Option.bind_eq_some_iff.mp h
                refine RL_X10_item_293  _ _ _ _ _ _ _ _ _ _ _ _ _ _ _ hu1 hu2 hu3 hu4 hu6 hq134 (fun v135 v136 v137 v138 v139 v140 v141 hv135 hv136 hv137 hv138 hv139 hv140 => ?_)
                refine w_iload (j := 337) rfl rfl rfl ?_
                rcases xite_inv h with ⟨c142, h⟩ | ⟨c142, h⟩
                · refine w_ifeq_t (j := 350) rfl c142 rfl ?_
                  refine w_iinc (cc := (1 : Int32)) (j := 351) rfl rfl rfl (l1_9 rfl) rfl ?_
                  refine w_goto (j := 260) rfl rfl ?_
                  exact ih _ _ _ _ _ _ _ _ _ _ _ _ _ _ hv135 hv136 hv137 hv138 hv139 rfl hv140 h hq
                · refine w_ifeq_f (j := 338) rfl c142 rfl ?_
                  refine w_aload_n (j := 339) rfl rfl rfl ?_
                  refine w_getR (j := 340) rfl rfl rfl rfl rfl rfl ?_
                  refine w_aload_n (j := 341) rfl rfl rfl ?_
                  refine w_getI (j := 342) rfl rfl rfl rfl rfl ?_
                  refine w_iload (j := 343) rfl rfl rfl ?_
                  rcases xite_inv h with ⟨g143, h⟩ | ⟨g143, h⟩
                  · cases h
                  · refine w_iastore (j := 344) rfl rfl g143 rfl ?_
                    try dsimp only at h
                    refine w_aload_n (j := 345) rfl rfl rfl ?_
                    refine w_dup (j := 346) rfl rfl rfl ?_
                    refine w_getI (j := 347) rfl rfl rfl rfl rfl ?_
                    refine w_iconst (z := (1 : Int32)) (j := 348) rfl rfl rfl ?_
                    refine w_iadd (j := 349) rfl rfl ?_
                    refine w_putI (j := 350) rfl rfl rfl rfl rfl ?_
                    try dsimp only at h
                    refine w_iinc (cc := (1 : Int32)) (j := 351) rfl rfl rfl (l1_9 rfl) rfl ?_
                    refine w_goto (j := 260) rfl rfl ?_
                    exact ih _ _ _ _ _ _ _ _ _ _ _ _ _ _ hv135 hv136 hv137 hv138 hv139 rfl hv140 h hq
set_option maxHeartbeats 2000000 in
set_option maxRecDepth 20000 in
theorem RJ_X10_item_195 {d : Nat}  {Q : Option Value → xM → Prop}  {l5 : Int32} {l6 : Int32} {u1 u2 u3 u4 u7 u8 u9 u10 u11 u12 : Option Value}  {s : St} {q : Int32 × St}  (hu1 : xlong u1 = false) (hu2 : xlong u2 = false) (hu3 : xlong u3 = false) (hu4 : xlong u4 = false) (hu7 : xlong u7 = false) (hu8 : xlong u8 = false) (hu9 : xlong u9 = false) (hu10 : xlong u10 = false) (hu11 : xlong u11 = false) (h : J_X10_item_195  l5 l6  s = some q) (hq : Q (some (.int q.1)) (SH, q.2.1, q.2.2)) : wp (d + 2) mX10_item 195 [some (.ref 94), u1, u2, u3, u4, some (.int l5), some (.int l6), u7, u8, u9, u10, u11, u12] [] (SH, s.1, s.2) Q := by
  unfold J_X10_item_195 at h
  try dsimp only at h
  refine w_aload_n (j := 196) rfl rfl rfl ?_
  refine w_aload_n (j := 197) rfl rfl rfl ?_
  refine w_getR (j := 198) rfl rfl rfl rfl rfl rfl ?_
  refine w_aload_n (j := 199) rfl rfl rfl ?_
  refine w_getI (j := 200) rfl rfl rfl rfl rfl ?_
  rcases xite_inv h with ⟨g40, h⟩ | ⟨g40, h⟩
  · cases h
  · refine w_iaload (j := 201) rfl rfl g40 rfl ?_
    refine w_iconst (z := (0 : Int32)) (j := 202) rfl rfl rfl ?_
    obtain ⟨q41, hq41, h⟩ := Option.bind_eq_some_iff.mp h
    refine wc_AII_I (j := 203) (T := []) rfl rfl rfl rfl rfl rfl rfl rfl rfl rfl ?_
    refine R_X10_isSort hq41 ⟨_, rfl, ?_⟩
    rcases xite_inv h with ⟨c42, h⟩ | ⟨c42, h⟩
    · refine w_ifne_f (j := 204) rfl c42 rfl ?_
      refine w_aload_n (j := 205) rfl rfl rfl ?_
      obtain ⟨q43, hq43, h⟩ := Option.bind_eq_some_iff.mp h
      refine wc_A_I (j := 206) (T := []) rfl rfl rfl rfl rfl rfl rfl rfl rfl rfl ?_
      refine R_X10_wrong hq43 ⟨_, rfl, ?_⟩
      rcases xite_inv h with ⟨hb, h⟩ | ⟨hb, h⟩
      · obtain rfl := Option.some.inj h
        exact wp_ret rfl rfl (xretb hb) hq
      · cases h
    · refine w_ifne_t (j := 207) rfl c42 rfl ?_
      refine w_aload_n (j := 208) rfl rfl rfl ?_
      refine w_getI (j := 209) rfl rfl rfl rfl rfl ?_
      refine w_istore (j := 210) rfl (l1_7 rfl) rfl ?_
      obtain ⟨q48, hq48, h⟩ := Option.bind_eq_some_iff.mp h
      refine RL_X10_item_210  _ _ _ _ _ _ _ _ _ _ _ _ _ _ _ hu1 hu2 hu3 hu4 hu8 hu9 hu10 hu11 hq48 (fun v49 v50 v51 v52 v53 v54 v55 v56 v57 hv49 hv50 hv51 hv52 hv53 hv54 hv55 hv56 => ?_)
      refine w_iconst (z := (0 : Int32)) (j := 227) rfl rfl rfl ?_
      refine w_istore (j := 228) rfl (l1_8 rfl) rfl ?_
      refine w_iconst (z := (0 : Int32)) (j := 229) rfl rfl rfl ?_
      refine w_istore (j := 230) rfl (l1_9 rfl) rfl ?_
      obtain ⟨q62, hq62, h⟩ := Option.bind_eq_some_iff.mp h
      refine RL_X10_item_230  _ _ _ _ _ _ _ _ _ _ _ _ _ _ _ hv49 hv50 hv51 hv52 hv55 hv56 hq62 (fun v63 v64 v65 v66 v67 v68 v69 v70 hv63 hv64 hv65 hv66 hv67 hv68 hv69 => ?_)
      refine w_iload (j := 250) rfl rfl rfl ?_
      rcases xite_inv h with ⟨c71, h⟩ | ⟨c71, h⟩
      · refine w_ifeq_t (j := 253) rfl c71 rfl ?_
        refine w_iload (j := 254) rfl rfl rfl ?_
        refine w_istore (j := 255) rfl (l1_8 rfl) rfl ?_
        refine w_aload_n (j := 256) rfl rfl rfl ?_
        refine w_iconst (z := (0 : Int32)) (j := 257) rfl rfl rfl ?_
        refine w_putI (j := 258) rfl rfl rfl rfl rfl ?_
        try dsimp only at h
        refine w_iconst (z := (0 : Int32)) (j := 259) rfl rfl rfl ?_
        refine w_istore (j := 260) rfl (l1_9 rfl) rfl ?_
        obtain ⟨q146, hq146, h⟩ := Option.bind_eq_some_iff.mp h
        refine RL_X10_item_260  _ _ _ _ _ _ _ _ _ _ _ _ _ _ _ hv63 hv64 hv65 hv66 rfl hv68 hv69 hq146 (fun v147 v148 v149 v150 v151 v152 v153 v154 v155 v156 v157 hv147 hv148 hv149 hv150 hv151 hv152 hv153 hv154 hv155 hv156 => ?_)
        refine w_aload_n (j := 353) rfl rfl rfl ?_
        refine w_getI (j := 354) rfl rfl rfl rfl rfl ?_
        refine w_iconst (z := (1 : Int32)) (j := 355) rfl rfl rfl ?_
        rcases xite_inv h with ⟨c158, h⟩ | ⟨c158, h⟩
        · refine w_icmpeq_t (j := 369) rfl c158 rfl ?_
          refine w_iconst (z := (1 : Int32)) (j := 370) rfl rfl rfl ?_
          refine w_goto (j := 372) rfl rfl ?_
          obtain rfl := Option.some.inj h
          exact wp_ret rfl rfl rfl hq
        · refine w_icmpeq_f (j := 356) rfl c158 rfl ?_
          refine w_aload_n (j := 357) rfl rfl rfl ?_
          refine w_aload_n (j := 358) rfl rfl rfl ?_
          refine w_getI (j := 359) rfl rfl rfl rfl rfl ?_
          rcases xite_inv h with ⟨c159, h⟩ | ⟨c159, h⟩
          · refine w_ifne_f (j := 360) rfl c159 rfl ?_
            refine w_iconst (z := (4 : Int32)) (j := 361) rfl rfl rfl ?_
            refine w_goto (j := 363) rfl rfl ?_
            refine w_aload_n (j := 364) rfl rfl rfl ?_
            refine w_getR (j := 365) rfl rfl rfl rfl rfl rfl ?_
            refine w_iload (j := 366) rfl rfl rfl ?_
            rcases xite_inv h with ⟨g160, h⟩ | ⟨g160, h⟩
            · cases h
            · refine w_iaload (j := 367) rfl rfl g160 rfl ?_
              obtain ⟨q161, hq161, h⟩ := Option.bind_eq_some_iff.mp h
              refine wc_AII_I (j := 368) (T := []) rfl rfl rfl rfl rfl rfl rfl rfl rfl rfl ?_
              refine R_X10_fails hq161 ⟨_, rfl, ?_⟩
              rcases xite_inv h with ⟨c162, h⟩ | ⟨c162, h⟩
              · refine w_ifeq_t (j := 371) rfl c162 rfl ?_
                refine w_iconst (z := (0 : Int32)) (j := 372) rfl rfl rfl ?_
                obtain rfl := Option.some.inj h
                exact wp_ret rfl rfl rfl hq
              · refine w_ifeq_f (j := 369) rfl c162 rfl ?_
                refine w_iconst (z := (1 : Int32)) (j := 370) rfl rfl rfl ?_
                refine w_goto (j := 372) rfl rfl ?_
                obtain rfl := Option.some.inj h
                exact wp_ret rfl rfl rfl hq
          · refine w_ifne_t (j := 362) rfl c159 rfl ?_
            refine w_iconst (z := (5 : Int32)) (j := 363) rfl rfl rfl ?_
            refine w_aload_n (j := 364) rfl rfl rfl ?_
            refine w_getR (j := 365) rfl rfl rfl rfl rfl rfl ?_
            refine w_iload (j := 366) rfl rfl rfl ?_
            rcases xite_inv h with ⟨g163, h⟩ | ⟨g163, h⟩
            · cases h
            · refine w_iaload (j := 367) rfl rfl g163 rfl ?_
              obtain ⟨q164, hq164, h⟩ := Option.bind_eq_some_iff.mp h
              refine wc_AII_I (j := 368) (T := []) rfl rfl rfl rfl rfl rfl rfl rfl rfl rfl ?_
              refine R_X10_fails hq164 ⟨_, rfl, ?_⟩
              rcases xite_inv h with ⟨c165, h⟩ | ⟨c165, h⟩
              · refine w_ifeq_t (j := 371) rfl c165 rfl ?_
                refine w_iconst (z := (0 : Int32)) (j := 372) rfl rfl rfl ?_
                obtain rfl := Option.some.inj h
                exact wp_ret rfl rfl rfl hq
              · refine w_ifeq_f (j := 369) rfl c165 rfl ?_
                refine w_iconst (z := (1 : Int32)) (j := 370) rfl rfl rfl ?_
                refine w_goto (j := 372) rfl rfl ?_
                obtain rfl := Option.some.inj h
                exact wp_ret rfl rfl rfl hq
      · refine w_ifeq_f (j := 251) rfl c71 rfl ?_
        refine w_iconst (z := (1 : Int32)) (j := 252) rfl rfl rfl ?_
        refine w_goto (j := 254) rfl rfl ?_
        refine w_istore (j := 255) rfl (l1_8 rfl) rfl ?_
        refine w_aload_n (j := 256) rfl rfl rfl ?_
        refine w_iconst (z := (0 : Int32)) (j := 257) rfl rfl rfl ?_
        refine w_putI (j := 258) rfl rfl rfl rfl rfl ?_
        try dsimp only at h
        refine w_iconst (z := (0 : Int32)) (j := 259) rfl rfl rfl ?_
        refine w_istore (j := 260) rfl (l1_9 rfl) rfl ?_
        obtain ⟨q167, hq167, h⟩ := Option.bind_eq_some_iff.mp h
        refine RL_X10_item_260  _ _ _ _ _ _ _ _ _ _ _ _ _ _ _ hv63 hv64 hv65 hv66 rfl hv68 hv69 hq167 (fun v168 v169 v170 v171 v172 v173 v174 v175 v176 v177 v178 hv168 hv169 hv170 hv171 hv172 hv173 hv174 hv175 hv176 hv177 => ?_)
        refine w_aload_n (j := 353) rfl rfl rfl ?_
        refine w_getI (j := 354) rfl rfl rfl rfl rfl ?_
        refine w_iconst (z := (1 : Int32)) (j := 355) rfl rfl rfl ?_
        rcases xite_inv h with ⟨c179, h⟩ | ⟨c179, h⟩
        · refine w_icmpeq_t (j := 369) rfl c179 rfl ?_
          refine w_iconst (z := (1 : Int32)) (j := 370) rfl rfl rfl ?_
          refine w_goto (j := 372) rfl rfl ?_
          obtain rfl := Option.some.inj h
          exact wp_ret rfl rfl rfl hq
        · refine w_icmpeq_f (j := 356) rfl c179 rfl ?_
          refine w_aload_n (j := 357) rfl rfl rfl ?_
          refine w_aload_n (j := 358) rfl rfl rfl ?_
          refine w_getI (j := 359) rfl rfl rfl rfl rfl ?_
          rcases xite_inv h with ⟨c180, h⟩ | ⟨c180, h⟩
          · refine w_ifne_f (j := 360) rfl c180 rfl ?_
            refine w_iconst (z := (4 : Int32)) (j := 361) rfl rfl rfl ?_
            refine w_goto (j := 363) rfl rfl ?_
            refine w_aload_n (j := 364) rfl rfl rfl ?_
            refine w_getR (j := 365) rfl rfl rfl rfl rfl rfl ?_
            refine w_iload (j := 366) rfl rfl rfl ?_
            rcases xite_inv h with ⟨g181, h⟩ | ⟨g181, h⟩
            · cases h
            · refine w_iaload (j := 367) rfl rfl g181 rfl ?_
              obtain ⟨q182, hq182, h⟩ := Option.bind_eq_some_iff.mp h
              refine wc_AII_I (j := 368) (T := []) rfl rfl rfl rfl rfl rfl rfl rfl rfl rfl ?_
              refine R_X10_fails hq182 ⟨_, rfl, ?_⟩
              rcases xite_inv h with ⟨c183, h⟩ | ⟨c183, h⟩
              · refine w_ifeq_t (j := 371) rfl c183 rfl ?_
                refine w_iconst (z := (0 : Int32)) (j := 372) rfl rfl rfl ?_
                obtain rfl := Option.some.inj h
                exact wp_ret rfl rfl rfl hq
              · refine w_ifeq_f (j := 369) rfl c183 rfl ?_
                refine w_iconst (z := (1 : Int32)) (j := 370) rfl rfl rfl ?_
                refine w_goto (j := 372) rfl rfl ?_
                obtain rfl := Option.some.inj h
                exact wp_ret rfl rfl rfl hq
          · refine w_ifne_t (j := 362) rfl c180 rfl ?_
            refine w_iconst (z := (5 : Int32)) (j := 363) rfl rfl rfl ?_
            refine w_aload_n (j := 364) rfl rfl rfl ?_
            refine w_getR (j := 365) rfl rfl rfl rfl rfl rfl ?_
            refine w_iload (j := 366) rfl rfl rfl ?_
            rcases xite_inv h with ⟨g184, h⟩ | ⟨g184, h⟩
            · cases h
            · refine w_iaload (j := 367) rfl rfl g184 rfl ?_
              obtain ⟨q185, hq185, h⟩ := Option.bind_eq_some_iff.mp h
              refine wc_AII_I (j := 368) (T := []) rfl rfl rfl rfl rfl rfl rfl rfl rfl rfl ?_
              refine R_X10_fails hq185 ⟨_, rfl, ?_⟩
              rcases xite_inv h with ⟨c186, h⟩ | ⟨c186, h⟩
              · refine w_ifeq_t (j := 371) rfl c186 rfl ?_
                refine w_iconst (z := (0 : Int32)) (j := 372) rfl rfl rfl ?_
                obtain rfl := Option.some.inj h
                exact wp_ret rfl rfl rfl hq
              · refine w_ifeq_f (j := 369) rfl c186 rfl ?_
                refine w_iconst (z := (1 : Int32)) (j := 370) rfl rfl rfl ?_
                refine w_goto (j := 372) rfl rfl ?_
                obtain rfl := Option.some.inj h
                exact wp_ret rfl rfl rfl hq
set_option maxHeartbeats 2000000 in
set_option maxRecDepth 20000 in
theorem RJ_X10_item_189 {d : Nat}  {Q : Option Value → xM → Prop}  {l5 : Int32} {l6 : Int32} {u1 u2 u3 u4 u7 u8 u9 u10 u11 u12 : Option Value}  {s : St} {q : Int32 × St}  (hu1 : xlong u1 = false) (hu2 : xlong u2 = false) (hu3 : xlong u3 = false) (hu4 : xlong u4 = false) (hu7 : xlong u7 = false) (hu8 : xlong u8 = false) (hu9 : xlong u9 = false) (hu10 : xlong u10 = false) (hu11 : xlong u11 = false) (h : J_X10_item_189  l5 l6  s = some q) (hq : Q (some (.int q.1)) (SH, q.2.1, q.2.2)) : wp (d + 2) mX10_item 189 [some (.ref 94), u1, u2, u3, u4, some (.int l5), some (.int l6), u7, u8, u9, u10, u11, u12] [] (SH, s.1, s.2) Q := by
  unfold J_X10_item_189 at h
  try dsimp only at h
  refine w_aload_n (j := 190) rfl rfl rfl ?_
  refine w_dup (j := 191) rfl rfl rfl ?_
  refine w_getI (j := 192) rfl rfl rfl rfl rfl ?_
  refine w_iconst (z := (1 : Int32)) (j := 193) rfl rfl rfl ?_
  refine w_iadd (j := 194) rfl rfl ?_
  refine w_putI (j := 195) rfl rfl rfl rfl rfl ?_
  try dsimp only at h
  exact RJ_X10_item_195  hu1 hu2 hu3 hu4 hu7 hu8 hu9 hu10 hu11 h hq
set_option maxHeartbeats 2000000 in
set_option maxRecDepth 20000 in
theorem RJ_X10_item_182 {d : Nat}  {Q : Option Value → xM → Prop}  {l3 : Int32} {l5 : Int32} {l6 : Int32} {u1 u2 u4 u7 u8 u9 u10 u11 u12 : Option Value}  {s : St} {q : Int32 × St}  (hu1 : xlong u1 = false) (hu2 : xlong u2 = false) (hu4 : xlong u4 = false) (hu7 : xlong u7 = false) (hu8 : xlong u8 = false) (hu9 : xlong u9 = false) (hu10 : xlong u10 = false) (hu11 : xlong u11 = false) (h : J_X10_item_182  l3 l5 l6  s = some q) (hq : Q (some (.int q.1)) (SH, q.2.1, q.2.2)) : wp (d + 2) mX10_item 182 [some (.ref 94), u1, u2, some (.int l3), u4, some (.int l5), some (.int l6), u7, u8, u9, u10, u11, u12] [] (SH, s.1, s.2) Q := by
  unfold J_X10_item_182 at h
  try dsimp only at h
  refine w_iload (j := 183) rfl rfl rfl ?_
  rcases xite_inv h with ⟨c37, h⟩ | ⟨c37, h⟩
  · refine w_ifne_f (j := 184) rfl c37 rfl ?_
    refine w_iload_n (j := 185) rfl rfl rfl ?_
    refine w_iconst (z := (0 : Int32)) (j := 186) rfl rfl rfl ?_
    refine w_iconst (z := (2 : Int32)) (j := 187) rfl rfl rfl ?_
    obtain ⟨q38, hq38, h⟩ := Option.bind_eq_some_iff.mp h
    refine wc_III_I (j := 188) (T := []) rfl rfl rfl rfl rfl rfl rfl rfl rfl rfl ?_
    refine R_X10_isIn hq38 ⟨_, rfl, ?_⟩
    rcases xite_inv h with ⟨c39, h⟩ | ⟨c39, h⟩
    · refine w_ifeq_t (j := 195) rfl c39 rfl ?_
      exact RJ_X10_item_195  hu1 hu2 rfl hu4 hu7 hu8 hu9 hu10 hu11 h hq
    · refine w_ifeq_f (j := 189) rfl c39 rfl ?_
      exact RJ_X10_item_189  hu1 hu2 rfl hu4 hu7 hu8 hu9 hu10 hu11 h hq
  · refine w_ifne_t (j := 189) rfl c37 rfl ?_
    exact RJ_X10_item_189  hu1 hu2 rfl hu4 hu7 hu8 hu9 hu10 hu11 h hq
set_option maxHeartbeats 2000000 in
set_option maxRecDepth 20000 in
theorem RJ_X10_item_177 {d : Nat}  {Q : Option Value → xM → Prop}  {l2 : Int32} {l3 : Int32} {l5 : Int32} {l6 : Int32} {u1 u4 u7 u8 u9 u10 u11 u12 : Option Value} {t1 : Int32} {s : St} {q : Int32 × St}  (hu1 : xlong u1 = false) (hu4 : xlong u4 = false) (hu7 : xlong u7 = false) (hu8 : xlong u8 = false) (hu9 : xlong u9 = false) (hu10 : xlong u10 = false) (hu11 : xlong u11 = false) (h : J_X10_item_177  l2 l3 l5 l6 t1 s = some q) (hq : Q (some (.int q.1)) (SH, q.2.1, q.2.2)) : wp (d + 2) mX10_item 177 [some (.ref 94), u1, some (.int l2), some (.int l3), u4, some (.int l5), some (.int l6), u7, u8, u9, u10, u11, u12] [.int t1, .ref 94] (SH, s.1, s.2) Q := by
  unfold J_X10_item_177 at h
  try dsimp only at h
  refine w_iload_n (j := 178) rfl rfl rfl ?_
  obtain ⟨q190, hq190, h⟩ := Option.bind_eq_some_iff.mp h
  refine wc_AII_I (j := 179) (T := [none, none, none]) rfl rfl rfl rfl rfl rfl rfl rfl rfl rfl ?_
  refine R_X10_tableMeans hq190 ⟨_, rfl, ?_⟩
  rcases xite_inv h with ⟨c191, h⟩ | ⟨c191, h⟩
  · refine w_ifne_f (j := 180) rfl c191 rfl ?_
    refine w_iconst (z := (0 : Int32)) (j := 181) rfl rfl rfl ?_
    obtain rfl := Option.some.inj h
    exact wp_ret rfl rfl rfl hq
  · refine w_ifne_t (j := 182) rfl c191 rfl ?_
    exact RJ_X10_item_182  hu1 rfl hu4 hu7 hu8 hu9 hu10 hu11 h hq
set_option maxHeartbeats 2000000 in
set_option maxRecDepth 20000 in
theorem RJ_X10_item_155 {d : Nat}  {Q : Option Value → xM → Prop}  {l2 : Int32} {l3 : Int32} {l5 : Int32} {u1 u4 u6 u7 u8 u9 u10 u11 u12 : Option Value} {t0 : Int32} {s : St} {q : Int32 × St}  (hu1 : xlong u1 = false) (hu4 : xlong u4 = false) (hu6 : xlong u6 = false) (hu7 : xlong u7 = false) (hu8 : xlong u8 = false) (hu9 : xlong u9 = false) (hu10 : xlong u10 = false) (hu11 : xlong u11 = false) (h : J_X10_item_155  l2 l3 l5 t0 s = some q) (hq : Q (some (.int q.1)) (SH, q.2.1, q.2.2)) : wp (d + 2) mX10_item 155 [some (.ref 94), u1, some (.int l2), some (.int l3), u4, some (.int l5), u6, u7, u8, u9, u10, u11, u12] [.int t0] (SH, s.1, s.2) Q := by
  unfold J_X10_item_155 at h
  try dsimp only at h
  refine w_istore (j := 156) rfl (l1_6 rfl) rfl ?_
  refine w_iload (j := 157) rfl rfl rfl ?_
  rcases xite_inv h with ⟨c36, h⟩ | ⟨c36, h⟩
  · refine w_ifeq_t (j := 182) rfl c36 rfl ?_
    exact RJ_X10_item_182  hu1 rfl hu4 hu7 hu8 hu9 hu10 hu11 h hq
  · refine w_ifeq_f (j := 158) rfl c36 rfl ?_
    refine w_iload (j := 159) rfl rfl rfl ?_
    rcases xite_inv h with ⟨c188, h⟩ | ⟨c188, h⟩
    · refine w_ifne_f (j := 160) rfl c188 rfl ?_
      refine w_aload_n (j := 161) rfl rfl rfl ?_
      refine w_iload_n (j := 162) rfl rfl rfl ?_
      refine w_bipush (z := (15 : Int32)) (j := 163) rfl rfl rfl ?_
      rcases xite_inv h with ⟨c189, h⟩ | ⟨c189, h⟩
      · refine w_icmpne_f (j := 164) rfl c189 rfl ?_
        refine w_iconst (z := (1 : Int32)) (j := 165) rfl rfl rfl ?_
        refine w_goto (j := 177) rfl rfl ?_
        exact RJ_X10_item_177  hu1 hu4 hu7 hu8 hu9 hu10 hu11 h hq
      · refine w_icmpne_t (j := 166) rfl c189 rfl ?_
        refine w_iload_n (j := 167) rfl rfl rfl ?_
        refine w_bipush (z := (10 : Int32)) (j := 168) rfl rfl rfl ?_
        rcases xite_inv h with ⟨c192, h⟩ | ⟨c192, h⟩
        · refine w_icmpne_f (j := 169) rfl c192 rfl ?_
          refine w_iconst (z := (2 : Int32)) (j := 170) rfl rfl rfl ?_
          refine w_goto (j := 177) rfl rfl ?_
          exact RJ_X10_item_177  hu1 hu4 hu7 hu8 hu9 hu10 hu11 h hq
        · refine w_icmpne_t (j := 171) rfl c192 rfl ?_
          refine w_iload_n (j := 172) rfl rfl rfl ?_
          refine w_bipush (z := (16 : Int32)) (j := 173) rfl rfl rfl ?_
          rcases xite_inv h with ⟨c193, h⟩ | ⟨c193, h⟩
          · refine w_icmpne_f (j := 174) rfl c193 rfl ?_
            refine w_iconst (z := (0 : Int32)) (j := 175) rfl rfl rfl ?_
            refine w_goto (j := 177) rfl rfl ?_
            exact RJ_X10_item_177  hu1 hu4 hu7 hu8 hu9 hu10 hu11 h hq
          · refine w_icmpne_t (j := 176) rfl c193 rfl ?_
            refine w_iconst (z := (3 : Int32)) (j := 177) rfl rfl rfl ?_
            exact RJ_X10_item_177  hu1 hu4 hu7 hu8 hu9 hu10 hu11 h hq
    · refine w_ifne_t (j := 182) rfl c188 rfl ?_
      exact RJ_X10_item_182  hu1 rfl hu4 hu7 hu8 hu9 hu10 hu11 h hq
set_option maxHeartbeats 2000000 in
set_option maxRecDepth 20000 in
theorem RJ_X10_item_148 {d : Nat}  {Q : Option Value → xM → Prop}  {l2 : Int32} {l3 : Int32} {u1 u4 u5 u6 u7 u8 u9 u10 u11 u12 : Option Value} {t0 : Int32} {s : St} {q : Int32 × St}  (hu1 : xlong u1 = false) (hu4 : xlong u4 = false) (hu5 : xlong u5 = false) (hu6 : xlong u6 = false) (hu7 : xlong u7 = false) (hu8 : xlong u8 = false) (hu9 : xlong u9 = false) (hu10 : xlong u10 = false) (hu11 : xlong u11 = false) (h : J_X10_item_148  l2 l3 t0 s = some q) (hq : Q (some (.int q.1)) (SH, q.2.1, q.2.2)) : wp (d + 2) mX10_item 148 [some (.ref 94), u1, some (.int l2), some (.int l3), u4, u5, u6, u7, u8, u9, u10, u11, u12] [.int t0] (SH, s.1, s.2) Q := by
  unfold J_X10_item_148 at h
  try dsimp only at h
  refine w_istore (j := 149) rfl (l1_5 hu4) rfl ?_
  refine w_iload_n (j := 150) rfl rfl rfl ?_
  refine w_bipush (z := (18 : Int32)) (j := 151) rfl rfl rfl ?_
  rcases xite_inv h with ⟨c35, h⟩ | ⟨c35, h⟩
  · refine w_icmpne_f (j := 152) rfl c35 rfl ?_
    refine w_iconst (z := (1 : Int32)) (j := 153) rfl rfl rfl ?_
    refine w_goto (j := 155) rfl rfl ?_
    exact RJ_X10_item_155  hu1 hu4 hu6 hu7 hu8 hu9 hu10 hu11 h hq
  · refine w_icmpne_t (j := 154) rfl c35 rfl ?_
    refine w_iconst (z := (0 : Int32)) (j := 155) rfl rfl rfl ?_
    exact RJ_X10_item_155  hu1 hu4 hu6 hu7 hu8 hu9 hu10 hu11 h hq
set_option maxHeartbeats 2000000 in
set_option maxRecDepth 20000 in
theorem RJ_X10_item_145 {d : Nat}  {Q : Option Value → xM → Prop}  {l2 : Int32} {l3 : Int32} {u1 u4 u5 u6 u7 u8 u9 u10 u11 u12 : Option Value}  {s : St} {q : Int32 × St}  (hu1 : xlong u1 = false) (hu4 : xlong u4 = false) (hu5 : xlong u5 = false) (hu6 : xlong u6 = false) (hu7 : xlong u7 = false) (hu8 : xlong u8 = false) (hu9 : xlong u9 = false) (hu10 : xlong u10 = false) (hu11 : xlong u11 = false) (h : J_X10_item_145  l2 l3  s = some q) (hq : Q (some (.int q.1)) (SH, q.2.1, q.2.2)) : wp (d + 2) mX10_item 145 [some (.ref 94), u1, some (.int l2), some (.int l3), u4, u5, u6, u7, u8, u9, u10, u11, u12] [] (SH, s.1, s.2) Q := by
  unfold J_X10_item_145 at h
  try dsimp only at h
  refine w_iconst (z := (1 : Int32)) (j := 146) rfl rfl rfl ?_
  refine w_goto (j := 148) rfl rfl ?_
  exact RJ_X10_item_148  hu1 hu4 hu5 hu6 hu7 hu8 hu9 hu10 hu11 h hq
set_option maxHeartbeats 2000000 in
set_option maxRecDepth 20000 in
theorem RJ_X10_item_117 {d : Nat}  {Q : Option Value → xM → Prop}  {l1 : Int32} {l2 : Int32} {l3 : Int32} {u4 u5 u6 u7 u8 u9 u10 u11 u12 : Option Value}  {s : St} {q : Int32 × St}  (hu4 : xlong u4 = false) (hu5 : xlong u5 = false) (hu6 : xlong u6 = false) (hu7 : xlong u7 = false) (hu8 : xlong u8 = false) (hu9 : xlong u9 = false) (hu10 : xlong u10 = false) (hu11 : xlong u11 = false) (h : J_X10_item_117  l1 l2 l3  s = some q) (hq : Q (some (.int q.1)) (SH, q.2.1, q.2.2)) : wp (d + 2) mX10_item 117 [some (.ref 94), some (.int l1), some (.int l2), some (.int l3), u4, u5, u6, u7, u8, u9, u10, u11, u12] [] (SH, s.1, s.2) Q := by
  unfold J_X10_item_117 at h
  try dsimp only at h
  refine w_iload_n (j := 118) rfl rfl rfl ?_
  refine w_bipush (z := (12 : Int32)) (j := 119) rfl rfl rfl ?_
  refine w_bipush (z := (14 : Int32)) (j := 120) rfl rfl rfl ?_
  obtain ⟨q32, hq32, h⟩ := Option.bind_eq_some_iff.mp h
  refine wc_III_I (j := 121) (T := []) rfl rfl rfl rfl rfl rfl rfl rfl rfl rfl ?_
  refine R_X10_isIn hq32 ⟨_, rfl, ?_⟩
  rcases xite_inv h with ⟨c33, h⟩ | ⟨c33, h⟩
  · refine w_ifeq_t (j := 137) rfl c33 rfl ?_
    refine w_iload_n (j := 138) rfl rfl rfl ?_
    refine w_bipush (z := (10 : Int32)) (j := 139) rfl rfl rfl ?_
    rcases xite_inv h with ⟨c34, h⟩ | ⟨c34, h⟩
    · refine w_icmpeq_t (j := 145) rfl c34 rfl ?_
      exact RJ_X10_item_145  rfl hu4 hu5 hu6 hu7 hu8 hu9 hu10 hu11 h hq
    · refine w_icmpeq_f (j := 140) rfl c34 rfl ?_
      refine w_iload_n (j := 141) rfl rfl rfl ?_
      refine w_bipush (z := (15 : Int32)) (j := 142) rfl rfl rfl ?_
      refine w_bipush (z := (18 : Int32)) (j := 143) rfl rfl rfl ?_
      obtain ⟨q194, hq194, h⟩ := Option.bind_eq_some_iff.mp h
      refine wc_III_I (j := 144) (T := []) rfl rfl rfl rfl rfl rfl rfl rfl rfl rfl ?_
      refine R_X10_isIn hq194 ⟨_, rfl, ?_⟩
      rcases xite_inv h with ⟨c195, h⟩ | ⟨c195, h⟩
      · refine w_ifeq_t (j := 147) rfl c195 rfl ?_
        refine w_iconst (z := (0 : Int32)) (j := 148) rfl rfl rfl ?_
        exact RJ_X10_item_148  rfl hu4 hu5 hu6 hu7 hu8 hu9 hu10 hu11 h hq
      · refine w_ifeq_f (j := 145) rfl c195 rfl ?_
        exact RJ_X10_item_145  rfl hu4 hu5 hu6 hu7 hu8 hu9 hu10 hu11 h hq
  · refine w_ifeq_f (j := 122) rfl c33 rfl ?_
    refine w_aload_n (j := 123) rfl rfl rfl ?_
    refine w_dup (j := 124) rfl rfl rfl ?_
    refine w_getI (j := 125) rfl rfl rfl rfl rfl ?_
    refine w_iconst (z := (1 : Int32)) (j := 126) rfl rfl rfl ?_
    refine w_iadd (j := 127) rfl rfl ?_
    refine w_putI (j := 128) rfl rfl rfl rfl rfl ?_
    try dsimp only at h
    refine w_aload_n (j := 129) rfl rfl rfl ?_
    refine w_iload_n (j := 130) rfl rfl rfl ?_
    refine w_bipush (z := (14 : Int32)) (j := 131) rfl rfl rfl ?_
    rcases xite_inv h with ⟨c197, h⟩ | ⟨c197, h⟩
    · refine w_icmpne_f (j := 132) rfl c197 rfl ?_
      refine w_iload_n (j := 133) rfl rfl rfl ?_
      refine w_goto (j := 135) rfl rfl ?_
      obtain ⟨q198, hq198, h⟩ := Option.bind_eq_some_iff.mp h
      refine wc_AI_I (j := 136) (T := []) rfl rfl rfl rfl rfl rfl rfl rfl rfl rfl ?_
      refine R_X10_oneMeans hq198 ⟨_, rfl, ?_⟩
      rcases xite_inv h with ⟨hb, h⟩ | ⟨hb, h⟩
      · obtain rfl := Option.some.inj h
        exact wp_ret rfl rfl (xretb hb) hq
      · cases h
    · refine w_icmpne_t (j := 134) rfl c197 rfl ?_
      refine w_iconst (z := (0 : Int32)) (j := 135) rfl rfl rfl ?_
      obtain ⟨q199, hq199, h⟩ := Option.bind_eq_some_iff.mp h
      refine wc_AI_I (j := 136) (T := []) rfl rfl rfl rfl rfl rfl rfl rfl rfl rfl ?_
      refine R_X10_oneMeans hq199 ⟨_, rfl, ?_⟩
      rcases xite_inv h with ⟨hb, h⟩ | ⟨hb, h⟩
      · obtain rfl := Option.some.inj h
        exact wp_ret rfl rfl (xretb hb) hq
      · cases h
set_option maxHeartbeats 2000000 in
set_option maxRecDepth 20000 in
theorem RJ_X10_item_93 {d : Nat}  {Q : Option Value → xM → Prop}  {l1 : Int32} {l2 : Int32} {l3 : Int32} {u4 u5 u6 u7 u8 u9 u10 u11 u12 : Option Value} {t0 : Int32} {s : St} {q : Int32 × St}  (hu4 : xlong u4 = false) (hu5 : xlong u5 = false) (hu6 : xlong u6 = false) (hu7 : xlong u7 = false) (hu8 : xlong u8 = false) (hu9 : xlong u9 = false) (hu10 : xlong u10 = false) (hu11 : xlong u11 = false) (h : J_X10_item_93  l1 l2 l3 t0 s = some q) (hq : Q (some (.int q.1)) (SH, q.2.1, q.2.2)) : wp (d + 2) mX10_item 93 [some (.ref 94), some (.int l1), some (.int l2), some (.int l3), u4, u5, u6, u7, u8, u9, u10, u11, u12] [.int t0] (SH, s.1, s.2) Q := by
  unfold J_X10_item_93 at h
  try dsimp only at h
  refine w_istore (j := 94) rfl (l1_4 rfl) rfl ?_
  refine w_iload_n (j := 95) rfl rfl rfl ?_
  refine w_bipush (z := (8 : Int32)) (j := 96) rfl rfl rfl ?_
  refine w_bipush (z := (11 : Int32)) (j := 97) rfl rfl rfl ?_
  obtain ⟨q30, hq30, h⟩ := Option.bind_eq_some_iff.mp h
  refine wc_III_I (j := 98) (T := []) rfl rfl rfl rfl rfl rfl rfl rfl rfl rfl ?_
  refine R_X10_isIn hq30 ⟨_, rfl, ?_⟩
  rcases xite_inv h with ⟨c31, h⟩ | ⟨c31, h⟩
  · refine w_ifeq_t (j := 117) rfl c31 rfl ?_
    exact RJ_X10_item_117  rfl hu5 hu6 hu7 hu8 hu9 hu10 hu11 h hq
  · refine w_ifeq_f (j := 99) rfl c31 rfl ?_
    refine w_iload_n (j := 100) rfl rfl rfl ?_
    refine w_bipush (z := (10 : Int32)) (j := 101) rfl rfl rfl ?_
    rcases xite_inv h with ⟨c200, h⟩ | ⟨c200, h⟩
    · refine w_icmpne_f (j := 102) rfl c200 rfl ?_
      refine w_iload (j := 103) rfl rfl rfl ?_
      rcases xite_inv h with ⟨c201, h⟩ | ⟨c201, h⟩
      · refine w_ifne_f (j := 104) rfl c201 rfl ?_
        refine w_aload_n (j := 105) rfl rfl rfl ?_
        refine w_dup (j := 106) rfl rfl rfl ?_
        refine w_getI (j := 107) rfl rfl rfl rfl rfl ?_
        refine w_iconst (z := (1 : Int32)) (j := 108) rfl rfl rfl ?_
        refine w_iadd (j := 109) rfl rfl ?_
        refine w_putI (j := 110) rfl rfl rfl rfl rfl ?_
        try dsimp only at h
        refine w_aload_n (j := 111) rfl rfl rfl ?_
        refine w_iload_n (j := 112) rfl rfl rfl ?_
        refine w_bipush (z := (8 : Int32)) (j := 113) rfl rfl rfl ?_
        refine w_isub (j := 114) rfl rfl ?_
        refine w_iload_n (j := 115) rfl rfl rfl ?_
        obtain ⟨q203, hq203, h⟩ := Option.bind_eq_some_iff.mp h
        refine wc_AII_I (j := 116) (T := [none, none, none]) rfl rfl rfl rfl rfl rfl rfl rfl rfl rfl ?_
        refine R_X10_tableMeans hq203 ⟨_, rfl, ?_⟩
        rcases xite_inv h with ⟨hb, h⟩ | ⟨hb, h⟩
        · obtain rfl := Option.some.inj h
          exact wp_ret rfl rfl (xretb hb) hq
        · cases h
      · refine w_ifne_t (j := 117) rfl c201 rfl ?_
        exact RJ_X10_item_117  rfl hu5 hu6 hu7 hu8 hu9 hu10 hu11 h hq
    · refine w_icmpne_t (j := 104) rfl c200 rfl ?_
      refine w_aload_n (j := 105) rfl rfl rfl ?_
      refine w_dup (j := 106) rfl rfl rfl ?_
      refine w_getI (j := 107) rfl rfl rfl rfl rfl ?_
      refine w_iconst (z := (1 : Int32)) (j := 108) rfl rfl rfl ?_
      refine w_iadd (j := 109) rfl rfl ?_
      refine w_putI (j := 110) rfl rfl rfl rfl rfl ?_
      try dsimp only at h
      refine w_aload_n (j := 111) rfl rfl rfl ?_
      refine w_iload_n (j := 112) rfl rfl rfl ?_
      refine w_bipush (z := (8 : Int32)) (j := 113) rfl rfl rfl ?_
      refine w_isub (j := 114) rfl rfl ?_
      refine w_iload_n (j := 115) rfl rfl rfl ?_
      obtain ⟨q205, hq205, h⟩ := Option.bind_eq_some_iff.mp h
      refine wc_AII_I (j := 116) (T := [none, none, none]) rfl rfl rfl rfl rfl rfl rfl rfl rfl rfl ?_
      refine R_X10_tableMeans hq205 ⟨_, rfl, ?_⟩
      rcases xite_inv h with ⟨hb, h⟩ | ⟨hb, h⟩
      · obtain rfl := Option.some.inj h
        exact wp_ret rfl rfl (xretb hb) hq
      · cases h
set_option maxHeartbeats 2000000 in
set_option maxRecDepth 20000 in
theorem RJ_X10_item_92 {d : Nat}  {Q : Option Value → xM → Prop}  {l1 : Int32} {l2 : Int32} {l3 : Int32} {u4 u5 u6 u7 u8 u9 u10 u11 u12 : Option Value}  {s : St} {q : Int32 × St}  (hu4 : xlong u4 = false) (hu5 : xlong u5 = false) (hu6 : xlong u6 = false) (hu7 : xlong u7 = false) (hu8 : xlong u8 = false) (hu9 : xlong u9 = false) (hu10 : xlong u10 = false) (hu11 : xlong u11 = false) (h : J_X10_item_92  l1 l2 l3  s = some q) (hq : Q (some (.int q.1)) (SH, q.2.1, q.2.2)) : wp (d + 2) mX10_item 92 [some (.ref 94), some (.int l1), some (.int l2), some (.int l3), u4, u5, u6, u7, u8, u9, u10, u11, u12] [] (SH, s.1, s.2) Q := by
  unfold J_X10_item_92 at h
  try dsimp only at h
  refine w_iconst (z := (0 : Int32)) (j := 93) rfl rfl rfl ?_
  exact RJ_X10_item_93  hu4 hu5 hu6 hu7 hu8 hu9 hu10 hu11 h hq
set_option maxHeartbeats 2000000 in
set_option maxRecDepth 20000 in
theorem R_X10_item {d : Nat} {a0 : Int32} {s : St} {q : Int32 × St} {Q : Option Value → xM → Prop}  (h : F_X10_item a0 s = some q) (hq : Q (some (.int q.1)) (SH, q.2.1, q.2.2)) : wp (d + 2) mX10_item 0 [some (.ref 94), some (.int a0), none, none, none, none, none, none, none, none, none, none, none] [] (SH, s.1, s.2) Q := by
  unfold F_X10_item at h
  try dsimp only at h
  refine w_aload_n (j := 1) rfl rfl rfl ?_
  refine w_getI (j := 2) rfl rfl rfl rfl rfl ?_
  refine w_istore_n (j := 3) rfl (l1_2 rfl) rfl ?_
  refine w_aload_n (j := 4) rfl rfl rfl ?_
  refine w_getR (j := 5) rfl rfl rfl rfl rfl rfl ?_
  refine w_aload_n (j := 6) rfl rfl rfl ?_
  refine w_getI (j := 7) rfl rfl rfl rfl rfl ?_
  rcases xite_inv h with ⟨g1, h⟩ | ⟨g1, h⟩
  · cases h
  · refine w_iaload (j := 8) rfl rfl g1 rfl ?_
    refine w_istore_n (j := 9) rfl (l1_3 rfl) rfl ?_
    refine w_iload_n (j := 10) rfl rfl rfl ?_
    refine w_bipush (z := (19 : Int32)) (j := 11) rfl rfl rfl ?_
    rcases xite_inv h with ⟨c2, h⟩ | ⟨c2, h⟩
    · refine w_icmpne_f (j := 12) rfl c2 rfl ?_
      refine w_aload_n (j := 13) rfl rfl rfl ?_
      refine w_dup (j := 14) rfl rfl rfl ?_
      refine w_getI (j := 15) rfl rfl rfl rfl rfl ?_
      refine w_iconst (z := (1 : Int32)) (j := 16) rfl rfl rfl ?_
      refine w_iadd (j := 17) rfl rfl ?_
      refine w_putI (j := 18) rfl rfl rfl rfl rfl ?_
      try dsimp only at h
      refine w_aload_n (j := 19) rfl rfl rfl ?_
      refine w_iconst (z := (0 : Int32)) (j := 20) rfl rfl rfl ?_
      refine w_putI (j := 21) rfl rfl rfl rfl rfl ?_
      try dsimp only at h
      refine w_iconst (z := (1 : Int32)) (j := 22) rfl rfl rfl ?_
      refine w_istore (j := 23) rfl (l1_4 rfl) rfl ?_
      obtain ⟨q14, hq14, h⟩ := Option.bind_eq_some_iff.mp h
      refine RL_X10_item_23  _ _ _ _ _ _ _ _ _ _ _ _ _ _ _ rfl rfl rfl rfl rfl rfl rfl rfl hq14 (fun v15 v16 v17 v18 v19 v20 v21 v22 v23 v24 v25 hv15 hv16 hv17 hv18 hv19 hv20 hv21 hv22 hv23 hv24 => ?_)
      refine w_aload_n (j := 62) rfl rfl rfl ?_
      refine w_getI (j := 63) rfl rfl rfl rfl rfl ?_
      rcases xite_inv h with ⟨c26, h⟩ | ⟨c26, h⟩
      · refine w_ifgt_t (j := 72) rfl c26 rfl ?_
        refine w_iconst (z := (1 : Int32)) (j := 73) rfl rfl rfl ?_
        refine w_goto (j := 75) rfl rfl ?_
        obtain rfl := Option.some.inj h
        exact wp_ret rfl rfl rfl hq
      · refine w_ifgt_f (j := 64) rfl c26 rfl ?_
        refine w_aload_n (j := 65) rfl rfl rfl ?_
        refine w_iconst (z := (4 : Int32)) (j := 66) rfl rfl rfl ?_
        refine w_aload_n (j := 67) rfl rfl rfl ?_
        refine w_getR (j := 68) rfl rfl rfl rfl rfl rfl ?_
        refine w_iload_n (j := 69) rfl rfl rfl ?_
        refine w_iaload (j := 70) rfl rfl g1 rfl ?_
        obtain ⟨q27, hq27, h⟩ := Option.bind_eq_some_iff.mp h
        refine wc_AII_I (j := 71) (T := []) rfl rfl rfl rfl rfl rfl rfl rfl rfl rfl ?_
        refine R_X10_fails hq27 ⟨_, rfl, ?_⟩
        rcases xite_inv h with ⟨c28, h⟩ | ⟨c28, h⟩
        · refine w_ifeq_t (j := 74) rfl c28 rfl ?_
          refine w_iconst (z := (0 : Int32)) (j := 75) rfl rfl rfl ?_
          obtain rfl := Option.some.inj h
          exact wp_ret rfl rfl rfl hq
        · refine w_ifeq_f (j := 72) rfl c28 rfl ?_
          refine w_iconst (z := (1 : Int32)) (j := 73) rfl rfl rfl ?_
          refine w_goto (j := 75) rfl rfl ?_
          obtain rfl := Option.some.inj h
          exact wp_ret rfl rfl rfl hq
    · refine w_icmpne_t (j := 76) rfl c2 rfl ?_
      refine w_iload_n (j := 77) rfl rfl rfl ?_
      refine w_bipush (z := (33 : Int32)) (j := 78) rfl rfl rfl ?_
      rcases xite_inv h with ⟨c29, h⟩ | ⟨c29, h⟩
      · refine w_icmpeq_t (j := 92) rfl c29 rfl ?_
        exact RJ_X10_item_92  rfl rfl rfl rfl rfl rfl rfl rfl h hq
      · refine w_icmpeq_f (j := 79) rfl c29 rfl ?_
        refine w_aload_n (j := 80) rfl rfl rfl ?_
        refine w_aload_n (j := 81) rfl rfl rfl ?_
        refine w_getR (j := 82) rfl rfl rfl rfl rfl rfl ?_
        refine w_aload_n (j := 83) rfl rfl rfl ?_
        refine w_getI (j := 84) rfl rfl rfl rfl rfl ?_
        refine w_iconst (z := (1 : Int32)) (j := 85) rfl rfl rfl ?_
        refine w_iadd (j := 86) rfl rfl ?_
        rcases xite_inv h with ⟨g206, h⟩ | ⟨g206, h⟩
        · cases h
        · refine w_iaload (j := 87) rfl rfl g206 rfl ?_
          refine w_iconst (z := (0 : Int32)) (j := 88) rfl rfl rfl ?_
          obtain ⟨q207, hq207, h⟩ := Option.bind_eq_some_iff.mp h
          refine wc_AII_I (j := 89) (T := []) rfl rfl rfl rfl rfl rfl rfl rfl rfl rfl ?_
          refine R_X10_isSort hq207 ⟨_, rfl, ?_⟩
          rcases xite_inv h with ⟨c208, h⟩ | ⟨c208, h⟩
          · refine w_ifeq_t (j := 92) rfl c208 rfl ?_
            exact RJ_X10_item_92  rfl rfl rfl rfl rfl rfl rfl rfl h hq
          · refine w_ifeq_f (j := 90) rfl c208 rfl ?_
            refine w_iconst (z := (1 : Int32)) (j := 91) rfl rfl rfl ?_
            refine w_goto (j := 93) rfl rfl ?_
            exact RJ_X10_item_93  rfl rfl rfl rfl rfl rfl rfl rfl h hq
