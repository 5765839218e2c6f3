set_option maxHeartbeats 2000000 in
set_option maxRecDepth 20000 in
theorem RL_X10_cuts_49 {d : Nat}  {Q : Option Value → xM → Prop}  : ∀ (n : Nat) (l1 : Int32) (l2 : Int32) (l3 : Int32) (l4 : Int64) (u6 u7 : Option Value) (s : St) (q : Int32 × Int64 × St)  (hu6 : xlong u6 = false) (h : L_X10_cuts_49  n l1 l2 l3 l4 s = some q) (hq : ∀ (v6 v7 : Option Value), xlong v6 = false → wp (d + 2) mX10_cuts 86 [some (.ref 94), some (.int l1), some (.int q.1), some (.int l3), some (.long q.2.1), none, v6, v7] [] (SH, q.2.2.1, q.2.2.2) Q), wp (d + 2) mX10_cuts 49 [some (.ref 94), some (.int l1), some (.int l2), some (.int l3), some (.long l4), none, u6, u7] [] (SH, s.1, s.2) Q := by
  intro n
  induction n with
  | zero => intro l1 l2 l3 l4 u6 u7 s q hu6 h; cases h
  | succ n ih =>
    intro l1 l2 l3 l4 u6 u7 s q hu6 h hq
    unfold L_X10_cuts_49 at h
    try dsimp only at h
    refine w_iload_n (j := 50) rfl rfl rfl ?_
    refine w_iload_n (j := 51) rfl rfl rfl ?_
    rcases xite_inv h with ⟨c11, h⟩ | ⟨c11, h⟩
    · refine w_icmpge_t (j := 86) rfl c11 rfl ?_
      obtain rfl := Option.some.inj h
      exact hq _ _ hu6
    · refine w_icmpge_f (j := 52) rfl c11 rfl ?_
      refine w_aload_n (j := 53) rfl rfl rfl ?_
      refine w_getR (j := 54) rfl rfl rfl rfl rfl rfl ?_
      refine w_iload_n (j := 55) rfl rfl rfl ?_
      rcases xite_inv h with ⟨g12, h⟩ | ⟨g12, h⟩
      · cases h
      · refine w_baload (j := 56) rfl rfl rfl g12 rfl ?_
        obtain ⟨q13, hq13, h⟩ := Option.bind_eq_some_iff.mp h
        refine wc_I_I (j := 57) (T := []) rfl rfl rfl rfl rfl rfl rfl rfl rfl rfl ?_
        refine R_X10_isLetter hq13 ⟨_, rfl, ?_⟩
        rcases xite_inv h with ⟨c14, h⟩ | ⟨c14, h⟩
        · refine w_ifeq_t (j := 86) rfl c14 rfl ?_
          obtain rfl := Option.some.inj h
          exact hq _ _ hu6
        · refine w_ifeq_f (j := 58) rfl c14 rfl ?_
          refine w_aload_n (j := 59) rfl rfl rfl ?_
          refine w_getR (j := 60) rfl rfl rfl rfl rfl rfl ?_
          refine w_iload_n (j := 61) rfl rfl rfl ?_
          refine w_baload (j := 62) rfl rfl rfl g12 rfl ?_
          refine w_istore (j := 63) rfl (l1_6 rfl) rfl ?_
          refine w_iload_n (j := 64) rfl rfl rfl ?_
          refine w_iload_n (j := 65) rfl rfl rfl ?_
          refine w_bipush (z := (8 : Int32)) (j := 66) rfl rfl rfl ?_
          refine w_iadd (j := 67) rfl rfl ?_
          rcases xite_inv h with ⟨c15, h⟩ | ⟨c15, h⟩
          · refine w_icmpge_t (j := 82) rfl c15 rfl ?_
            refine w_lload (j := 83) rfl rfl rfl ?_
            refine w_lstore (j := 84) rfl (l2_4 rfl) rfl ?_
            refine w_iinc (cc := (1 : Int32)) (j := 85) rfl rfl rfl (l1_2 rfl) rfl ?_
            refine w_goto (j := 49) rfl rfl ?_
            exact ih _ _ _ _ _ _ _ _ rfl h hq
          · refine w_icmpge_f (j := 68) rfl c15 rfl ?_
            refine w_lload (j := 69) rfl rfl rfl ?_
            refine w_bipush (z := (8 : Int32)) (j := 70) rfl rfl rfl ?_
            refine w_lshl (j := 71) rfl rfl ?_
            refine w_iload (j := 72) rfl rfl rfl ?_
            refine w_bipush (z := (97 : Int32)) (j := 73) rfl rfl rfl ?_
            rcases xite_inv h with ⟨c16, h⟩ | ⟨c16, h⟩
            · refine w_icmpge_t (j := 78) rfl c16 rfl ?_
              refine w_iload (j := 79) rfl rfl rfl ?_
              refine w_i2l (j := 80) rfl rfl ?_
              refine w_lor (j := 81) rfl rfl ?_
              refine w_goto (j := 83) rfl rfl ?_
              refine w_lstore (j := 84) rfl (l2_4 rfl) rfl ?_
              refine w_iinc (cc := (1 : Int32)) (j := 85) rfl rfl rfl (l1_2 rfl) rfl ?_
              refine w_goto (j := 49) rfl rfl ?_
              exact ih _ _ _ _ _ _ _ _ rfl h hq
            · refine w_icmpge_f (j := 74) rfl c16 rfl ?_
              refine w_iload (j := 75) rfl rfl rfl ?_
              refine w_bipush (z := (32 : Int32)) (j := 76) rfl rfl rfl ?_
              refine w_iadd (j := 77) rfl rfl ?_
              refine w_goto (j := 79) rfl rfl ?_
              refine w_i2l (j := 80) rfl rfl ?_
              refine w_lor (j := 81) rfl rfl ?_
              refine w_goto (j := 83) rfl rfl ?_
              refine w_lstore (j := 84) rfl (l2_4 rfl) rfl ?_
              refine w_iinc (cc := (1 : Int32)) (j := 85) rfl rfl rfl (l1_2 rfl) rfl ?_
              refine w_goto (j := 49) rfl rfl ?_
              exact ih _ _ _ _ _ _ _ _ rfl h hq
set_option maxHeartbeats 2000000 in
set_option maxRecDepth 20000 in
theorem RL_X10_cuts_36 {d : Nat}  {Q : Option Value → xM → Prop}  : ∀ (n : Nat) (l1 : Int32) (l2 : Int32) (u3 u4 u5 u6 u7 : Option Value) (s : St) (q : St)  (hu3 : xlong u3 = false) (hu5 : xlong u5 = false) (hu6 : xlong u6 = false) (h : L_X10_cuts_36  n l1 l2 s = some q) (hq : ∀ (v2 v3 v4 v5 v6 v7 : Option Value), xlong v2 = false → xlong v3 = false → xlong v5 = false → xlong v6 = false → wp (d + 2) mX10_cuts 156 [some (.ref 94), some (.int l1), v2, v3, v4, v5, v6, v7] [] (SH, q.1, q.2) Q), wp (d + 2) mX10_cuts 36 [some (.ref 94), some (.int l1), some (.int l2), u3, u4, u5, u6, u7] [] (SH, s.1, s.2) Q := by
  intro n
  induction n with
  | zero => intro l1 l2 u3 u4 u5 u6 u7 s q hu3 hu5 hu6 h; cases h
  | succ n ih =>
    intro l1 l2 u3 u4 u5 u6 u7 s q hu3 hu5 hu6 h hq
    unfold L_X10_cuts_36 at h
    try dsimp only at h
    refine w_iload_n (j := 37) rfl rfl rfl ?_
    refine w_iload_n (j := 38) rfl rfl rfl ?_
    rcases xite_inv h with ⟨c3, h⟩ | ⟨c3, h⟩
    · refine w_icmpge_t (j := 156) rfl c3 rfl ?_
      obtain rfl := Option.some.inj h
      exact hq _ _ _ _ _ _ rfl hu3 hu5 hu6
    · refine w_icmpge_f (j := 39) rfl c3 rfl ?_
      refine w_iload_n (j := 40) rfl rfl rfl ?_
      refine w_istore_n (j := 41) rfl (l1_3 rfl) rfl ?_
      refine w_aload_n (j := 42) rfl rfl rfl ?_
      refine w_getR (j := 43) rfl rfl rfl rfl rfl rfl ?_
      refine w_iload_n (j := 44) rfl rfl rfl ?_
      rcases xite_inv h with ⟨g4, h⟩ | ⟨g4, h⟩
      · cases h
      · refine w_baload (j := 45) rfl rfl rfl g4 rfl ?_
        obtain ⟨q5, hq5, h⟩ := Option.bind_eq_some_iff.mp h
        refine wc_I_I (j := 46) (T := []) rfl rfl rfl rfl rfl rfl rfl rfl rfl rfl ?_
        refine R_X10_isLetter hq5 ⟨_, rfl, ?_⟩
        rcases xite_inv h with ⟨c6, h⟩ | ⟨c6, h⟩
        · refine w_ifeq_t (j := 136) rfl c6 rfl ?_
          refine w_aload_n (j := 137) rfl rfl rfl ?_
          refine w_getR (j := 138) rfl rfl rfl rfl rfl rfl ?_
          refine w_iload_n (j := 139) rfl rfl rfl ?_
          refine w_baload (j := 140) rfl rfl rfl g4 rfl ?_
          refine w_bipush (z := (32 : Int32)) (j := 141) rfl rfl rfl ?_
          rcases xite_inv h with ⟨c7, h⟩ | ⟨c7, h⟩
          · refine w_icmpeq_t (j := 154) rfl c7 rfl ?_
            refine w_iinc (cc := (1 : Int32)) (j := 155) rfl rfl rfl (l1_2 rfl) rfl ?_
            refine w_goto (j := 36) rfl rfl ?_
            exact ih _ _ _ _ _ _ _ _ _ rfl hu5 hu6 h hq
          · refine w_icmpeq_f (j := 142) rfl c7 rfl ?_
            refine w_aload_n (j := 143) rfl rfl rfl ?_
            refine w_aload_n (j := 144) rfl rfl rfl ?_
            refine w_getR (j := 145) rfl rfl rfl rfl rfl rfl ?_
            refine w_iload_n (j := 146) rfl rfl rfl ?_
            refine w_baload (j := 147) rfl rfl rfl g4 rfl ?_
            refine w_bipush (z := (44 : Int32)) (j := 148) rfl rfl rfl ?_
            rcases xite_inv h with ⟨c8, h⟩ | ⟨c8, h⟩
            · refine w_icmpne_f (j := 149) rfl c8 rfl ?_
              refine w_bipush (z := (30 : Int32)) (j := 150) rfl rfl rfl ?_
              refine w_goto (j := 152) rfl rfl ?_
              refine w_iload_n (j := 153) rfl rfl rfl ?_
              obtain ⟨q9, hq9, h⟩ := Option.bind_eq_some_iff.mp h
              refine wc_AII_V (j := 154) (T := []) rfl rfl rfl rfl rfl rfl rfl rfl rfl rfl ?_
              refine R_X10_comes hq9 ⟨rfl, ?_⟩
              refine w_iinc (cc := (1 : Int32)) (j := 155) rfl rfl rfl (l1_2 rfl) rfl ?_
              refine w_goto (j := 36) rfl rfl ?_
              exact ih _ _ _ _ _ _ _ _ _ rfl hu5 hu6 h hq
            · refine w_icmpne_t (j := 151) rfl c8 rfl ?_
              refine w_bipush (z := (31 : Int32)) (j := 152) rfl rfl rfl ?_
              refine w_iload_n (j := 153) rfl rfl rfl ?_
              obtain ⟨q10, hq10, h⟩ := Option.bind_eq_some_iff.mp h
              refine wc_AII_V (j := 154) (T := []) rfl rfl rfl rfl rfl rfl rfl rfl rfl rfl ?_
              refine R_X10_comes hq10 ⟨rfl, ?_⟩
              refine w_iinc (cc := (1 : Int32)) (j := 155) rfl rfl rfl (l1_2 rfl) rfl ?_
              refine w_goto (j := 36) rfl rfl ?_
              exact ih _ _ _ _ _ _ _ _ _ rfl hu5 hu6 h hq
        · refine w_ifeq_f (j := 47) rfl c6 rfl ?_
          refine w_lconst (z := (0 : Int64)) (j := 48) rfl rfl rfl ?_
          refine w_lstore (j := 49) rfl (l2_4 rfl) rfl ?_
          obtain ⟨q17, hq17, h⟩ := Option.bind_eq_some_iff.mp h
          refine RL_X10_cuts_49  _ _ _ _ _ _ _ _ _ hu6 hq17 (fun v18 v19 hv18 => ?_)
          refine w_aload_n (j := 87) rfl rfl rfl ?_
          refine w_lload (j := 88) rfl rfl rfl ?_
          obtain ⟨q20, hq20, h⟩ := Option.bind_eq_some_iff.mp h
          refine wc_AJ_I (j := 89) (T := [none]) rfl rfl rfl rfl rfl rfl rfl rfl rfl rfl ?_
          refine R_X10_fixedOf hq20 ⟨_, rfl, ?_⟩
          refine w_istore (j := 90) rfl (l1_6 rfl) rfl ?_
          refine w_aload_n (j := 91) rfl rfl rfl ?_
          refine w_lload (j := 92) rfl rfl rfl ?_
          obtain ⟨q21, hq21, h⟩ := Option.bind_eq_some_iff.mp h
          refine wc_AJ_I (j := 93) (T := [none]) rfl rfl rfl rfl rfl rfl rfl rfl rfl rfl ?_
          refine R_X10_wordOf hq21 ⟨_, rfl, ?_⟩
          refine w_istore (j := 94) rfl (l1_7 rfl) rfl ?_
          refine w_iload (j := 95) rfl rfl rfl ?_
          refine w_bipush (z := (-4 : Int32)) (j := 96) rfl rfl rfl ?_
          rcases xite_inv h with ⟨c22, h⟩ | ⟨c22, h⟩
          · refine w_icmpeq_t (j := 108) rfl c22 rfl ?_
            refine w_iload (j := 109) rfl rfl rfl ?_
            refine w_istore (j := 110) rfl (l1_7 rfl) rfl ?_
            refine w_iload (j := 111) rfl rfl rfl ?_
            refine w_bipush (z := (-4 : Int32)) (j := 112) rfl rfl rfl ?_
            refine w_icmpeq_t (j := 119) rfl c22 rfl ?_
            refine w_aload_n (j := 120) rfl rfl rfl ?_
            refine w_iload (j := 121) rfl rfl rfl ?_
            refine w_bipush (z := (-4 : Int32)) (j := 122) rfl rfl rfl ?_
            rcases xite_inv h with ⟨c23, h⟩ | ⟨c23, h⟩
            · refine w_icmpeq_t (j := 125) rfl c23 rfl ?_
              refine w_iload (j := 126) rfl rfl rfl ?_
              refine w_bipush (z := (-4 : Int32)) (j := 127) rfl rfl rfl ?_
              refine w_icmpeq_t (j := 132) rfl c22 rfl ?_
              refine w_bipush (z := (32 : Int32)) (j := 133) rfl rfl rfl ?_
              refine w_iload_n (j := 134) rfl rfl rfl ?_
              obtain ⟨q24, hq24, h⟩ := Option.bind_eq_some_iff.mp h
              refine wc_AII_V (j := 135) (T := []) rfl rfl rfl rfl rfl rfl rfl rfl rfl rfl ?_
              refine R_X10_comes hq24 ⟨rfl, ?_⟩
              refine w_goto (j := 155) rfl rfl ?_
              refine w_goto (j := 36) rfl rfl ?_
              exact ih _ _ _ _ _ _ _ _ _ rfl rfl rfl h hq
            · refine w_icmpeq_f (j := 123) rfl c23 rfl ?_
              refine w_iload (j := 124) rfl rfl rfl ?_
              refine w_goto (j := 133) rfl rfl ?_
              refine w_iload_n (j := 134) rfl rfl rfl ?_
              obtain ⟨q25, hq25, h⟩ := Option.bind_eq_some_iff.mp h
              refine wc_AII_V (j := 135) (T := []) rfl rfl rfl rfl rfl rfl rfl rfl rfl rfl ?_
              refine R_X10_comes hq25 ⟨rfl, ?_⟩
              refine w_goto (j := 155) rfl rfl ?_
              refine w_goto (j := 36) rfl rfl ?_
              exact ih _ _ _ _ _ _ _ _ _ rfl rfl rfl h hq
          · refine w_icmpeq_f (j := 97) rfl c22 rfl ?_
            refine w_aload_n (j := 98) rfl rfl rfl ?_
            refine w_getR (j := 99) rfl rfl rfl rfl rfl rfl ?_
            refine w_iload (j := 100) rfl rfl rfl ?_
            rcases xite_inv h with ⟨g26, h⟩ | ⟨g26, h⟩
            · cases h
            · refine w_iaload (j := 101) rfl rfl g26 rfl ?_
              refine w_bipush (z := (-4 : Int32)) (j := 102) rfl rfl rfl ?_
              rcases xite_inv h with ⟨c27, h⟩ | ⟨c27, h⟩
              · refine w_icmpeq_t (j := 108) rfl c27 rfl ?_
                refine w_iload (j := 109) rfl rfl rfl ?_
                refine w_istore (j := 110) rfl (l1_7 rfl) rfl ?_
                refine w_iload (j := 111) rfl rfl rfl ?_
                refine w_bipush (z := (-4 : Int32)) (j := 112) rfl rfl rfl ?_
                refine w_icmpeq_f (j := 113) rfl c22 rfl ?_
                refine w_aload_n (j := 114) rfl rfl rfl ?_
                refine w_getR (j := 115) rfl rfl rfl rfl rfl rfl ?_
                refine w_iload (j := 116) rfl rfl rfl ?_
                refine w_iaload (j := 117) rfl rfl g26 rfl ?_
                refine w_iconst (z := (3 : Int32)) (j := 118) rfl rfl rfl ?_
                rcases xite_inv h with ⟨c28, h⟩ | ⟨c28, h⟩
                · refine w_icmpeq_t (j := 135) rfl c28 rfl ?_
                  refine w_goto (j := 155) rfl rfl ?_
                  refine w_goto (j := 36) rfl rfl ?_
                  exact ih _ _ _ _ _ _ _ _ _ rfl rfl rfl h hq
                · refine w_icmpeq_f (j := 119) rfl c28 rfl ?_
                  refine w_aload_n (j := 120) rfl rfl rfl ?_
                  refine w_iload (j := 121) rfl rfl rfl ?_
                  refine w_bipush (z := (-4 : Int32)) (j := 122) rfl rfl rfl ?_
                  rcases xite_inv h with ⟨c29, h⟩ | ⟨c29, h⟩
                  · refine w_icmpeq_t (j := 125) rfl c29 rfl ?_
                    refine w_iload (j := 126) rfl rfl rfl ?_
                    refine w_bipush (z := (-4 : Int32)) (j := 127) rfl rfl rfl ?_
                    refine w_icmpeq_f (j := 128) rfl c22 rfl ?_
                    refine w_bipush (z := (100 : Int32)) (j := 129) rfl rfl rfl ?_
                    refine w_iload (j := 130) rfl rfl rfl ?_
                    refine w_iadd (j := 131) rfl rfl ?_
                    refine w_goto (j := 133) rfl rfl ?_
                    refine w_iload_n (j := 134) rfl rfl rfl ?_
                    obtain ⟨q30, hq30, h⟩ := Option.bind_eq_some_iff.mp h
                    refine wc_AII_V (j := 135) (T := []) rfl rfl rfl rfl rfl rfl rfl rfl rfl rfl ?_
                    refine R_X10_comes hq30 ⟨rfl, ?_⟩
                    refine w_goto (j := 155) rfl rfl ?_
                    refine w_goto (j := 36) rfl rfl ?_
                    exact ih _ _ _ _ _ _ _ _ _ rfl rfl rfl h hq
                  · refine w_icmpeq_f (j := 123) rfl c29 rfl ?_
                    refine w_iload (j := 124) rfl rfl rfl ?_
                    refine w_goto (j := 133) rfl rfl ?_
                    refine w_iload_n (j := 134) rfl rfl rfl ?_
                    obtain ⟨q31, hq31, h⟩ := Option.bind_eq_some_iff.mp h
                    refine wc_AII_V (j := 135) (T := []) rfl rfl rfl rfl rfl rfl rfl rfl rfl rfl ?_
                    refine R_X10_comes hq31 ⟨rfl, ?_⟩
                    refine w_goto (j := 155) rfl rfl ?_
                    refine w_goto (j := 36) rfl rfl ?_
                    exact ih _ _ _ _ _ _ _ _ _ rfl rfl rfl h hq
              · refine w_icmpeq_f (j := 103) rfl c27 rfl ?_
                refine w_aload_n (j := 104) rfl rfl rfl ?_
                refine w_getR (j := 105) rfl rfl rfl rfl rfl rfl ?_
                refine w_iload (j := 106) rfl rfl rfl ?_
                refine w_iaload (j := 107) rfl rfl g26 rfl ?_
                refine w_goto (j := 109) rfl rfl ?_
                refine w_istore (j := 110) rfl (l1_7 rfl) rfl ?_
                refine w_iload (j := 111) rfl rfl rfl ?_
                refine w_bipush (z := (-4 : Int32)) (j := 112) rfl rfl rfl ?_
                refine w_icmpeq_f (j := 113) rfl c27 rfl ?_
                refine w_aload_n (j := 114) rfl rfl rfl ?_
                refine w_getR (j := 115) rfl rfl rfl rfl rfl rfl ?_
                refine w_iload (j := 116) rfl rfl rfl ?_
                rcases xite_inv h with ⟨g32, h⟩ | ⟨g32, h⟩
                · cases h
                · refine w_iaload (j := 117) rfl rfl g32 rfl ?_
                  refine w_iconst (z := (3 : Int32)) (j := 118) rfl rfl rfl ?_
                  rcases xite_inv h with ⟨c33, h⟩ | ⟨c33, h⟩
                  · refine w_icmpeq_t (j := 135) rfl c33 rfl ?_
                    refine w_goto (j := 155) rfl rfl ?_
                    refine w_goto (j := 36) rfl rfl ?_
                    exact ih _ _ _ _ _ _ _ _ _ rfl rfl rfl h hq
                  · refine w_icmpeq_f (j := 119) rfl c33 rfl ?_
                    refine w_aload_n (j := 120) rfl rfl rfl ?_
                    refine w_iload (j := 121) rfl rfl rfl ?_
                    refine w_bipush (z := (-4 : Int32)) (j := 122) rfl rfl rfl ?_
                    rcases xite_inv h with ⟨c34, h⟩ | ⟨c34, h⟩
                    · refine w_icmpeq_t (j := 125) rfl c34 rfl ?_
                      refine w_iload (j := 126) rfl rfl rfl ?_
                      refine w_bipush (z := (-4 : Int32)) (j := 127) rfl rfl rfl ?_
                      refine w_icmpeq_f (j := 128) rfl c27 rfl ?_
                      refine w_bipush (z := (100 : Int32)) (j := 129) rfl rfl rfl ?_
                      refine w_iload (j := 130) rfl rfl rfl ?_
                      refine w_iadd (j := 131) rfl rfl ?_
                      refine w_goto (j := 133) rfl rfl ?_
                      refine w_iload_n (j := 134) rfl rfl rfl ?_
                      obtain ⟨q35, hq35, h⟩ := Option.bind_eq_some_iff.mp h
                      refine wc_AII_V (j := 135) (T := []) rfl rfl rfl rfl rfl rfl rfl rfl rfl rfl ?_
                      refine R_X10_comes hq35 ⟨rfl, ?_⟩
                      refine w_goto (j := 155) rfl rfl ?_
                      refine w_goto (j := 36) rfl rfl ?_
                      exact ih _ _ _ _ _ _ _ _ _ rfl rfl rfl h hq
                    · refine w_icmpeq_f (j := 123) rfl c34 rfl ?_
                      refine w_iload (j := 124) rfl rfl rfl ?_
                      refine w_goto (j := 133) rfl rfl ?_
                      refine w_iload_n (j := 134) rfl rfl rfl ?_
                      obtain ⟨q36, hq36, h⟩ := Option.bind_eq_some_iff.mp h
                      refine wc_AII_V (j := 135) (T := []) rfl rfl rfl rfl rfl rfl rfl rfl rfl rfl ?_
                      refine R_X10_comes hq36 ⟨rfl, ?_⟩
                      refine w_goto (j := 155) rfl rfl ?_
                      refine w_goto (j := 36) rfl rfl ?_
                      exact ih _ _ _ _ _ _ _ _ _ rfl rfl rfl h hq
set_option maxHeartbeats 2000000 in
set_option maxRecDepth 20000 in
theorem RL_X10_cuts_5 {d : Nat}  {Q : Option Value → xM → Prop}  : ∀ (n : Nat) (l1 : Int32) (l2 : Int32) (u3 u4 u5 u6 u7 : Option Value) (s : St) (q : Int32 × St)  (hu3 : xlong u3 = false) (hu5 : xlong u5 = false) (hu6 : xlong u6 = false) (h : L_X10_cuts_5  n l1 l2 s = some q) (hq : Q (some (.int q.1)) (SH, q.2.1, q.2.2)), wp (d + 2) mX10_cuts 5 [some (.ref 94), some (.int l1), some (.int l2), u3, u4, u5, u6, u7] [] (SH, s.1, s.2) Q := by
  intro n
  induction n with
  | zero => intro l1 l2 u3 u4 u5 u6 u7 s q hu3 hu5 hu6 h; cases h
  | succ n ih =>
    intro l1 l2 u3 u4 u5 u6 u7 s q hu3 hu5 hu6 h hq
    unfold L_X10_cuts_5 at h
    try dsimp only at h
    refine w_iload_n (j := 6) rfl rfl rfl ?_
    refine w_iload_n (j := 7) rfl rfl rfl ?_
    rcases xite_inv h with ⟨c2, h⟩ | ⟨c2, h⟩
    · refine w_icmpge_t (j := 34) rfl c2 rfl ?_
      refine w_iconst (z := (0 : Int32)) (j := 35) rfl rfl rfl ?_
      refine w_istore_n (j := 36) rfl (l1_2 rfl) rfl ?_
      obtain ⟨q37, hq37, h⟩ := Option.bind_eq_some_iff.mp h
      refine RL_X10_cuts_36  _ _ _ _ _ _ _ _ _ _ hu3 hu5 hu6 hq37 (fun v38 v39 v40 v41 v42 v43 hv38 hv39 hv41 hv42 => ?_)
      refine w_aload_n (j := 157) rfl rfl rfl ?_
      refine w_bipush (z := (33 : Int32)) (j := 158) rfl rfl rfl ?_
      refine w_iload_n (j := 159) rfl rfl rfl ?_
      obtain ⟨q44, hq44, h⟩ := Option.bind_eq_some_iff.mp h
      refine wc_AII_V (j := 160) (T := []) rfl rfl rfl rfl rfl rfl rfl rfl rfl rfl ?_
      refine R_X10_comes hq44 ⟨rfl, ?_⟩
      refine w_iconst (z := (1 : Int32)) (j := 161) rfl rfl rfl ?_
      obtain rfl := Option.some.inj h
      exact wp_ret rfl rfl rfl hq
    · refine w_icmpge_f (j := 8) rfl c2 rfl ?_
      refine w_aload_n (j := 9) rfl rfl rfl ?_
      refine w_getR (j := 10) rfl rfl rfl rfl rfl rfl ?_
      refine w_iload_n (j := 11) rfl rfl rfl ?_
      rcases xite_inv h with ⟨g45, h⟩ | ⟨g45, h⟩
      · cases h
      · refine w_baload (j := 12) rfl rfl rfl g45 rfl ?_
        refine w_istore_n (j := 13) rfl (l1_3 rfl) rfl ?_
        refine w_iload_n (j := 14) rfl rfl rfl ?_
        obtain ⟨q46, hq46, h⟩ := Option.bind_eq_some_iff.mp h
        refine wc_I_I (j := 15) (T := []) rfl rfl rfl rfl rfl rfl rfl rfl rfl rfl ?_
        refine R_X10_isLetter hq46 ⟨_, rfl, ?_⟩
        rcases xite_inv h with ⟨c47, h⟩ | ⟨c47, h⟩
        · refine w_ifne_f (j := 16) rfl c47 rfl ?_
          refine w_iload_n (j := 17) rfl rfl rfl ?_
          refine w_bipush (z := (44 : Int32)) (j := 18) rfl rfl rfl ?_
          rcases xite_inv h with ⟨c48, h⟩ | ⟨c48, h⟩
          · refine w_icmpeq_t (j := 32) rfl c48 rfl ?_
            refine w_iinc (cc := (1 : Int32)) (j := 33) rfl rfl rfl (l1_2 rfl) rfl ?_
            refine w_goto (j := 5) rfl rfl ?_
            exact ih _ _ _ _ _ _ _ _ _ rfl hu5 hu6 h hq
          · refine w_icmpeq_f (j := 19) rfl c48 rfl ?_
            refine w_iload_n (j := 20) rfl rfl rfl ?_
            refine w_bipush (z := (46 : Int32)) (j := 21) rfl rfl rfl ?_
            rcases xite_inv h with ⟨c49, h⟩ | ⟨c49, h⟩
            · refine w_icmpeq_t (j := 32) rfl c49 rfl ?_
              refine w_iinc (cc := (1 : Int32)) (j := 33) rfl rfl rfl (l1_2 rfl) rfl ?_
              refine w_goto (j := 5) rfl rfl ?_
              exact ih _ _ _ _ _ _ _ _ _ rfl hu5 hu6 h hq
            · refine w_icmpeq_f (j := 22) rfl c49 rfl ?_
              refine w_iload_n (j := 23) rfl rfl rfl ?_
              refine w_bipush (z := (32 : Int32)) (j := 24) rfl rfl rfl ?_
              rcases xite_inv h with ⟨c50, h⟩ | ⟨c50, h⟩
              · refine w_icmpeq_t (j := 32) rfl c50 rfl ?_
                refine w_iinc (cc := (1 : Int32)) (j := 33) rfl rfl rfl (l1_2 rfl) rfl ?_
                refine w_goto (j := 5) rfl rfl ?_
                exact ih _ _ _ _ _ _ _ _ _ rfl hu5 hu6 h hq
              · refine w_icmpeq_f (j := 25) rfl c50 rfl ?_
                refine w_aload_n (j := 26) rfl rfl rfl ?_
                refine w_iconst (z := (1 : Int32)) (j := 27) rfl rfl rfl ?_
                refine w_iload_n (j := 28) rfl rfl rfl ?_
                obtain ⟨q51, hq51, h⟩ := Option.bind_eq_some_iff.mp h
                refine wc_AII_I (j := 29) (T := []) rfl rfl rfl rfl rfl rfl rfl rfl rfl rfl ?_
                refine R_X10_fails hq51 ⟨_, rfl, ?_⟩
                refine w_pop (j := 30) rfl rfl rfl ?_
                refine w_iconst (z := (0 : Int32)) (j := 31) rfl rfl rfl ?_
                obtain rfl := Option.some.inj h
                exact wp_ret rfl rfl rfl hq
        · refine w_ifne_t (j := 32) rfl c47 rfl ?_
          refine w_iinc (cc := (1 : Int32)) (j := 33) rfl rfl rfl (l1_2 rfl) rfl ?_
          refine w_goto (j := 5) rfl rfl ?_
          exact ih _ _ _ _ _ _ _ _ _ rfl hu5 hu6 h hq
set_option maxHeartbeats 2000000 in
set_option maxRecDepth 20000 in
theorem R_X10_cuts {d : Nat} {a0 : Int32} {s : St} {q : Int32 × St} {Q : Option Value → xM → Prop}  (h : F_X10_cuts a0 s = some q) (hq : Q (some (.int q.1)) (SH, q.2.1, q.2.2)) : wp (d + 2) mX10_cuts 0 [some (.ref 94), some (.int a0), none, none, none, none, none, none] [] (SH, s.1, s.2) Q := by
  unfold F_X10_cuts at h
  try dsimp only at h
  refine w_aload_n (j := 1) rfl rfl rfl ?_
  refine w_iconst (z := (0 : Int32)) (j := 2) rfl rfl rfl ?_
  refine w_putI (j := 3) rfl rfl rfl rfl rfl ?_
  try dsimp only at h
  refine w_iconst (z := (0 : Int32)) (j := 4) rfl rfl rfl ?_
  refine w_istore_n (j := 5) rfl (l1_2 rfl) rfl ?_
  exact RL_X10_cuts_5  _ _ _ _ _ _ _ _ _ _ rfl rfl rfl h hq
set_option maxHeartbeats 2000000 in
set_option maxRecDepth 20000 in
theorem R_X10_wrong {d : Nat}  {s : St} {q : Int32 × St} {Q : Option Value → xM → Prop}  (h : F_X10_wrong  s = some q) (hq : Q (some (.int q.1)) (SH, q.2.1, q.2.2)) : wp (d + 1) mX10_wrong 0 [some (.ref 94)] [] (SH, s.1, s.2) Q := by
  unfold F_X10_wrong at h
  try dsimp only at h
  refine w_aload_n (j := 1) rfl rfl rfl ?_
  refine w_aload_n (j := 2) rfl rfl rfl ?_
  refine w_getR (j := 3) rfl rfl rfl rfl rfl rfl ?_
  refine w_aload_n (j := 4) rfl rfl rfl ?_
  refine w_getI (j := 5) rfl rfl rfl rfl rfl ?_
  rcases xite_inv h with ⟨g1, h⟩ | ⟨g1, h⟩
  · cases h
  · refine w_iaload (j := 6) rfl rfl g1 rfl ?_
    refine w_bipush (z := (32 : Int32)) (j := 7) rfl rfl rfl ?_
    rcases xite_inv h with ⟨c2, h⟩ | ⟨c2, h⟩
    · refine w_icmpne_f (j := 8) rfl c2 rfl ?_
      refine w_iconst (z := (2 : Int32)) (j := 9) rfl rfl rfl ?_
      refine w_goto (j := 11) rfl rfl ?_
      refine w_aload_n (j := 12) rfl rfl rfl ?_
      refine w_getR (j := 13) rfl rfl rfl rfl rfl rfl ?_
      refine w_aload_n (j := 14) rfl rfl rfl ?_
      refine w_getI (j := 15) rfl rfl rfl rfl rfl ?_
      refine w_iaload (j := 16) rfl rfl g1 rfl ?_
      obtain ⟨q3, hq3, h⟩ := Option.bind_eq_some_iff.mp h
      refine wc_AII_I (j := 17) (T := []) rfl rfl rfl rfl rfl rfl rfl rfl rfl rfl ?_
      refine R_X10_fails hq3 ⟨_, rfl, ?_⟩
      rcases xite_inv h with ⟨hb, h⟩ | ⟨hb, h⟩
      · obtain rfl := Option.some.inj h
        exact wp_ret rfl rfl (xretb hb) hq
      · cases h
    · refine w_icmpne_t (j := 10) rfl c2 rfl ?_
      refine w_iconst (z := (3 : Int32)) (j := 11) rfl rfl rfl ?_
      refine w_aload_n (j := 12) rfl rfl rfl ?_
      refine w_getR (j := 13) rfl rfl rfl rfl rfl rfl ?_
      refine w_aload_n (j := 14) rfl rfl rfl ?_
      refine w_getI (j := 15) rfl rfl rfl rfl rfl ?_
      refine w_iaload (j := 16) rfl rfl g1 rfl ?_
      obtain ⟨q4, hq4, h⟩ := Option.bind_eq_some_iff.mp h
      refine wc_AII_I (j := 17) (T := []) rfl rfl rfl rfl rfl rfl rfl rfl rfl rfl ?_
      refine R_X10_fails hq4 ⟨_, rfl, ?_⟩
      rcases xite_inv h with ⟨hb, h⟩ | ⟨hb, h⟩
      · obtain rfl := Option.some.inj h
        exact wp_ret rfl rfl (xretb hb) hq
      · cases h
set_option maxHeartbeats 2000000 in
set_option maxRecDepth 20000 in
theorem R_X10_isSort {d : Nat} {a0 : Int32} {a1 : Int32} {s : St} {q : Int32 × St} {Q : Option Value → xM → Prop}  (h : F_X10_isSort a0 a1 s = some q) (hq : Q (some (.int q.1)) (SH, q.2.1, q.2.2)) : wp (d + 0) mX10_isSort 0 [some (.ref 94), some (.int a0), some (.int a1)] [] (SH, s.1, s.2) Q := by
  unfold F_X10_isSort at h
  try dsimp only at h
  refine w_iload_n (j := 1) rfl rfl rfl ?_
  refine w_bipush (z := (100 : Int32)) (j := 2) rfl rfl rfl ?_
  rcases xite_inv h with ⟨c1, h⟩ | ⟨c1, h⟩
  · refine w_icmplt_t (j := 13) rfl c1 rfl ?_
    refine w_iconst (z := (0 : Int32)) (j := 14) rfl rfl rfl ?_
    obtain rfl := Option.some.inj h
    exact wp_ret rfl rfl rfl hq
  · refine w_icmplt_f (j := 3) rfl c1 rfl ?_
    refine w_aload_n (j := 4) rfl rfl rfl ?_
    refine w_getR (j := 5) rfl rfl rfl rfl rfl rfl ?_
    refine w_iload_n (j := 6) rfl rfl rfl ?_
    refine w_bipush (z := (100 : Int32)) (j := 7) rfl rfl rfl ?_
    refine w_isub (j := 8) rfl rfl ?_
    rcases xite_inv h with ⟨g2, h⟩ | ⟨g2, h⟩
    · cases h
    · refine w_iaload (j := 9) rfl rfl g2 rfl ?_
      refine w_iload_n (j := 10) rfl rfl rfl ?_
      rcases xite_inv h with ⟨c3, h⟩ | ⟨c3, h⟩
      · refine w_icmpne_f (j := 11) rfl c3 rfl ?_
        refine w_iconst (z := (1 : Int32)) (j := 12) rfl rfl rfl ?_
        refine w_goto (j := 14) rfl rfl ?_
        obtain rfl := Option.some.inj h
        exact wp_ret rfl rfl rfl hq
      · refine w_icmpne_t (j := 13) rfl c3 rfl ?_
        refine w_iconst (z := (0 : Int32)) (j := 14) rfl rfl rfl ?_
        obtain rfl := Option.some.inj h
        exact wp_ret rfl rfl rfl hq
set_option maxHeartbeats 2000000 in
set_option maxRecDepth 20000 in
theorem R_X10_isVerbBehind {d : Nat}  {s : St} {q : Int32 × St} {Q : Option Value → xM → Prop}  (h : F_X10_isVerbBehind  s = some q) (hq : Q (some (.int q.1)) (SH, q.2.1, q.2.2)) : wp (d + 1) mX10_isVerbBehind 0 [some (.ref 94)] [] (SH, s.1, s.2) Q := by
  unfold F_X10_isVerbBehind at h
  try dsimp only at h
  refine w_aload_n (j := 1) rfl rfl rfl ?_
  refine w_aload_n (j := 2) rfl rfl rfl ?_
  refine w_getR (j := 3) rfl rfl rfl rfl rfl rfl ?_
  refine w_aload_n (j := 4) rfl rfl rfl ?_
  refine w_getI (j := 5) rfl rfl rfl rfl rfl ?_
  refine w_iconst (z := (1 : Int32)) (j := 6) rfl rfl rfl ?_
  refine w_iadd (j := 7) rfl rfl ?_
  rcases xite_inv h with ⟨g1, h⟩ | ⟨g1, h⟩
  · cases h
  · refine w_iaload (j := 8) rfl rfl g1 rfl ?_
    refine w_iconst (z := (1 : Int32)) (j := 9) rfl rfl rfl ?_
    obtain ⟨q2, hq2, h⟩ := Option.bind_eq_some_iff.mp h
    refine wc_AII_I (j := 10) (T := []) rfl rfl rfl rfl rfl rfl rfl rfl rfl rfl ?_
    refine R_X10_isSort hq2 ⟨_, rfl, ?_⟩
    rcases xite_inv h with ⟨hb, h⟩ | ⟨hb, h⟩
    · obtain rfl := Option.some.inj h
      exact wp_ret rfl rfl (xretb hb) hq
    · cases h
set_option maxHeartbeats 2000000 in
set_option maxRecDepth 20000 in
theorem RL_X10_tableMeans_20 {d : Nat}  {Q : Option Value → xM → Prop}  : ∀ (n : Nat) (l1 : Int32) (l2 : Int32) (l3 : Int32) (l4 : Int32) (u5 : Option Value) (s : St) (q : Int32 × St)   (h : L_X10_tableMeans_20  n l1 l2 l3 l4 s = some q) (hq : ∀ (v1 v4 v5 : Option Value), xlong v4 = false → wp (d + 1) mX10_tableMeans 56 [some (.ref 94), v1, some (.int l2), some (.int q.1), v4, v5] [] (SH, q.2.1, q.2.2) Q), wp (d + 1) mX10_tableMeans 20 [some (.ref 94), some (.int l1), some (.int l2), some (.int l3), some (.int l4), u5] [] (SH, s.1, s.2) Q := by
  intro n
  induction n with
  | zero => intro l1 l2 l3 l4 u5 s q h; cases h
  | succ n ih =>
    intro l1 l2 l3 l4 u5 s q h hq
    unfold L_X10_tableMeans_20 at h
    try dsimp only at h
    refine w_iload (j := 21) rfl rfl rfl ?_
    refine w_aload_n (j := 22) rfl rfl rfl ?_
    refine w_getR (j := 23) rfl rfl rfl rfl rfl rfl ?_
    refine w_iload_n (j := 24) rfl rfl rfl ?_
    rcases xite_inv h with ⟨g6, h⟩ | ⟨g6, h⟩
    · cases h
    · refine w_iaload (j := 25) rfl rfl g6 rfl ?_
      rcases xite_inv h with ⟨c7, h⟩ | ⟨c7, h⟩
      · refine w_icmpge_t (j := 56) rfl c7 rfl ?_
        obtain rfl := Option.some.inj h
        exact hq _ _ _ rfl
      · refine w_icmpge_f (j := 26) rfl c7 rfl ?_
        refine w_aload_n (j := 27) rfl rfl rfl ?_
        refine w_getR (j := 28) rfl rfl rfl rfl rfl rfl ?_
        refine w_bipush (z := (24 : Int32)) (j := 29) rfl rfl rfl ?_
        refine w_iload_n (j := 30) rfl rfl rfl ?_
        refine w_imul (j := 31) rfl rfl ?_
        refine w_iload (j := 32) rfl rfl rfl ?_
        refine w_iadd (j := 33) rfl rfl ?_
        rcases xite_inv h with ⟨g8, h⟩ | ⟨g8, h⟩
        · cases h
        · refine w_iaload (j := 34) rfl rfl g8 rfl ?_
          refine w_istore (j := 35) rfl (l1_5 rfl) rfl ?_
          refine w_iload_n (j := 36) rfl rfl rfl ?_
          refine w_aload_n (j := 37) rfl rfl rfl ?_
          refine w_getR (j := 38) rfl rfl rfl rfl rfl rfl ?_
          refine w_iload (j := 39) rfl rfl rfl ?_
          rcases xite_inv h with ⟨g9, h⟩ | ⟨g9, h⟩
          · cases h
          · refine w_baload (j := 40) rfl rfl rfl g9 rfl ?_
            refine w_iand (j := 41) rfl rfl ?_
            refine w_istore_n (j := 42) rfl (l1_3 rfl) rfl ?_
            refine w_aload_n (j := 43) rfl rfl rfl ?_
            refine w_getR (j := 44) rfl rfl rfl rfl rfl rfl ?_
            refine w_aload_n (j := 45) rfl rfl rfl ?_
            refine w_getI (j := 46) rfl rfl rfl rfl rfl ?_
            refine w_iload (j := 47) rfl rfl rfl ?_
            rcases xite_inv h with ⟨g10, h⟩ | ⟨g10, h⟩
            · cases h
            · refine w_iastore (j := 48) rfl rfl g10 rfl ?_
              try dsimp only at h
              refine w_aload_n (j := 49) rfl rfl rfl ?_
              refine w_dup (j := 50) rfl rfl rfl ?_
              refine w_getI (j := 51) rfl rfl rfl rfl rfl ?_
              refine w_iconst (z := (1 : Int32)) (j := 52) rfl rfl rfl ?_
              refine w_iadd (j := 53) rfl rfl ?_
              refine w_putI (j := 54) rfl rfl rfl rfl rfl ?_
              try dsimp only at h
              refine w_iinc (cc := (1 : Int32)) (j := 55) rfl rfl rfl (l1_4 rfl) rfl ?_
              refine w_goto (j := 20) rfl rfl ?_
              exact ih _ _ _ _ _ _ _ h hq
set_option maxHeartbeats 2000000 in
set_option maxRecDepth 20000 in
theorem R_X10_tableMeans {d : Nat} {a0 : Int32} {a1 : Int32} {s : St} {q : Int32 × St} {Q : Option Value → xM → Prop}  (h : F_X10_tableMeans a0 a1 s = some q) (hq : Q (some (.int q.1)) (SH, q.2.1, q.2.2)) : wp (d + 1) mX10_tableMeans 0 [some (.ref 94), some (.int a0), some (.int a1), none, none, none] [] (SH, s.1, s.2) Q := by
  unfold F_X10_tableMeans at h
  try dsimp only at h
  refine w_aload_n (j := 1) rfl rfl rfl ?_
  refine w_getR (j := 2) rfl rfl rfl rfl rfl rfl ?_
  refine w_iload_n (j := 3) rfl rfl rfl ?_
  rcases xite_inv h with ⟨g1, h⟩ | ⟨g1, h⟩
  · cases h
  · refine w_iaload (j := 4) rfl rfl g1 rfl ?_
    rcases xite_inv h with ⟨c2, h⟩ | ⟨c2, h⟩
    · refine w_ifne_f (j := 5) rfl c2 rfl ?_
      refine w_aload_n (j := 6) rfl rfl rfl ?_
      refine w_bipush (z := (6 : Int32)) (j := 7) rfl rfl rfl ?_
      refine w_aload_n (j := 8) rfl rfl rfl ?_
      refine w_getR (j := 9) rfl rfl rfl rfl rfl rfl ?_
      refine w_iload_n (j := 10) rfl rfl rfl ?_
      rcases xite_inv h with ⟨g3, h⟩ | ⟨g3, h⟩
      · cases h
      · refine w_iaload (j := 11) rfl rfl g3 rfl ?_
        obtain ⟨q4, hq4, h⟩ := Option.bind_eq_some_iff.mp h
        refine wc_AII_I (j := 12) (T := []) rfl rfl rfl rfl rfl rfl rfl rfl rfl rfl ?_
        refine R_X10_fails hq4 ⟨_, rfl, ?_⟩
        rcases xite_inv h with ⟨hb, h⟩ | ⟨hb, h⟩
        · obtain rfl := Option.some.inj h
          exact wp_ret rfl rfl (xretb hb) hq
        · cases h
    · refine w_ifne_t (j := 13) rfl c2 rfl ?_
      refine w_aload_n (j := 14) rfl rfl rfl ?_
      refine w_iconst (z := (0 : Int32)) (j := 15) rfl rfl rfl ?_
      refine w_putI (j := 16) rfl rfl rfl rfl rfl ?_
      try dsimp only at h
      refine w_iconst (z := (1 : Int32)) (j := 17) rfl rfl rfl ?_
      refine w_istore_n (j := 18) rfl (l1_3 rfl) rfl ?_
      refine w_iconst (z := (0 : Int32)) (j := 19) rfl rfl rfl ?_
      refine w_istore (j := 20) rfl (l1_4 rfl) rfl ?_
      obtain ⟨q13, hq13, h⟩ := Option.bind_eq_some_iff.mp h
      refine RL_X10_tableMeans_20  _ _ _ _ _ _ _ _ hq13 (fun v14 v15 v16 hv15 => ?_)
      refine w_iload_n (j := 57) rfl rfl rfl ?_
      rcases xite_inv h with ⟨c17, h⟩ | ⟨c17, h⟩
      · refine w_ifne_f (j := 58) rfl c17 rfl ?_
        refine w_aload_n (j := 59) rfl rfl rfl ?_
        refine w_bipush (z := (7 : Int32)) (j := 60) rfl rfl rfl ?_
        refine w_aload_n (j := 61) rfl rfl rfl ?_
        refine w_getR (j := 62) rfl rfl rfl rfl rfl rfl ?_
        refine w_iload_n (j := 63) rfl rfl rfl ?_
        rcases xite_inv h with ⟨g18, h⟩ | ⟨g18, h⟩
        · cases h
        · refine w_iaload (j := 64) rfl rfl g18 rfl ?_
          obtain ⟨q19, hq19, h⟩ := Option.bind_eq_some_iff.mp h
          refine wc_AII_I (j := 65) (T := []) rfl rfl rfl rfl rfl rfl rfl rfl rfl rfl ?_
          refine R_X10_fails hq19 ⟨_, rfl, ?_⟩
          rcases xite_inv h with ⟨c20, h⟩ | ⟨c20, h⟩
          · refine w_ifeq_t (j := 68) rfl c20 rfl ?_
            refine w_iconst (z := (0 : Int32)) (j := 69) rfl rfl rfl ?_
            obtain rfl := Option.some.inj h
            exact wp_ret rfl rfl rfl hq
          · refine w_ifeq_f (j := 66) rfl c20 rfl ?_
            refine w_iconst (z := (1 : Int32)) (j := 67) rfl rfl rfl ?_
            refine w_goto (j := 69) rfl rfl ?_
            obtain rfl := Option.some.inj h
            exact wp_ret rfl rfl rfl hq
      · refine w_ifne_t (j := 66) rfl c17 rfl ?_
        refine w_iconst (z := (1 : Int32)) (j := 67) rfl rfl rfl ?_
        refine w_goto (j := 69) rfl rfl ?_
        obtain rfl := Option.some.inj h
        exact wp_ret rfl rfl rfl hq
set_option maxHeartbeats 2000000 in
set_option maxRecDepth 20000 in
theorem R_X10_oneMeans {d : Nat} {a0 : Int32} {s : St} {q : Int32 × St} {Q : Option Value → xM → Prop}  (h : F_X10_oneMeans a0 s = some q) (hq : Q (some (.int q.1)) (SH, q.2.1, q.2.2)) : wp (d + 0) mX10_oneMeans 0 [some (.ref 94), some (.int a0)] [] (SH, s.1, s.2) Q := by
  unfold F_X10_oneMeans at h
  try dsimp only at h
  refine w_aload_n (j := 1) rfl rfl rfl ?_
  refine w_getR (j := 2) rfl rfl rfl rfl rfl rfl ?_
  refine w_iconst (z := (0 : Int32)) (j := 3) rfl rfl rfl ?_
  refine w_iload_n (j := 4) rfl rfl rfl ?_
  refine w_iastore (j := 5) rfl rfl (by decide) rfl ?_
  try dsimp only at h
  refine w_aload_n (j := 6) rfl rfl rfl ?_
  refine w_iconst (z := (1 : Int32)) (j := 7) rfl rfl rfl ?_
  refine w_putI (j := 8) rfl rfl rfl rfl rfl ?_
  try dsimp only at h
  refine w_iconst (z := (1 : Int32)) (j := 9) rfl rfl rfl ?_
  obtain rfl := Option.some.inj h
  exact wp_ret rfl rfl rfl hq
