/-! lifted methods -/
set_option maxRecDepth 20000 in
set_option maxHeartbeats 4000000 in
theorem e_X10_second {G : ev_G} {Q : Option ev_V → ev_M → Prop} {R : Option (Int32 × ev_m)} {mF : ev_m} (hR : ∀ (x0 : Int32) (m0 : ev_m), (some ((x0, m0))) = R → Q (some (vi x0)) (ev_emb m0)) (hN : none ≠ R) {i0 : Nat} {x1_ : Int32} {x2_ : Int32} {x3_ : Int32} {x4_ : Int32} {x5_ : Int32} (h : f_X10_second mF i0 x1_ x2_ x3_ x4_ x5_ = R) : ev_E G K_X10_second B_X10_second (0, 0) 0 [some (vr 10 (i0)), some (vi (x1_)), some (vi (x2_)), some (vi (x3_)), some (vi (x4_)), some (vi (x5_))] [] (ev_emb mF) Q := by
  unfold f_X10_second at h
  refine ev_aload_0 (pc := 0) dX10_second_0 ?_
  refine ev_iconst (pc := 1) (v := 0) dX10_second_1 rfl ?_
  obtain ⟨m1, hm1, h⟩ := ev_letE h
  refine pt_X10_81 (pc := 2) rfl dX10_second_2 ?_
  refine ev_mem (pc := 5) hm1 ?_
  refine ev_aload_0 (pc := 5) dX10_second_5 ?_
  refine ev_iload_1 (pc := 6) dX10_second_6 ?_
  refine ev_iload_2 (pc := 7) dX10_second_7 ?_
  refine ev_iconst (pc := 8) (v := 1) dX10_second_8 rfl ?_
  obtain ⟨p2, hp2, h⟩ := ev_bindE hN h
  refine cl1_X10_329 (pc := 9) rfl dX10_second_9 (by decide) (Nat.le_of_ble_eq_true rfl) (c_X10_lay hp2) ?_
  refine ev_ifb_eq (pc := 12) (tgt := 37) dX10_second_12 (by decide) (fun c3 => ?_) (fun c3 => ?_)
  · replace h := ev_ifn h c3
    refine ev_ldc (pc := 37) (v := (-100000)) kc_X10_235 dX10_second_37 ?_
    exact ev_iret (pc := 39) dX10_second_39 rfl rfl (hR _ _ h)
  · replace h := ev_ifp h c3
    refine ev_iload_4 (pc := 15) dX10_second_15 ?_
    refine ev_iconst (pc := 17) (v := 0) dX10_second_17 rfl ?_
    refine ev_sipush (pc := 18) (v := 400) dX10_second_18 (by decide) ?_
    refine cl1_X10_89 (pc := 21) rfl dX10_second_21 (by decide) (Nat.le_of_ble_eq_true rfl) (c_X10_in p2.2 x4_ 0 400) ?_
    refine ev_ifb_eq (pc := 24) (tgt := 37) dX10_second_24 (by decide) (fun c4 => ?_) (fun c4 => ?_)
    · replace h := ev_ifn h c4
      refine ev_ldc (pc := 37) (v := (-100000)) kc_X10_235 dX10_second_37 ?_
      exact ev_iret (pc := 39) dX10_second_39 rfl rfl (hR _ _ h)
    · replace h := ev_ifp h c4
      refine ev_iload_5 (pc := 27) dX10_second_27 ?_
      refine ev_iconst (pc := 29) (v := 0) dX10_second_29 rfl ?_
      refine ev_iconst (pc := 30) (v := 3) dX10_second_30 rfl ?_
      refine cl1_X10_89 (pc := 31) rfl dX10_second_31 (by decide) (Nat.le_of_ble_eq_true rfl) (c_X10_in p2.2 x5_ 0 3) ?_
      refine ev_ifb_ne (pc := 34) (tgt := 40) dX10_second_34 (by decide) (fun c5 => ?_) (fun c5 => ?_)
      · replace h := ev_ifp h c5
        refine ev_aload_0 (pc := 40) dX10_second_40 ?_
        refine ev_iload_2 (pc := 41) dX10_second_41 ?_
        refine ev_iconst (pc := 42) (v := (-1)) dX10_second_42 rfl ?_
        obtain ⟨x7, hx7, h⟩ := ev_letE h
        have hJ1 : ev_E G K_X10_second B_X10_second (0, 0) 51 [some (vr 10 (i0)), some (vi (x1_)), some (vi (x2_)), some (vi (x3_)), some (vi (x4_)), some (vi (x5_))] [vi (x7), vr 10 (i0)] (ev_emb p2.2) Q := by
          refine ev_iload_3 (pc := 51) dX10_second_51 ?_
          refine ev_iload_4 (pc := 52) dX10_second_52 ?_
          obtain ⟨m8, hm8, h⟩ := ev_bindE hN h
          refine cl0_X10_315 (pc := 54) rfl dX10_second_54 (by decide) (Nat.le_of_ble_eq_true rfl) (c_X10_runBy hm8) ?_
          refine ev_iload_5 (pc := 57) dX10_second_57 ?_
          refine ev_ifc_ne (pc := 59) (tgt := 72) dX10_second_59 (by decide) (fun c9 => ?_) (fun c9 => ?_)
          · replace h := ev_ifn h c9
            refine ev_iload_5 (pc := 72) dX10_second_72 ?_
            refine ev_iconst (pc := 74) (v := 1) dX10_second_74 rfl ?_
            refine ev_icc_ne (pc := 75) (tgt := 88) dX10_second_75 (by decide) (fun c10 => ?_) (fun c10 => ?_)
            · replace h := ev_ifn h c10
              refine ev_iload_5 (pc := 88) dX10_second_88 ?_
              refine ev_iconst (pc := 90) (v := 2) dX10_second_90 rfl ?_
              refine ev_icc_ne (pc := 91) (tgt := 104) dX10_second_91 (by decide) (fun c11 => ?_) (fun c11 => ?_)
              · replace h := ev_ifn h c11
                refine ev_aload_0 (pc := 104) dX10_second_104 ?_
                refine gt_X10_65 (pc := 105) rfl dX10_second_105 ?_
                refine ev_iload_4 (pc := 108) dX10_second_108 ?_
                obtain ⟨x12, hx12, h⟩ := ev_bindE hN h
                refine ev_iald1 (pc := 110) rfl (by decide) rfl hx12 dX10_second_110 ?_
                exact ev_iret (pc := 111) dX10_second_111 rfl rfl (hR _ _ h)
              · replace h := ev_ifp h c11
                refine ev_aload_0 (pc := 94) dX10_second_94 ?_
                refine gt_X10_62 (pc := 95) rfl dX10_second_95 ?_
                refine ev_iload_4 (pc := 98) dX10_second_98 ?_
                obtain ⟨x13, hx13, h⟩ := ev_bindE hN h
                refine ev_iald1 (pc := 100) rfl (by decide) rfl hx13 dX10_second_100 ?_
                refine ev_goto (pc := 101) (tgt := 111) dX10_second_101 (by decide) ?_
                exact ev_iret (pc := 111) dX10_second_111 rfl rfl (hR _ _ h)
            · replace h := ev_ifp h c10
              refine ev_aload_0 (pc := 78) dX10_second_78 ?_
              refine gt_X10_59 (pc := 79) rfl dX10_second_79 ?_
              refine ev_iload_4 (pc := 82) dX10_second_82 ?_
              obtain ⟨x14, hx14, h⟩ := ev_bindE hN h
              refine ev_iald1 (pc := 84) rfl (by decide) rfl hx14 dX10_second_84 ?_
              refine ev_goto (pc := 85) (tgt := 111) dX10_second_85 (by decide) ?_
              exact ev_iret (pc := 111) dX10_second_111 rfl rfl (hR _ _ h)
          · replace h := ev_ifp h c9
            refine ev_aload_0 (pc := 62) dX10_second_62 ?_
            refine gt_X10_56 (pc := 63) rfl dX10_second_63 ?_
            refine ev_iload_4 (pc := 66) dX10_second_66 ?_
            obtain ⟨x15, hx15, h⟩ := ev_bindE hN h
            refine ev_iald1 (pc := 68) rfl (by decide) rfl hx15 dX10_second_68 ?_
            refine ev_goto (pc := 69) (tgt := 111) dX10_second_69 (by decide) ?_
            exact ev_iret (pc := 111) dX10_second_111 rfl rfl (hR _ _ h)
        refine ev_icc_eq (pc := 43) (tgt := 50) dX10_second_43 (by decide) (fun c6 => ?_) (fun c6 => ?_)
        · refine ev_iconst (pc := 50) (v := 0) dX10_second_50 rfl ?_
          replace hx7 := (hx7.trans (if_pos c6))
          subst hx7
          exact hJ1
        · refine ev_iconst (pc := 46) (v := 1) dX10_second_46 rfl ?_
          refine ev_goto (pc := 47) (tgt := 51) dX10_second_47 (by decide) ?_
          replace hx7 := (hx7.trans (if_neg c6))
          subst hx7
          exact hJ1
      · replace h := ev_ifn h c5
        refine ev_ldc (pc := 37) (v := (-100000)) kc_X10_235 dX10_second_37 ?_
        exact ev_iret (pc := 39) dX10_second_39 rfl rfl (hR _ _ h)
theorem c_X10_second {G : ev_G} {mF : ev_m} {i0 : Nat} {x1_ : Int32} {x2_ : Int32} {x3_ : Int32} {x4_ : Int32} {x5_ : Int32} {r : Int32 × ev_m} (h : f_X10_second mF i0 x1_ x2_ x3_ x4_ x5_ = some r) : ev_CF G K_X10_second B_X10_second [vr 10 (i0), vi (x1_), vi (x2_), vi (x3_), vi (x4_), vi (x5_)] mF (some (vi (r.1))) r.2 :=
  ev_Ct_of rfl rfl (Nat.le_of_ble_eq_true rfl) (e_X10_second (R := some r) (fun x0 m0 q => by cases q; exact ⟨rfl, rfl⟩) (fun q => by cases q) h)
set_option maxRecDepth 20000 in
set_option maxHeartbeats 4000000 in
theorem e_X10_run {G : ev_G} {Q : Option ev_V → ev_M → Prop} {R : Option (Int64 × ev_m)} {mF : ev_m} (hR : ∀ (x0 : Int64) (m0 : ev_m), (some ((x0, m0))) = R → Q (some (vl x0)) (ev_emb m0)) (hN : none ≠ R) {i0 : Nat} {x1_ : Int32} {x2_ : Int32} {x3_ : Int32} {x4_ : Int32} {x5_ : Int32} (h : f_X10_run mF i0 x1_ x2_ x3_ x4_ x5_ = R) : ev_E G K_X10_run B_X10_run (0, 0) 0 [some (vr 10 (i0)), some (vi (x1_)), some (vi (x2_)), some (vi (x3_)), some (vi (x4_)), some (vi (x5_))] [] (ev_emb mF) Q := by
  unfold f_X10_run at h
  refine ev_aload_0 (pc := 0) dX10_run_0 ?_
  refine ev_iconst (pc := 1) (v := 0) dX10_run_1 rfl ?_
  obtain ⟨m1, hm1, h⟩ := ev_letE h
  refine pt_X10_81 (pc := 2) rfl dX10_run_2 ?_
  refine ev_mem (pc := 5) hm1 ?_
  refine ev_aload_0 (pc := 5) dX10_run_5 ?_
  refine ev_iload_1 (pc := 6) dX10_run_6 ?_
  refine ev_iload_2 (pc := 7) dX10_run_7 ?_
  refine ev_iconst (pc := 8) (v := 1) dX10_run_8 rfl ?_
  obtain ⟨p2, hp2, h⟩ := ev_bindE hN h
  refine cl1_X10_329 (pc := 9) rfl dX10_run_9 (by decide) (Nat.le_of_ble_eq_true rfl) (c_X10_lay hp2) ?_
  refine ev_ifb_eq (pc := 12) (tgt := 38) dX10_run_12 (by decide) (fun c3 => ?_) (fun c3 => ?_)
  · replace h := ev_ifn h c3
    refine ev_ldc2 (pc := 38) (v := (-9223372036854775808)) kl_X10_333 dX10_run_38 ?_
    exact ev_lret (pc := 41) dX10_run_41 rfl (hR _ _ h)
  · replace h := ev_ifp h c3
    refine ev_iload_4 (pc := 15) dX10_run_15 ?_
    refine ev_iconst (pc := 17) (v := 1) dX10_run_17 rfl ?_
    refine ev_sipush (pc := 18) (v := 400) dX10_run_18 (by decide) ?_
    refine cl1_X10_89 (pc := 21) rfl dX10_run_21 (by decide) (Nat.le_of_ble_eq_true rfl) (c_X10_in p2.2 x4_ 1 400) ?_
    refine ev_ifb_eq (pc := 24) (tgt := 38) dX10_run_24 (by decide) (fun c4 => ?_) (fun c4 => ?_)
    · replace h := ev_ifn h c4
      refine ev_ldc2 (pc := 38) (v := (-9223372036854775808)) kl_X10_333 dX10_run_38 ?_
      exact ev_lret (pc := 41) dX10_run_41 rfl (hR _ _ h)
    · replace h := ev_ifp h c4
      refine ev_iload_5 (pc := 27) dX10_run_27 ?_
      refine ev_iconst (pc := 29) (v := 0) dX10_run_29 rfl ?_
      refine ev_bipush (pc := 30) (v := 9) dX10_run_30 (by decide) ?_
      refine cl1_X10_89 (pc := 32) rfl dX10_run_32 (by decide) (Nat.le_of_ble_eq_true rfl) (c_X10_in p2.2 x5_ 0 9) ?_
      refine ev_ifb_ne (pc := 35) (tgt := 42) dX10_run_35 (by decide) (fun c5 => ?_) (fun c5 => ?_)
      · replace h := ev_ifp h c5
        refine ev_aload_0 (pc := 42) dX10_run_42 ?_
        refine ev_iload_2 (pc := 43) dX10_run_43 ?_
        refine ev_iconst (pc := 44) (v := (-1)) dX10_run_44 rfl ?_
        obtain ⟨x7, hx7, h⟩ := ev_letE h
        have hJ1 : ev_E G K_X10_run B_X10_run (0, 0) 53 [some (vr 10 (i0)), some (vi (x1_)), some (vi (x2_)), some (vi (x3_)), some (vi (x4_)), some (vi (x5_))] [vi (x7), vr 10 (i0)] (ev_emb p2.2) Q := by
          refine ev_iload_3 (pc := 53) dX10_run_53 ?_
          refine ev_iload_4 (pc := 54) dX10_run_54 ?_
          obtain ⟨m8, hm8, h⟩ := ev_bindE hN h
          refine cl0_X10_315 (pc := 56) rfl dX10_run_56 (by decide) (Nat.le_of_ble_eq_true rfl) (c_X10_runBy hm8) ?_
          refine ev_iload_5 (pc := 59) dX10_run_59 ?_
          by_cases c9 : x5_ = 0
          · replace h := ev_ifp h c9
            refine ev_tin (pc := 61) 0 (tgt := 112) c9 (by decide) dX10_run_61 rfl (by decide) ?_
            refine ev_aload_0 (pc := 112) dX10_run_112 ?_
            refine cl1_X10_319 (pc := 113) rfl dX10_run_113 (by decide) (Nat.le_of_ble_eq_true rfl) (c_X10_cost m8 i0) ?_
            exact ev_lret (pc := 116) dX10_run_116 rfl (hR _ _ h)
          · replace h := ev_ifn h c9
            by_cases c10 : x5_ = 1
            · replace h := ev_ifp h c10
              refine ev_tin (pc := 61) 1 (tgt := 117) c10 (by decide) dX10_run_61 rfl (by decide) ?_
              refine ev_aload_0 (pc := 117) dX10_run_117 ?_
              refine gt_X10_243 (pc := 118) rfl dX10_run_118 ?_
              exact ev_lret (pc := 121) dX10_run_121 rfl (hR _ _ h)
            · replace h := ev_ifn h c10
              by_cases c11 : x5_ = 2
              · replace h := ev_ifp h c11
                refine ev_tin (pc := 61) 2 (tgt := 122) c11 (by decide) dX10_run_61 rfl (by decide) ?_
                refine ev_aload_0 (pc := 122) dX10_run_122 ?_
                refine gt_X10_246 (pc := 123) rfl dX10_run_123 ?_
                refine ev_i2l (pc := 126) dX10_run_126 ?_
                exact ev_lret (pc := 127) dX10_run_127 rfl (hR _ _ h)
              · replace h := ev_ifn h c11
                by_cases c12 : x5_ = 3
                · replace h := ev_ifp h c12
                  refine ev_tin (pc := 61) 3 (tgt := 128) c12 (by decide) dX10_run_61 rfl (by decide) ?_
                  refine ev_aload_0 (pc := 128) dX10_run_128 ?_
                  refine gt_X10_249 (pc := 129) rfl dX10_run_129 ?_
                  exact ev_lret (pc := 132) dX10_run_132 rfl (hR _ _ h)
                · replace h := ev_ifn h c12
                  by_cases c13 : x5_ = 4
                  · replace h := ev_ifp h c13
                    refine ev_tin (pc := 61) 4 (tgt := 133) c13 (by decide) dX10_run_61 rfl (by decide) ?_
                    refine ev_aload_0 (pc := 133) dX10_run_133 ?_
                    refine gt_X10_252 (pc := 134) rfl dX10_run_134 ?_
                    refine ev_i2l (pc := 137) dX10_run_137 ?_
                    exact ev_lret (pc := 138) dX10_run_138 rfl (hR _ _ h)
                  · replace h := ev_ifn h c13
                    by_cases c14 : x5_ = 5
                    · replace h := ev_ifp h c14
                      refine ev_tin (pc := 61) 5 (tgt := 139) c14 (by decide) dX10_run_61 rfl (by decide) ?_
                      refine ev_aload_0 (pc := 139) dX10_run_139 ?_
                      refine gt_X10_255 (pc := 140) rfl dX10_run_140 ?_
                      exact ev_lret (pc := 143) dX10_run_143 rfl (hR _ _ h)
                    · replace h := ev_ifn h c14
                      by_cases c15 : x5_ = 6
                      · replace h := ev_ifp h c15
                        refine ev_tin (pc := 61) 6 (tgt := 144) c15 (by decide) dX10_run_61 rfl (by decide) ?_
                        refine ev_aload_0 (pc := 144) dX10_run_144 ?_
                        refine gt_X10_258 (pc := 145) rfl dX10_run_145 ?_
                        refine ev_i2l (pc := 148) dX10_run_148 ?_
                        exact ev_lret (pc := 149) dX10_run_149 rfl (hR _ _ h)
                      · replace h := ev_ifn h c15
                        by_cases c16 : x5_ = 7
                        · replace h := ev_ifp h c16
                          refine ev_tin (pc := 61) 7 (tgt := 150) c16 (by decide) dX10_run_61 rfl (by decide) ?_
                          refine ev_aload_0 (pc := 150) dX10_run_150 ?_
                          obtain ⟨x18, hx18, h⟩ := ev_bindE hN h
                          refine cl1_X10_335 (pc := 151) rfl dX10_run_151 (by decide) (Nat.le_of_ble_eq_true rfl) (c_X10_grows hx18) ?_
                          refine ev_ifb_eq (pc := 154) (tgt := 161) dX10_run_154 (by decide) (fun c19 => ?_) (fun c19 => ?_)
                          · replace h := ev_ifn h c19
                            refine ev_lconst (pc := 161) (v := 0) dX10_run_161 rfl ?_
                            exact ev_lret (pc := 162) dX10_run_162 rfl (hR _ _ h)
                          · replace h := ev_ifp h c19
                            refine ev_lconst (pc := 157) (v := 1) dX10_run_157 rfl ?_
                            refine ev_goto (pc := 158) (tgt := 162) dX10_run_158 (by decide) ?_
                            exact ev_lret (pc := 162) dX10_run_162 rfl (hR _ _ h)
                        · replace h := ev_ifn h c16
                          by_cases c17 : x5_ = 8
                          · replace h := ev_ifp h c17
                            refine ev_tin (pc := 61) 8 (tgt := 163) c17 (by decide) dX10_run_61 rfl (by decide) ?_
                            refine ev_aload_0 (pc := 163) dX10_run_163 ?_
                            refine gt_X10_267 (pc := 164) rfl dX10_run_164 ?_
                            refine ev_i2l (pc := 167) dX10_run_167 ?_
                            exact ev_lret (pc := 168) dX10_run_168 rfl (hR _ _ h)
                          · replace h := ev_ifn h c17
                            refine ev_tout (pc := 61) 9 (tgt := 169) rfl (by decide) (lt_s (p := fun j => ¬ x5_ = nI j) (lt_s (p := fun j => ¬ x5_ = nI j) (lt_s (p := fun j => ¬ x5_ = nI j) (lt_s (p := fun j => ¬ x5_ = nI j) (lt_s (p := fun j => ¬ x5_ = nI j) (lt_s (p := fun j => ¬ x5_ = nI j) (lt_s (p := fun j => ¬ x5_ = nI j) (lt_s (p := fun j => ¬ x5_ = nI j) (lt_s (p := fun j => ¬ x5_ = nI j) lt_0 c9) c10) c11) c12) c13) c14) c15) c16) c17) dX10_run_61 (by decide) ?_
                            refine ev_aload_0 (pc := 169) dX10_run_169 ?_
                            refine gt_X10_273 (pc := 170) rfl dX10_run_170 ?_
                            refine ev_i2l (pc := 173) dX10_run_173 ?_
                            exact ev_lret (pc := 174) dX10_run_174 rfl (hR _ _ h)
        refine ev_icc_eq (pc := 45) (tgt := 52) dX10_run_45 (by decide) (fun c6 => ?_) (fun c6 => ?_)
        · refine ev_iconst (pc := 52) (v := 0) dX10_run_52 rfl ?_
          replace hx7 := (hx7.trans (if_pos c6))
          subst hx7
          exact hJ1
        · refine ev_iconst (pc := 48) (v := 1) dX10_run_48 rfl ?_
          refine ev_goto (pc := 49) (tgt := 53) dX10_run_49 (by decide) ?_
          replace hx7 := (hx7.trans (if_neg c6))
          subst hx7
          exact hJ1
      · replace h := ev_ifn h c5
        refine ev_ldc2 (pc := 38) (v := (-9223372036854775808)) kl_X10_333 dX10_run_38 ?_
        exact ev_lret (pc := 41) dX10_run_41 rfl (hR _ _ h)
theorem c_X10_run {G : ev_G} {mF : ev_m} {i0 : Nat} {x1_ : Int32} {x2_ : Int32} {x3_ : Int32} {x4_ : Int32} {x5_ : Int32} {r : Int64 × ev_m} (h : f_X10_run mF i0 x1_ x2_ x3_ x4_ x5_ = some r) : ev_CF G K_X10_run B_X10_run [vr 10 (i0), vi (x1_), vi (x2_), vi (x3_), vi (x4_), vi (x5_)] mF (some (vl (r.1))) r.2 :=
  ev_Ct_of rfl rfl (Nat.le_of_ble_eq_true rfl) (e_X10_run (R := some r) (fun x0 m0 q => by cases q; exact ⟨rfl, rfl⟩) (fun q => by cases q) h)
set_option maxRecDepth 20000 in
set_option maxHeartbeats 4000000 in
theorem e_X10_peak {G : ev_G} {Q : Option ev_V → ev_M → Prop} {R : Option (Int32 × ev_m)} {mF : ev_m} (hR : ∀ (x0 : Int32) (m0 : ev_m), (some ((x0, m0))) = R → Q (some (vi x0)) (ev_emb m0)) (hN : none ≠ R) {i0 : Nat} {x1_ : Int32} {x2_ : Int32} {x3_ : Int32} {x4_ : Int32} {x5_ : Int32} (h : f_X10_peak mF i0 x1_ x2_ x3_ x4_ x5_ = R) : ev_E G K_X10_peak B_X10_peak (0, 0) 0 [some (vr 10 (i0)), some (vi (x1_)), some (vi (x2_)), some (vi (x3_)), some (vi (x4_)), some (vi (x5_))] [] (ev_emb mF) Q := by
  unfold f_X10_peak at h
  refine ev_aload_0 (pc := 0) dX10_peak_0 ?_
  refine ev_iconst (pc := 1) (v := 0) dX10_peak_1 rfl ?_
  obtain ⟨m1, hm1, h⟩ := ev_letE h
  refine pt_X10_81 (pc := 2) rfl dX10_peak_2 ?_
  refine ev_mem (pc := 5) hm1 ?_
  refine ev_aload_0 (pc := 5) dX10_peak_5 ?_
  refine ev_iload_1 (pc := 6) dX10_peak_6 ?_
  refine ev_iload_2 (pc := 7) dX10_peak_7 ?_
  refine ev_iconst (pc := 8) (v := 1) dX10_peak_8 rfl ?_
  obtain ⟨p2, hp2, h⟩ := ev_bindE hN h
  refine cl1_X10_329 (pc := 9) rfl dX10_peak_9 (by decide) (Nat.le_of_ble_eq_true rfl) (c_X10_lay hp2) ?_
  refine ev_ifb_eq (pc := 12) (tgt := 27) dX10_peak_12 (by decide) (fun c3 => ?_) (fun c3 => ?_)
  · replace h := ev_ifn h c3
    refine ev_iconst (pc := 27) (v := (-1)) dX10_peak_27 rfl ?_
    exact ev_iret (pc := 28) dX10_peak_28 rfl rfl (hR _ _ h)
  · replace h := ev_ifp h c3
    refine ev_iload_4 (pc := 15) dX10_peak_15 ?_
    refine ev_iconst (pc := 17) (v := 1) dX10_peak_17 rfl ?_
    refine ev_sipush (pc := 18) (v := 400) dX10_peak_18 (by decide) ?_
    refine cl1_X10_89 (pc := 21) rfl dX10_peak_21 (by decide) (Nat.le_of_ble_eq_true rfl) (c_X10_in p2.2 x4_ 1 400) ?_
    refine ev_ifb_ne (pc := 24) (tgt := 29) dX10_peak_24 (by decide) (fun c4 => ?_) (fun c4 => ?_)
    · replace h := ev_ifp h c4
      refine ev_aload_0 (pc := 29) dX10_peak_29 ?_
      refine ev_iload_2 (pc := 30) dX10_peak_30 ?_
      refine ev_iconst (pc := 31) (v := (-1)) dX10_peak_31 rfl ?_
      obtain ⟨x6, hx6, h⟩ := ev_letE h
      have hJ1 : ev_E G K_X10_peak B_X10_peak (0, 0) 40 [some (vr 10 (i0)), some (vi (x1_)), some (vi (x2_)), some (vi (x3_)), some (vi (x4_)), some (vi (x5_))] [vi (x6), vr 10 (i0)] (ev_emb p2.2) Q := by
        refine ev_iload_3 (pc := 40) dX10_peak_40 ?_
        refine ev_iload_4 (pc := 41) dX10_peak_41 ?_
        obtain ⟨m7, hm7, h⟩ := ev_bindE hN h
        refine cl0_X10_315 (pc := 43) rfl dX10_peak_43 (by decide) (Nat.le_of_ble_eq_true rfl) (c_X10_runBy hm7) ?_
        refine ev_iload_5 (pc := 46) dX10_peak_46 ?_
        refine ev_iconst (pc := 48) (v := 0) dX10_peak_48 rfl ?_
        refine ev_aload_0 (pc := 49) dX10_peak_49 ?_
        refine gt_X10_258 (pc := 50) rfl dX10_peak_50 ?_
        refine cl1_X10_89 (pc := 53) rfl dX10_peak_53 (by decide) (Nat.le_of_ble_eq_true rfl) (c_X10_in m7 x5_ 0 (m7.1 10 i0 38)) ?_
        refine ev_ifb_eq (pc := 56) (tgt := 69) dX10_peak_56 (by decide) (fun c8 => ?_) (fun c8 => ?_)
        · replace h := ev_ifn h c8
          refine ev_iconst (pc := 69) (v := (-1)) dX10_peak_69 rfl ?_
          exact ev_iret (pc := 70) dX10_peak_70 rfl rfl (hR _ _ h)
        · replace h := ev_ifp h c8
          refine ev_aload_0 (pc := 59) dX10_peak_59 ?_
          refine gt_X10_68 (pc := 60) rfl dX10_peak_60 ?_
          refine ev_iload_5 (pc := 63) dX10_peak_63 ?_
          obtain ⟨x9, hx9, h⟩ := ev_bindE hN h
          refine ev_iald1 (pc := 65) rfl (by decide) rfl hx9 dX10_peak_65 ?_
          refine ev_goto (pc := 66) (tgt := 70) dX10_peak_66 (by decide) ?_
          exact ev_iret (pc := 70) dX10_peak_70 rfl rfl (hR _ _ h)
      refine ev_icc_eq (pc := 32) (tgt := 39) dX10_peak_32 (by decide) (fun c5 => ?_) (fun c5 => ?_)
      · refine ev_iconst (pc := 39) (v := 0) dX10_peak_39 rfl ?_
        replace hx6 := (hx6.trans (if_pos c5))
        subst hx6
        exact hJ1
      · refine ev_iconst (pc := 35) (v := 1) dX10_peak_35 rfl ?_
        refine ev_goto (pc := 36) (tgt := 40) dX10_peak_36 (by decide) ?_
        replace hx6 := (hx6.trans (if_neg c5))
        subst hx6
        exact hJ1
    · replace h := ev_ifn h c4
      refine ev_iconst (pc := 27) (v := (-1)) dX10_peak_27 rfl ?_
      exact ev_iret (pc := 28) dX10_peak_28 rfl rfl (hR _ _ h)
theorem c_X10_peak {G : ev_G} {mF : ev_m} {i0 : Nat} {x1_ : Int32} {x2_ : Int32} {x3_ : Int32} {x4_ : Int32} {x5_ : Int32} {r : Int32 × ev_m} (h : f_X10_peak mF i0 x1_ x2_ x3_ x4_ x5_ = some r) : ev_CF G K_X10_peak B_X10_peak [vr 10 (i0), vi (x1_), vi (x2_), vi (x3_), vi (x4_), vi (x5_)] mF (some (vi (r.1))) r.2 :=
  ev_Ct_of rfl rfl (Nat.le_of_ble_eq_true rfl) (e_X10_peak (R := some r) (fun x0 m0 q => by cases q; exact ⟨rfl, rfl⟩) (fun q => by cases q) h)
set_option maxRecDepth 20000 in
set_option maxHeartbeats 4000000 in
theorem e_X10_layFor {G : ev_G} {Q : Option ev_V → ev_M → Prop} {R : Option (Bool × ev_m)} {mF : ev_m} (hR : ∀ (x0 : Bool) (m0 : ev_m), (some ((x0, m0))) = R → Q (some (vi (bi x0))) (ev_emb m0)) (hN : none ≠ R) {i0 : Nat} {x1_ : Int32} {x2_ : Int32} {x3_ : Int32} (h : f_X10_layFor mF i0 x1_ x2_ x3_ = R) : ev_E G K_X10_layFor B_X10_layFor (0, 0) 0 [some (vr 10 (i0)), some (vi (x1_)), some (vi (x2_)), some (vi (x3_))] [] (ev_emb mF) Q := by
  unfold f_X10_layFor at h
  refine ev_iload_3 (pc := 0) dX10_layFor_0 ?_
  refine ev_iconst (pc := 1) (v := 1) dX10_layFor_1 rfl ?_
  refine ev_sipush (pc := 2) (v := 200) dX10_layFor_2 (by decide) ?_
  refine cl1_X10_89 (pc := 5) rfl dX10_layFor_5 (by decide) (Nat.le_of_ble_eq_true rfl) (c_X10_in mF x3_ 1 200) ?_
  refine ev_ifb_eq (pc := 8) (tgt := 25) dX10_layFor_8 (by decide) (fun c1 => ?_) (fun c1 => ?_)
  · replace h := ev_ifn h c1
    refine ev_iconst (pc := 25) (v := 0) dX10_layFor_25 rfl ?_
    exact ev_iret (pc := 26) dX10_layFor_26 rfl rfl (hR _ _ h)
  · replace h := ev_ifp h c1
    refine ev_aload_0 (pc := 11) dX10_layFor_11 ?_
    refine ev_iload_1 (pc := 12) dX10_layFor_12 ?_
    refine ev_iload_2 (pc := 13) dX10_layFor_13 ?_
    refine ev_iconst (pc := 14) (v := 0) dX10_layFor_14 rfl ?_
    obtain ⟨p2, hp2, h⟩ := ev_bindE hN h
    refine cl1_X10_329 (pc := 15) rfl dX10_layFor_15 (by decide) (Nat.le_of_ble_eq_true rfl) (c_X10_lay hp2) ?_
    refine ev_ifb_eq (pc := 18) (tgt := 25) dX10_layFor_18 (by decide) (fun c3 => ?_) (fun c3 => ?_)
    · replace h := ev_ifn h c3
      refine ev_iconst (pc := 25) (v := 0) dX10_layFor_25 rfl ?_
      exact ev_iret (pc := 26) dX10_layFor_26 rfl rfl (hR _ _ h)
    · replace h := ev_ifp h c3
      refine ev_iconst (pc := 21) (v := 1) dX10_layFor_21 rfl ?_
      refine ev_goto (pc := 22) (tgt := 26) dX10_layFor_22 (by decide) ?_
      exact ev_iret (pc := 26) dX10_layFor_26 rfl rfl (hR _ _ h)
theorem c_X10_layFor {G : ev_G} {mF : ev_m} {i0 : Nat} {x1_ : Int32} {x2_ : Int32} {x3_ : Int32} {r : Bool × ev_m} (h : f_X10_layFor mF i0 x1_ x2_ x3_ = some r) : ev_CF G K_X10_layFor B_X10_layFor [vr 10 (i0), vi (x1_), vi (x2_), vi (x3_)] mF (some (vi (bi (r.1)))) r.2 :=
  ev_Ct_of rfl rfl (Nat.le_of_ble_eq_true rfl) (e_X10_layFor (R := some r) (fun x0 m0 q => by cases q; exact ⟨rfl, rfl⟩) (fun q => by cases q) h)
set_option maxRecDepth 20000 in
set_option maxHeartbeats 4000000 in
theorem e_X10_put {G : ev_G} {Q : Option ev_V → ev_M → Prop} {R : Option (ev_m)} {mF : ev_m} (hR : ∀ m0 : ev_m, (some (m0)) = R → Q none (ev_emb m0)) (hN : none ≠ R) {i0 : Nat} {x1_ : Int32} {x2_ : Int32} (h : f_X10_put mF i0 x1_ x2_ = R) : ev_E G K_X10_put B_X10_put (0, 0) 0 [some (vr 10 (i0)), some (vi (x1_)), some (vi (x2_))] [] (ev_emb mF) Q := by
  unfold f_X10_put at h
  refine ev_aload_0 (pc := 0) dX10_put_0 ?_
  refine gt_X10_44 (pc := 1) rfl dX10_put_1 ?_
  refine ev_iload_1 (pc := 4) dX10_put_4 ?_
  refine ev_iload_2 (pc := 5) dX10_put_5 ?_
  obtain ⟨m1, hm1, h⟩ := ev_bindE hN h
  refine ev_iast1 (pc := 6) rfl (by decide) (by decide) rfl hm1 dX10_put_6 ?_
  exact ev_vret (pc := 7) dX10_put_7 rfl (hR _ h)
theorem c_X10_put {G : ev_G} {mF : ev_m} {i0 : Nat} {x1_ : Int32} {x2_ : Int32} {r : ev_m} (h : f_X10_put mF i0 x1_ x2_ = some r) : ev_CF G K_X10_put B_X10_put [vr 10 (i0), vi (x1_), vi (x2_)] mF none r :=
  ev_Ct_of rfl rfl (Nat.le_of_ble_eq_true rfl) (e_X10_put (R := some r) (fun m0 q => by cases q; exact ⟨rfl, rfl⟩) (fun q => by cases q) h)
set_option maxRecDepth 20000 in
set_option maxHeartbeats 4000000 in
theorem e_lp_X10_found_60 {G : ev_G} {Q : Option ev_V → ev_M → Prop} {R : Option (Int64 × ev_m)} (hR : ∀ (x0 : Int64) (m0 : ev_m), (some ((x0, m0))) = R → Q (some (vl x0)) (ev_emb m0)) (hN : none ≠ R) {i7 : Nat} {x8 : Int32} {x9 : Int32} {x10 : Int32} {x11 : Int32} : ∀ (f : Nat) (x12 : Int32) (y13 : Int64) (x14 : Int32) (m15 : ev_m) (kx : Int32 → Int64 → ev_m → Option (Int64 × ev_m)) (h : lp_X10_found_60 i7 x8 x9 x10 x11 f x12 y13 x14 m15 kx = R) (hk : ∀ (x12' : Int32) (y13' : Int64) (m15' : ev_m), kx x12' y13' m15' = R → ev_E G K_X10_found B_X10_found (0, 0) 133 [none, none, none, none, none, some (vi (x10)), some (vi (x11)), some (vi (x12')), some (vl (y13')), none, none, none, none] [] (ev_emb m15') Q), ev_E G K_X10_found B_X10_found (0, 0) 60 [some (vr 10 (i7)), none, none, some (vi (x8)), some (vi (x9)), some (vi (x10)), some (vi (x11)), some (vi (x12)), some (vl (y13)), none, some (vi (x14)), none, none] [] (ev_emb m15) Q := by
  intro f
  induction f with
  | zero => intro x12 y13 x14 m15 kx h hk; rw [lp_X10_found_60] at h; exact absurd h hN
  | succ f ih =>
    intro x12 y13 x14 m15 kx h hk
    rw [lp_X10_found_60] at h
    refine ev_iload_10 (pc := 60) dX10_found_60 ?_
    refine ev_iload_4 (pc := 62) dX10_found_62 ?_
    refine ev_iconst (pc := 64) (v := 1) dX10_found_64 rfl ?_
    refine ev_iadd (pc := 65) dX10_found_65 ?_
    refine ev_iload_5 (pc := 66) dX10_found_66 ?_
    refine ev_iconst (pc := 68) (v := 1) dX10_found_68 rfl ?_
    refine ev_iadd (pc := 69) dX10_found_69 ?_
    refine ev_imul (pc := 70) dX10_found_70 ?_
    refine ev_icc_ge (pc := 71) (tgt := 133) dX10_found_71 (by decide) (fun c16 => ?_) (fun c16 => ?_)
    · replace h := ev_ifn h c16
      refine ev_E.forget (L' := [none, none, none, none, none, some (vi (x10)), some (vi (x11)), some (vi (x12)), some (vl (y13)), none, none, none, none]) ⟨rfl, ⟨rfl, ⟨rfl, ⟨rfl, trivial⟩⟩⟩⟩ ?_
      exact hk _ _ _  h
    · replace h := ev_ifp h c16
      refine ev_aload_0 (pc := 74) dX10_found_74 ?_
      refine ev_iconst (pc := 75) (v := 0) dX10_found_75 rfl ?_
      refine ev_iload_10 (pc := 76) dX10_found_76 ?_
      refine ev_iload_5 (pc := 78) dX10_found_78 ?_
      refine ev_iconst (pc := 80) (v := 1) dX10_found_80 rfl ?_
      refine ev_iadd (pc := 81) dX10_found_81 ?_
      obtain ⟨x17, hx17, h⟩ := ev_bindE hN h
      refine ev_idiv1 (pc := 82) hx17 dX10_found_82 ?_
      obtain ⟨m18, hm18, h⟩ := ev_bindE hN h
      refine cl0_X10_343 (pc := 83) rfl dX10_found_83 (by decide) (Nat.le_of_ble_eq_true rfl) (c_X10_put hm18) ?_
      refine ev_aload_0 (pc := 86) dX10_found_86 ?_
      refine ev_iconst (pc := 87) (v := 1) dX10_found_87 rfl ?_
      refine ev_iload_10 (pc := 88) dX10_found_88 ?_
      refine ev_iload_5 (pc := 90) dX10_found_90 ?_
      refine ev_iconst (pc := 92) (v := 1) dX10_found_92 rfl ?_
      refine ev_iadd (pc := 93) dX10_found_93 ?_
      obtain ⟨x19, hx19, h⟩ := ev_bindE hN h
      refine ev_irem1 (pc := 94) hx19 dX10_found_94 ?_
      obtain ⟨m20, hm20, h⟩ := ev_bindE hN h
      refine cl0_X10_343 (pc := 95) rfl dX10_found_95 (by decide) (Nat.le_of_ble_eq_true rfl) (c_X10_put hm20) ?_
      refine ev_aload_0 (pc := 98) dX10_found_98 ?_
      refine ev_iload_3 (pc := 99) dX10_found_99 ?_
      obtain ⟨p21, hp21, h⟩ := ev_bindE hN h
      refine cl1_X10_346 (pc := 100) rfl dX10_found_100 (by decide) (Nat.le_of_ble_eq_true rfl) (c_X10_costBy hp21) ?_
      obtain ⟨y22, hy22, h⟩ := ev_letE h
      refine ev_topl (pc := 103) hy22 ?_
      refine ev_lstore_11 (pc := 103) dX10_found_103 (by decide) rfl ?_
      refine ev_iload_7 (pc := 105) dX10_found_105 ?_
      refine ev_iconst (pc := 107) (v := (-1)) dX10_found_107 rfl ?_
      obtain ⟨x25, hx25, h⟩ := ev_letE h
      obtain ⟨y26, hy26, h⟩ := ev_letE h
      have hJ1 : ev_E G K_X10_found B_X10_found (0, 0) 127 [some (vr 10 (i7)), none, none, some (vi (x8)), some (vi (x9)), some (vi (x10)), some (vi (x11)), some (vi (x25)), some (vl (y26)), none, some (vi (x14)), some (vl (y22)), none] [] (ev_emb p21.2) Q := by
        refine ev_iinc_10 (pc := 127) (y := x14 + 1) dX10_found_127 rfl (by decide) rfl ?_
        refine ev_goto (pc := 130) (tgt := 60) dX10_found_130 (by decide) ?_
        refine ev_E.forget (L' := [some (vr 10 (i7)), none, none, some (vi (x8)), some (vi (x9)), some (vi (x10)), some (vi (x11)), some (vi (x25)), some (vl (y26)), none, some (vi (x14 + 1)), none, none]) ⟨rfl, ⟨rfl, ⟨rfl, ⟨rfl, ⟨rfl, ⟨rfl, ⟨rfl, ⟨rfl, trivial⟩⟩⟩⟩⟩⟩⟩⟩ ?_
        exact ih _ _ _ _ kx h hk
      refine ev_icc_eq (pc := 108) (tgt := 119) dX10_found_108 (by decide) (fun c23 => ?_) (fun c23 => ?_)
      · refine ev_iload_10 (pc := 119) dX10_found_119 ?_
        refine ev_istore_7 (pc := 121) dX10_found_121 (by decide) rfl ?_
        refine ev_lload_11 (pc := 123) dX10_found_123 ?_
        refine ev_lstore_8 (pc := 125) dX10_found_125 (by decide) rfl ?_
        replace hx25 := (hx25.trans (if_pos c23))
        replace hy26 := (hy26.trans (if_pos c23))
        subst hx25
        subst hy26
        exact hJ1
      · refine ev_lload_11 (pc := 111) dX10_found_111 ?_
        refine ev_lload_8 (pc := 113) dX10_found_113 ?_
        refine ev_lcc_ge (pc := 115) (tgt := 127) dX10_found_115 dX10_found_116 (by decide) (fun c24 => ?_) (fun c24 => ?_)
        · replace hx25 := ((hx25.trans (if_neg c23)).trans (if_neg c24))
          replace hy26 := ((hy26.trans (if_neg c23)).trans (if_neg c24))
          subst hx25
          subst hy26
          exact hJ1
        · refine ev_iload_10 (pc := 119) dX10_found_119 ?_
          refine ev_istore_7 (pc := 121) dX10_found_121 (by decide) rfl ?_
          refine ev_lload_11 (pc := 123) dX10_found_123 ?_
          refine ev_lstore_8 (pc := 125) dX10_found_125 (by decide) rfl ?_
          replace hx25 := ((hx25.trans (if_neg c23)).trans (if_pos c24))
          replace hy26 := ((hy26.trans (if_neg c23)).trans (if_pos c24))
          subst hx25
          subst hy26
          exact hJ1
set_option maxRecDepth 20000 in
set_option maxHeartbeats 4000000 in
theorem e_X10_found {G : ev_G} {Q : Option ev_V → ev_M → Prop} {R : Option (Int64 × ev_m)} {mF : ev_m} (hR : ∀ (x0 : Int64) (m0 : ev_m), (some ((x0, m0))) = R → Q (some (vl x0)) (ev_emb m0)) (hN : none ≠ R) {i0 : Nat} {x1_ : Int32} {x2_ : Int32} {x3_ : Int32} {x4_ : Int32} {x5_ : Int32} {x6_ : Int32} (h : f_X10_found mF i0 x1_ x2_ x3_ x4_ x5_ x6_ = R) : ev_E G K_X10_found B_X10_found (0, 0) 0 [some (vr 10 (i0)), some (vi (x1_)), some (vi (x2_)), some (vi (x3_)), some (vi (x4_)), some (vi (x5_)), some (vi (x6_)), none, none, none, none, none, none] [] (ev_emb mF) Q := by
  unfold f_X10_found at h
  refine ev_aload_0 (pc := 0) dX10_found_0 ?_
  refine ev_iconst (pc := 1) (v := 0) dX10_found_1 rfl ?_
  obtain ⟨m1, hm1, h⟩ := ev_letE h
  refine pt_X10_81 (pc := 2) rfl dX10_found_2 ?_
  refine ev_mem (pc := 5) hm1 ?_
  refine ev_aload_0 (pc := 5) dX10_found_5 ?_
  refine ev_iload_1 (pc := 6) dX10_found_6 ?_
  refine ev_iload_2 (pc := 7) dX10_found_7 ?_
  refine ev_iload_3 (pc := 8) dX10_found_8 ?_
  obtain ⟨p2, hp2, h⟩ := ev_bindE hN h
  refine cl1_X10_338 (pc := 9) rfl dX10_found_9 (by decide) (Nat.le_of_ble_eq_true rfl) (c_X10_layFor hp2) ?_
  refine ev_ifb_eq (pc := 12) (tgt := 47) dX10_found_12 (by decide) (fun c3 => ?_) (fun c3 => ?_)
  · replace h := ev_ifn h c3
    refine ev_ldc2 (pc := 47) (v := (-1)) kl_X10_341 dX10_found_47 ?_
    exact ev_lret (pc := 50) dX10_found_50 rfl (hR _ _ h)
  · replace h := ev_ifp h c3
    refine ev_iload_4 (pc := 15) dX10_found_15 ?_
    refine ev_iconst (pc := 17) (v := 0) dX10_found_17 rfl ?_
    refine ev_bipush (pc := 18) (v := 20) dX10_found_18 (by decide) ?_
    refine cl1_X10_89 (pc := 20) rfl dX10_found_20 (by decide) (Nat.le_of_ble_eq_true rfl) (c_X10_in p2.2 x4_ 0 20) ?_
    refine ev_ifb_eq (pc := 23) (tgt := 47) dX10_found_23 (by decide) (fun c4 => ?_) (fun c4 => ?_)
    · replace h := ev_ifn h c4
      refine ev_ldc2 (pc := 47) (v := (-1)) kl_X10_341 dX10_found_47 ?_
      exact ev_lret (pc := 50) dX10_found_50 rfl (hR _ _ h)
    · replace h := ev_ifp h c4
      refine ev_iload_5 (pc := 26) dX10_found_26 ?_
      refine ev_iconst (pc := 28) (v := 0) dX10_found_28 rfl ?_
      refine ev_bipush (pc := 29) (v := 20) dX10_found_29 (by decide) ?_
      refine cl1_X10_89 (pc := 31) rfl dX10_found_31 (by decide) (Nat.le_of_ble_eq_true rfl) (c_X10_in p2.2 x5_ 0 20) ?_
      refine ev_ifb_eq (pc := 34) (tgt := 47) dX10_found_34 (by decide) (fun c5 => ?_) (fun c5 => ?_)
      · replace h := ev_ifn h c5
        refine ev_ldc2 (pc := 47) (v := (-1)) kl_X10_341 dX10_found_47 ?_
        exact ev_lret (pc := 50) dX10_found_50 rfl (hR _ _ h)
      · replace h := ev_ifp h c5
        refine ev_iload_6 (pc := 37) dX10_found_37 ?_
        refine ev_iconst (pc := 39) (v := 0) dX10_found_39 rfl ?_
        refine ev_iconst (pc := 40) (v := 2) dX10_found_40 rfl ?_
        refine cl1_X10_89 (pc := 41) rfl dX10_found_41 (by decide) (Nat.le_of_ble_eq_true rfl) (c_X10_in p2.2 x6_ 0 2) ?_
        refine ev_ifb_ne (pc := 44) (tgt := 51) dX10_found_44 (by decide) (fun c6 => ?_) (fun c6 => ?_)
        · replace h := ev_ifp h c6
          refine ev_iconst (pc := 51) (v := (-1)) dX10_found_51 rfl ?_
          refine ev_istore_7 (pc := 52) dX10_found_52 (by decide) rfl ?_
          refine ev_lconst (pc := 54) (v := 0) dX10_found_54 rfl ?_
          refine ev_lstore_8 (pc := 55) dX10_found_55 (by decide) rfl ?_
          refine ev_iconst (pc := 57) (v := 0) dX10_found_57 rfl ?_
          refine ev_istore_10 (pc := 58) dX10_found_58 (by decide) rfl ?_
          refine ev_E.forget (L' := [some (vr 10 (i0)), none, none, some (vi (x3_)), some (vi (x4_)), some (vi (x5_)), some (vi (x6_)), some (vi ((-1))), some (vl (0)), none, some (vi (0)), none, none]) ⟨rfl, ⟨rfl, ⟨rfl, ⟨rfl, ⟨rfl, ⟨rfl, ⟨rfl, ⟨rfl, trivial⟩⟩⟩⟩⟩⟩⟩⟩ ?_
          refine e_lp_X10_found_60 hR hN 4000 _ _ _ _ _ h (fun x27 y28 m29 h => ?_)
          refine ev_iload_6 (pc := 133) dX10_found_133 ?_
          refine ev_ifc_ne (pc := 135) (tgt := 149) dX10_found_135 (by decide) (fun c30 => ?_) (fun c30 => ?_)
          · replace h := ev_ifn h c30
            refine ev_iload_6 (pc := 149) dX10_found_149 ?_
            refine ev_iconst (pc := 151) (v := 1) dX10_found_151 rfl ?_
            refine ev_icc_ne (pc := 152) (tgt := 166) dX10_found_152 (by decide) (fun c31 => ?_) (fun c31 => ?_)
            · replace h := ev_ifn h c31
              refine ev_lload_8 (pc := 166) dX10_found_166 ?_
              exact ev_lret (pc := 168) dX10_found_168 rfl (hR _ _ h)
            · replace h := ev_ifp h c31
              refine ev_iload_7 (pc := 155) dX10_found_155 ?_
              refine ev_iload_5 (pc := 157) dX10_found_157 ?_
              refine ev_iconst (pc := 159) (v := 1) dX10_found_159 rfl ?_
              refine ev_iadd (pc := 160) dX10_found_160 ?_
              obtain ⟨x32, hx32, h⟩ := ev_bindE hN h
              refine ev_irem1 (pc := 161) hx32 dX10_found_161 ?_
              refine ev_i2l (pc := 162) dX10_found_162 ?_
              refine ev_goto (pc := 163) (tgt := 168) dX10_found_163 (by decide) ?_
              exact ev_lret (pc := 168) dX10_found_168 rfl (hR _ _ h)
          · replace h := ev_ifp h c30
            refine ev_iload_7 (pc := 138) dX10_found_138 ?_
            refine ev_iload_5 (pc := 140) dX10_found_140 ?_
            refine ev_iconst (pc := 142) (v := 1) dX10_found_142 rfl ?_
            refine ev_iadd (pc := 143) dX10_found_143 ?_
            obtain ⟨x33, hx33, h⟩ := ev_bindE hN h
            refine ev_idiv1 (pc := 144) hx33 dX10_found_144 ?_
            refine ev_i2l (pc := 145) dX10_found_145 ?_
            refine ev_goto (pc := 146) (tgt := 168) dX10_found_146 (by decide) ?_
            exact ev_lret (pc := 168) dX10_found_168 rfl (hR _ _ h)
        · replace h := ev_ifn h c6
          refine ev_ldc2 (pc := 47) (v := (-1)) kl_X10_341 dX10_found_47 ?_
          exact ev_lret (pc := 50) dX10_found_50 rfl (hR _ _ h)
theorem c_X10_found {G : ev_G} {mF : ev_m} {i0 : Nat} {x1_ : Int32} {x2_ : Int32} {x3_ : Int32} {x4_ : Int32} {x5_ : Int32} {x6_ : Int32} {r : Int64 × ev_m} (h : f_X10_found mF i0 x1_ x2_ x3_ x4_ x5_ x6_ = some r) : ev_CF G K_X10_found B_X10_found [vr 10 (i0), vi (x1_), vi (x2_), vi (x3_), vi (x4_), vi (x5_), vi (x6_)] mF (some (vl (r.1))) r.2 :=
  ev_Ct_of rfl rfl (Nat.le_of_ble_eq_true rfl) (e_X10_found (R := some r) (fun x0 m0 q => by cases q; exact ⟨rfl, rfl⟩) (fun q => by cases q) h)
set_option maxRecDepth 20000 in
set_option maxHeartbeats 4000000 in
theorem e_lp_X10_iron_28 {G : ev_G} {Q : Option ev_V → ev_M → Prop} {R : Option (Int64 × ev_m)} (hR : ∀ (x0 : Int64) (m0 : ev_m), (some ((x0, m0))) = R → Q (some (vl x0)) (ev_emb m0)) (hN : none ≠ R) {i4 : Nat} {x5 : Int32} {x6 : Int32} : ∀ (f : Nat) (x7 : Int32) (y8 : Int64) (x9 : Int32) (m10 : ev_m) (kx : Int32 → Int64 → ev_m → Option (Int64 × ev_m)) (h : lp_X10_iron_28 i4 x5 x6 f x7 y8 x9 m10 kx = R) (hk : ∀ (x7' : Int32) (y8' : Int64) (m10' : ev_m), kx x7' y8' m10' = R → ev_E G K_X10_iron B_X10_iron (0, 0) 77 [none, none, none, none, some (vi (x6)), some (vi (x7')), some (vl (y8')), none, none, none, none] [] (ev_emb m10') Q), ev_E G K_X10_iron B_X10_iron (0, 0) 28 [some (vr 10 (i4)), none, none, some (vi (x5)), some (vi (x6)), some (vi (x7)), some (vl (y8)), none, some (vi (x9)), none, none] [] (ev_emb m10) Q := by
  intro f
  induction f with
  | zero => intro x7 y8 x9 m10 kx h hk; rw [lp_X10_iron_28] at h; exact absurd h hN
  | succ f ih =>
    intro x7 y8 x9 m10 kx h hk
    rw [lp_X10_iron_28] at h
    refine ev_iload_8 (pc := 28) dX10_iron_28 ?_
    refine ev_bipush (pc := 30) (v := 20) dX10_iron_30 (by decide) ?_
    refine ev_icc_gt (pc := 32) (tgt := 77) dX10_iron_32 (by decide) (fun c11 => ?_) (fun c11 => ?_)
    · replace h := ev_ifp h c11
      refine ev_E.forget (L' := [none, none, none, none, some (vi (x6)), some (vi (x7)), some (vl (y8)), none, none, none, none]) ⟨rfl, ⟨rfl, ⟨rfl, trivial⟩⟩⟩ ?_
      exact hk _ _ _  h
    · replace h := ev_ifn h c11
      refine ev_aload_0 (pc := 35) dX10_iron_35 ?_
      refine ev_iconst (pc := 36) (v := 2) dX10_iron_36 rfl ?_
      refine ev_iload_8 (pc := 37) dX10_iron_37 ?_
      obtain ⟨m12, hm12, h⟩ := ev_bindE hN h
      refine cl0_X10_343 (pc := 39) rfl dX10_iron_39 (by decide) (Nat.le_of_ble_eq_true rfl) (c_X10_put hm12) ?_
      refine ev_aload_0 (pc := 42) dX10_iron_42 ?_
      refine ev_iload_3 (pc := 43) dX10_iron_43 ?_
      obtain ⟨p13, hp13, h⟩ := ev_bindE hN h
      refine cl1_X10_346 (pc := 44) rfl dX10_iron_44 (by decide) (Nat.le_of_ble_eq_true rfl) (c_X10_costBy hp13) ?_
      obtain ⟨y14, hy14, h⟩ := ev_letE h
      refine ev_topl (pc := 47) hy14 ?_
      refine ev_lstore_9 (pc := 47) dX10_iron_47 (by decide) rfl ?_
      refine ev_iload_5 (pc := 49) dX10_iron_49 ?_
      refine ev_iconst (pc := 51) (v := (-1)) dX10_iron_51 rfl ?_
      obtain ⟨x17, hx17, h⟩ := ev_letE h
      obtain ⟨y18, hy18, h⟩ := ev_letE h
      have hJ1 : ev_E G K_X10_iron B_X10_iron (0, 0) 71 [some (vr 10 (i4)), none, none, some (vi (x5)), some (vi (x6)), some (vi (x17)), some (vl (y18)), none, some (vi (x9)), some (vl (y14)), none] [] (ev_emb p13.2) Q := by
        refine ev_iinc_8 (pc := 71) (y := x9 + 1) dX10_iron_71 rfl (by decide) rfl ?_
        refine ev_goto (pc := 74) (tgt := 28) dX10_iron_74 (by decide) ?_
        refine ev_E.forget (L' := [some (vr 10 (i4)), none, none, some (vi (x5)), some (vi (x6)), some (vi (x17)), some (vl (y18)), none, some (vi (x9 + 1)), none, none]) ⟨rfl, ⟨rfl, ⟨rfl, ⟨rfl, ⟨rfl, ⟨rfl, trivial⟩⟩⟩⟩⟩⟩ ?_
        exact ih _ _ _ _ kx h hk
      refine ev_icc_eq (pc := 52) (tgt := 63) dX10_iron_52 (by decide) (fun c15 => ?_) (fun c15 => ?_)
      · refine ev_iload_8 (pc := 63) dX10_iron_63 ?_
        refine ev_istore_5 (pc := 65) dX10_iron_65 (by decide) rfl ?_
        refine ev_lload_9 (pc := 67) dX10_iron_67 ?_
        refine ev_lstore_6 (pc := 69) dX10_iron_69 (by decide) rfl ?_
        replace hx17 := (hx17.trans (if_pos c15))
        replace hy18 := (hy18.trans (if_pos c15))
        subst hx17
        subst hy18
        exact hJ1
      · refine ev_lload_9 (pc := 55) dX10_iron_55 ?_
        refine ev_lload_6 (pc := 57) dX10_iron_57 ?_
        refine ev_lcc_ge (pc := 59) (tgt := 71) dX10_iron_59 dX10_iron_60 (by decide) (fun c16 => ?_) (fun c16 => ?_)
        · replace hx17 := ((hx17.trans (if_neg c15)).trans (if_neg c16))
          replace hy18 := ((hy18.trans (if_neg c15)).trans (if_neg c16))
          subst hx17
          subst hy18
          exact hJ1
        · refine ev_iload_8 (pc := 63) dX10_iron_63 ?_
          refine ev_istore_5 (pc := 65) dX10_iron_65 (by decide) rfl ?_
          refine ev_lload_9 (pc := 67) dX10_iron_67 ?_
          refine ev_lstore_6 (pc := 69) dX10_iron_69 (by decide) rfl ?_
          replace hx17 := ((hx17.trans (if_neg c15)).trans (if_pos c16))
          replace hy18 := ((hy18.trans (if_neg c15)).trans (if_pos c16))
          subst hx17
          subst hy18
          exact hJ1
set_option maxRecDepth 20000 in
set_option maxHeartbeats 4000000 in
theorem e_X10_iron {G : ev_G} {Q : Option ev_V → ev_M → Prop} {R : Option (Int64 × ev_m)} {mF : ev_m} (hR : ∀ (x0 : Int64) (m0 : ev_m), (some ((x0, m0))) = R → Q (some (vl x0)) (ev_emb m0)) (hN : none ≠ R) {i0 : Nat} {x1_ : Int32} {x2_ : Int32} {x3_ : Int32} {x4_ : Int32} (h : f_X10_iron mF i0 x1_ x2_ x3_ x4_ = R) : ev_E G K_X10_iron B_X10_iron (0, 0) 0 [some (vr 10 (i0)), some (vi (x1_)), some (vi (x2_)), some (vi (x3_)), some (vi (x4_)), none, none, none, none, none, none] [] (ev_emb mF) Q := by
  unfold f_X10_iron at h
  refine ev_aload_0 (pc := 0) dX10_iron_0 ?_
  refine ev_iconst (pc := 1) (v := 0) dX10_iron_1 rfl ?_
  obtain ⟨m1, hm1, h⟩ := ev_letE h
  refine pt_X10_81 (pc := 2) rfl dX10_iron_2 ?_
  refine ev_mem (pc := 5) hm1 ?_
  refine ev_aload_0 (pc := 5) dX10_iron_5 ?_
  refine ev_iload_1 (pc := 6) dX10_iron_6 ?_
  refine ev_iload_2 (pc := 7) dX10_iron_7 ?_
  refine ev_iload_3 (pc := 8) dX10_iron_8 ?_
  obtain ⟨p2, hp2, h⟩ := ev_bindE hN h
  refine cl1_X10_338 (pc := 9) rfl dX10_iron_9 (by decide) (Nat.le_of_ble_eq_true rfl) (c_X10_layFor hp2) ?_
  refine ev_ifb_ne (pc := 12) (tgt := 19) dX10_iron_12 (by decide) (fun c3 => ?_) (fun c3 => ?_)
  · replace h := ev_ifp h c3
    refine ev_iconst (pc := 19) (v := (-1)) dX10_iron_19 rfl ?_
    refine ev_istore_5 (pc := 20) dX10_iron_20 (by decide) rfl ?_
    refine ev_lconst (pc := 22) (v := 0) dX10_iron_22 rfl ?_
    refine ev_lstore_6 (pc := 23) dX10_iron_23 (by decide) rfl ?_
    refine ev_iconst (pc := 25) (v := 0) dX10_iron_25 rfl ?_
    refine ev_istore_8 (pc := 26) dX10_iron_26 (by decide) rfl ?_
    refine ev_E.forget (L' := [some (vr 10 (i0)), none, none, some (vi (x3_)), some (vi (x4_)), some (vi ((-1))), some (vl (0)), none, some (vi (0)), none, none]) ⟨rfl, ⟨rfl, ⟨rfl, ⟨rfl, ⟨rfl, ⟨rfl, trivial⟩⟩⟩⟩⟩⟩ ?_
    refine e_lp_X10_iron_28 hR hN 4000 _ _ _ _ _ h (fun x19 y20 m21 h => ?_)
    refine ev_iload_4 (pc := 77) dX10_iron_77 ?_
    refine ev_ifc_eq (pc := 79) (tgt := 87) dX10_iron_79 (by decide) (fun c22 => ?_) (fun c22 => ?_)
    · replace h := ev_ifp h c22
      refine ev_iload_5 (pc := 87) dX10_iron_87 ?_
      refine ev_i2l (pc := 89) dX10_iron_89 ?_
      exact ev_lret (pc := 90) dX10_iron_90 rfl (hR _ _ h)
    · replace h := ev_ifn h c22
      refine ev_lload_6 (pc := 82) dX10_iron_82 ?_
      refine ev_goto (pc := 84) (tgt := 90) dX10_iron_84 (by decide) ?_
      exact ev_lret (pc := 90) dX10_iron_90 rfl (hR _ _ h)
  · replace h := ev_ifn h c3
    refine ev_ldc2 (pc := 15) (v := (-1)) kl_X10_341 dX10_iron_15 ?_
    exact ev_lret (pc := 18) dX10_iron_18 rfl (hR _ _ h)
theorem c_X10_iron {G : ev_G} {mF : ev_m} {i0 : Nat} {x1_ : Int32} {x2_ : Int32} {x3_ : Int32} {x4_ : Int32} {r : Int64 × ev_m} (h : f_X10_iron mF i0 x1_ x2_ x3_ x4_ = some r) : ev_CF G K_X10_iron B_X10_iron [vr 10 (i0), vi (x1_), vi (x2_), vi (x3_), vi (x4_)] mF (some (vl (r.1))) r.2 :=
  ev_Ct_of rfl rfl (Nat.le_of_ble_eq_true rfl) (e_X10_iron (R := some r) (fun x0 m0 q => by cases q; exact ⟨rfl, rfl⟩) (fun q => by cases q) h)
set_option maxRecDepth 20000 in
set_option maxHeartbeats 4000000 in
theorem e_lp_X10_line_42 {G : ev_G} {Q : Option ev_V → ev_M → Prop} {R : Option (Int32 × ev_m)} (hR : ∀ (x0 : Int32) (m0 : ev_m), (some ((x0, m0))) = R → Q (some (vi x0)) (ev_emb m0)) (hN : none ≠ R) {i6 : Nat} {x7 : Int32} : ∀ (f : Nat) (x8 : Int32) (x9 : Int32) (m10 : ev_m) (kx : Int32 → ev_m → Option (Int32 × ev_m)) (h : lp_X10_line_42 i6 x7 f x8 x9 m10 kx = R) (hk : ∀ (x8' : Int32) (m10' : ev_m), kx x8' m10' = R → ev_E G K_X10_line B_X10_line (0, 0) 85 [none, none, none, none, none, some (vi (x8')), none] [] (ev_emb m10') Q), ev_E G K_X10_line B_X10_line (0, 0) 42 [some (vr 10 (i6)), none, none, some (vi (x7)), none, some (vi (x8)), some (vi (x9))] [] (ev_emb m10) Q := by
  intro f
  induction f with
  | zero => intro x8 x9 m10 kx h hk; rw [lp_X10_line_42] at h; exact absurd h hN
  | succ f ih =>
    intro x8 x9 m10 kx h hk
    rw [lp_X10_line_42] at h
    refine ev_iload_6 (pc := 42) dX10_line_42 ?_
    refine ev_bipush (pc := 44) (v := 99) dX10_line_44 (by decide) ?_
    refine ev_icc_gt (pc := 46) (tgt := 85) dX10_line_46 (by decide) (fun c11 => ?_) (fun c11 => ?_)
    · replace h := ev_ifp h c11
      refine ev_E.forget (L' := [none, none, none, none, none, some (vi (x8)), none]) ⟨rfl, trivial⟩ ?_
      exact hk _ _  h
    · replace h := ev_ifn h c11
      refine ev_aload_0 (pc := 49) dX10_line_49 ?_
      refine ev_iconst (pc := 50) (v := 0) dX10_line_50 rfl ?_
      refine ev_iload_6 (pc := 51) dX10_line_51 ?_
      obtain ⟨m12, hm12, h⟩ := ev_bindE hN h
      refine cl0_X10_343 (pc := 53) rfl dX10_line_53 (by decide) (Nat.le_of_ble_eq_true rfl) (c_X10_put hm12) ?_
      refine ev_aload_0 (pc := 56) dX10_line_56 ?_
      refine ev_iconst (pc := 57) (v := 1) dX10_line_57 rfl ?_
      refine ev_iconst (pc := 58) (v := 0) dX10_line_58 rfl ?_
      refine ev_iload_3 (pc := 59) dX10_line_59 ?_
      obtain ⟨m13, hm13, h⟩ := ev_bindE hN h
      refine cl0_X10_315 (pc := 60) rfl dX10_line_60 (by decide) (Nat.le_of_ble_eq_true rfl) (c_X10_runBy hm13) ?_
      refine ev_aload_0 (pc := 63) dX10_line_63 ?_
      obtain ⟨x14, hx14, h⟩ := ev_bindE hN h
      refine cl1_X10_335 (pc := 64) rfl dX10_line_64 (by decide) (Nat.le_of_ble_eq_true rfl) (c_X10_grows hx14) ?_
      obtain ⟨x16, hx16, h⟩ := ev_letE h
      have hJ1 : ev_E G K_X10_line B_X10_line (0, 0) 77 [some (vr 10 (i6)), none, none, some (vi (x7)), none, some (vi (x8)), some (vi (x9))] [vi (x16)] (ev_emb m13) Q := by
        refine ev_istore_5 (pc := 77) dX10_line_77 (by decide) rfl ?_
        refine ev_iinc_6 (pc := 79) (y := x9 + 1) dX10_line_79 rfl (by decide) rfl ?_
        refine ev_goto (pc := 82) (tgt := 42) dX10_line_82 (by decide) ?_
        exact ih _ _ _ kx h hk
      refine ev_ifb_eq (pc := 67) (tgt := 75) dX10_line_67 (by decide) (fun c15 => ?_) (fun c15 => ?_)
      · refine ev_iload_6 (pc := 75) dX10_line_75 ?_
        replace hx16 := (hx16.trans (if_neg c15))
        subst hx16
        exact hJ1
      · refine ev_iload_5 (pc := 70) dX10_line_70 ?_
        refine ev_goto (pc := 72) (tgt := 77) dX10_line_72 (by decide) ?_
        replace hx16 := (hx16.trans (if_pos c15))
        subst hx16
        exact hJ1
set_option maxRecDepth 20000 in
set_option maxHeartbeats 4000000 in
theorem e_X10_line {G : ev_G} {Q : Option ev_V → ev_M → Prop} {R : Option (Int32 × ev_m)} {mF : ev_m} (hR : ∀ (x0 : Int32) (m0 : ev_m), (some ((x0, m0))) = R → Q (some (vi x0)) (ev_emb m0)) (hN : none ≠ R) {i0 : Nat} {x1_ : Int32} {x2_ : Int32} {x3_ : Int32} {x4_ : Int32} (h : f_X10_line mF i0 x1_ x2_ x3_ x4_ = R) : ev_E G K_X10_line B_X10_line (0, 0) 0 [some (vr 10 (i0)), some (vi (x1_)), some (vi (x2_)), some (vi (x3_)), some (vi (x4_)), none, none] [] (ev_emb mF) Q := by
  unfold f_X10_line at h
  refine ev_aload_0 (pc := 0) dX10_line_0 ?_
  refine ev_iconst (pc := 1) (v := 0) dX10_line_1 rfl ?_
  obtain ⟨m1, hm1, h⟩ := ev_letE h
  refine pt_X10_81 (pc := 2) rfl dX10_line_2 ?_
  refine ev_mem (pc := 5) hm1 ?_
  refine ev_aload_0 (pc := 5) dX10_line_5 ?_
  refine ev_iload_1 (pc := 6) dX10_line_6 ?_
  refine ev_iload_2 (pc := 7) dX10_line_7 ?_
  refine ev_iload_3 (pc := 8) dX10_line_8 ?_
  obtain ⟨p2, hp2, h⟩ := ev_bindE hN h
  refine cl1_X10_338 (pc := 9) rfl dX10_line_9 (by decide) (Nat.le_of_ble_eq_true rfl) (c_X10_layFor hp2) ?_
  refine ev_ifb_eq (pc := 12) (tgt := 26) dX10_line_12 (by decide) (fun c3 => ?_) (fun c3 => ?_)
  · replace h := ev_ifn h c3
    refine ev_iconst (pc := 26) (v := (-1)) dX10_line_26 rfl ?_
    exact ev_iret (pc := 27) dX10_line_27 rfl rfl (hR _ _ h)
  · replace h := ev_ifp h c3
    refine ev_iload_4 (pc := 15) dX10_line_15 ?_
    refine ev_iconst (pc := 17) (v := 0) dX10_line_17 rfl ?_
    refine ev_bipush (pc := 18) (v := 9) dX10_line_18 (by decide) ?_
    refine cl1_X10_89 (pc := 20) rfl dX10_line_20 (by decide) (Nat.le_of_ble_eq_true rfl) (c_X10_in p2.2 x4_ 0 9) ?_
    refine ev_ifb_ne (pc := 23) (tgt := 28) dX10_line_23 (by decide) (fun c4 => ?_) (fun c4 => ?_)
    · replace h := ev_ifp h c4
      refine ev_aload_0 (pc := 28) dX10_line_28 ?_
      refine gt_X10_41 (pc := 29) rfl dX10_line_29 ?_
      refine ev_iconst (pc := 32) (v := 2) dX10_line_32 rfl ?_
      refine ev_iload_4 (pc := 33) dX10_line_33 ?_
      obtain ⟨m5, hm5, h⟩ := ev_letE h
      refine ev_iastS (pc := 35) (j := 2) rfl (by decide) (by decide) (by decide) (vp_in_iff.mpr (by decide)) dX10_line_35 ?_
      refine ev_mem (pc := 36) hm5 ?_
      refine ev_iconst (pc := 36) (v := (-1)) dX10_line_36 rfl ?_
      refine ev_istore_5 (pc := 37) dX10_line_37 (by decide) rfl ?_
      refine ev_iconst (pc := 39) (v := 0) dX10_line_39 rfl ?_
      refine ev_istore_6 (pc := 40) dX10_line_40 (by decide) rfl ?_
      refine ev_E.forget (L' := [some (vr 10 (i0)), none, none, some (vi (x3_)), none, some (vi ((-1))), some (vi (0))]) ⟨rfl, ⟨rfl, ⟨rfl, ⟨rfl, trivial⟩⟩⟩⟩ ?_
      refine e_lp_X10_line_42 hR hN 4000 _ _ _ _ h (fun x17 m18 h => ?_)
      refine ev_iload_5 (pc := 85) dX10_line_85 ?_
      exact ev_iret (pc := 87) dX10_line_87 rfl rfl (hR _ _ h)
    · replace h := ev_ifn h c4
      refine ev_iconst (pc := 26) (v := (-1)) dX10_line_26 rfl ?_
      exact ev_iret (pc := 27) dX10_line_27 rfl rfl (hR _ _ h)
theorem c_X10_line {G : ev_G} {mF : ev_m} {i0 : Nat} {x1_ : Int32} {x2_ : Int32} {x3_ : Int32} {x4_ : Int32} {r : Int32 × ev_m} (h : f_X10_line mF i0 x1_ x2_ x3_ x4_ = some r) : ev_CF G K_X10_line B_X10_line [vr 10 (i0), vi (x1_), vi (x2_), vi (x3_), vi (x4_)] mF (some (vi (r.1))) r.2 :=
  ev_Ct_of rfl rfl (Nat.le_of_ble_eq_true rfl) (e_X10_line (R := some r) (fun x0 m0 q => by cases q; exact ⟨rfl, rfl⟩) (fun q => by cases q) h)
set_option maxRecDepth 20000 in
set_option maxHeartbeats 4000000 in
theorem e_lp_X10_alone_35 {G : ev_G} {Q : Option ev_V → ev_M → Prop} {R : Option (Int32 × ev_m)} (hR : ∀ (x0 : Int32) (m0 : ev_m), (some ((x0, m0))) = R → Q (some (vi x0)) (ev_emb m0)) (hN : none ≠ R) {i6 : Nat} {x7 : Int32} {x8 : Int32} : ∀ (f : Nat) (x9 : Int32) (m10 : ev_m) (kx : ev_m → Option (Int32 × ev_m)) (h : lp_X10_alone_35 i6 x7 x8 f x9 m10 kx = R) (hk : ∀ (m10' : ev_m), kx m10' = R → ev_E G K_X10_alone B_X10_alone (0, 0) 75 [none, none, none, none, none] [] (ev_emb m10') Q), ev_E G K_X10_alone B_X10_alone (0, 0) 35 [some (vr 10 (i6)), none, some (vi (x7)), some (vi (x8)), some (vi (x9))] [] (ev_emb m10) Q := by
  intro f
  induction f with
  | zero => intro x9 m10 kx h hk; rw [lp_X10_alone_35] at h; exact absurd h hN
  | succ f ih =>
    intro x9 m10 kx h hk
    rw [lp_X10_alone_35] at h
    refine ev_iload_4 (pc := 35) dX10_alone_35 ?_
    refine ev_bipush (pc := 37) (v := 99) dX10_alone_37 (by decide) ?_
    refine ev_icc_gt (pc := 39) (tgt := 75) dX10_alone_39 (by decide) (fun c11 => ?_) (fun c11 => ?_)
    · replace h := ev_ifp h c11
      refine ev_E.forget (L' := [none, none, none, none, none]) trivial ?_
      exact hk _  h
    · replace h := ev_ifn h c11
      refine ev_aload_0 (pc := 42) dX10_alone_42 ?_
      refine gt_X10_41 (pc := 43) rfl dX10_alone_43 ?_
      refine ev_bipush (pc := 46) (v := 7) dX10_alone_46 (by decide) ?_
      refine ev_iload_4 (pc := 48) dX10_alone_48 ?_
      obtain ⟨m12, hm12, h⟩ := ev_letE h
      refine ev_iastS (pc := 50) (j := 7) rfl (by decide) (by decide) (by decide) (vp_in_iff.mpr (by decide)) dX10_alone_50 ?_
      refine ev_mem (pc := 51) hm12 ?_
      refine ev_aload_0 (pc := 51) dX10_alone_51 ?_
      refine ev_iconst (pc := 52) (v := 0) dX10_alone_52 rfl ?_
      refine ev_iconst (pc := 53) (v := 0) dX10_alone_53 rfl ?_
      refine ev_iload_2 (pc := 54) dX10_alone_54 ?_
      obtain ⟨m13, hm13, h⟩ := ev_bindE hN h
      refine cl0_X10_315 (pc := 55) rfl dX10_alone_55 (by decide) (Nat.le_of_ble_eq_true rfl) (c_X10_runBy hm13) ?_
      refine ev_aload_0 (pc := 58) dX10_alone_58 ?_
      refine gt_X10_252 (pc := 59) rfl dX10_alone_59 ?_
      refine ev_iload_3 (pc := 62) dX10_alone_62 ?_
      refine ev_icc_gt (pc := 63) (tgt := 69) dX10_alone_63 (by decide) (fun c14 => ?_) (fun c14 => ?_)
      · replace h := ev_ifp h c14
        refine ev_iinc_4 (pc := 69) (y := x9 + 1) dX10_alone_69 rfl (by decide) rfl ?_
        refine ev_goto (pc := 72) (tgt := 35) dX10_alone_72 (by decide) ?_
        exact ih _ _ kx h hk
      · replace h := ev_ifn h c14
        refine ev_iload_4 (pc := 66) dX10_alone_66 ?_
        exact ev_iret (pc := 68) dX10_alone_68 rfl rfl (hR _ _ h)
set_option maxRecDepth 20000 in
set_option maxHeartbeats 4000000 in
theorem e_X10_alone {G : ev_G} {Q : Option ev_V → ev_M → Prop} {R : Option (Int32 × ev_m)} {mF : ev_m} (hR : ∀ (x0 : Int32) (m0 : ev_m), (some ((x0, m0))) = R → Q (some (vi x0)) (ev_emb m0)) (hN : none ≠ R) {i0 : Nat} {x1_ : Int32} {x2_ : Int32} {x3_ : Int32} (h : f_X10_alone mF i0 x1_ x2_ x3_ = R) : ev_E G K_X10_alone B_X10_alone (0, 0) 0 [some (vr 10 (i0)), some (vi (x1_)), some (vi (x2_)), some (vi (x3_)), none] [] (ev_emb mF) Q := by
  unfold f_X10_alone at h
  refine ev_aload_0 (pc := 0) dX10_alone_0 ?_
  refine ev_iconst (pc := 1) (v := 0) dX10_alone_1 rfl ?_
  obtain ⟨m1, hm1, h⟩ := ev_letE h
  refine pt_X10_81 (pc := 2) rfl dX10_alone_2 ?_
  refine ev_mem (pc := 5) hm1 ?_
  refine ev_iload_2 (pc := 5) dX10_alone_5 ?_
  refine ev_iconst (pc := 6) (v := 1) dX10_alone_6 rfl ?_
  refine ev_sipush (pc := 7) (v := 200) dX10_alone_7 (by decide) ?_
  refine cl1_X10_89 (pc := 10) rfl dX10_alone_10 (by decide) (Nat.le_of_ble_eq_true rfl) (c_X10_in m1 x2_ 1 200) ?_
  refine ev_ifb_eq (pc := 13) (tgt := 30) dX10_alone_13 (by decide) (fun c2 => ?_) (fun c2 => ?_)
  · replace h := ev_ifn h c2
    refine ev_iconst (pc := 30) (v := (-1)) dX10_alone_30 rfl ?_
    exact ev_iret (pc := 31) dX10_alone_31 rfl rfl (hR _ _ h)
  · replace h := ev_ifp h c2
    refine ev_iload_3 (pc := 16) dX10_alone_16 ?_
    refine ev_ifc_lt (pc := 17) (tgt := 30) dX10_alone_17 (by decide) (fun c3 => ?_) (fun c3 => ?_)
    · replace h := ev_ifp h c3
      refine ev_iconst (pc := 30) (v := (-1)) dX10_alone_30 rfl ?_
      exact ev_iret (pc := 31) dX10_alone_31 rfl rfl (hR _ _ h)
    · replace h := ev_ifn h c3
      refine ev_aload_0 (pc := 20) dX10_alone_20 ?_
      refine ev_iload_1 (pc := 21) dX10_alone_21 ?_
      refine ev_iconst (pc := 22) (v := (-1)) dX10_alone_22 rfl ?_
      refine ev_iconst (pc := 23) (v := 1) dX10_alone_23 rfl ?_
      obtain ⟨p4, hp4, h⟩ := ev_bindE hN h
      refine cl1_X10_329 (pc := 24) rfl dX10_alone_24 (by decide) (Nat.le_of_ble_eq_true rfl) (c_X10_lay hp4) ?_
      refine ev_ifb_ne (pc := 27) (tgt := 32) dX10_alone_27 (by decide) (fun c5 => ?_) (fun c5 => ?_)
      · replace h := ev_ifp h c5
        refine ev_iconst (pc := 32) (v := 0) dX10_alone_32 rfl ?_
        refine ev_istore_4 (pc := 33) dX10_alone_33 (by decide) rfl ?_
        refine ev_E.forget (L' := [some (vr 10 (i0)), none, some (vi (x2_)), some (vi (x3_)), some (vi (0))]) ⟨rfl, ⟨rfl, ⟨rfl, ⟨rfl, trivial⟩⟩⟩⟩ ?_
        refine e_lp_X10_alone_35 hR hN 4000 _ _ _ h (fun m15 h => ?_)
        refine ev_iconst (pc := 75) (v := (-1)) dX10_alone_75 rfl ?_
        exact ev_iret (pc := 76) dX10_alone_76 rfl rfl (hR _ _ h)
      · replace h := ev_ifn h c5
        refine ev_iconst (pc := 30) (v := (-1)) dX10_alone_30 rfl ?_
        exact ev_iret (pc := 31) dX10_alone_31 rfl rfl (hR _ _ h)
theorem c_X10_alone {G : ev_G} {mF : ev_m} {i0 : Nat} {x1_ : Int32} {x2_ : Int32} {x3_ : Int32} {r : Int32 × ev_m} (h : f_X10_alone mF i0 x1_ x2_ x3_ = some r) : ev_CF G K_X10_alone B_X10_alone [vr 10 (i0), vi (x1_), vi (x2_), vi (x3_)] mF (some (vi (r.1))) r.2 :=
  ev_Ct_of rfl rfl (Nat.le_of_ble_eq_true rfl) (e_X10_alone (R := some r) (fun x0 m0 q => by cases q; exact ⟨rfl, rfl⟩) (fun q => by cases q) h)
set_option maxRecDepth 20000 in
set_option maxHeartbeats 4000000 in
theorem e_lp_X10_hard_38 {G : ev_G} {Q : Option ev_V → ev_M → Prop} {R : Option (Int32 × ev_m)} (hR : ∀ (x0 : Int32) (m0 : ev_m), (some ((x0, m0))) = R → Q (some (vi x0)) (ev_emb m0)) (hN : none ≠ R) {i13 : Nat} {x14 : Int32} {x15 : Int32} {x16 : Int32} {x17 : Int32} {x18 : Int32} : ∀ (f : Nat) (x19 : Int32) (m20 : ev_m) (kx : ev_m → Option (Int32 × ev_m)) (h : lp_X10_hard_38 i13 x14 x15 x16 x17 x18 f x19 m20 kx = R) (hk : ∀ (m20' : ev_m), kx m20' = R → ev_E G K_X10_hard B_X10_hard (0, 0) 86 [some (vr 10 (i13)), some (vi (x14)), none, some (vi (x15)), some (vi (x16)), some (vi (x17)), some (vi (x18)), none] [] (ev_emb m20') Q), ev_E G K_X10_hard B_X10_hard (0, 0) 38 [some (vr 10 (i13)), some (vi (x14)), none, some (vi (x15)), some (vi (x16)), some (vi (x17)), some (vi (x18)), some (vi (x19))] [] (ev_emb m20) Q := by
  intro f
  induction f with
  | zero => intro x19 m20 kx h hk; rw [lp_X10_hard_38] at h; exact absurd h hN
  | succ f ih =>
    intro x19 m20 kx h hk
    rw [lp_X10_hard_38] at h
    refine ev_iload_7 (pc := 38) dX10_hard_38 ?_
    refine ev_aload_0 (pc := 40) dX10_hard_40 ?_
    refine gt_X10_41 (pc := 41) rfl dX10_hard_41 ?_
    refine ev_bipush (pc := 44) (v := 10) dX10_hard_44 (by decide) ?_
    refine ev_ialdS (pc := 46) (j := 10) rfl (by decide) (by decide) (vp_in_iff.mpr (by decide)) dX10_hard_46 ?_
    refine ev_icc_ge (pc := 47) (tgt := 86) dX10_hard_47 (by decide) (fun c21 => ?_) (fun c21 => ?_)
    · replace h := ev_ifn h c21
      refine ev_E.forget (L' := [some (vr 10 (i13)), some (vi (x14)), none, some (vi (x15)), some (vi (x16)), some (vi (x17)), some (vi (x18)), none]) ⟨rfl, ⟨rfl, ⟨rfl, ⟨rfl, ⟨rfl, ⟨rfl, trivial⟩⟩⟩⟩⟩⟩ ?_
      exact hk _  h
    · replace h := ev_ifp h c21
      refine ev_aload_0 (pc := 50) dX10_hard_50 ?_
      refine gt_X10_41 (pc := 51) rfl dX10_hard_51 ?_
      refine ev_bipush (pc := 54) (v := 11) dX10_hard_54 (by decide) ?_
      refine ev_iload_7 (pc := 56) dX10_hard_56 ?_
      refine ev_iadd (pc := 58) dX10_hard_58 ?_
      refine ev_iload_6 (pc := 59) dX10_hard_59 ?_
      refine ev_aload_0 (pc := 61) dX10_hard_61 ?_
      refine gt_X10_26 (pc := 62) rfl dX10_hard_62 ?_
      refine ev_bipush (pc := 65) (v := 23) dX10_hard_65 (by decide) ?_
      refine ev_iload_1 (pc := 67) dX10_hard_67 ?_
      refine ev_imul (pc := 68) dX10_hard_68 ?_
      refine ev_bipush (pc := 69) (v := 10) dX10_hard_69 (by decide) ?_
      refine ev_iadd (pc := 71) dX10_hard_71 ?_
      refine ev_iconst (pc := 72) (v := 1) dX10_hard_72 rfl ?_
      refine ev_iadd (pc := 73) dX10_hard_73 ?_
      refine ev_iload_7 (pc := 74) dX10_hard_74 ?_
      refine ev_iadd (pc := 76) dX10_hard_76 ?_
      obtain ⟨x22, hx22, h⟩ := ev_bindE hN h
      refine ev_iald1 (pc := 77) rfl (by decide) rfl hx22 dX10_hard_77 ?_
      refine ev_imul (pc := 78) dX10_hard_78 ?_
      obtain ⟨m23, hm23, h⟩ := ev_bindE hN h
      refine ev_iast1 (pc := 79) rfl (by decide) (by decide) rfl hm23 dX10_hard_79 ?_
      refine ev_iinc_7 (pc := 80) (y := x19 + 1) dX10_hard_80 rfl (by decide) rfl ?_
      refine ev_goto (pc := 83) (tgt := 38) dX10_hard_83 (by decide) ?_
      exact ih _ _ kx h hk
set_option maxRecDepth 20000 in
set_option maxHeartbeats 4000000 in
theorem e_lp_X10_hard_28 {G : ev_G} {Q : Option ev_V → ev_M → Prop} {R : Option (Int32 × ev_m)} (hR : ∀ (x0 : Int32) (m0 : ev_m), (some ((x0, m0))) = R → Q (some (vi x0)) (ev_emb m0)) (hN : none ≠ R) {i5 : Nat} {x6 : Int32} {x7 : Int32} {x8 : Int32} : ∀ (f : Nat) (x9 : Int32) (x10 : Int32) (m11 : ev_m) (kx : Int32 → ev_m → Option (Int32 × ev_m)) (h : lp_X10_hard_28 i5 x6 x7 x8 f x9 x10 m11 kx = R) (hk : ∀ (x9' : Int32) (m11' : ev_m), kx x9' m11' = R → ev_E G K_X10_hard B_X10_hard (0, 0) 117 [none, none, none, none, none, some (vi (x9')), none, none] [] (ev_emb m11') Q), ev_E G K_X10_hard B_X10_hard (0, 0) 28 [some (vr 10 (i5)), some (vi (x6)), none, some (vi (x7)), some (vi (x8)), some (vi (x9)), some (vi (x10)), none] [] (ev_emb m11) Q := by
  intro f
  induction f with
  | zero => intro x9 x10 m11 kx h hk; rw [lp_X10_hard_28] at h; exact absurd h hN
  | succ f ih =>
    intro x9 x10 m11 kx h hk
    rw [lp_X10_hard_28] at h
    refine ev_iload_6 (pc := 28) dX10_hard_28 ?_
    refine ev_bipush (pc := 30) (v := 9) dX10_hard_30 (by decide) ?_
    refine ev_icc_gt (pc := 32) (tgt := 117) dX10_hard_32 (by decide) (fun c12 => ?_) (fun c12 => ?_)
    · replace h := ev_ifp h c12
      refine ev_E.forget (L' := [none, none, none, none, none, some (vi (x9)), none, none]) ⟨rfl, trivial⟩ ?_
      exact hk _ _  h
    · replace h := ev_ifn h c12
      refine ev_iconst (pc := 35) (v := 0) dX10_hard_35 rfl ?_
      refine ev_istore_7 (pc := 36) dX10_hard_36 (by decide) rfl ?_
      refine e_lp_X10_hard_38 hR hN 4000 _ _ _ h (fun m24 h => ?_)
      refine ev_aload_0 (pc := 86) dX10_hard_86 ?_
      refine ev_iconst (pc := 87) (v := 1) dX10_hard_87 rfl ?_
      refine ev_iconst (pc := 88) (v := 0) dX10_hard_88 rfl ?_
      refine ev_iload_3 (pc := 89) dX10_hard_89 ?_
      obtain ⟨m25, hm25, h⟩ := ev_bindE hN h
      refine cl0_X10_315 (pc := 90) rfl dX10_hard_90 (by decide) (Nat.le_of_ble_eq_true rfl) (c_X10_runBy hm25) ?_
      refine ev_aload_0 (pc := 93) dX10_hard_93 ?_
      refine gt_X10_252 (pc := 94) rfl dX10_hard_94 ?_
      refine ev_iload_4 (pc := 97) dX10_hard_97 ?_
      obtain ⟨x27, hx27, h⟩ := ev_letE h
      have hJ1 : ev_E G K_X10_hard B_X10_hard (0, 0) 109 [some (vr 10 (i5)), some (vi (x6)), none, some (vi (x7)), some (vi (x8)), some (vi (x9)), some (vi (x10)), none] [vi (x27)] (ev_emb m25) Q := by
        refine ev_istore_5 (pc := 109) dX10_hard_109 (by decide) rfl ?_
        refine ev_iinc_6 (pc := 111) (y := x10 + 1) dX10_hard_111 rfl (by decide) rfl ?_
        refine ev_goto (pc := 114) (tgt := 28) dX10_hard_114 (by decide) ?_
        exact ih _ _ _ kx h hk
      refine ev_icc_gt (pc := 99) (tgt := 107) dX10_hard_99 (by decide) (fun c26 => ?_) (fun c26 => ?_)
      · refine ev_iload_5 (pc := 107) dX10_hard_107 ?_
        replace hx27 := (hx27.trans (if_pos c26))
        subst hx27
        exact hJ1
      · refine ev_iload_6 (pc := 102) dX10_hard_102 ?_
        refine ev_goto (pc := 104) (tgt := 109) dX10_hard_104 (by decide) ?_
        replace hx27 := (hx27.trans (if_neg c26))
        subst hx27
        exact hJ1
set_option maxRecDepth 20000 in
set_option maxHeartbeats 4000000 in
theorem e_X10_hard {G : ev_G} {Q : Option ev_V → ev_M → Prop} {R : Option (Int32 × ev_m)} {mF : ev_m} (hR : ∀ (x0 : Int32) (m0 : ev_m), (some ((x0, m0))) = R → Q (some (vi x0)) (ev_emb m0)) (hN : none ≠ R) {i0 : Nat} {x1_ : Int32} {x2_ : Int32} {x3_ : Int32} {x4_ : Int32} (h : f_X10_hard mF i0 x1_ x2_ x3_ x4_ = R) : ev_E G K_X10_hard B_X10_hard (0, 0) 0 [some (vr 10 (i0)), some (vi (x1_)), some (vi (x2_)), some (vi (x3_)), some (vi (x4_)), none, none, none] [] (ev_emb mF) Q := by
  unfold f_X10_hard at h
  refine ev_aload_0 (pc := 0) dX10_hard_0 ?_
  refine ev_iconst (pc := 1) (v := 0) dX10_hard_1 rfl ?_
  obtain ⟨m1, hm1, h⟩ := ev_letE h
  refine pt_X10_81 (pc := 2) rfl dX10_hard_2 ?_
  refine ev_mem (pc := 5) hm1 ?_
  refine ev_aload_0 (pc := 5) dX10_hard_5 ?_
  refine ev_iload_1 (pc := 6) dX10_hard_6 ?_
  refine ev_iload_2 (pc := 7) dX10_hard_7 ?_
  refine ev_iload_3 (pc := 8) dX10_hard_8 ?_
  obtain ⟨p2, hp2, h⟩ := ev_bindE hN h
  refine cl1_X10_338 (pc := 9) rfl dX10_hard_9 (by decide) (Nat.le_of_ble_eq_true rfl) (c_X10_layFor hp2) ?_
  refine ev_ifb_eq (pc := 12) (tgt := 20) dX10_hard_12 (by decide) (fun c3 => ?_) (fun c3 => ?_)
  · replace h := ev_ifn h c3
    refine ev_iconst (pc := 20) (v := (-1)) dX10_hard_20 rfl ?_
    exact ev_iret (pc := 21) dX10_hard_21 rfl rfl (hR _ _ h)
  · replace h := ev_ifp h c3
    refine ev_iload_4 (pc := 15) dX10_hard_15 ?_
    refine ev_ifc_ge (pc := 17) (tgt := 22) dX10_hard_17 (by decide) (fun c4 => ?_) (fun c4 => ?_)
    · replace h := ev_ifn h c4
      refine ev_iconst (pc := 22) (v := (-1)) dX10_hard_22 rfl ?_
      refine ev_istore_5 (pc := 23) dX10_hard_23 (by decide) rfl ?_
      refine ev_iconst (pc := 25) (v := 0) dX10_hard_25 rfl ?_
      refine ev_istore_6 (pc := 26) dX10_hard_26 (by decide) rfl ?_
      refine ev_E.forget (L' := [some (vr 10 (i0)), some (vi (x1_)), none, some (vi (x3_)), some (vi (x4_)), some (vi ((-1))), some (vi (0)), none]) ⟨rfl, ⟨rfl, ⟨rfl, ⟨rfl, ⟨rfl, ⟨rfl, trivial⟩⟩⟩⟩⟩⟩ ?_
      refine e_lp_X10_hard_28 hR hN 4000 _ _ _ _ h (fun x28 m29 h => ?_)
      refine ev_iload_5 (pc := 117) dX10_hard_117 ?_
      exact ev_iret (pc := 119) dX10_hard_119 rfl rfl (hR _ _ h)
    · replace h := ev_ifp h c4
      refine ev_iconst (pc := 20) (v := (-1)) dX10_hard_20 rfl ?_
      exact ev_iret (pc := 21) dX10_hard_21 rfl rfl (hR _ _ h)
theorem c_X10_hard {G : ev_G} {mF : ev_m} {i0 : Nat} {x1_ : Int32} {x2_ : Int32} {x3_ : Int32} {x4_ : Int32} {r : Int32 × ev_m} (h : f_X10_hard mF i0 x1_ x2_ x3_ x4_ = some r) : ev_CF G K_X10_hard B_X10_hard [vr 10 (i0), vi (x1_), vi (x2_), vi (x3_), vi (x4_)] mF (some (vi (r.1))) r.2 :=
  ev_Ct_of rfl rfl (Nat.le_of_ble_eq_true rfl) (e_X10_hard (R := some r) (fun x0 m0 q => by cases q; exact ⟨rfl, rfl⟩) (fun q => by cases q) h)
set_option maxRecDepth 20000 in
set_option maxHeartbeats 4000000 in
theorem e_lp_X10_set_39 {G : ev_G} {Q : Option ev_V → ev_M → Prop} {R : Option (Int32 × ev_m)} (hR : ∀ (x0 : Int32) (m0 : ev_m), (some ((x0, m0))) = R → Q (some (vi x0)) (ev_emb m0)) (hN : none ≠ R) {i5 : Nat} {x6 : Int32} {x7 : Int32} : ∀ (f : Nat) (x8 : Int32) (y9 : Int64) (x10 : Int32) (m11 : ev_m) (kx : Int32 → ev_m → Option (Int32 × ev_m)) (h : lp_X10_set_39 i5 x6 x7 f x8 y9 x10 m11 kx = R) (hk : ∀ (x8' : Int32) (m11' : ev_m), kx x8' m11' = R → ev_E G K_X10_set B_X10_set (0, 0) 117 [none, none, none, none, none, some (vi (x8')), none, none, none, none, none] [] (ev_emb m11') Q), ev_E G K_X10_set B_X10_set (0, 0) 39 [some (vr 10 (i5)), none, none, some (vi (x6)), some (vi (x7)), some (vi (x8)), some (vl (y9)), none, some (vi (x10)), none, none] [] (ev_emb m11) Q := by
  intro f
  induction f with
  | zero => intro x8 y9 x10 m11 kx h hk; rw [lp_X10_set_39] at h; exact absurd h hN
  | succ f ih =>
    intro x8 y9 x10 m11 kx h hk
    rw [lp_X10_set_39] at h
    refine ev_iload_8 (pc := 39) dX10_set_39 ?_
    refine ev_bipush (pc := 41) (v := 50) dX10_set_41 (by decide) ?_
    refine ev_icc_gt (pc := 43) (tgt := 117) dX10_set_43 (by decide) (fun c12 => ?_) (fun c12 => ?_)
    · replace h := ev_ifp h c12
      refine ev_E.forget (L' := [none, none, none, none, none, some (vi (x8)), none, none, none, none, none]) ⟨rfl, trivial⟩ ?_
      exact hk _ _  h
    · replace h := ev_ifn h c12
      refine ev_aload_0 (pc := 46) dX10_set_46 ?_
      refine gt_X10_41 (pc := 47) rfl dX10_set_47 ?_
      refine ev_bipush (pc := 50) (v := 6) dX10_set_50 (by decide) ?_
      refine ev_iload_4 (pc := 52) dX10_set_52 ?_
      refine ev_iload_8 (pc := 54) dX10_set_54 ?_
      refine ev_iadd (pc := 56) dX10_set_56 ?_
      obtain ⟨m13, hm13, h⟩ := ev_letE h
      refine ev_iastS (pc := 57) (j := 6) rfl (by decide) (by decide) (by decide) (vp_in_iff.mpr (by decide)) dX10_set_57 ?_
      refine ev_mem (pc := 58) hm13 ?_
      refine ev_aload_0 (pc := 58) dX10_set_58 ?_
      refine ev_iconst (pc := 59) (v := 1) dX10_set_59 rfl ?_
      refine ev_iconst (pc := 60) (v := 0) dX10_set_60 rfl ?_
      refine ev_iload_3 (pc := 61) dX10_set_61 ?_
      obtain ⟨m14, hm14, h⟩ := ev_bindE hN h
      refine cl0_X10_315 (pc := 62) rfl dX10_set_62 (by decide) (Nat.le_of_ble_eq_true rfl) (c_X10_runBy hm14) ?_
      refine ev_aload_0 (pc := 65) dX10_set_65 ?_
      refine gt_X10_255 (pc := 66) rfl dX10_set_66 ?_
      refine ev_lconst (pc := 69) (v := 0) dX10_set_69 rfl ?_
      obtain ⟨y16, hy16, h⟩ := ev_letE h
      have hJ2 : ev_E G K_X10_set B_X10_set (0, 0) 86 [some (vr 10 (i5)), none, none, some (vi (x6)), some (vi (x7)), some (vi (x8)), some (vl (y9)), none, some (vi (x10)), none, none] [vl (y16)] (ev_emb m14) Q := by
        refine ev_lstore_9 (pc := 86) dX10_set_86 (by decide) rfl ?_
        refine ev_lload_6 (pc := 88) dX10_set_88 ?_
        refine ev_lconst (pc := 90) (v := 0) dX10_set_90 rfl ?_
        obtain ⟨x19, hx19, h⟩ := ev_letE h
        obtain ⟨y20, hy20, h⟩ := ev_letE h
        have hJ1 : ev_E G K_X10_set B_X10_set (0, 0) 111 [some (vr 10 (i5)), none, none, some (vi (x6)), some (vi (x7)), some (vi (x19)), some (vl (y20)), none, some (vi (x10)), some (vl (y16)), none] [] (ev_emb m14) Q := by
          refine ev_iinc_8 (pc := 111) (y := x10 + 1) dX10_set_111 rfl (by decide) rfl ?_
          refine ev_goto (pc := 114) (tgt := 39) dX10_set_114 (by decide) ?_
          refine ev_E.forget (L' := [some (vr 10 (i5)), none, none, some (vi (x6)), some (vi (x7)), some (vi (x19)), some (vl (y20)), none, some (vi (x10 + 1)), none, none]) ⟨rfl, ⟨rfl, ⟨rfl, ⟨rfl, ⟨rfl, ⟨rfl, trivial⟩⟩⟩⟩⟩⟩ ?_
          exact ih _ _ _ _ kx h hk
        refine ev_lcc_lt (pc := 91) (tgt := 103) dX10_set_91 dX10_set_92 (by decide) (fun c17 => ?_) (fun c17 => ?_)
        · refine ev_iload_8 (pc := 103) dX10_set_103 ?_
          refine ev_istore_5 (pc := 105) dX10_set_105 (by decide) rfl ?_
          refine ev_lload_9 (pc := 107) dX10_set_107 ?_
          refine ev_lstore_6 (pc := 109) dX10_set_109 (by decide) rfl ?_
          replace hx19 := (hx19.trans (if_pos c17))
          replace hy20 := (hy20.trans (if_pos c17))
          subst hx19
          subst hy20
          exact hJ1
        · refine ev_lload_9 (pc := 95) dX10_set_95 ?_
          refine ev_lload_6 (pc := 97) dX10_set_97 ?_
          refine ev_lcc_ge (pc := 99) (tgt := 111) dX10_set_99 dX10_set_100 (by decide) (fun c18 => ?_) (fun c18 => ?_)
          · replace hx19 := ((hx19.trans (if_neg c17)).trans (if_neg c18))
            replace hy20 := ((hy20.trans (if_neg c17)).trans (if_neg c18))
            subst hx19
            subst hy20
            exact hJ1
          · refine ev_iload_8 (pc := 103) dX10_set_103 ?_
            refine ev_istore_5 (pc := 105) dX10_set_105 (by decide) rfl ?_
            refine ev_lload_9 (pc := 107) dX10_set_107 ?_
            refine ev_lstore_6 (pc := 109) dX10_set_109 (by decide) rfl ?_
            replace hx19 := ((hx19.trans (if_neg c17)).trans (if_pos c18))
            replace hy20 := ((hy20.trans (if_neg c17)).trans (if_pos c18))
            subst hx19
            subst hy20
            exact hJ1
      refine ev_lcc_ge (pc := 70) (tgt := 82) dX10_set_70 dX10_set_71 (by decide) (fun c15 => ?_) (fun c15 => ?_)
      · refine ev_aload_0 (pc := 82) dX10_set_82 ?_
        refine gt_X10_255 (pc := 83) rfl dX10_set_83 ?_
        replace hy16 := (hy16.trans (if_neg c15))
        subst hy16
        exact hJ2
      · refine ev_aload_0 (pc := 74) dX10_set_74 ?_
        refine gt_X10_255 (pc := 75) rfl dX10_set_75 ?_
        refine ev_lneg (pc := 78) dX10_set_78 ?_
        refine ev_goto (pc := 79) (tgt := 86) dX10_set_79 (by decide) ?_
        replace hy16 := (hy16.trans (if_pos c15))
        subst hy16
        exact hJ2
set_option maxRecDepth 20000 in
set_option maxHeartbeats 4000000 in
theorem e_X10_set {G : ev_G} {Q : Option ev_V → ev_M → Prop} {R : Option (Int32 × ev_m)} {mF : ev_m} (hR : ∀ (x0 : Int32) (m0 : ev_m), (some ((x0, m0))) = R → Q (some (vi x0)) (ev_emb m0)) (hN : none ≠ R) {i0 : Nat} {x1_ : Int32} {x2_ : Int32} {x3_ : Int32} (h : f_X10_set mF i0 x1_ x2_ x3_ = R) : ev_E G K_X10_set B_X10_set (0, 0) 0 [some (vr 10 (i0)), some (vi (x1_)), some (vi (x2_)), some (vi (x3_)), none, none, none, none, none, none, none] [] (ev_emb mF) Q := by
  unfold f_X10_set at h
  refine ev_aload_0 (pc := 0) dX10_set_0 ?_
  refine ev_iconst (pc := 1) (v := 0) dX10_set_1 rfl ?_
  obtain ⟨m1, hm1, h⟩ := ev_letE h
  refine pt_X10_81 (pc := 2) rfl dX10_set_2 ?_
  refine ev_mem (pc := 5) hm1 ?_
  refine ev_aload_0 (pc := 5) dX10_set_5 ?_
  refine ev_iload_1 (pc := 6) dX10_set_6 ?_
  refine ev_iload_2 (pc := 7) dX10_set_7 ?_
  refine ev_iload_3 (pc := 8) dX10_set_8 ?_
  obtain ⟨p2, hp2, h⟩ := ev_bindE hN h
  refine cl1_X10_338 (pc := 9) rfl dX10_set_9 (by decide) (Nat.le_of_ble_eq_true rfl) (c_X10_layFor hp2) ?_
  refine ev_ifb_ne (pc := 12) (tgt := 18) dX10_set_12 (by decide) (fun c3 => ?_) (fun c3 => ?_)
  · replace h := ev_ifp h c3
    refine ev_aload_0 (pc := 18) dX10_set_18 ?_
    refine gt_X10_41 (pc := 19) rfl dX10_set_19 ?_
    refine ev_bipush (pc := 22) (v := 6) dX10_set_22 (by decide) ?_
    refine ev_ialdS (pc := 24) (j := 6) rfl (by decide) (by decide) (vp_in_iff.mpr (by decide)) dX10_set_24 ?_
    obtain ⟨x4, hx4, h⟩ := ev_letE h
    refine ev_topi (pc := 25) hx4 ?_
    refine ev_istore_4 (pc := 25) dX10_set_25 (by decide) rfl ?_
    refine ev_iconst (pc := 27) (v := 0) dX10_set_27 rfl ?_
    refine ev_istore_5 (pc := 28) dX10_set_28 (by decide) rfl ?_
    refine ev_ldc2 (pc := 30) (v := (-1)) kl_X10_341 dX10_set_30 ?_
    refine ev_lstore_6 (pc := 33) dX10_set_33 (by decide) rfl ?_
    refine ev_bipush (pc := 35) (v := (-50)) dX10_set_35 (by decide) ?_
    refine ev_istore_8 (pc := 37) dX10_set_37 (by decide) rfl ?_
    refine ev_E.forget (L' := [some (vr 10 (i0)), none, none, some (vi (x3_)), some (vi (x4)), some (vi (0)), some (vl ((-1))), none, some (vi ((-50))), none, none]) ⟨rfl, ⟨rfl, ⟨rfl, ⟨rfl, ⟨rfl, ⟨rfl, trivial⟩⟩⟩⟩⟩⟩ ?_
    refine e_lp_X10_set_39 hR hN 4000 _ _ _ _ _ h (fun x21 m22 h => ?_)
    refine ev_iload_5 (pc := 117) dX10_set_117 ?_
    exact ev_iret (pc := 119) dX10_set_119 rfl rfl (hR _ _ h)
  · replace h := ev_ifn h c3
    refine ev_ldc (pc := 15) (v := (-100000)) kc_X10_235 dX10_set_15 ?_
    exact ev_iret (pc := 17) dX10_set_17 rfl rfl (hR _ _ h)
theorem c_X10_set {G : ev_G} {mF : ev_m} {i0 : Nat} {x1_ : Int32} {x2_ : Int32} {x3_ : Int32} {r : Int32 × ev_m} (h : f_X10_set mF i0 x1_ x2_ x3_ = some r) : ev_CF G K_X10_set B_X10_set [vr 10 (i0), vi (x1_), vi (x2_), vi (x3_)] mF (some (vi (r.1))) r.2 :=
  ev_Ct_of rfl rfl (Nat.le_of_ble_eq_true rfl) (e_X10_set (R := some r) (fun x0 m0 q => by cases q; exact ⟨rfl, rfl⟩) (fun q => by cases q) h)
set_option maxRecDepth 20000 in
set_option maxHeartbeats 4000000 in
theorem e_X10_costWith {G : ev_G} {Q : Option ev_V → ev_M → Prop} {R : Option (Int64 × ev_m)} {mF : ev_m} (hR : ∀ (x0 : Int64) (m0 : ev_m), (some ((x0, m0))) = R → Q (some (vl x0)) (ev_emb m0)) (hN : none ≠ R) {i0 : Nat} {x1_ : Int32} {x2_ : Int32} {x3_ : Int32} (h : f_X10_costWith mF i0 x1_ x2_ x3_ = R) : ev_E G K_X10_costWith B_X10_costWith (0, 0) 0 [some (vr 10 (i0)), some (vi (x1_)), some (vi (x2_)), some (vi (x3_)), none, none, none] [] (ev_emb mF) Q := by
  unfold f_X10_costWith at h
  refine ev_aload_0 (pc := 0) dX10_costWith_0 ?_
  refine gt_X10_44 (pc := 1) rfl dX10_costWith_1 ?_
  refine ev_iload_1 (pc := 4) dX10_costWith_4 ?_
  obtain ⟨x1, hx1, h⟩ := ev_bindE hN h
  refine ev_iald1 (pc := 5) rfl (by decide) rfl hx1 dX10_costWith_5 ?_
  refine ev_istore_4 (pc := 6) dX10_costWith_6 (by decide) rfl ?_
  refine ev_aload_0 (pc := 8) dX10_costWith_8 ?_
  refine ev_iload_1 (pc := 9) dX10_costWith_9 ?_
  refine ev_iload_2 (pc := 10) dX10_costWith_10 ?_
  obtain ⟨m2, hm2, h⟩ := ev_bindE hN h
  refine cl0_X10_343 (pc := 11) rfl dX10_costWith_11 (by decide) (Nat.le_of_ble_eq_true rfl) (c_X10_put hm2) ?_
  refine ev_aload_0 (pc := 14) dX10_costWith_14 ?_
  refine ev_iload_3 (pc := 15) dX10_costWith_15 ?_
  obtain ⟨p3, hp3, h⟩ := ev_bindE hN h
  refine cl1_X10_346 (pc := 16) rfl dX10_costWith_16 (by decide) (Nat.le_of_ble_eq_true rfl) (c_X10_costBy hp3) ?_
  obtain ⟨y4, hy4, h⟩ := ev_letE h
  refine ev_topl (pc := 19) hy4 ?_
  refine ev_lstore_5 (pc := 19) dX10_costWith_19 (by decide) rfl ?_
  refine ev_aload_0 (pc := 21) dX10_costWith_21 ?_
  refine ev_iload_1 (pc := 22) dX10_costWith_22 ?_
  refine ev_iload_4 (pc := 23) dX10_costWith_23 ?_
  obtain ⟨m5, hm5, h⟩ := ev_bindE hN h
  refine cl0_X10_343 (pc := 25) rfl dX10_costWith_25 (by decide) (Nat.le_of_ble_eq_true rfl) (c_X10_put hm5) ?_
  refine ev_lload_5 (pc := 28) dX10_costWith_28 ?_
  exact ev_lret (pc := 30) dX10_costWith_30 rfl (hR _ _ h)
theorem c_X10_costWith {G : ev_G} {mF : ev_m} {i0 : Nat} {x1_ : Int32} {x2_ : Int32} {x3_ : Int32} {r : Int64 × ev_m} (h : f_X10_costWith mF i0 x1_ x2_ x3_ = some r) : ev_CF G K_X10_costWith B_X10_costWith [vr 10 (i0), vi (x1_), vi (x2_), vi (x3_)] mF (some (vl (r.1))) r.2 :=
  ev_Ct_of rfl rfl (Nat.le_of_ble_eq_true rfl) (e_X10_costWith (R := some r) (fun x0 m0 q => by cases q; exact ⟨rfl, rfl⟩) (fun q => by cases q) h)
set_option maxRecDepth 20000 in
set_option maxHeartbeats 4000000 in
theorem e_X10_worth {G : ev_G} {Q : Option ev_V → ev_M → Prop} {R : Option (Int64 × ev_m)} {mF : ev_m} (hR : ∀ (x0 : Int64) (m0 : ev_m), (some ((x0, m0))) = R → Q (some (vl x0)) (ev_emb m0)) (hN : none ≠ R) {i0 : Nat} {x1_ : Int32} {x2_ : Int32} {x3_ : Int32} {x4_ : Int32} (h : f_X10_worth mF i0 x1_ x2_ x3_ x4_ = R) : ev_E G K_X10_worth B_X10_worth (0, 0) 0 [some (vr 10 (i0)), some (vi (x1_)), some (vi (x2_)), some (vi (x3_)), some (vi (x4_))] [] (ev_emb mF) Q := by
  unfold f_X10_worth at h
  refine ev_aload_0 (pc := 0) dX10_worth_0 ?_
  refine ev_iconst (pc := 1) (v := 0) dX10_worth_1 rfl ?_
  obtain ⟨m1, hm1, h⟩ := ev_letE h
  refine pt_X10_81 (pc := 2) rfl dX10_worth_2 ?_
  refine ev_mem (pc := 5) hm1 ?_
  refine ev_aload_0 (pc := 5) dX10_worth_5 ?_
  refine ev_iload_1 (pc := 6) dX10_worth_6 ?_
  refine ev_iload_2 (pc := 7) dX10_worth_7 ?_
  refine ev_iload_3 (pc := 8) dX10_worth_8 ?_
  obtain ⟨p2, hp2, h⟩ := ev_bindE hN h
  refine cl1_X10_338 (pc := 9) rfl dX10_worth_9 (by decide) (Nat.le_of_ble_eq_true rfl) (c_X10_layFor hp2) ?_
  refine ev_ifb_eq (pc := 12) (tgt := 25) dX10_worth_12 (by decide) (fun c3 => ?_) (fun c3 => ?_)
  · replace h := ev_ifn h c3
    refine ev_ldc2 (pc := 25) (v := (-9223372036854775808)) kl_X10_333 dX10_worth_25 ?_
    exact ev_lret (pc := 28) dX10_worth_28 rfl (hR _ _ h)
  · replace h := ev_ifp h c3
    refine ev_iload_4 (pc := 15) dX10_worth_15 ?_
    refine ev_iconst (pc := 17) (v := 0) dX10_worth_17 rfl ?_
    refine ev_iconst (pc := 18) (v := 2) dX10_worth_18 rfl ?_
    refine cl1_X10_89 (pc := 19) rfl dX10_worth_19 (by decide) (Nat.le_of_ble_eq_true rfl) (c_X10_in p2.2 x4_ 0 2) ?_
    refine ev_ifb_ne (pc := 22) (tgt := 29) dX10_worth_22 (by decide) (fun c4 => ?_) (fun c4 => ?_)
    · replace h := ev_ifp h c4
      refine ev_iload_4 (pc := 29) dX10_worth_29 ?_
      refine ev_iconst (pc := 31) (v := 1) dX10_worth_31 rfl ?_
      refine ev_icc_ne (pc := 32) (tgt := 53) dX10_worth_32 (by decide) (fun c5 => ?_) (fun c5 => ?_)
      · replace h := ev_ifn h c5
        refine ev_aload_0 (pc := 53) dX10_worth_53 ?_
        refine ev_iload_4 (pc := 54) dX10_worth_54 ?_
        obtain ⟨x7, hx7, h⟩ := ev_letE h
        have hJ1 : ev_E G K_X10_worth B_X10_worth (0, 0) 65 [some (vr 10 (i0)), some (vi (x1_)), some (vi (x2_)), some (vi (x3_)), some (vi (x4_))] [vi (x7), vr 10 (i0)] (ev_emb p2.2) Q := by
          refine ev_iconst (pc := 65) (v := 0) dX10_worth_65 rfl ?_
          refine ev_iload_3 (pc := 66) dX10_worth_66 ?_
          obtain ⟨p8, hp8, h⟩ := ev_bindE hN h
          refine cl1_X10_350 (pc := 67) rfl dX10_worth_67 (by decide) (Nat.le_of_ble_eq_true rfl) (c_X10_costWith hp8) ?_
          refine ev_aload_0 (pc := 70) dX10_worth_70 ?_
          refine ev_iload_3 (pc := 71) dX10_worth_71 ?_
          obtain ⟨p9, hp9, h⟩ := ev_bindE hN h
          refine cl1_X10_346 (pc := 72) rfl dX10_worth_72 (by decide) (Nat.le_of_ble_eq_true rfl) (c_X10_costBy hp9) ?_
          refine ev_lsub (pc := 75) dX10_worth_75 ?_
          exact ev_lret (pc := 76) dX10_worth_76 rfl (hR _ _ h)
        refine ev_ifc_ne (pc := 56) (tgt := 64) dX10_worth_56 (by decide) (fun c6 => ?_) (fun c6 => ?_)
        · refine ev_iconst (pc := 64) (v := 1) dX10_worth_64 rfl ?_
          replace hx7 := (hx7.trans (if_neg c6))
          subst hx7
          exact hJ1
        · refine ev_bipush (pc := 59) (v := 9) dX10_worth_59 (by decide) ?_
          refine ev_goto (pc := 61) (tgt := 65) dX10_worth_61 (by decide) ?_
          replace hx7 := (hx7.trans (if_pos c6))
          subst hx7
          exact hJ1
      · replace h := ev_ifp h c5
        refine ev_aload_0 (pc := 35) dX10_worth_35 ?_
        refine ev_bipush (pc := 36) (v := 8) dX10_worth_36 (by decide) ?_
        refine ev_iconst (pc := 38) (v := 1) dX10_worth_38 rfl ?_
        refine ev_iload_3 (pc := 39) dX10_worth_39 ?_
        obtain ⟨p10, hp10, h⟩ := ev_bindE hN h
        refine cl1_X10_350 (pc := 40) rfl dX10_worth_40 (by decide) (Nat.le_of_ble_eq_true rfl) (c_X10_costWith hp10) ?_
        refine ev_aload_0 (pc := 43) dX10_worth_43 ?_
        refine ev_bipush (pc := 44) (v := 8) dX10_worth_44 (by decide) ?_
        refine ev_iconst (pc := 46) (v := 0) dX10_worth_46 rfl ?_
        refine ev_iload_3 (pc := 47) dX10_worth_47 ?_
        obtain ⟨p11, hp11, h⟩ := ev_bindE hN h
        refine cl1_X10_350 (pc := 48) rfl dX10_worth_48 (by decide) (Nat.le_of_ble_eq_true rfl) (c_X10_costWith hp11) ?_
        refine ev_lsub (pc := 51) dX10_worth_51 ?_
        exact ev_lret (pc := 52) dX10_worth_52 rfl (hR _ _ h)
    · replace h := ev_ifn h c4
      refine ev_ldc2 (pc := 25) (v := (-9223372036854775808)) kl_X10_333 dX10_worth_25 ?_
      exact ev_lret (pc := 28) dX10_worth_28 rfl (hR _ _ h)
theorem c_X10_worth {G : ev_G} {mF : ev_m} {i0 : Nat} {x1_ : Int32} {x2_ : Int32} {x3_ : Int32} {x4_ : Int32} {r : Int64 × ev_m} (h : f_X10_worth mF i0 x1_ x2_ x3_ x4_ = some r) : ev_CF G K_X10_worth B_X10_worth [vr 10 (i0), vi (x1_), vi (x2_), vi (x3_), vi (x4_)] mF (some (vl (r.1))) r.2 :=
  ev_Ct_of rfl rfl (Nat.le_of_ble_eq_true rfl) (e_X10_worth (R := some r) (fun x0 m0 q => by cases q; exact ⟨rfl, rfl⟩) (fun q => by cases q) h)
set_option maxRecDepth 20000 in
set_option maxHeartbeats 4000000 in
theorem e_X10_night {G : ev_G} {Q : Option ev_V → ev_M → Prop} {R : Option (Int64 × ev_m)} {mF : ev_m} (hR : ∀ (x0 : Int64) (m0 : ev_m), (some ((x0, m0))) = R → Q (some (vl x0)) (ev_emb m0)) (hN : none ≠ R) {i0 : Nat} {x1_ : Int32} {x2_ : Int32} {x3_ : Int32} {x4_ : Int32} (h : f_X10_night mF i0 x1_ x2_ x3_ x4_ = R) : ev_E G K_X10_night B_X10_night (0, 0) 0 [some (vr 10 (i0)), some (vi (x1_)), some (vi (x2_)), some (vi (x3_)), some (vi (x4_))] [] (ev_emb mF) Q := by
  unfold f_X10_night at h
  refine ev_aload_0 (pc := 0) dX10_night_0 ?_
  refine ev_iconst (pc := 1) (v := 0) dX10_night_1 rfl ?_
  obtain ⟨m1, hm1, h⟩ := ev_letE h
  refine pt_X10_81 (pc := 2) rfl dX10_night_2 ?_
  refine ev_mem (pc := 5) hm1 ?_
  refine ev_aload_0 (pc := 5) dX10_night_5 ?_
  refine ev_iload_1 (pc := 6) dX10_night_6 ?_
  refine ev_iload_2 (pc := 7) dX10_night_7 ?_
  refine ev_iload_3 (pc := 8) dX10_night_8 ?_
  obtain ⟨p2, hp2, h⟩ := ev_bindE hN h
  refine cl1_X10_338 (pc := 9) rfl dX10_night_9 (by decide) (Nat.le_of_ble_eq_true rfl) (c_X10_layFor hp2) ?_
  refine ev_ifb_eq (pc := 12) (tgt := 46) dX10_night_12 (by decide) (fun c3 => ?_) (fun c3 => ?_)
  · replace h := ev_ifn h c3
    refine ev_ldc2 (pc := 46) (v := (-9223372036854775808)) kl_X10_333 dX10_night_46 ?_
    exact ev_lret (pc := 49) dX10_night_49 rfl (hR _ _ h)
  · replace h := ev_ifp h c3
    refine ev_iload_4 (pc := 15) dX10_night_15 ?_
    refine ev_iconst (pc := 17) (v := 0) dX10_night_17 rfl ?_
    refine ev_sipush (pc := 18) (v := 999) dX10_night_18 (by decide) ?_
    refine cl1_X10_89 (pc := 21) rfl dX10_night_21 (by decide) (Nat.le_of_ble_eq_true rfl) (c_X10_in p2.2 x4_ 0 999) ?_
    refine ev_ifb_eq (pc := 24) (tgt := 46) dX10_night_24 (by decide) (fun c4 => ?_) (fun c4 => ?_)
    · replace h := ev_ifn h c4
      refine ev_ldc2 (pc := 46) (v := (-9223372036854775808)) kl_X10_333 dX10_night_46 ?_
      exact ev_lret (pc := 49) dX10_night_49 rfl (hR _ _ h)
    · replace h := ev_ifp h c4
      refine ev_aload_0 (pc := 27) dX10_night_27 ?_
      refine ev_iconst (pc := 28) (v := 5) dX10_night_28 rfl ?_
      refine ev_iload_4 (pc := 29) dX10_night_29 ?_
      refine ev_iload_3 (pc := 31) dX10_night_31 ?_
      obtain ⟨p5, hp5, h⟩ := ev_bindE hN h
      refine cl1_X10_350 (pc := 32) rfl dX10_night_32 (by decide) (Nat.le_of_ble_eq_true rfl) (c_X10_costWith hp5) ?_
      refine ev_aload_0 (pc := 35) dX10_night_35 ?_
      refine ev_iconst (pc := 36) (v := 5) dX10_night_36 rfl ?_
      refine ev_iconst (pc := 37) (v := 0) dX10_night_37 rfl ?_
      refine ev_iload_3 (pc := 38) dX10_night_38 ?_
      obtain ⟨p6, hp6, h⟩ := ev_bindE hN h
      refine cl1_X10_350 (pc := 39) rfl dX10_night_39 (by decide) (Nat.le_of_ble_eq_true rfl) (c_X10_costWith hp6) ?_
      refine ev_lsub (pc := 42) dX10_night_42 ?_
      refine ev_goto (pc := 43) (tgt := 49) dX10_night_43 (by decide) ?_
      exact ev_lret (pc := 49) dX10_night_49 rfl (hR _ _ h)
theorem c_X10_night {G : ev_G} {mF : ev_m} {i0 : Nat} {x1_ : Int32} {x2_ : Int32} {x3_ : Int32} {x4_ : Int32} {r : Int64 × ev_m} (h : f_X10_night mF i0 x1_ x2_ x3_ x4_ = some r) : ev_CF G K_X10_night B_X10_night [vr 10 (i0), vi (x1_), vi (x2_), vi (x3_), vi (x4_)] mF (some (vl (r.1))) r.2 :=
  ev_Ct_of rfl rfl (Nat.le_of_ble_eq_true rfl) (e_X10_night (R := some r) (fun x0 m0 q => by cases q; exact ⟨rfl, rfl⟩) (fun q => by cases q) h)
set_option maxRecDepth 20000 in
set_option maxHeartbeats 4000000 in
theorem e_lp_X10_cloud_28 {G : ev_G} {Q : Option ev_V → ev_M → Prop} {R : Option (Int32 × ev_m)} (hR : ∀ (x0 : Int32) (m0 : ev_m), (some ((x0, m0))) = R → Q (some (vi x0)) (ev_emb m0)) (hN : none ≠ R) {i5 : Nat} {x6 : Int32} {x7 : Int32} : ∀ (f : Nat) (x8 : Int32) (x9 : Int32) (m10 : ev_m) (kx : Int32 → ev_m → Option (Int32 × ev_m)) (h : lp_X10_cloud_28 i5 x6 x7 f x8 x9 m10 kx = R) (hk : ∀ (x8' : Int32) (m10' : ev_m), kx x8' m10' = R → ev_E G K_X10_cloud B_X10_cloud (0, 0) 96 [none, none, none, none, none, some (vi (x8')), none] [] (ev_emb m10') Q), ev_E G K_X10_cloud B_X10_cloud (0, 0) 28 [some (vr 10 (i5)), none, none, some (vi (x6)), some (vi (x7)), some (vi (x8)), some (vi (x9))] [] (ev_emb m10) Q := by
  intro f
  induction f with
  | zero => intro x8 x9 m10 kx h hk; rw [lp_X10_cloud_28] at h; exact absurd h hN
  | succ f ih =>
    intro x8 x9 m10 kx h hk
    rw [lp_X10_cloud_28] at h
    refine ev_iload_6 (pc := 28) dX10_cloud_28 ?_
    refine ev_iload_3 (pc := 30) dX10_cloud_30 ?_
    refine ev_icc_gt (pc := 31) (tgt := 96) dX10_cloud_31 (by decide) (fun c11 => ?_) (fun c11 => ?_)
    · replace h := ev_ifp h c11
      refine ev_E.forget (L' := [none, none, none, none, none, some (vi (x8)), none]) ⟨rfl, trivial⟩ ?_
      exact hk _ _  h
    · replace h := ev_ifn h c11
      refine ev_aload_0 (pc := 34) dX10_cloud_34 ?_
      refine ev_bipush (pc := 35) (v := 9) dX10_cloud_35 (by decide) ?_
      refine ev_iload_6 (pc := 37) dX10_cloud_37 ?_
      obtain ⟨x13, hx13, h⟩ := ev_letE h
      have hJ2 : ev_E G K_X10_cloud B_X10_cloud (0, 0) 47 [some (vr 10 (i5)), none, none, some (vi (x6)), some (vi (x7)), some (vi (x8)), some (vi (x9))] [vi (x13), vi (9), vr 10 (i5)] (ev_emb m10) Q := by
        obtain ⟨m14, hm14, h⟩ := ev_bindE hN h
        refine cl0_X10_343 (pc := 47) rfl dX10_cloud_47 (by decide) (Nat.le_of_ble_eq_true rfl) (c_X10_put hm14) ?_
        refine ev_aload_0 (pc := 50) dX10_cloud_50 ?_
        refine ev_bipush (pc := 51) (v := 10) dX10_cloud_51 (by decide) ?_
        refine ev_iconst (pc := 53) (v := 1) dX10_cloud_53 rfl ?_
        obtain ⟨m15, hm15, h⟩ := ev_bindE hN h
        refine cl0_X10_343 (pc := 54) rfl dX10_cloud_54 (by decide) (Nat.le_of_ble_eq_true rfl) (c_X10_put hm15) ?_
        refine ev_aload_0 (pc := 57) dX10_cloud_57 ?_
        refine ev_bipush (pc := 58) (v := 11) dX10_cloud_58 (by decide) ?_
        refine ev_iload_6 (pc := 60) dX10_cloud_60 ?_
        obtain ⟨m16, hm16, h⟩ := ev_bindE hN h
        refine cl0_X10_343 (pc := 62) rfl dX10_cloud_62 (by decide) (Nat.le_of_ble_eq_true rfl) (c_X10_put hm16) ?_
        refine ev_aload_0 (pc := 65) dX10_cloud_65 ?_
        refine ev_iconst (pc := 66) (v := 1) dX10_cloud_66 rfl ?_
        refine ev_iconst (pc := 67) (v := 0) dX10_cloud_67 rfl ?_
        refine ev_iload_3 (pc := 68) dX10_cloud_68 ?_
        obtain ⟨m17, hm17, h⟩ := ev_bindE hN h
        refine cl0_X10_315 (pc := 69) rfl dX10_cloud_69 (by decide) (Nat.le_of_ble_eq_true rfl) (c_X10_runBy hm17) ?_
        refine ev_aload_0 (pc := 72) dX10_cloud_72 ?_
        refine gt_X10_252 (pc := 73) rfl dX10_cloud_73 ?_
        refine ev_iload_4 (pc := 76) dX10_cloud_76 ?_
        obtain ⟨x19, hx19, h⟩ := ev_letE h
        have hJ1 : ev_E G K_X10_cloud B_X10_cloud (0, 0) 88 [some (vr 10 (i5)), none, none, some (vi (x6)), some (vi (x7)), some (vi (x8)), some (vi (x9))] [vi (x19)] (ev_emb m17) Q := by
          refine ev_istore_5 (pc := 88) dX10_cloud_88 (by decide) rfl ?_
          refine ev_iinc_6 (pc := 90) (y := x9 + 1) dX10_cloud_90 rfl (by decide) rfl ?_
          refine ev_goto (pc := 93) (tgt := 28) dX10_cloud_93 (by decide) ?_
          exact ih _ _ _ kx h hk
        refine ev_icc_gt (pc := 78) (tgt := 86) dX10_cloud_78 (by decide) (fun c18 => ?_) (fun c18 => ?_)
        · refine ev_iload_5 (pc := 86) dX10_cloud_86 ?_
          replace hx19 := (hx19.trans (if_pos c18))
          subst hx19
          exact hJ1
        · refine ev_iload_6 (pc := 81) dX10_cloud_81 ?_
          refine ev_goto (pc := 83) (tgt := 88) dX10_cloud_83 (by decide) ?_
          replace hx19 := (hx19.trans (if_neg c18))
          subst hx19
          exact hJ1
      refine ev_ifc_le (pc := 39) (tgt := 46) dX10_cloud_39 (by decide) (fun c12 => ?_) (fun c12 => ?_)
      · refine ev_iconst (pc := 46) (v := 0) dX10_cloud_46 rfl ?_
        replace hx13 := (hx13.trans (if_neg c12))
        subst hx13
        exact hJ2
      · refine ev_iconst (pc := 42) (v := 1) dX10_cloud_42 rfl ?_
        refine ev_goto (pc := 43) (tgt := 47) dX10_cloud_43 (by decide) ?_
        replace hx13 := (hx13.trans (if_pos c12))
        subst hx13
        exact hJ2
set_option maxRecDepth 20000 in
set_option maxHeartbeats 4000000 in
theorem e_X10_cloud {G : ev_G} {Q : Option ev_V → ev_M → Prop} {R : Option (Int32 × ev_m)} {mF : ev_m} (hR : ∀ (x0 : Int32) (m0 : ev_m), (some ((x0, m0))) = R → Q (some (vi x0)) (ev_emb m0)) (hN : none ≠ R) {i0 : Nat} {x1_ : Int32} {x2_ : Int32} {x3_ : Int32} {x4_ : Int32} (h : f_X10_cloud mF i0 x1_ x2_ x3_ x4_ = R) : ev_E G K_X10_cloud B_X10_cloud (0, 0) 0 [some (vr 10 (i0)), some (vi (x1_)), some (vi (x2_)), some (vi (x3_)), some (vi (x4_)), none, none] [] (ev_emb mF) Q := by
  unfold f_X10_cloud at h
  refine ev_aload_0 (pc := 0) dX10_cloud_0 ?_
  refine ev_iconst (pc := 1) (v := 0) dX10_cloud_1 rfl ?_
  obtain ⟨m1, hm1, h⟩ := ev_letE h
  refine pt_X10_81 (pc := 2) rfl dX10_cloud_2 ?_
  refine ev_mem (pc := 5) hm1 ?_
  refine ev_aload_0 (pc := 5) dX10_cloud_5 ?_
  refine ev_iload_1 (pc := 6) dX10_cloud_6 ?_
  refine ev_iload_2 (pc := 7) dX10_cloud_7 ?_
  refine ev_iload_3 (pc := 8) dX10_cloud_8 ?_
  obtain ⟨p2, hp2, h⟩ := ev_bindE hN h
  refine cl1_X10_338 (pc := 9) rfl dX10_cloud_9 (by decide) (Nat.le_of_ble_eq_true rfl) (c_X10_layFor hp2) ?_
  refine ev_ifb_eq (pc := 12) (tgt := 20) dX10_cloud_12 (by decide) (fun c3 => ?_) (fun c3 => ?_)
  · replace h := ev_ifn h c3
    refine ev_iconst (pc := 20) (v := (-1)) dX10_cloud_20 rfl ?_
    exact ev_iret (pc := 21) dX10_cloud_21 rfl rfl (hR _ _ h)
  · replace h := ev_ifp h c3
    refine ev_iload_4 (pc := 15) dX10_cloud_15 ?_
    refine ev_ifc_ge (pc := 17) (tgt := 22) dX10_cloud_17 (by decide) (fun c4 => ?_) (fun c4 => ?_)
    · replace h := ev_ifn h c4
      refine ev_iconst (pc := 22) (v := (-1)) dX10_cloud_22 rfl ?_
      refine ev_istore_5 (pc := 23) dX10_cloud_23 (by decide) rfl ?_
      refine ev_iconst (pc := 25) (v := 0) dX10_cloud_25 rfl ?_
      refine ev_istore_6 (pc := 26) dX10_cloud_26 (by decide) rfl ?_
      refine ev_E.forget (L' := [some (vr 10 (i0)), none, none, some (vi (x3_)), some (vi (x4_)), some (vi ((-1))), some (vi (0))]) ⟨rfl, ⟨rfl, ⟨rfl, ⟨rfl, ⟨rfl, trivial⟩⟩⟩⟩⟩ ?_
      refine e_lp_X10_cloud_28 hR hN 4000 _ _ _ _ h (fun x20 m21 h => ?_)
      refine ev_iload_5 (pc := 96) dX10_cloud_96 ?_
      exact ev_iret (pc := 98) dX10_cloud_98 rfl rfl (hR _ _ h)
    · replace h := ev_ifp h c4
      refine ev_iconst (pc := 20) (v := (-1)) dX10_cloud_20 rfl ?_
      exact ev_iret (pc := 21) dX10_cloud_21 rfl rfl (hR _ _ h)
theorem c_X10_cloud {G : ev_G} {mF : ev_m} {i0 : Nat} {x1_ : Int32} {x2_ : Int32} {x3_ : Int32} {x4_ : Int32} {r : Int32 × ev_m} (h : f_X10_cloud mF i0 x1_ x2_ x3_ x4_ = some r) : ev_CF G K_X10_cloud B_X10_cloud [vr 10 (i0), vi (x1_), vi (x2_), vi (x3_), vi (x4_)] mF (some (vi (r.1))) r.2 :=
  ev_Ct_of rfl rfl (Nat.le_of_ble_eq_true rfl) (e_X10_cloud (R := some r) (fun x0 m0 q => by cases q; exact ⟨rfl, rfl⟩) (fun q => by cases q) h)
set_option maxRecDepth 20000 in
set_option maxHeartbeats 4000000 in
theorem e_lp_X10_coarse_43 {G : ev_G} {Q : Option ev_V → ev_M → Prop} {R : Option (Int32 × ev_m)} (hR : ∀ (x0 : Int32) (m0 : ev_m), (some ((x0, m0))) = R → Q (some (vi x0)) (ev_emb m0)) (hN : none ≠ R) {i7 : Nat} {x8 : Int32} {x9 : Int32} {y10 : Int64} : ∀ (f : Nat) (x11 : Int32) (x12 : Int32) (m13 : ev_m) (kx : Int32 → ev_m → Option (Int32 × ev_m)) (h : lp_X10_coarse_43 i7 x8 x9 y10 f x11 x12 m13 kx = R) (hk : ∀ (x11' : Int32) (m13' : ev_m), kx x11' m13' = R → ev_E G K_X10_coarse B_X10_coarse (0, 0) 79 [none, none, none, none, none, none, none, some (vi (x11')), none] [] (ev_emb m13') Q), ev_E G K_X10_coarse B_X10_coarse (0, 0) 43 [some (vr 10 (i7)), none, none, some (vi (x8)), some (vi (x9)), some (vl (y10)), none, some (vi (x11)), some (vi (x12))] [] (ev_emb m13) Q := by
  intro f
  induction f with
  | zero => intro x11 x12 m13 kx h hk; rw [lp_X10_coarse_43] at h; exact absurd h hN
  | succ f ih =>
    intro x11 x12 m13 kx h hk
    rw [lp_X10_coarse_43] at h
    refine ev_iload_8 (pc := 43) dX10_coarse_43 ?_
    refine ev_iload_4 (pc := 45) dX10_coarse_45 ?_
    refine ev_icc_gt (pc := 47) (tgt := 79) dX10_coarse_47 (by decide) (fun c14 => ?_) (fun c14 => ?_)
    · replace h := ev_ifp h c14
      refine ev_E.forget (L' := [none, none, none, none, none, none, none, some (vi (x11)), none]) ⟨rfl, trivial⟩ ?_
      exact hk _ _  h
    · replace h := ev_ifn h c14
      refine ev_aload_0 (pc := 50) dX10_coarse_50 ?_
      refine ev_iconst (pc := 51) (v := 4) dX10_coarse_51 rfl ?_
      refine ev_iload_8 (pc := 52) dX10_coarse_52 ?_
      refine ev_iload_3 (pc := 54) dX10_coarse_54 ?_
      obtain ⟨p15, hp15, h⟩ := ev_bindE hN h
      refine cl1_X10_350 (pc := 55) rfl dX10_coarse_55 (by decide) (Nat.le_of_ble_eq_true rfl) (c_X10_costWith hp15) ?_
      refine ev_lload_5 (pc := 58) dX10_coarse_58 ?_
      obtain ⟨x17, hx17, h⟩ := ev_letE h
      have hJ1 : ev_E G K_X10_coarse B_X10_coarse (0, 0) 71 [some (vr 10 (i7)), none, none, some (vi (x8)), some (vi (x9)), some (vl (y10)), none, some (vi (x11)), some (vi (x12))] [vi (x17)] (ev_emb p15.2) Q := by
        refine ev_istore_7 (pc := 71) dX10_coarse_71 (by decide) rfl ?_
        refine ev_iinc_8 (pc := 73) (y := x12 + 1) dX10_coarse_73 rfl (by decide) rfl ?_
        refine ev_goto (pc := 76) (tgt := 43) dX10_coarse_76 (by decide) ?_
        exact ih _ _ _ kx h hk
      refine ev_lcc_gt (pc := 60) (tgt := 69) dX10_coarse_60 dX10_coarse_61 (by decide) (fun c16 => ?_) (fun c16 => ?_)
      · refine ev_iload_7 (pc := 69) dX10_coarse_69 ?_
        replace hx17 := (hx17.trans (if_pos c16))
        subst hx17
        exact hJ1
      · refine ev_iload_8 (pc := 64) dX10_coarse_64 ?_
        refine ev_goto (pc := 66) (tgt := 71) dX10_coarse_66 (by decide) ?_
        replace hx17 := (hx17.trans (if_neg c16))
        subst hx17
        exact hJ1
set_option maxRecDepth 20000 in
set_option maxHeartbeats 4000000 in
theorem e_X10_coarse {G : ev_G} {Q : Option ev_V → ev_M → Prop} {R : Option (Int32 × ev_m)} {mF : ev_m} (hR : ∀ (x0 : Int32) (m0 : ev_m), (some ((x0, m0))) = R → Q (some (vi x0)) (ev_emb m0)) (hN : none ≠ R) {i0 : Nat} {x1_ : Int32} {x2_ : Int32} {x3_ : Int32} {x4_ : Int32} (h : f_X10_coarse mF i0 x1_ x2_ x3_ x4_ = R) : ev_E G K_X10_coarse B_X10_coarse (0, 0) 0 [some (vr 10 (i0)), some (vi (x1_)), some (vi (x2_)), some (vi (x3_)), some (vi (x4_)), none, none, none, none] [] (ev_emb mF) Q := by
  unfold f_X10_coarse at h
  refine ev_aload_0 (pc := 0) dX10_coarse_0 ?_
  refine ev_iconst (pc := 1) (v := 0) dX10_coarse_1 rfl ?_
  obtain ⟨m1, hm1, h⟩ := ev_letE h
  refine pt_X10_81 (pc := 2) rfl dX10_coarse_2 ?_
  refine ev_mem (pc := 5) hm1 ?_
  refine ev_aload_0 (pc := 5) dX10_coarse_5 ?_
  refine ev_iload_1 (pc := 6) dX10_coarse_6 ?_
  refine ev_iload_2 (pc := 7) dX10_coarse_7 ?_
  refine ev_iload_3 (pc := 8) dX10_coarse_8 ?_
  obtain ⟨p2, hp2, h⟩ := ev_bindE hN h
  refine cl1_X10_338 (pc := 9) rfl dX10_coarse_9 (by decide) (Nat.le_of_ble_eq_true rfl) (c_X10_layFor hp2) ?_
  refine ev_ifb_eq (pc := 12) (tgt := 26) dX10_coarse_12 (by decide) (fun c3 => ?_) (fun c3 => ?_)
  · replace h := ev_ifn h c3
    refine ev_iconst (pc := 26) (v := (-1)) dX10_coarse_26 rfl ?_
    exact ev_iret (pc := 27) dX10_coarse_27 rfl rfl (hR _ _ h)
  · replace h := ev_ifp h c3
    refine ev_iload_4 (pc := 15) dX10_coarse_15 ?_
    refine ev_iconst (pc := 17) (v := 1) dX10_coarse_17 rfl ?_
    refine ev_bipush (pc := 18) (v := 50) dX10_coarse_18 (by decide) ?_
    refine cl1_X10_89 (pc := 20) rfl dX10_coarse_20 (by decide) (Nat.le_of_ble_eq_true rfl) (c_X10_in p2.2 x4_ 1 50) ?_
    refine ev_ifb_ne (pc := 23) (tgt := 28) dX10_coarse_23 (by decide) (fun c4 => ?_) (fun c4 => ?_)
    · replace h := ev_ifp h c4
      refine ev_aload_0 (pc := 28) dX10_coarse_28 ?_
      refine ev_iconst (pc := 29) (v := 4) dX10_coarse_29 rfl ?_
      refine ev_iconst (pc := 30) (v := 1) dX10_coarse_30 rfl ?_
      refine ev_iload_3 (pc := 31) dX10_coarse_31 ?_
      obtain ⟨p5, hp5, h⟩ := ev_bindE hN h
      refine cl1_X10_350 (pc := 32) rfl dX10_coarse_32 (by decide) (Nat.le_of_ble_eq_true rfl) (c_X10_costWith hp5) ?_
      obtain ⟨y6, hy6, h⟩ := ev_letE h
      refine ev_topl (pc := 35) hy6 ?_
      refine ev_lstore_5 (pc := 35) dX10_coarse_35 (by decide) rfl ?_
      refine ev_iconst (pc := 37) (v := 1) dX10_coarse_37 rfl ?_
      refine ev_istore_7 (pc := 38) dX10_coarse_38 (by decide) rfl ?_
      refine ev_iconst (pc := 40) (v := 2) dX10_coarse_40 rfl ?_
      refine ev_istore_8 (pc := 41) dX10_coarse_41 (by decide) rfl ?_
      refine ev_E.forget (L' := [some (vr 10 (i0)), none, none, some (vi (x3_)), some (vi (x4_)), some (vl (y6)), none, some (vi (1)), some (vi (2))]) ⟨rfl, ⟨rfl, ⟨rfl, ⟨rfl, ⟨rfl, ⟨rfl, trivial⟩⟩⟩⟩⟩⟩ ?_
      refine e_lp_X10_coarse_43 hR hN 4000 _ _ _ _ h (fun x18 m19 h => ?_)
      refine ev_iload_7 (pc := 79) dX10_coarse_79 ?_
      exact ev_iret (pc := 81) dX10_coarse_81 rfl rfl (hR _ _ h)
    · replace h := ev_ifn h c4
      refine ev_iconst (pc := 26) (v := (-1)) dX10_coarse_26 rfl ?_
      exact ev_iret (pc := 27) dX10_coarse_27 rfl rfl (hR _ _ h)
theorem c_X10_coarse {G : ev_G} {mF : ev_m} {i0 : Nat} {x1_ : Int32} {x2_ : Int32} {x3_ : Int32} {x4_ : Int32} {r : Int32 × ev_m} (h : f_X10_coarse mF i0 x1_ x2_ x3_ x4_ = some r) : ev_CF G K_X10_coarse B_X10_coarse [vr 10 (i0), vi (x1_), vi (x2_), vi (x3_), vi (x4_)] mF (some (vi (r.1))) r.2 :=
  ev_Ct_of rfl rfl (Nat.le_of_ble_eq_true rfl) (e_X10_coarse (R := some r) (fun x0 m0 q => by cases q; exact ⟨rfl, rfl⟩) (fun q => by cases q) h)
