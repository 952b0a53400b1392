/-! lifted methods -/
set_option maxRecDepth 20000 in
set_option maxHeartbeats 4000000 in
theorem e_X9_watch {G : ev_G} {Q : Option ev_V → ev_M → Prop} {R : Option (Int32)} {mF : ev_m} (hR : ∀ x0 : Int32, (some (x0)) = R → Q (some (vi x0)) (ev_emb mF)) (hN : none ≠ R) {i0 : Nat} {x1_ : Int32} {x2_ : Int32} {x3_ : Int32} (h : f_X9_watch mF i0 x1_ x2_ x3_ = R) : ev_E G K_X9_watch B_X9_watch (0, 0) 0 [some (vr 0 (i0)), some (vi (x1_)), some (vi (x2_)), some (vi (x3_)), none] [] (ev_emb mF) Q := by
  unfold f_X9_watch at h
  refine ev_aload_0 (pc := 0) dX9_watch_0 ?_
  refine gt_X9_10 (pc := 1) rfl dX9_watch_1 ?_
  refine ev_iload_1 (pc := 4) dX9_watch_4 ?_
  obtain ⟨x1, hx1, h⟩ := ev_bindE hN h
  refine cl1_X9_117 (pc := 5) rfl dX9_watch_5 (by decide) (Nat.le_of_ble_eq_true rfl) (c_X0_watchAt hx1) ?_
  refine ev_astore_4 (pc := 8) dX9_watch_8 (by decide) rfl ?_
  refine ev_aload_4 (pc := 10) dX9_watch_10 ?_
  rcases x1 with _ | j2
  · replace h := ev_onN h
    show ev_E G K_X9_watch B_X9_watch (0, 0) 12 [some (vr 0 (i0)), some (vi (x1_)), some (vi (x2_)), some (vi (x3_)), some (vn)] [vn] (ev_emb mF) Q
    refine ev_ifnull_n (pc := 12) (tgt := 29) dX9_watch_12 (by decide) ?_
    refine ev_iconst (pc := 29) (v := (-1)) dX9_watch_29 rfl ?_
    exact ev_iret (pc := 30) dX9_watch_30 rfl rfl (hR _ h)
  · replace h := ev_onS h
    show ev_E G K_X9_watch B_X9_watch (0, 0) 12 [some (vr 0 (i0)), some (vi (x1_)), some (vi (x2_)), some (vi (x3_)), some (vr 6 (j2))] [vr 6 (j2)] (ev_emb mF) Q
    refine ev_ifnull_r (pc := 12) dX9_watch_12 ?_
    refine ev_iload_2 (pc := 15) dX9_watch_15 ?_
    refine ev_iconst (pc := 16) (v := (-1)) dX9_watch_16 rfl ?_
    refine ev_icc_lt (pc := 17) (tgt := 29) dX9_watch_17 (by decide) (fun c3 => ?_) (fun c3 => ?_)
    · replace h := ev_ifp h c3
      refine ev_iconst (pc := 29) (v := (-1)) dX9_watch_29 rfl ?_
      exact ev_iret (pc := 30) dX9_watch_30 rfl rfl (hR _ h)
    · replace h := ev_ifn h c3
      refine ev_iload_2 (pc := 20) dX9_watch_20 ?_
      refine ev_aload_4 (pc := 21) dX9_watch_21 ?_
      refine gt_X9_121 (pc := 23) rfl dX9_watch_23 ?_
      refine ev_icc_lt (pc := 26) (tgt := 31) dX9_watch_26 (by decide) (fun c4 => ?_) (fun c4 => ?_)
      · replace h := ev_ifp h c4
        refine ev_iload_2 (pc := 31) dX9_watch_31 ?_
        refine ev_iconst (pc := 32) (v := (-1)) dX9_watch_32 rfl ?_
        refine ev_icc_ne (pc := 33) (tgt := 50) dX9_watch_33 (by decide) (fun c5 => ?_) (fun c5 => ?_)
        · replace h := ev_ifn h c5
          refine ev_iload_3 (pc := 50) dX9_watch_50 ?_
          refine ev_ifc_ne (pc := 51) (tgt := 66) dX9_watch_51 (by decide) (fun c6 => ?_) (fun c6 => ?_)
          · replace h := ev_ifn h c6
            refine ev_iload_3 (pc := 66) dX9_watch_66 ?_
            refine ev_iconst (pc := 67) (v := 1) dX9_watch_67 rfl ?_
            refine ev_icc_ne (pc := 68) (tgt := 83) dX9_watch_68 (by decide) (fun c7 => ?_) (fun c7 => ?_)
            · replace h := ev_ifn h c7
              refine ev_iconst (pc := 83) (v := (-1)) dX9_watch_83 rfl ?_
              exact ev_iret (pc := 84) dX9_watch_84 rfl rfl (hR _ h)
            · replace h := ev_ifp h c7
              refine ev_aload_4 (pc := 71) dX9_watch_71 ?_
              refine gt_X9_129 (pc := 73) rfl dX9_watch_73 ?_
              refine ev_iload_2 (pc := 76) dX9_watch_76 ?_
              refine cl1_X9_113 (pc := 77) rfl dX9_watch_77 (by decide) (Nat.le_of_ble_eq_true rfl) (c_X9_at (r := 17) rfl (by decide)) ?_
              refine ev_goto (pc := 80) (tgt := 84) dX9_watch_80 (by decide) ?_
              exact ev_iret (pc := 84) dX9_watch_84 rfl rfl (hR _ h)
          · replace h := ev_ifp h c6
            refine ev_aload_4 (pc := 54) dX9_watch_54 ?_
            refine gt_X9_126 (pc := 56) rfl dX9_watch_56 ?_
            refine ev_iload_2 (pc := 59) dX9_watch_59 ?_
            refine cl1_X9_113 (pc := 60) rfl dX9_watch_60 (by decide) (Nat.le_of_ble_eq_true rfl) (c_X9_at (r := 16) rfl (by decide)) ?_
            refine ev_goto (pc := 63) (tgt := 84) dX9_watch_63 (by decide) ?_
            exact ev_iret (pc := 84) dX9_watch_84 rfl rfl (hR _ h)
        · replace h := ev_ifp h c5
          refine ev_iload_3 (pc := 36) dX9_watch_36 ?_
          refine ev_ifc_ne (pc := 37) (tgt := 48) dX9_watch_37 (by decide) (fun c8 => ?_) (fun c8 => ?_)
          · replace h := ev_ifn h c8
            refine ev_iconst (pc := 48) (v := (-1)) dX9_watch_48 rfl ?_
            exact ev_iret (pc := 49) dX9_watch_49 rfl rfl (hR _ h)
          · replace h := ev_ifp h c8
            refine ev_aload_4 (pc := 40) dX9_watch_40 ?_
            refine gt_X9_121 (pc := 42) rfl dX9_watch_42 ?_
            refine ev_goto (pc := 45) (tgt := 49) dX9_watch_45 (by decide) ?_
            exact ev_iret (pc := 49) dX9_watch_49 rfl rfl (hR _ h)
      · replace h := ev_ifn h c4
        refine ev_iconst (pc := 29) (v := (-1)) dX9_watch_29 rfl ?_
        exact ev_iret (pc := 30) dX9_watch_30 rfl rfl (hR _ h)
theorem c_X9_watch {G : ev_G} {mF : ev_m} {i0 : Nat} {x1_ : Int32} {x2_ : Int32} {x3_ : Int32} {r : Int32} (h : f_X9_watch mF i0 x1_ x2_ x3_ = some r) : ev_CF G K_X9_watch B_X9_watch [vr 0 (i0), vi (x1_), vi (x2_), vi (x3_)] mF (some (vi (r))) mF :=
  ev_Ct_of rfl rfl (Nat.le_of_ble_eq_true rfl) (e_X9_watch (R := some r) (fun x0 q => by cases q; exact ⟨rfl, rfl⟩) (fun q => by cases q) h)
set_option maxRecDepth 20000 in
set_option maxHeartbeats 4000000 in
theorem e_jn_X9_sailed_37 {G : ev_G} {Q : Option ev_V → ev_M → Prop} {R : Option (Bool × ev_m)} (hR : ∀ (x0 : Bool) (m0 : ev_m), (some ((x0, m0))) = R → Q (some (vi (bi x0))) (ev_emb m0)) (hN : none ≠ R) {m11 : ev_m} {i6 : Nat} {x7 : Int32} {x8 : Int32} {i9 : Nat} {o10 : Option Nat} (h : jn_X9_sailed_37 m11 i6 x7 x8 i9 o10 = R) : ev_E G K_X9_sailed B_X9_sailed (0, 0) 37 [some (vr 0 (i6)), none, none, some (vi (x7)), some (vi (x8)), some (vr 3 (i9)), some (vo 4 (o10))] [] (ev_emb m11) Q := by
  unfold jn_X9_sailed_37 at h
  refine ev_aload_0 (pc := 37) dX9_sailed_37 ?_
  refine gt_X9_34 (pc := 38) rfl dX9_sailed_38 ?_
  refine ev_aload_5 (pc := 41) dX9_sailed_41 ?_
  refine ev_aload_6 (pc := 43) dX9_sailed_43 ?_
  refine ev_iload_3 (pc := 45) dX9_sailed_45 ?_
  refine ev_iload_4 (pc := 46) dX9_sailed_46 ?_
  obtain ⟨m12, hm12, h⟩ := ev_bindE hN h
  refine cl0_X9_189 (pc := 48) rfl dX9_sailed_48 (by decide) (Nat.le_of_ble_eq_true rfl) (c_X8_sail hm12) ?_
  refine ev_iconst (pc := 51) (v := 1) dX9_sailed_51 rfl ?_
  exact ev_iret (pc := 52) dX9_sailed_52 rfl rfl (hR _ _ h)
set_option maxRecDepth 20000 in
set_option maxHeartbeats 4000000 in
theorem e_X9_sailed {G : ev_G} {Q : Option ev_V → ev_M → Prop} {R : Option (Bool × ev_m)} {mF : ev_m} (hR : ∀ (x0 : Bool) (m0 : ev_m), (some ((x0, m0))) = R → Q (some (vi (bi x0))) (ev_emb m0)) (hN : none ≠ R) {i0 : Nat} {x1_ : Int32} {x2_ : Int32} {x3_ : Int32} {x4_ : Int32} (h : f_X9_sailed mF i0 x1_ x2_ x3_ x4_ = R) : ev_E G K_X9_sailed B_X9_sailed (0, 0) 0 [some (vr 0 (i0)), some (vi (x1_)), some (vi (x2_)), some (vi (x3_)), some (vi (x4_)), none, none] [] (ev_emb mF) Q := by
  unfold f_X9_sailed at h
  refine ev_aload_0 (pc := 0) dX9_sailed_0 ?_
  refine gt_X9_10 (pc := 1) rfl dX9_sailed_1 ?_
  refine ev_iload_1 (pc := 4) dX9_sailed_4 ?_
  obtain ⟨x1, hx1, h⟩ := ev_bindE hN h
  refine cl1_X9_86 (pc := 5) rfl dX9_sailed_5 (by decide) (Nat.le_of_ble_eq_true rfl) (c_X0_shipAt hx1) ?_
  refine ev_astore_5 (pc := 8) dX9_sailed_8 (by decide) rfl ?_
  refine ev_aload_0 (pc := 10) dX9_sailed_10 ?_
  refine gt_X9_10 (pc := 11) rfl dX9_sailed_11 ?_
  refine ev_iload_2 (pc := 14) dX9_sailed_14 ?_
  obtain ⟨x2, hx2, h⟩ := ev_bindE hN h
  refine cl1_X9_95 (pc := 15) rfl dX9_sailed_15 (by decide) (Nat.le_of_ble_eq_true rfl) (c_X0_handAt hx2) ?_
  refine ev_astore_6 (pc := 18) dX9_sailed_18 (by decide) rfl ?_
  refine ev_aload_5 (pc := 20) dX9_sailed_20 ?_
  rcases x1 with _ | j3
  · replace h := ev_onN h
    show ev_E G K_X9_sailed B_X9_sailed (0, 0) 22 [some (vr 0 (i0)), some (vi (x1_)), some (vi (x2_)), some (vi (x3_)), some (vi (x4_)), some (vn), some (vo 4 (x2))] [vn] (ev_emb mF) Q
    refine ev_ifnull_n (pc := 22) (tgt := 35) dX9_sailed_22 (by decide) ?_
    refine ev_iconst (pc := 35) (v := 0) dX9_sailed_35 rfl ?_
    exact ev_iret (pc := 36) dX9_sailed_36 rfl rfl (hR _ _ h)
  · replace h := ev_onS h
    show ev_E G K_X9_sailed B_X9_sailed (0, 0) 22 [some (vr 0 (i0)), some (vi (x1_)), some (vi (x2_)), some (vi (x3_)), some (vi (x4_)), some (vr 3 (j3)), some (vo 4 (x2))] [vr 3 (j3)] (ev_emb mF) Q
    refine ev_ifnull_r (pc := 22) dX9_sailed_22 ?_
    refine ev_aload_6 (pc := 25) dX9_sailed_25 ?_
    rcases x2 with _ | j4
    · replace h := ev_onN h
      show ev_E G K_X9_sailed B_X9_sailed (0, 0) 27 [some (vr 0 (i0)), some (vi (x1_)), some (vi (x2_)), some (vi (x3_)), some (vi (x4_)), some (vr 3 (j3)), some (vn)] [vn] (ev_emb mF) Q
      refine ev_ifnonnull_n (pc := 27) dX9_sailed_27 ?_
      refine ev_iload_2 (pc := 30) dX9_sailed_30 ?_
      refine ev_iconst (pc := 31) (v := (-1)) dX9_sailed_31 rfl ?_
      refine ev_icc_eq (pc := 32) (tgt := 37) dX9_sailed_32 (by decide) (fun c5 => ?_) (fun c5 => ?_)
      · replace h := ev_ifp h c5
        refine ev_E.forget (L' := [some (vr 0 (i0)), none, none, some (vi (x3_)), some (vi (x4_)), some (vr 3 (j3)), some (vn)]) ⟨rfl, ⟨rfl, ⟨rfl, ⟨rfl, ⟨rfl, trivial⟩⟩⟩⟩⟩ ?_
        exact e_jn_X9_sailed_37 hR hN h
      · replace h := ev_ifn h c5
        refine ev_iconst (pc := 35) (v := 0) dX9_sailed_35 rfl ?_
        exact ev_iret (pc := 36) dX9_sailed_36 rfl rfl (hR _ _ h)
    · replace h := ev_onS h
      show ev_E G K_X9_sailed B_X9_sailed (0, 0) 27 [some (vr 0 (i0)), some (vi (x1_)), some (vi (x2_)), some (vi (x3_)), some (vi (x4_)), some (vr 3 (j3)), some (vr 4 (j4))] [vr 4 (j4)] (ev_emb mF) Q
      refine ev_ifnonnull_r (pc := 27) (tgt := 37) dX9_sailed_27 (by decide) ?_
      refine ev_E.forget (L' := [some (vr 0 (i0)), none, none, some (vi (x3_)), some (vi (x4_)), some (vr 3 (j3)), some (vr 4 (j4))]) ⟨rfl, ⟨rfl, ⟨rfl, ⟨rfl, ⟨rfl, trivial⟩⟩⟩⟩⟩ ?_
      exact e_jn_X9_sailed_37 hR hN h
theorem c_X9_sailed {G : ev_G} {mF : ev_m} {i0 : Nat} {x1_ : Int32} {x2_ : Int32} {x3_ : Int32} {x4_ : Int32} {r : Bool × ev_m} (h : f_X9_sailed mF i0 x1_ x2_ x3_ x4_ = some r) : ev_CF G K_X9_sailed B_X9_sailed [vr 0 (i0), vi (x1_), vi (x2_), vi (x3_), vi (x4_)] mF (some (vi (bi (r.1)))) r.2 :=
  ev_Ct_of rfl rfl (Nat.le_of_ble_eq_true rfl) (e_X9_sailed (R := some r) (fun x0 m0 q => by cases q; exact ⟨rfl, rfl⟩) (fun q => by cases q) h)
set_option maxRecDepth 20000 in
set_option maxHeartbeats 4000000 in
theorem e_X9_second {G : ev_G} {Q : Option ev_V → ev_M → Prop} {R : Option (Int32 × ev_m)} {mF : ev_m} (hR : ∀ (x0 : Int32) (m0 : ev_m), (some ((x0, m0))) = R → Q (some (vi x0)) (ev_emb m0)) (hN : none ≠ R) {i0 : Nat} {x1_ : Int32} {x2_ : Int32} {x3_ : Int32} {x4_ : Int32} {x5_ : Int32} (h : f_X9_second mF i0 x1_ x2_ x3_ x4_ x5_ = R) : ev_E G K_X9_second B_X9_second (0, 0) 0 [some (vr 0 (i0)), some (vi (x1_)), some (vi (x2_)), some (vi (x3_)), some (vi (x4_)), some (vi (x5_))] [] (ev_emb mF) Q := by
  unfold f_X9_second at h
  refine ev_iload_4 (pc := 0) dX9_second_0 ?_
  refine ev_ifc_lt (pc := 2) (tgt := 25) dX9_second_2 (by decide) (fun c1 => ?_) (fun c1 => ?_)
  · replace h := ev_ifp h c1
    refine ev_ldc (pc := 25) (v := (-100000)) kc_X9_90 dX9_second_25 ?_
    exact ev_iret (pc := 27) dX9_second_27 rfl rfl (hR _ _ h)
  · replace h := ev_ifn h c1
    refine ev_iload_4 (pc := 5) dX9_second_5 ?_
    refine ev_sipush (pc := 7) (v := 400) dX9_second_7 (by decide) ?_
    refine ev_icc_gt (pc := 10) (tgt := 25) dX9_second_10 (by decide) (fun c2 => ?_) (fun c2 => ?_)
    · replace h := ev_ifp h c2
      refine ev_ldc (pc := 25) (v := (-100000)) kc_X9_90 dX9_second_25 ?_
      exact ev_iret (pc := 27) dX9_second_27 rfl rfl (hR _ _ h)
    · replace h := ev_ifn h c2
      refine ev_aload_0 (pc := 13) dX9_second_13 ?_
      refine ev_iload_1 (pc := 14) dX9_second_14 ?_
      refine ev_iload_2 (pc := 15) dX9_second_15 ?_
      refine ev_iload_3 (pc := 16) dX9_second_16 ?_
      refine ev_iload_4 (pc := 17) dX9_second_17 ?_
      obtain ⟨p3, hp3, h⟩ := ev_bindE hN h
      refine cl1_X9_132 (pc := 19) rfl dX9_second_19 (by decide) (Nat.le_of_ble_eq_true rfl) (c_X9_sailed hp3) ?_
      refine ev_ifb_ne (pc := 22) (tgt := 28) dX9_second_22 (by decide) (fun c4 => ?_) (fun c4 => ?_)
      · replace h := ev_ifp h c4
        refine ev_iload_5 (pc := 28) dX9_second_28 ?_
        by_cases c5 : x5_ = 0
        · replace h := ev_ifp h c5
          refine ev_tin (pc := 30) 0 (tgt := 60) c5 (by decide) dX9_second_30 rfl (by decide) ?_
          refine ev_aload_0 (pc := 60) dX9_second_60 ?_
          refine gt_X9_34 (pc := 61) rfl dX9_second_61 ?_
          refine gt_X9_136 (pc := 64) rfl dX9_second_64 ?_
          refine ev_iload_4 (pc := 67) dX9_second_67 ?_
          refine cl1_X9_113 (pc := 69) rfl dX9_second_69 (by decide) (Nat.le_of_ble_eq_true rfl) (c_X9_at (r := 18) rfl (by decide)) ?_
          exact ev_iret (pc := 72) dX9_second_72 rfl rfl (hR _ _ h)
        · replace h := ev_ifn h c5
          by_cases c6 : x5_ = 1
          · replace h := ev_ifp h c6
            refine ev_tin (pc := 30) 1 (tgt := 73) c6 (by decide) dX9_second_30 rfl (by decide) ?_
            refine ev_aload_0 (pc := 73) dX9_second_73 ?_
            refine gt_X9_34 (pc := 74) rfl dX9_second_74 ?_
            refine gt_X9_137 (pc := 77) rfl dX9_second_77 ?_
            refine ev_iload_4 (pc := 80) dX9_second_80 ?_
            refine cl1_X9_113 (pc := 82) rfl dX9_second_82 (by decide) (Nat.le_of_ble_eq_true rfl) (c_X9_at (r := 19) rfl (by decide)) ?_
            exact ev_iret (pc := 85) dX9_second_85 rfl rfl (hR _ _ h)
          · replace h := ev_ifn h c6
            by_cases c7 : x5_ = 2
            · replace h := ev_ifp h c7
              refine ev_tin (pc := 30) 2 (tgt := 86) c7 (by decide) dX9_second_30 rfl (by decide) ?_
              refine ev_aload_0 (pc := 86) dX9_second_86 ?_
              refine gt_X9_34 (pc := 87) rfl dX9_second_87 ?_
              refine gt_X9_140 (pc := 90) rfl dX9_second_90 ?_
              refine ev_iload_4 (pc := 93) dX9_second_93 ?_
              refine cl1_X9_113 (pc := 95) rfl dX9_second_95 (by decide) (Nat.le_of_ble_eq_true rfl) (c_X9_at (r := 20) rfl (by decide)) ?_
              exact ev_iret (pc := 98) dX9_second_98 rfl rfl (hR _ _ h)
            · replace h := ev_ifn h c7
              by_cases c8 : x5_ = 3
              · replace h := ev_ifp h c8
                refine ev_tin (pc := 30) 3 (tgt := 99) c8 (by decide) dX9_second_30 rfl (by decide) ?_
                refine ev_aload_0 (pc := 99) dX9_second_99 ?_
                refine gt_X9_34 (pc := 100) rfl dX9_second_100 ?_
                refine gt_X9_143 (pc := 103) rfl dX9_second_103 ?_
                refine ev_iload_4 (pc := 106) dX9_second_106 ?_
                refine cl1_X9_113 (pc := 108) rfl dX9_second_108 (by decide) (Nat.le_of_ble_eq_true rfl) (c_X9_at (r := 21) rfl (by decide)) ?_
                exact ev_iret (pc := 111) dX9_second_111 rfl rfl (hR _ _ h)
              · replace h := ev_ifn h c8
                refine ev_tout (pc := 30) 4 (tgt := 112) rfl (by decide) (lt_s (p := fun j => ¬ x5_ = nI j) (lt_s (p := fun j => ¬ x5_ = nI j) (lt_s (p := fun j => ¬ x5_ = nI j) (lt_s (p := fun j => ¬ x5_ = nI j) lt_0 c5) c6) c7) c8) dX9_second_30 (by decide) ?_
                refine ev_ldc (pc := 112) (v := (-100000)) kc_X9_90 dX9_second_112 ?_
                exact ev_iret (pc := 114) dX9_second_114 rfl rfl (hR _ _ h)
      · replace h := ev_ifn h c4
        refine ev_ldc (pc := 25) (v := (-100000)) kc_X9_90 dX9_second_25 ?_
        exact ev_iret (pc := 27) dX9_second_27 rfl rfl (hR _ _ h)
theorem c_X9_second {G : ev_G} {mF : ev_m} {i0 : Nat} {x1_ : Int32} {x2_ : Int32} {x3_ : Int32} {x4_ : Int32} {x5_ : Int32} {r : Int32 × ev_m} (h : f_X9_second mF i0 x1_ x2_ x3_ x4_ x5_ = some r) : ev_CF G K_X9_second B_X9_second [vr 0 (i0), vi (x1_), vi (x2_), vi (x3_), vi (x4_), vi (x5_)] mF (some (vi (r.1))) r.2 :=
  ev_Ct_of rfl rfl (Nat.le_of_ble_eq_true rfl) (e_X9_second (R := some r) (fun x0 m0 q => by cases q; exact ⟨rfl, rfl⟩) (fun q => by cases q) h)
set_option maxRecDepth 20000 in
set_option maxHeartbeats 4000000 in
theorem e_X9_run {G : ev_G} {Q : Option ev_V → ev_M → Prop} {R : Option (Int64 × ev_m)} {mF : ev_m} (hR : ∀ (x0 : Int64) (m0 : ev_m), (some ((x0, m0))) = R → Q (some (vl x0)) (ev_emb m0)) (hN : none ≠ R) {i0 : Nat} {x1_ : Int32} {x2_ : Int32} {x3_ : Int32} {x4_ : Int32} {x5_ : Int32} (h : f_X9_run mF i0 x1_ x2_ x3_ x4_ x5_ = R) : ev_E G K_X9_run B_X9_run (0, 0) 0 [some (vr 0 (i0)), some (vi (x1_)), some (vi (x2_)), some (vi (x3_)), some (vi (x4_)), some (vi (x5_))] [] (ev_emb mF) Q := by
  unfold f_X9_run at h
  refine ev_iload_4 (pc := 0) dX9_run_0 ?_
  refine ev_iconst (pc := 2) (v := 1) dX9_run_2 rfl ?_
  refine ev_icc_lt (pc := 3) (tgt := 26) dX9_run_3 (by decide) (fun c1 => ?_) (fun c1 => ?_)
  · replace h := ev_ifp h c1
    refine ev_ldc2 (pc := 26) (v := (-9223372036854775808)) kl_X9_146 dX9_run_26 ?_
    exact ev_lret (pc := 29) dX9_run_29 rfl (hR _ _ h)
  · replace h := ev_ifn h c1
    refine ev_iload_4 (pc := 6) dX9_run_6 ?_
    refine ev_sipush (pc := 8) (v := 400) dX9_run_8 (by decide) ?_
    refine ev_icc_gt (pc := 11) (tgt := 26) dX9_run_11 (by decide) (fun c2 => ?_) (fun c2 => ?_)
    · replace h := ev_ifp h c2
      refine ev_ldc2 (pc := 26) (v := (-9223372036854775808)) kl_X9_146 dX9_run_26 ?_
      exact ev_lret (pc := 29) dX9_run_29 rfl (hR _ _ h)
    · replace h := ev_ifn h c2
      refine ev_aload_0 (pc := 14) dX9_run_14 ?_
      refine ev_iload_1 (pc := 15) dX9_run_15 ?_
      refine ev_iload_2 (pc := 16) dX9_run_16 ?_
      refine ev_iload_3 (pc := 17) dX9_run_17 ?_
      refine ev_iload_4 (pc := 18) dX9_run_18 ?_
      obtain ⟨p3, hp3, h⟩ := ev_bindE hN h
      refine cl1_X9_132 (pc := 20) rfl dX9_run_20 (by decide) (Nat.le_of_ble_eq_true rfl) (c_X9_sailed hp3) ?_
      refine ev_ifb_ne (pc := 23) (tgt := 30) dX9_run_23 (by decide) (fun c4 => ?_) (fun c4 => ?_)
      · replace h := ev_ifp h c4
        refine ev_aload_0 (pc := 30) dX9_run_30 ?_
        refine gt_X9_34 (pc := 31) rfl dX9_run_31 ?_
        refine ev_iload_5 (pc := 34) dX9_run_34 ?_
        obtain ⟨x5, hx5, h⟩ := ev_bindE hN h
        refine cl1_X9_148 (pc := 36) rfl dX9_run_36 (by decide) (Nat.le_of_ble_eq_true rfl) (c_X8_tally hx5) ?_
        exact ev_lret (pc := 39) dX9_run_39 rfl (hR _ _ h)
      · replace h := ev_ifn h c4
        refine ev_ldc2 (pc := 26) (v := (-9223372036854775808)) kl_X9_146 dX9_run_26 ?_
        exact ev_lret (pc := 29) dX9_run_29 rfl (hR _ _ h)
theorem c_X9_run {G : ev_G} {mF : ev_m} {i0 : Nat} {x1_ : Int32} {x2_ : Int32} {x3_ : Int32} {x4_ : Int32} {x5_ : Int32} {r : Int64 × ev_m} (h : f_X9_run mF i0 x1_ x2_ x3_ x4_ x5_ = some r) : ev_CF G K_X9_run B_X9_run [vr 0 (i0), vi (x1_), vi (x2_), vi (x3_), vi (x4_), vi (x5_)] mF (some (vl (r.1))) r.2 :=
  ev_Ct_of rfl rfl (Nat.le_of_ble_eq_true rfl) (e_X9_run (R := some r) (fun x0 m0 q => by cases q; exact ⟨rfl, rfl⟩) (fun q => by cases q) h)
set_option maxRecDepth 20000 in
set_option maxHeartbeats 4000000 in
theorem e_X9_peak {G : ev_G} {Q : Option ev_V → ev_M → Prop} {R : Option (Int32 × ev_m)} {mF : ev_m} (hR : ∀ (x0 : Int32) (m0 : ev_m), (some ((x0, m0))) = R → Q (some (vi x0)) (ev_emb m0)) (hN : none ≠ R) {i0 : Nat} {x1_ : Int32} {x2_ : Int32} {x3_ : Int32} {x4_ : Int32} {x5_ : Int32} (h : f_X9_peak mF i0 x1_ x2_ x3_ x4_ x5_ = R) : ev_E G K_X9_peak B_X9_peak (0, 0) 0 [some (vr 0 (i0)), some (vi (x1_)), some (vi (x2_)), some (vi (x3_)), some (vi (x4_)), some (vi (x5_))] [] (ev_emb mF) Q := by
  unfold f_X9_peak at h
  refine ev_iload_4 (pc := 0) dX9_peak_0 ?_
  refine ev_iconst (pc := 2) (v := 1) dX9_peak_2 rfl ?_
  refine ev_icc_lt (pc := 3) (tgt := 26) dX9_peak_3 (by decide) (fun c1 => ?_) (fun c1 => ?_)
  · replace h := ev_ifp h c1
    refine ev_iconst (pc := 26) (v := (-1)) dX9_peak_26 rfl ?_
    exact ev_iret (pc := 27) dX9_peak_27 rfl rfl (hR _ _ h)
  · replace h := ev_ifn h c1
    refine ev_iload_4 (pc := 6) dX9_peak_6 ?_
    refine ev_sipush (pc := 8) (v := 400) dX9_peak_8 (by decide) ?_
    refine ev_icc_gt (pc := 11) (tgt := 26) dX9_peak_11 (by decide) (fun c2 => ?_) (fun c2 => ?_)
    · replace h := ev_ifp h c2
      refine ev_iconst (pc := 26) (v := (-1)) dX9_peak_26 rfl ?_
      exact ev_iret (pc := 27) dX9_peak_27 rfl rfl (hR _ _ h)
    · replace h := ev_ifn h c2
      refine ev_aload_0 (pc := 14) dX9_peak_14 ?_
      refine ev_iload_1 (pc := 15) dX9_peak_15 ?_
      refine ev_iload_2 (pc := 16) dX9_peak_16 ?_
      refine ev_iload_3 (pc := 17) dX9_peak_17 ?_
      refine ev_iload_4 (pc := 18) dX9_peak_18 ?_
      obtain ⟨p3, hp3, h⟩ := ev_bindE hN h
      refine cl1_X9_132 (pc := 20) rfl dX9_peak_20 (by decide) (Nat.le_of_ble_eq_true rfl) (c_X9_sailed hp3) ?_
      refine ev_ifb_ne (pc := 23) (tgt := 28) dX9_peak_23 (by decide) (fun c4 => ?_) (fun c4 => ?_)
      · replace h := ev_ifp h c4
        refine ev_aload_0 (pc := 28) dX9_peak_28 ?_
        refine gt_X9_34 (pc := 29) rfl dX9_peak_29 ?_
        refine ev_iload_5 (pc := 32) dX9_peak_32 ?_
        obtain ⟨x5, hx5, h⟩ := ev_bindE hN h
        refine cl1_X9_152 (pc := 34) rfl dX9_peak_34 (by decide) (Nat.le_of_ble_eq_true rfl) (c_X8_peakAt hx5) ?_
        exact ev_iret (pc := 37) dX9_peak_37 rfl rfl (hR _ _ h)
      · replace h := ev_ifn h c4
        refine ev_iconst (pc := 26) (v := (-1)) dX9_peak_26 rfl ?_
        exact ev_iret (pc := 27) dX9_peak_27 rfl rfl (hR _ _ h)
theorem c_X9_peak {G : ev_G} {mF : ev_m} {i0 : Nat} {x1_ : Int32} {x2_ : Int32} {x3_ : Int32} {x4_ : Int32} {x5_ : Int32} {r : Int32 × ev_m} (h : f_X9_peak mF i0 x1_ x2_ x3_ x4_ x5_ = some r) : ev_CF G K_X9_peak B_X9_peak [vr 0 (i0), vi (x1_), vi (x2_), vi (x3_), vi (x4_), vi (x5_)] mF (some (vi (r.1))) r.2 :=
  ev_Ct_of rfl rfl (Nat.le_of_ble_eq_true rfl) (e_X9_peak (R := some r) (fun x0 m0 q => by cases q; exact ⟨rfl, rfl⟩) (fun q => by cases q) h)
set_option maxRecDepth 20000 in
set_option maxHeartbeats 4000000 in
theorem e_X9_isTrial {G : ev_G} {Q : Option ev_V → ev_M → Prop} {R : Bool} {mF : ev_m} (hR : ∀ x0 : Bool, x0 = R → Q (some (vi (bi x0))) (ev_emb mF)) {x0_ : Int32} (h : s_X9_isTrial mF x0_ = R) : ev_E G K_X9_isTrial B_X9_isTrial (0, 0) 0 [some (vi (x0_))] [] (ev_emb mF) Q := by
  unfold s_X9_isTrial at h
  refine ev_iload_0 (pc := 0) dX9_isTrial_0 ?_
  refine ev_iconst (pc := 1) (v := 1) dX9_isTrial_1 rfl ?_
  refine ev_icc_lt (pc := 2) (tgt := 16) dX9_isTrial_2 (by decide) (fun c1 => ?_) (fun c1 => ?_)
  · replace h := ev_ifp h c1
    refine ev_iconst (pc := 16) (v := 0) dX9_isTrial_16 rfl ?_
    exact ev_iret (pc := 17) dX9_isTrial_17 rfl rfl (hR _ h)
  · replace h := ev_ifn h c1
    refine ev_iload_0 (pc := 5) dX9_isTrial_5 ?_
    refine ev_sipush (pc := 6) (v := 200) dX9_isTrial_6 (by decide) ?_
    refine ev_icc_gt (pc := 9) (tgt := 16) dX9_isTrial_9 (by decide) (fun c2 => ?_) (fun c2 => ?_)
    · replace h := ev_ifp h c2
      refine ev_iconst (pc := 16) (v := 0) dX9_isTrial_16 rfl ?_
      exact ev_iret (pc := 17) dX9_isTrial_17 rfl rfl (hR _ h)
    · replace h := ev_ifn h c2
      refine ev_iconst (pc := 12) (v := 1) dX9_isTrial_12 rfl ?_
      refine ev_goto (pc := 13) (tgt := 17) dX9_isTrial_13 (by decide) ?_
      exact ev_iret (pc := 17) dX9_isTrial_17 rfl rfl (hR _ h)
theorem c_X9_isTrial {G : ev_G} (mF : ev_m) (x0_ : Int32) : ev_CF G K_X9_isTrial B_X9_isTrial [vi (x0_)] mF (some (vi (bi (s_X9_isTrial mF x0_)))) mF :=
  ev_Ct_of rfl rfl (Nat.le_of_ble_eq_true rfl) (e_X9_isTrial (R := s_X9_isTrial mF x0_) (fun x0 q => ⟨by rw [← q], rfl⟩) rfl)
set_option maxRecDepth 20000 in
set_option maxHeartbeats 4000000 in
theorem e_X9_ready {G : ev_G} {Q : Option ev_V → ev_M → Prop} {R : Option (Bool × ev_m)} {mF : ev_m} (hR : ∀ (x0 : Bool) (m0 : ev_m), (some ((x0, m0))) = R → Q (some (vi (bi x0))) (ev_emb m0)) (hN : none ≠ R) {i0 : Nat} {x1_ : Int32} {x2_ : Int32} {x3_ : Int32} (h : f_X9_ready mF i0 x1_ x2_ x3_ = R) : ev_E G K_X9_ready B_X9_ready (0, 0) 0 [some (vr 0 (i0)), some (vi (x1_)), some (vi (x2_)), some (vi (x3_)), none, none] [] (ev_emb mF) Q := by
  unfold f_X9_ready at h
  refine ev_aload_0 (pc := 0) dX9_ready_0 ?_
  refine gt_X9_10 (pc := 1) rfl dX9_ready_1 ?_
  refine ev_iload_1 (pc := 4) dX9_ready_4 ?_
  obtain ⟨x1, hx1, h⟩ := ev_bindE hN h
  refine cl1_X9_86 (pc := 5) rfl dX9_ready_5 (by decide) (Nat.le_of_ble_eq_true rfl) (c_X0_shipAt hx1) ?_
  refine ev_astore_4 (pc := 8) dX9_ready_8 (by decide) rfl ?_
  refine ev_aload_0 (pc := 10) dX9_ready_10 ?_
  refine gt_X9_10 (pc := 11) rfl dX9_ready_11 ?_
  refine ev_iload_2 (pc := 14) dX9_ready_14 ?_
  obtain ⟨x2, hx2, h⟩ := ev_bindE hN h
  refine cl1_X9_95 (pc := 15) rfl dX9_ready_15 (by decide) (Nat.le_of_ble_eq_true rfl) (c_X0_handAt hx2) ?_
  refine ev_astore_5 (pc := 18) dX9_ready_18 (by decide) rfl ?_
  refine ev_aload_4 (pc := 20) dX9_ready_20 ?_
  rcases x1 with _ | j3
  · replace h := ev_onN h
    show ev_E G K_X9_ready B_X9_ready (0, 0) 22 [some (vr 0 (i0)), some (vi (x1_)), some (vi (x2_)), some (vi (x3_)), some (vn), some (vo 4 (x2))] [vn] (ev_emb mF) Q
    refine ev_ifnull_n (pc := 22) (tgt := 37) dX9_ready_22 (by decide) ?_
    refine ev_iconst (pc := 37) (v := 0) dX9_ready_37 rfl ?_
    exact ev_iret (pc := 38) dX9_ready_38 rfl rfl (hR _ _ h)
  · replace h := ev_onS h
    show ev_E G K_X9_ready B_X9_ready (0, 0) 22 [some (vr 0 (i0)), some (vi (x1_)), some (vi (x2_)), some (vi (x3_)), some (vr 3 (j3)), some (vo 4 (x2))] [vr 3 (j3)] (ev_emb mF) Q
    refine ev_ifnull_r (pc := 22) dX9_ready_22 ?_
    refine ev_aload_5 (pc := 25) dX9_ready_25 ?_
    rcases x2 with _ | j4
    · replace h := ev_onN h
      show ev_E G K_X9_ready B_X9_ready (0, 0) 27 [some (vr 0 (i0)), some (vi (x1_)), some (vi (x2_)), some (vi (x3_)), some (vr 3 (j3)), some (vn)] [vn] (ev_emb mF) Q
      refine ev_ifnull_n (pc := 27) (tgt := 37) dX9_ready_27 (by decide) ?_
      refine ev_iconst (pc := 37) (v := 0) dX9_ready_37 rfl ?_
      exact ev_iret (pc := 38) dX9_ready_38 rfl rfl (hR _ _ h)
    · replace h := ev_onS h
      show ev_E G K_X9_ready B_X9_ready (0, 0) 27 [some (vr 0 (i0)), some (vi (x1_)), some (vi (x2_)), some (vi (x3_)), some (vr 3 (j3)), some (vr 4 (j4))] [vr 4 (j4)] (ev_emb mF) Q
      refine ev_ifnull_r (pc := 27) dX9_ready_27 ?_
      refine ev_iload_3 (pc := 30) dX9_ready_30 ?_
      refine cl1_X9_177 (pc := 31) rfl dX9_ready_31 (by decide) (Nat.le_of_ble_eq_true rfl) (c_X9_isTrial mF x3_) ?_
      refine ev_ifb_ne (pc := 34) (tgt := 39) dX9_ready_34 (by decide) (fun c5 => ?_) (fun c5 => ?_)
      · replace h := ev_ifp h c5
        refine ev_aload_0 (pc := 39) dX9_ready_39 ?_
        refine gt_X9_41 (pc := 40) rfl dX9_ready_40 ?_
        refine ev_aload_4 (pc := 43) dX9_ready_43 ?_
        obtain ⟨m6, hm6, h⟩ := ev_bindE hN h
        refine cl0_X9_181 (pc := 45) rfl dX9_ready_45 (by decide) (Nat.le_of_ble_eq_true rfl) (c_X5_copy hm6) ?_
        refine ev_aload_0 (pc := 48) dX9_ready_48 ?_
        refine gt_X9_48 (pc := 49) rfl dX9_ready_49 ?_
        refine ev_aload_5 (pc := 52) dX9_ready_52 ?_
        obtain ⟨m7, hm7, h⟩ := ev_bindE hN h
        refine cl0_X9_326 (pc := 54) rfl dX9_ready_54 (by decide) (Nat.le_of_ble_eq_true rfl) (c_X1_copy hm7) ?_
        refine ev_iconst (pc := 57) (v := 1) dX9_ready_57 rfl ?_
        exact ev_iret (pc := 58) dX9_ready_58 rfl rfl (hR _ _ h)
      · replace h := ev_ifn h c5
        refine ev_iconst (pc := 37) (v := 0) dX9_ready_37 rfl ?_
        exact ev_iret (pc := 38) dX9_ready_38 rfl rfl (hR _ _ h)
theorem c_X9_ready {G : ev_G} {mF : ev_m} {i0 : Nat} {x1_ : Int32} {x2_ : Int32} {x3_ : Int32} {r : Bool × ev_m} (h : f_X9_ready mF i0 x1_ x2_ x3_ = some r) : ev_CF G K_X9_ready B_X9_ready [vr 0 (i0), vi (x1_), vi (x2_), vi (x3_)] mF (some (vi (bi (r.1)))) r.2 :=
  ev_Ct_of rfl rfl (Nat.le_of_ble_eq_true rfl) (e_X9_ready (R := some r) (fun x0 m0 q => by cases q; exact ⟨rfl, rfl⟩) (fun q => by cases q) h)
set_option maxRecDepth 20000 in
set_option maxHeartbeats 4000000 in
theorem e_X9_trialCost {G : ev_G} {Q : Option ev_V → ev_M → Prop} {R : Option (Int64 × ev_m)} {mF : ev_m} (hR : ∀ (x0 : Int64) (m0 : ev_m), (some ((x0, m0))) = R → Q (some (vl x0)) (ev_emb m0)) (hN : none ≠ R) {i0 : Nat} {x1_ : Int32} (h : f_X9_trialCost mF i0 x1_ = R) : ev_E G K_X9_trialCost B_X9_trialCost (0, 0) 0 [some (vr 0 (i0)), some (vi (x1_))] [] (ev_emb mF) Q := by
  unfold f_X9_trialCost at h
  refine ev_aload_0 (pc := 0) dX9_trialCost_0 ?_
  refine gt_X9_34 (pc := 1) rfl dX9_trialCost_1 ?_
  refine ev_aload_0 (pc := 4) dX9_trialCost_4 ?_
  refine gt_X9_41 (pc := 5) rfl dX9_trialCost_5 ?_
  refine ev_aload_0 (pc := 8) dX9_trialCost_8 ?_
  refine gt_X9_48 (pc := 9) rfl dX9_trialCost_9 ?_
  refine ev_iconst (pc := 12) (v := 0) dX9_trialCost_12 rfl ?_
  refine ev_iload_1 (pc := 13) dX9_trialCost_13 ?_
  obtain ⟨m1, hm1, h⟩ := ev_bindE hN h
  refine cl0_X9_189 (pc := 14) rfl dX9_trialCost_14 (by decide) (Nat.le_of_ble_eq_true rfl) (c_X8_sail hm1) ?_
  refine ev_aload_0 (pc := 17) dX9_trialCost_17 ?_
  refine gt_X9_34 (pc := 18) rfl dX9_trialCost_18 ?_
  obtain ⟨x2, hx2, h⟩ := ev_bindE hN h
  refine cl1_X9_259 (pc := 21) rfl dX9_trialCost_21 (by decide) (Nat.le_of_ble_eq_true rfl) (c_X8_cost hx2) ?_
  exact ev_lret (pc := 24) dX9_trialCost_24 rfl (hR _ _ h)
theorem c_X9_trialCost {G : ev_G} {mF : ev_m} {i0 : Nat} {x1_ : Int32} {r : Int64 × ev_m} (h : f_X9_trialCost mF i0 x1_ = some r) : ev_CF G K_X9_trialCost B_X9_trialCost [vr 0 (i0), vi (x1_)] mF (some (vl (r.1))) r.2 :=
  ev_Ct_of rfl rfl (Nat.le_of_ble_eq_true rfl) (e_X9_trialCost (R := some r) (fun x0 m0 q => by cases q; exact ⟨rfl, rfl⟩) (fun q => by cases q) h)
set_option maxRecDepth 20000 in
set_option maxHeartbeats 4000000 in
theorem e_jn_X9_trialApart_25 {G : ev_G} {Q : Option ev_V → ev_M → Prop} {R : Option (Int32 × ev_m)} (hR : ∀ (x0 : Int32) (m0 : ev_m), (some ((x0, m0))) = R → Q (some (vi x0)) (ev_emb m0)) (hN : none ≠ R) {m6 : ev_m} {i2 : Nat} {o3 : Option Nat} {x4 : Int32} {x5 : Int32} (h : jn_X9_trialApart_25 m6 i2 o3 x4 x5 = R) : ev_E G K_X9_trialApart B_X9_trialApart (0, 0) 25 [some (vr 0 (i2)), some (vo 5 (o3))] [vi (x4), vi (x5), vr 4 (16), vr 3 (8), vr 8 (0)] (ev_emb m6) Q := by
  unfold jn_X9_trialApart_25 at h
  obtain ⟨m7, hm7, h⟩ := ev_bindE hN h
  refine cl0_X9_189 (pc := 25) rfl dX9_trialApart_25 (by decide) (Nat.le_of_ble_eq_true rfl) (c_X8_sail hm7) ?_
  refine ev_aload_0 (pc := 28) dX9_trialApart_28 ?_
  refine gt_X9_34 (pc := 29) rfl dX9_trialApart_29 ?_
  refine ev_aload_1 (pc := 32) dX9_trialApart_32 ?_
  obtain ⟨x8, hx8, h⟩ := ev_bindE hN h
  refine cl1_X9_300 (pc := 33) rfl dX9_trialApart_33 (by decide) (Nat.le_of_ble_eq_true rfl) (c_X8_apartFrom hx8) ?_
  exact ev_iret (pc := 36) dX9_trialApart_36 rfl rfl (hR _ _ h)
set_option maxRecDepth 20000 in
set_option maxHeartbeats 4000000 in
theorem e_X9_trialApart {G : ev_G} {Q : Option ev_V → ev_M → Prop} {R : Option (Int32 × ev_m)} {mF : ev_m} (hR : ∀ (x0 : Int32) (m0 : ev_m), (some ((x0, m0))) = R → Q (some (vi x0)) (ev_emb m0)) (hN : none ≠ R) {i0 : Nat} {o1_ : Option Nat} (h : f_X9_trialApart mF i0 o1_ = R) : ev_E G K_X9_trialApart B_X9_trialApart (0, 0) 0 [some (vr 0 (i0)), some (vo 5 (o1_))] [] (ev_emb mF) Q := by
  unfold f_X9_trialApart at h
  refine ev_aload_0 (pc := 0) dX9_trialApart_0 ?_
  refine gt_X9_34 (pc := 1) rfl dX9_trialApart_1 ?_
  refine ev_aload_0 (pc := 4) dX9_trialApart_4 ?_
  refine gt_X9_41 (pc := 5) rfl dX9_trialApart_5 ?_
  refine ev_aload_0 (pc := 8) dX9_trialApart_8 ?_
  refine gt_X9_48 (pc := 9) rfl dX9_trialApart_9 ?_
  refine ev_iconst (pc := 12) (v := 0) dX9_trialApart_12 rfl ?_
  refine ev_aload_1 (pc := 13) dX9_trialApart_13 ?_
  rcases o1_ with _ | j1
  · replace h := ev_onN h
    show ev_E G K_X9_trialApart B_X9_trialApart (0, 0) 14 [some (vr 0 (i0)), some (vn)] [vn, vi (0), vr 4 (16), vr 3 (8), vr 8 (0)] (ev_emb mF) Q
    refine ev_ifnonnull_n (pc := 14) dX9_trialApart_14 ?_
    refine ev_iconst (pc := 17) (v := 0) dX9_trialApart_17 rfl ?_
    refine ev_goto (pc := 18) (tgt := 25) dX9_trialApart_18 (by decide) ?_
    exact e_jn_X9_trialApart_25 hR hN h
  · replace h := ev_onS h
    show ev_E G K_X9_trialApart B_X9_trialApart (0, 0) 14 [some (vr 0 (i0)), some (vr 5 (j1))] [vr 5 (j1), vi (0), vr 4 (16), vr 3 (8), vr 8 (0)] (ev_emb mF) Q
    refine ev_ifnonnull_r (pc := 14) (tgt := 21) dX9_trialApart_14 (by decide) ?_
    refine ev_aload_1 (pc := 21) dX9_trialApart_21 ?_
    refine gt_X9_104 (pc := 22) rfl dX9_trialApart_22 ?_
    exact e_jn_X9_trialApart_25 hR hN h
theorem c_X9_trialApart {G : ev_G} {mF : ev_m} {i0 : Nat} {o1_ : Option Nat} {r : Int32 × ev_m} (h : f_X9_trialApart mF i0 o1_ = some r) : ev_CF G K_X9_trialApart B_X9_trialApart [vr 0 (i0), vo 5 (o1_)] mF (some (vi (r.1))) r.2 :=
  ev_Ct_of rfl rfl (Nat.le_of_ble_eq_true rfl) (e_X9_trialApart (R := some r) (fun x0 m0 q => by cases q; exact ⟨rfl, rfl⟩) (fun q => by cases q) h)
set_option maxRecDepth 20000 in
set_option maxHeartbeats 4000000 in
theorem e_jn_X9_leastRule_105_60 {G : ev_G} {Q : Option ev_V → ev_M → Prop} {R : Option (Int64 × ev_m)} (hR : ∀ (x0 : Int64) (m0 : ev_m), (some ((x0, m0))) = R → Q (some (vl x0)) (ev_emb m0)) (hN : none ≠ R) {m41 : ev_m} {i19 : Nat} {o20 : Option Nat} {x21 : Int32} {x22 : Int32} {x23 : Int32} {x24 : Int32} {x36 : Int32} {x37 : Int32} {y38 : Int64} {x28 : Int32} {x39 : Int32} {y40 : Int64} {kb : Int32 → Int32 → Int64 → Int32 → ev_m → Option (Int64 × ev_m)} {kx : Int32 → Int32 → Int64 → ev_m → Option (Int64 × ev_m)}  (h : jn_X9_leastRule_105_60 m41 i19 o20 x21 x22 x23 x24 x36 x37 y38 x28 x39 y40 kb kx = R) (hkb : ∀ (x25' : Int32) (x26' : Int32) (y27' : Int64) (x29' : Int32) (m30' : ev_m), kb x25' x26' y27' x29' m30' = R → ev_E G K_X9_leastRule B_X9_leastRule (0, 0) 60 [some (vr 0 (i19)), some (vo 5 (o20)), some (vi (x21)), some (vi (x22)), some (vi (x23)), some (vi (x24)), some (vi (x25')), some (vi (x26')), some (vl (y27')), none, some (vi (x28)), some (vi (x29')), none, none] [] (ev_emb m30') Q) (hkx : ∀ (x25' : Int32) (x26' : Int32) (y27' : Int64) (m30' : ev_m), kx x25' x26' y27' m30' = R → ev_E G K_X9_leastRule B_X9_leastRule (0, 0) 133 [some (vr 0 (i19)), some (vo 5 (o20)), some (vi (x21)), some (vi (x22)), some (vi (x23)), some (vi (x24)), some (vi (x25')), some (vi (x26')), some (vl (y27')), none, some (vi (x28)), none, none, none] [] (ev_emb m30') Q) : ev_E G K_X9_leastRule B_X9_leastRule (0, 0) 105 [some (vr 0 (i19)), some (vo 5 (o20)), some (vi (x21)), some (vi (x22)), some (vi (x23)), some (vi (x24)), some (vi (x36)), some (vi (x37)), some (vl (y38)), none, some (vi (x28)), some (vi (x39)), none, none] [vl (y40)] (ev_emb m41) Q := by
  unfold jn_X9_leastRule_105_60 at h
  refine ev_lstore_12 (pc := 105) dX9_leastRule_105 (by decide) rfl ?_
  refine ev_lload_12 (pc := 107) dX9_leastRule_107 ?_
  refine ev_lload_8 (pc := 109) dX9_leastRule_109 ?_
  obtain ⟨x43, hx43, h⟩ := ev_letE h
  obtain ⟨x44, hx44, h⟩ := ev_letE h
  obtain ⟨y45, hy45, h⟩ := ev_letE h
  have hJ1 : ev_E G K_X9_leastRule B_X9_leastRule (0, 0) 127 [some (vr 0 (i19)), some (vo 5 (o20)), some (vi (x21)), some (vi (x22)), some (vi (x23)), some (vi (x24)), some (vi (x43)), some (vi (x44)), some (vl (y45)), none, some (vi (x28)), some (vi (x39)), some (vl (y40)), none] [] (ev_emb m41) Q := by
    refine ev_iinc_11 (pc := 127) (y := x39 + 1) dX9_leastRule_127 rfl (by decide) rfl ?_
    refine ev_goto (pc := 130) (tgt := 60) dX9_leastRule_130 (by decide) ?_
    refine ev_E.forget (L' := [some (vr 0 (i19)), some (vo 5 (o20)), some (vi (x21)), some (vi (x22)), some (vi (x23)), some (vi (x24)), some (vi (x43)), some (vi (x44)), some (vl (y45)), none, some (vi (x28)), some (vi (x39 + 1)), none, none]) ⟨rfl, ⟨rfl, ⟨rfl, ⟨rfl, ⟨rfl, ⟨rfl, ⟨rfl, ⟨rfl, ⟨rfl, ⟨rfl, ⟨rfl, trivial⟩⟩⟩⟩⟩⟩⟩⟩⟩⟩⟩ ?_
    exact hkb _ _ _ _ _  h
  refine ev_lcc_ge (pc := 111) (tgt := 127) dX9_leastRule_111 dX9_leastRule_112 (by decide) (fun c42 => ?_) (fun c42 => ?_)
  · replace hx43 := (hx43.trans (if_neg c42))
    replace hx44 := (hx44.trans (if_neg c42))
    replace hy45 := (hy45.trans (if_neg c42))
    subst hx43
    subst hx44
    subst hy45
    exact hJ1
  · refine ev_lload_12 (pc := 115) dX9_leastRule_115 ?_
    refine ev_lstore_8 (pc := 117) dX9_leastRule_117 (by decide) rfl ?_
    refine ev_iload_10 (pc := 119) dX9_leastRule_119 ?_
    refine ev_istore_6 (pc := 121) dX9_leastRule_121 (by decide) rfl ?_
    refine ev_iload_11 (pc := 123) dX9_leastRule_123 ?_
    refine ev_istore_7 (pc := 125) dX9_leastRule_125 (by decide) rfl ?_
    replace hx43 := (hx43.trans (if_pos c42))
    replace hx44 := (hx44.trans (if_pos c42))
    replace hy45 := (hy45.trans (if_pos c42))
    subst hx43
    subst hx44
    subst hy45
    exact hJ1
set_option maxRecDepth 20000 in
set_option maxHeartbeats 4000000 in
theorem e_lp_X9_leastRule_60 {G : ev_G} {Q : Option ev_V → ev_M → Prop} {R : Option (Int64 × ev_m)} (hR : ∀ (x0 : Int64) (m0 : ev_m), (some ((x0, m0))) = R → Q (some (vl x0)) (ev_emb m0)) (hN : none ≠ R) {i19 : Nat} {o20 : Option Nat} {x21 : Int32} {x22 : Int32} {x23 : Int32} {x24 : Int32} {x28 : Int32} : ∀ (f : Nat) (x25 : Int32) (x26 : Int32) (y27 : Int64) (x29 : Int32) (m30 : ev_m) (kx : Int32 → Int32 → Int64 → ev_m → Option (Int64 × ev_m)) (h : lp_X9_leastRule_60 i19 o20 x21 x22 x23 x24 x28 f x25 x26 y27 x29 m30 kx = R) (hk : ∀ (x25' : Int32) (x26' : Int32) (y27' : Int64) (m30' : ev_m), kx x25' x26' y27' m30' = R → ev_E G K_X9_leastRule B_X9_leastRule (0, 0) 133 [some (vr 0 (i19)), some (vo 5 (o20)), some (vi (x21)), some (vi (x22)), some (vi (x23)), some (vi (x24)), some (vi (x25')), some (vi (x26')), some (vl (y27')), none, some (vi (x28)), none, none, none] [] (ev_emb m30') Q), ev_E G K_X9_leastRule B_X9_leastRule (0, 0) 60 [some (vr 0 (i19)), some (vo 5 (o20)), some (vi (x21)), some (vi (x22)), some (vi (x23)), some (vi (x24)), some (vi (x25)), some (vi (x26)), some (vl (y27)), none, some (vi (x28)), some (vi (x29)), none, none] [] (ev_emb m30) Q := by
  intro f
  induction f with
  | zero => intro x25 x26 y27 x29 m30 kx h hk; rw [lp_X9_leastRule_60] at h; exact absurd h hN
  | succ f ih =>
    intro x25 x26 y27 x29 m30 kx h hk
    rw [lp_X9_leastRule_60] at h
    refine ev_iload_11 (pc := 60) dX9_leastRule_60 ?_
    refine ev_iload_4 (pc := 62) dX9_leastRule_62 ?_
    refine ev_icc_gt (pc := 64) (tgt := 133) dX9_leastRule_64 (by decide) (fun c31 => ?_) (fun c31 => ?_)
    · replace h := ev_ifp h c31
      refine ev_E.forget (L' := [some (vr 0 (i19)), some (vo 5 (o20)), some (vi (x21)), some (vi (x22)), some (vi (x23)), some (vi (x24)), some (vi (x25)), some (vi (x26)), some (vl (y27)), none, some (vi (x28)), none, none, none]) ⟨rfl, ⟨rfl, ⟨rfl, ⟨rfl, ⟨rfl, ⟨rfl, ⟨rfl, ⟨rfl, ⟨rfl, ⟨rfl, trivial⟩⟩⟩⟩⟩⟩⟩⟩⟩⟩ ?_
      exact hk _ _ _ _  h
    · replace h := ev_ifn h c31
      refine ev_aload_0 (pc := 67) dX9_leastRule_67 ?_
      refine gt_X9_48 (pc := 68) rfl dX9_leastRule_68 ?_
      refine ev_iconst (pc := 71) (v := 0) dX9_leastRule_71 rfl ?_
      refine ev_iload_10 (pc := 72) dX9_leastRule_72 ?_
      obtain ⟨m32, hm32, h⟩ := ev_letE h
      refine cl0_X9_329 (pc := 74) (fr := 0) (lo := 0) (m' := m32) rfl dX9_leastRule_74 (by decide) (Nat.le_of_ble_eq_true rfl) (by rw [hm32]; exact c_X1_write m30 16 0 x28) ?_
      refine ev_aload_0 (pc := 77) dX9_leastRule_77 ?_
      refine gt_X9_48 (pc := 78) rfl dX9_leastRule_78 ?_
      refine ev_iconst (pc := 81) (v := 1) dX9_leastRule_81 rfl ?_
      refine ev_iload_11 (pc := 82) dX9_leastRule_82 ?_
      obtain ⟨m33, hm33, h⟩ := ev_letE h
      refine cl0_X9_329 (pc := 84) (fr := 0) (lo := 0) (m' := m33) rfl dX9_leastRule_84 (by decide) (Nat.le_of_ble_eq_true rfl) (by rw [hm33]; exact c_X1_write m32 16 1 x29) ?_
      refine ev_aload_1 (pc := 87) dX9_leastRule_87 ?_
      rcases o20 with _ | j34
      · replace h := ev_onN h
        show ev_E G K_X9_leastRule B_X9_leastRule (0, 0) 88 [some (vr 0 (i19)), some (vn), some (vi (x21)), some (vi (x22)), some (vi (x23)), some (vi (x24)), some (vi (x25)), some (vi (x26)), some (vl (y27)), none, some (vi (x28)), some (vi (x29)), none, none] [vn] (ev_emb m33) Q
        refine ev_ifnonnull_n (pc := 88) dX9_leastRule_88 ?_
        refine ev_aload_0 (pc := 91) dX9_leastRule_91 ?_
        refine ev_iload_2 (pc := 92) dX9_leastRule_92 ?_
        obtain ⟨p35, hp35, h⟩ := ev_bindE hN h
        refine cl1_X9_216 (pc := 93) rfl dX9_leastRule_93 (by decide) (Nat.le_of_ble_eq_true rfl) (c_X9_trialCost hp35) ?_
        refine ev_goto (pc := 96) (tgt := 105) dX9_leastRule_96 (by decide) ?_
        exact e_jn_X9_leastRule_105_60 hR hN h (fun _ _ _ _ _ h => ih _ _ _ _ _ kx h hk) hk
      · replace h := ev_onS h
        show ev_E G K_X9_leastRule B_X9_leastRule (0, 0) 88 [some (vr 0 (i19)), some (vr 5 (j34)), some (vi (x21)), some (vi (x22)), some (vi (x23)), some (vi (x24)), some (vi (x25)), some (vi (x26)), some (vl (y27)), none, some (vi (x28)), some (vi (x29)), none, none] [vr 5 (j34)] (ev_emb m33) Q
        refine ev_ifnonnull_r (pc := 88) (tgt := 99) dX9_leastRule_88 (by decide) ?_
        refine ev_aload_0 (pc := 99) dX9_leastRule_99 ?_
        refine ev_aload_1 (pc := 100) dX9_leastRule_100 ?_
        obtain ⟨p46, hp46, h⟩ := ev_bindE hN h
        refine cl1_X9_304 (pc := 101) rfl dX9_leastRule_101 (by decide) (Nat.le_of_ble_eq_true rfl) (c_X9_trialApart hp46) ?_
        refine ev_i2l (pc := 104) dX9_leastRule_104 ?_
        exact e_jn_X9_leastRule_105_60 hR hN h (fun _ _ _ _ _ h => ih _ _ _ _ _ kx h hk) hk
set_option maxRecDepth 20000 in
set_option maxHeartbeats 4000000 in
theorem e_lp_X9_leastRule_51 {G : ev_G} {Q : Option ev_V → ev_M → Prop} {R : Option (Int64 × ev_m)} (hR : ∀ (x0 : Int64) (m0 : ev_m), (some ((x0, m0))) = R → Q (some (vl x0)) (ev_emb m0)) (hN : none ≠ R) {i7 : Nat} {o8 : Option Nat} {x9 : Int32} {x10 : Int32} {x11 : Int32} {x12 : Int32} : ∀ (f : Nat) (x13 : Int32) (x14 : Int32) (y15 : Int64) (x16 : Int32) (m17 : ev_m) (kx : Int32 → Int32 → Int64 → ev_m → Option (Int64 × ev_m)) (h : lp_X9_leastRule_51 i7 o8 x9 x10 x11 x12 f x13 x14 y15 x16 m17 kx = R) (hk : ∀ (x13' : Int32) (x14' : Int32) (y15' : Int64) (m17' : ev_m), kx x13' x14' y15' m17' = R → ev_E G K_X9_leastRule B_X9_leastRule (0, 0) 139 [none, none, none, none, none, some (vi (x12)), some (vi (x13')), some (vi (x14')), some (vl (y15')), none, none, none, none, none] [] (ev_emb m17') Q), ev_E G K_X9_leastRule B_X9_leastRule (0, 0) 51 [some (vr 0 (i7)), some (vo 5 (o8)), some (vi (x9)), some (vi (x10)), some (vi (x11)), some (vi (x12)), some (vi (x13)), some (vi (x14)), some (vl (y15)), none, some (vi (x16)), none, none, none] [] (ev_emb m17) Q := by
  intro f
  induction f with
  | zero => intro x13 x14 y15 x16 m17 kx h hk; rw [lp_X9_leastRule_51] at h; exact absurd h hN
  | succ f ih =>
    intro x13 x14 y15 x16 m17 kx h hk
    rw [lp_X9_leastRule_51] at h
    refine ev_iload_10 (pc := 51) dX9_leastRule_51 ?_
    refine ev_iload_3 (pc := 53) dX9_leastRule_53 ?_
    refine ev_icc_gt (pc := 54) (tgt := 139) dX9_leastRule_54 (by decide) (fun c18 => ?_) (fun c18 => ?_)
    · replace h := ev_ifp h c18
      refine ev_E.forget (L' := [none, none, none, none, none, some (vi (x12)), some (vi (x13)), some (vi (x14)), some (vl (y15)), none, none, none, none, none]) ⟨rfl, ⟨rfl, ⟨rfl, ⟨rfl, trivial⟩⟩⟩⟩ ?_
      exact hk _ _ _ _  h
    · replace h := ev_ifn h c18
      refine ev_iconst (pc := 57) (v := 0) dX9_leastRule_57 rfl ?_
      refine ev_istore_11 (pc := 58) dX9_leastRule_58 (by decide) rfl ?_
      refine e_lp_X9_leastRule_60 hR hN 4000 _ _ _ _ _ _ h (fun x47 x48 y49 m50 h => ?_)
      refine ev_iinc_10 (pc := 133) (y := x16 + 1) dX9_leastRule_133 rfl (by decide) rfl ?_
      refine ev_goto (pc := 136) (tgt := 51) dX9_leastRule_136 (by decide) ?_
      exact ih _ _ _ _ _ kx h hk
set_option maxRecDepth 20000 in
set_option maxHeartbeats 4000000 in
theorem e_X9_leastRule {G : ev_G} {Q : Option ev_V → ev_M → Prop} {R : Option (Int64 × ev_m)} {mF : ev_m} (hR : ∀ (x0 : Int64) (m0 : ev_m), (some ((x0, m0))) = R → Q (some (vl x0)) (ev_emb m0)) (hN : none ≠ R) {i0 : Nat} {o1_ : Option Nat} {x2_ : Int32} {x3_ : Int32} {x4_ : Int32} {x5_ : Int32} (h : f_X9_leastRule mF i0 o1_ x2_ x3_ x4_ x5_ = R) : ev_E G K_X9_leastRule B_X9_leastRule (0, 0) 0 [some (vr 0 (i0)), some (vo 5 (o1_)), some (vi (x2_)), some (vi (x3_)), some (vi (x4_)), some (vi (x5_)), none, none, none, none, none, none, none, none] [] (ev_emb mF) Q := by
  unfold f_X9_leastRule at h
  refine ev_iload_3 (pc := 0) dX9_leastRule_0 ?_
  refine ev_ifc_lt (pc := 1) (tgt := 33) dX9_leastRule_1 (by decide) (fun c1 => ?_) (fun c1 => ?_)
  · replace h := ev_ifp h c1
    refine ev_ldc2 (pc := 33) (v := (-1)) kl_X9_159 dX9_leastRule_33 ?_
    exact ev_lret (pc := 36) dX9_leastRule_36 rfl (hR _ _ h)
  · replace h := ev_ifn h c1
    refine ev_iload_3 (pc := 4) dX9_leastRule_4 ?_
    refine ev_bipush (pc := 5) (v := 20) dX9_leastRule_5 (by decide) ?_
    refine ev_icc_gt (pc := 7) (tgt := 33) dX9_leastRule_7 (by decide) (fun c2 => ?_) (fun c2 => ?_)
    · replace h := ev_ifp h c2
      refine ev_ldc2 (pc := 33) (v := (-1)) kl_X9_159 dX9_leastRule_33 ?_
      exact ev_lret (pc := 36) dX9_leastRule_36 rfl (hR _ _ h)
    · replace h := ev_ifn h c2
      refine ev_iload_4 (pc := 10) dX9_leastRule_10 ?_
      refine ev_ifc_lt (pc := 12) (tgt := 33) dX9_leastRule_12 (by decide) (fun c3 => ?_) (fun c3 => ?_)
      · replace h := ev_ifp h c3
        refine ev_ldc2 (pc := 33) (v := (-1)) kl_X9_159 dX9_leastRule_33 ?_
        exact ev_lret (pc := 36) dX9_leastRule_36 rfl (hR _ _ h)
      · replace h := ev_ifn h c3
        refine ev_iload_4 (pc := 15) dX9_leastRule_15 ?_
        refine ev_bipush (pc := 17) (v := 20) dX9_leastRule_17 (by decide) ?_
        refine ev_icc_gt (pc := 19) (tgt := 33) dX9_leastRule_19 (by decide) (fun c4 => ?_) (fun c4 => ?_)
        · replace h := ev_ifp h c4
          refine ev_ldc2 (pc := 33) (v := (-1)) kl_X9_159 dX9_leastRule_33 ?_
          exact ev_lret (pc := 36) dX9_leastRule_36 rfl (hR _ _ h)
        · replace h := ev_ifn h c4
          refine ev_iload_5 (pc := 22) dX9_leastRule_22 ?_
          refine ev_ifc_lt (pc := 24) (tgt := 33) dX9_leastRule_24 (by decide) (fun c5 => ?_) (fun c5 => ?_)
          · replace h := ev_ifp h c5
            refine ev_ldc2 (pc := 33) (v := (-1)) kl_X9_159 dX9_leastRule_33 ?_
            exact ev_lret (pc := 36) dX9_leastRule_36 rfl (hR _ _ h)
          · replace h := ev_ifn h c5
            refine ev_iload_5 (pc := 27) dX9_leastRule_27 ?_
            refine ev_iconst (pc := 29) (v := 2) dX9_leastRule_29 rfl ?_
            refine ev_icc_le (pc := 30) (tgt := 37) dX9_leastRule_30 (by decide) (fun c6 => ?_) (fun c6 => ?_)
            · replace h := ev_ifn h c6
              refine ev_iconst (pc := 37) (v := 0) dX9_leastRule_37 rfl ?_
              refine ev_istore_6 (pc := 38) dX9_leastRule_38 (by decide) rfl ?_
              refine ev_iconst (pc := 40) (v := 0) dX9_leastRule_40 rfl ?_
              refine ev_istore_7 (pc := 41) dX9_leastRule_41 (by decide) rfl ?_
              refine ev_ldc2 (pc := 43) (v := 9223372036854775807) kl_X9_165 dX9_leastRule_43 ?_
              refine ev_lstore_8 (pc := 46) dX9_leastRule_46 (by decide) rfl ?_
              refine ev_iconst (pc := 48) (v := 0) dX9_leastRule_48 rfl ?_
              refine ev_istore_10 (pc := 49) dX9_leastRule_49 (by decide) rfl ?_
              refine e_lp_X9_leastRule_51 hR hN 4000 _ _ _ _ _ _ h (fun x51 x52 y53 m54 h => ?_)
              refine ev_iload_5 (pc := 139) dX9_leastRule_139 ?_
              refine ev_ifc_ne (pc := 141) (tgt := 150) dX9_leastRule_141 (by decide) (fun c55 => ?_) (fun c55 => ?_)
              · replace h := ev_ifn h c55
                refine ev_iload_5 (pc := 150) dX9_leastRule_150 ?_
                refine ev_iconst (pc := 152) (v := 1) dX9_leastRule_152 rfl ?_
                refine ev_icc_ne (pc := 153) (tgt := 162) dX9_leastRule_153 (by decide) (fun c56 => ?_) (fun c56 => ?_)
                · replace h := ev_ifn h c56
                  refine ev_lload_8 (pc := 162) dX9_leastRule_162 ?_
                  exact ev_lret (pc := 164) dX9_leastRule_164 rfl (hR _ _ h)
                · replace h := ev_ifp h c56
                  refine ev_iload_7 (pc := 156) dX9_leastRule_156 ?_
                  refine ev_i2l (pc := 158) dX9_leastRule_158 ?_
                  refine ev_goto (pc := 159) (tgt := 164) dX9_leastRule_159 (by decide) ?_
                  exact ev_lret (pc := 164) dX9_leastRule_164 rfl (hR _ _ h)
              · replace h := ev_ifp h c55
                refine ev_iload_6 (pc := 144) dX9_leastRule_144 ?_
                refine ev_i2l (pc := 146) dX9_leastRule_146 ?_
                refine ev_goto (pc := 147) (tgt := 164) dX9_leastRule_147 (by decide) ?_
                exact ev_lret (pc := 164) dX9_leastRule_164 rfl (hR _ _ h)
            · replace h := ev_ifp h c6
              refine ev_ldc2 (pc := 33) (v := (-1)) kl_X9_159 dX9_leastRule_33 ?_
              exact ev_lret (pc := 36) dX9_leastRule_36 rfl (hR _ _ h)
theorem c_X9_leastRule {G : ev_G} {mF : ev_m} {i0 : Nat} {o1_ : Option Nat} {x2_ : Int32} {x3_ : Int32} {x4_ : Int32} {x5_ : Int32} {r : Int64 × ev_m} (h : f_X9_leastRule mF i0 o1_ x2_ x3_ x4_ x5_ = some r) : ev_CF G K_X9_leastRule B_X9_leastRule [vr 0 (i0), vo 5 (o1_), vi (x2_), vi (x3_), vi (x4_), vi (x5_)] mF (some (vl (r.1))) r.2 :=
  ev_Ct_of rfl rfl (Nat.le_of_ble_eq_true rfl) (e_X9_leastRule (R := some r) (fun x0 m0 q => by cases q; exact ⟨rfl, rfl⟩) (fun q => by cases q) h)
set_option maxRecDepth 20000 in
set_option maxHeartbeats 4000000 in
theorem e_X9_found {G : ev_G} {Q : Option ev_V → ev_M → Prop} {R : Option (Int64 × ev_m)} {mF : ev_m} (hR : ∀ (x0 : Int64) (m0 : ev_m), (some ((x0, m0))) = R → Q (some (vl x0)) (ev_emb m0)) (hN : none ≠ R) {i0 : Nat} {x1_ : Int32} {x2_ : Int32} {x3_ : Int32} {x4_ : Int32} {x5_ : Int32} {x6_ : Int32} (h : f_X9_found mF i0 x1_ x2_ x3_ x4_ x5_ x6_ = R) : ev_E G K_X9_found B_X9_found (0, 0) 0 [some (vr 0 (i0)), some (vi (x1_)), some (vi (x2_)), some (vi (x3_)), some (vi (x4_)), some (vi (x5_)), some (vi (x6_))] [] (ev_emb mF) Q := by
  unfold f_X9_found at h
  refine ev_aload_0 (pc := 0) dX9_found_0 ?_
  refine ev_iload_1 (pc := 1) dX9_found_1 ?_
  refine ev_iload_2 (pc := 2) dX9_found_2 ?_
  refine ev_iload_3 (pc := 3) dX9_found_3 ?_
  obtain ⟨p1, hp1, h⟩ := ev_bindE hN h
  refine cl1_X9_155 (pc := 4) rfl dX9_found_4 (by decide) (Nat.le_of_ble_eq_true rfl) (c_X9_ready hp1) ?_
  refine ev_ifb_ne (pc := 7) (tgt := 14) dX9_found_7 (by decide) (fun c2 => ?_) (fun c2 => ?_)
  · replace h := ev_ifp h c2
    refine ev_aload_0 (pc := 14) dX9_found_14 ?_
    refine ev_null (pc := 15) dX9_found_15 ?_
    refine ev_iload_3 (pc := 16) dX9_found_16 ?_
    refine ev_iload_4 (pc := 17) dX9_found_17 ?_
    refine ev_iload_5 (pc := 19) dX9_found_19 ?_
    refine ev_iload_6 (pc := 21) dX9_found_21 ?_
    obtain ⟨p3, hp3, h⟩ := ev_bindE hN h
    refine cl1_X9_161 (pc := 23) rfl dX9_found_23 (by decide) (Nat.le_of_ble_eq_true rfl) (c_X9_leastRule hp3) ?_
    exact ev_lret (pc := 26) dX9_found_26 rfl (hR _ _ h)
  · replace h := ev_ifn h c2
    refine ev_ldc2 (pc := 10) (v := (-1)) kl_X9_159 dX9_found_10 ?_
    exact ev_lret (pc := 13) dX9_found_13 rfl (hR _ _ h)
theorem c_X9_found {G : ev_G} {mF : ev_m} {i0 : Nat} {x1_ : Int32} {x2_ : Int32} {x3_ : Int32} {x4_ : Int32} {x5_ : Int32} {x6_ : Int32} {r : Int64 × ev_m} (h : f_X9_found mF i0 x1_ x2_ x3_ x4_ x5_ x6_ = some r) : ev_CF G K_X9_found B_X9_found [vr 0 (i0), vi (x1_), vi (x2_), vi (x3_), vi (x4_), vi (x5_), vi (x6_)] mF (some (vl (r.1))) r.2 :=
  ev_Ct_of rfl rfl (Nat.le_of_ble_eq_true rfl) (e_X9_found (R := some r) (fun x0 m0 q => by cases q; exact ⟨rfl, rfl⟩) (fun q => by cases q) h)
set_option maxRecDepth 20000 in
set_option maxHeartbeats 4000000 in
theorem e_X9_costWith {G : ev_G} {Q : Option ev_V → ev_M → Prop} {R : Option (Int64 × ev_m)} {mF : ev_m} (hR : ∀ (x0 : Int64) (m0 : ev_m), (some ((x0, m0))) = R → Q (some (vl x0)) (ev_emb m0)) (hN : none ≠ R) {i0 : Nat} {x1_ : Int32} {x2_ : Int32} {x3_ : Int32} (h : f_X9_costWith mF i0 x1_ x2_ x3_ = R) : ev_E G K_X9_costWith B_X9_costWith (0, 0) 0 [some (vr 0 (i0)), some (vi (x1_)), some (vi (x2_)), some (vi (x3_))] [] (ev_emb mF) Q := by
  unfold f_X9_costWith at h
  refine ev_aload_0 (pc := 0) dX9_costWith_0 ?_
  refine gt_X9_48 (pc := 1) rfl dX9_costWith_1 ?_
  refine ev_iload_1 (pc := 4) dX9_costWith_4 ?_
  refine ev_iload_2 (pc := 5) dX9_costWith_5 ?_
  obtain ⟨m1, hm1, h⟩ := ev_letE h
  refine cl0_X9_329 (pc := 6) (fr := 0) (lo := 0) (m' := m1) rfl dX9_costWith_6 (by decide) (Nat.le_of_ble_eq_true rfl) (by rw [hm1]; exact c_X1_write mF 16 x1_ x2_) ?_
  refine ev_aload_0 (pc := 9) dX9_costWith_9 ?_
  refine gt_X9_34 (pc := 10) rfl dX9_costWith_10 ?_
  refine ev_aload_0 (pc := 13) dX9_costWith_13 ?_
  refine gt_X9_41 (pc := 14) rfl dX9_costWith_14 ?_
  refine ev_aload_0 (pc := 17) dX9_costWith_17 ?_
  refine gt_X9_48 (pc := 18) rfl dX9_costWith_18 ?_
  refine ev_iconst (pc := 21) (v := 0) dX9_costWith_21 rfl ?_
  refine ev_iload_3 (pc := 22) dX9_costWith_22 ?_
  obtain ⟨m2, hm2, h⟩ := ev_bindE hN h
  refine cl0_X9_189 (pc := 23) rfl dX9_costWith_23 (by decide) (Nat.le_of_ble_eq_true rfl) (c_X8_sail hm2) ?_
  refine ev_aload_0 (pc := 26) dX9_costWith_26 ?_
  refine gt_X9_34 (pc := 27) rfl dX9_costWith_27 ?_
  obtain ⟨x3, hx3, h⟩ := ev_bindE hN h
  refine cl1_X9_259 (pc := 30) rfl dX9_costWith_30 (by decide) (Nat.le_of_ble_eq_true rfl) (c_X8_cost hx3) ?_
  exact ev_lret (pc := 33) dX9_costWith_33 rfl (hR _ _ h)
theorem c_X9_costWith {G : ev_G} {mF : ev_m} {i0 : Nat} {x1_ : Int32} {x2_ : Int32} {x3_ : Int32} {r : Int64 × ev_m} (h : f_X9_costWith mF i0 x1_ x2_ x3_ = some r) : ev_CF G K_X9_costWith B_X9_costWith [vr 0 (i0), vi (x1_), vi (x2_), vi (x3_)] mF (some (vl (r.1))) r.2 :=
  ev_Ct_of rfl rfl (Nat.le_of_ble_eq_true rfl) (e_X9_costWith (R := some r) (fun x0 m0 q => by cases q; exact ⟨rfl, rfl⟩) (fun q => by cases q) h)
set_option maxRecDepth 20000 in
set_option maxHeartbeats 4000000 in
theorem e_lp_X9_iron_25 {G : ev_G} {Q : Option ev_V → ev_M → Prop} {R : Option (Int64 × ev_m)} (hR : ∀ (x0 : Int64) (m0 : ev_m), (some ((x0, m0))) = R → Q (some (vl x0)) (ev_emb m0)) (hN : none ≠ R) {i3 : Nat} {x4 : Int32} {x5 : Int32} : ∀ (f : Nat) (x6 : Int32) (y7 : Int64) (x8 : Int32) (m9 : ev_m) (kx : Int32 → Int64 → ev_m → Option (Int64 × ev_m)) (h : lp_X9_iron_25 i3 x4 x5 f x6 y7 x8 m9 kx = R) (hk : ∀ (x6' : Int32) (y7' : Int64) (m9' : ev_m), kx x6' y7' m9' = R → ev_E G K_X9_iron B_X9_iron (0, 0) 64 [none, none, none, none, some (vi (x5)), some (vi (x6')), some (vl (y7')), none, none, none, none] [] (ev_emb m9') Q), ev_E G K_X9_iron B_X9_iron (0, 0) 25 [some (vr 0 (i3)), none, none, some (vi (x4)), some (vi (x5)), some (vi (x6)), some (vl (y7)), none, some (vi (x8)), none, none] [] (ev_emb m9) Q := by
  intro f
  induction f with
  | zero => intro x6 y7 x8 m9 kx h hk; rw [lp_X9_iron_25] at h; exact absurd h hN
  | succ f ih =>
    intro x6 y7 x8 m9 kx h hk
    rw [lp_X9_iron_25] at h
    refine ev_iload_8 (pc := 25) dX9_iron_25 ?_
    refine ev_bipush (pc := 27) (v := 20) dX9_iron_27 (by decide) ?_
    refine ev_icc_gt (pc := 29) (tgt := 64) dX9_iron_29 (by decide) (fun c10 => ?_) (fun c10 => ?_)
    · replace h := ev_ifp h c10
      refine ev_E.forget (L' := [none, none, none, none, some (vi (x5)), some (vi (x6)), some (vl (y7)), none, none, none, none]) ⟨rfl, ⟨rfl, ⟨rfl, trivial⟩⟩⟩ ?_
      exact hk _ _ _  h
    · replace h := ev_ifn h c10
      refine ev_aload_0 (pc := 32) dX9_iron_32 ?_
      refine ev_iconst (pc := 33) (v := 2) dX9_iron_33 rfl ?_
      refine ev_iload_8 (pc := 34) dX9_iron_34 ?_
      refine ev_iload_3 (pc := 36) dX9_iron_36 ?_
      obtain ⟨p11, hp11, h⟩ := ev_bindE hN h
      refine cl1_X9_167 (pc := 37) rfl dX9_iron_37 (by decide) (Nat.le_of_ble_eq_true rfl) (c_X9_costWith hp11) ?_
      obtain ⟨y12, hy12, h⟩ := ev_letE h
      refine ev_topl (pc := 40) hy12 ?_
      refine ev_lstore_9 (pc := 40) dX9_iron_40 (by decide) rfl ?_
      refine ev_lload_9 (pc := 42) dX9_iron_42 ?_
      refine ev_lload_6 (pc := 44) dX9_iron_44 ?_
      obtain ⟨x14, hx14, h⟩ := ev_letE h
      obtain ⟨y15, hy15, h⟩ := ev_letE h
      have hJ1 : ev_E G K_X9_iron B_X9_iron (0, 0) 58 [some (vr 0 (i3)), none, none, some (vi (x4)), some (vi (x5)), some (vi (x14)), some (vl (y15)), none, some (vi (x8)), some (vl (y12)), none] [] (ev_emb p11.2) Q := by
        refine ev_iinc_8 (pc := 58) (y := x8 + 1) dX9_iron_58 rfl (by decide) rfl ?_
        refine ev_goto (pc := 61) (tgt := 25) dX9_iron_61 (by decide) ?_
        refine ev_E.forget (L' := [some (vr 0 (i3)), none, none, some (vi (x4)), some (vi (x5)), some (vi (x14)), some (vl (y15)), none, some (vi (x8 + 1)), none, none]) ⟨rfl, ⟨rfl, ⟨rfl, ⟨rfl, ⟨rfl, ⟨rfl, trivial⟩⟩⟩⟩⟩⟩ ?_
        exact ih _ _ _ _ kx h hk
      refine ev_lcc_ge (pc := 46) (tgt := 58) dX9_iron_46 dX9_iron_47 (by decide) (fun c13 => ?_) (fun c13 => ?_)
      · replace hx14 := (hx14.trans (if_neg c13))
        replace hy15 := (hy15.trans (if_neg c13))
        subst hx14
        subst hy15
        exact hJ1
      · refine ev_lload_9 (pc := 50) dX9_iron_50 ?_
        refine ev_lstore_6 (pc := 52) dX9_iron_52 (by decide) rfl ?_
        refine ev_iload_8 (pc := 54) dX9_iron_54 ?_
        refine ev_istore_5 (pc := 56) dX9_iron_56 (by decide) rfl ?_
        replace hx14 := (hx14.trans (if_pos c13))
        replace hy15 := (hy15.trans (if_pos c13))
        subst hx14
        subst hy15
        exact hJ1
set_option maxRecDepth 20000 in
set_option maxHeartbeats 4000000 in
theorem e_X9_iron {G : ev_G} {Q : Option ev_V → ev_M → Prop} {R : Option (Int64 × ev_m)} {mF : ev_m} (hR : ∀ (x0 : Int64) (m0 : ev_m), (some ((x0, m0))) = R → Q (some (vl x0)) (ev_emb m0)) (hN : none ≠ R) {i0 : Nat} {x1_ : Int32} {x2_ : Int32} {x3_ : Int32} {x4_ : Int32} (h : f_X9_iron mF i0 x1_ x2_ x3_ x4_ = R) : ev_E G K_X9_iron B_X9_iron (0, 0) 0 [some (vr 0 (i0)), some (vi (x1_)), some (vi (x2_)), some (vi (x3_)), some (vi (x4_)), none, none, none, none, none, none] [] (ev_emb mF) Q := by
  unfold f_X9_iron at h
  refine ev_aload_0 (pc := 0) dX9_iron_0 ?_
  refine ev_iload_1 (pc := 1) dX9_iron_1 ?_
  refine ev_iload_2 (pc := 2) dX9_iron_2 ?_
  refine ev_iload_3 (pc := 3) dX9_iron_3 ?_
  obtain ⟨p1, hp1, h⟩ := ev_bindE hN h
  refine cl1_X9_155 (pc := 4) rfl dX9_iron_4 (by decide) (Nat.le_of_ble_eq_true rfl) (c_X9_ready hp1) ?_
  refine ev_ifb_ne (pc := 7) (tgt := 14) dX9_iron_7 (by decide) (fun c2 => ?_) (fun c2 => ?_)
  · replace h := ev_ifp h c2
    refine ev_iconst (pc := 14) (v := (-1)) dX9_iron_14 rfl ?_
    refine ev_istore_5 (pc := 15) dX9_iron_15 (by decide) rfl ?_
    refine ev_ldc2 (pc := 17) (v := 9223372036854775807) kl_X9_165 dX9_iron_17 ?_
    refine ev_lstore_6 (pc := 20) dX9_iron_20 (by decide) rfl ?_
    refine ev_iconst (pc := 22) (v := 0) dX9_iron_22 rfl ?_
    refine ev_istore_8 (pc := 23) dX9_iron_23 (by decide) rfl ?_
    refine ev_E.forget (L' := [some (vr 0 (i0)), none, none, some (vi (x3_)), some (vi (x4_)), some (vi ((-1))), some (vl (9223372036854775807)), none, some (vi (0)), none, none]) ⟨rfl, ⟨rfl, ⟨rfl, ⟨rfl, ⟨rfl, ⟨rfl, trivial⟩⟩⟩⟩⟩⟩ ?_
    refine e_lp_X9_iron_25 hR hN 4000 _ _ _ _ _ h (fun x16 y17 m18 h => ?_)
    refine ev_iload_4 (pc := 64) dX9_iron_64 ?_
    refine ev_ifc_eq (pc := 66) (tgt := 74) dX9_iron_66 (by decide) (fun c19 => ?_) (fun c19 => ?_)
    · replace h := ev_ifp h c19
      refine ev_iload_5 (pc := 74) dX9_iron_74 ?_
      refine ev_i2l (pc := 76) dX9_iron_76 ?_
      exact ev_lret (pc := 77) dX9_iron_77 rfl (hR _ _ h)
    · replace h := ev_ifn h c19
      refine ev_lload_6 (pc := 69) dX9_iron_69 ?_
      refine ev_goto (pc := 71) (tgt := 77) dX9_iron_71 (by decide) ?_
      exact ev_lret (pc := 77) dX9_iron_77 rfl (hR _ _ h)
  · replace h := ev_ifn h c2
    refine ev_ldc2 (pc := 10) (v := (-1)) kl_X9_159 dX9_iron_10 ?_
    exact ev_lret (pc := 13) dX9_iron_13 rfl (hR _ _ h)
theorem c_X9_iron {G : ev_G} {mF : ev_m} {i0 : Nat} {x1_ : Int32} {x2_ : Int32} {x3_ : Int32} {x4_ : Int32} {r : Int64 × ev_m} (h : f_X9_iron mF i0 x1_ x2_ x3_ x4_ = some r) : ev_CF G K_X9_iron B_X9_iron [vr 0 (i0), vi (x1_), vi (x2_), vi (x3_), vi (x4_)] mF (some (vl (r.1))) r.2 :=
  ev_Ct_of rfl rfl (Nat.le_of_ble_eq_true rfl) (e_X9_iron (R := some r) (fun x0 m0 q => by cases q; exact ⟨rfl, rfl⟩) (fun q => by cases q) h)
set_option maxRecDepth 20000 in
set_option maxHeartbeats 4000000 in
theorem e_X9_lagged {G : ev_G} {Q : Option ev_V → ev_M → Prop} {R : Option (Bool × ev_m)} {mF : ev_m} (hR : ∀ (x0 : Bool) (m0 : ev_m), (some ((x0, m0))) = R → Q (some (vi (bi x0))) (ev_emb m0)) (hN : none ≠ R) {i0 : Nat} {x1_ : Int32} {x2_ : Int32} {x3_ : Int32} {x4_ : Int32} (h : f_X9_lagged mF i0 x1_ x2_ x3_ x4_ = R) : ev_E G K_X9_lagged B_X9_lagged (0, 0) 0 [some (vr 0 (i0)), some (vi (x1_)), some (vi (x2_)), some (vi (x3_)), some (vi (x4_))] [] (ev_emb mF) Q := by
  unfold f_X9_lagged at h
  refine ev_iload_4 (pc := 0) dX9_lagged_0 ?_
  refine ev_ifc_lt (pc := 2) (tgt := 22) dX9_lagged_2 (by decide) (fun c1 => ?_) (fun c1 => ?_)
  · replace h := ev_ifp h c1
    refine ev_iconst (pc := 22) (v := 0) dX9_lagged_22 rfl ?_
    exact ev_iret (pc := 23) dX9_lagged_23 rfl rfl (hR _ _ h)
  · replace h := ev_ifn h c1
    refine ev_iload_4 (pc := 5) dX9_lagged_5 ?_
    refine ev_bipush (pc := 7) (v := 9) dX9_lagged_7 (by decide) ?_
    refine ev_icc_gt (pc := 9) (tgt := 22) dX9_lagged_9 (by decide) (fun c2 => ?_) (fun c2 => ?_)
    · replace h := ev_ifp h c2
      refine ev_iconst (pc := 22) (v := 0) dX9_lagged_22 rfl ?_
      exact ev_iret (pc := 23) dX9_lagged_23 rfl rfl (hR _ _ h)
    · replace h := ev_ifn h c2
      refine ev_aload_0 (pc := 12) dX9_lagged_12 ?_
      refine ev_iload_1 (pc := 13) dX9_lagged_13 ?_
      refine ev_iload_2 (pc := 14) dX9_lagged_14 ?_
      refine ev_iload_3 (pc := 15) dX9_lagged_15 ?_
      obtain ⟨p3, hp3, h⟩ := ev_bindE hN h
      refine cl1_X9_155 (pc := 16) rfl dX9_lagged_16 (by decide) (Nat.le_of_ble_eq_true rfl) (c_X9_ready hp3) ?_
      refine ev_ifb_ne (pc := 19) (tgt := 24) dX9_lagged_19 (by decide) (fun c4 => ?_) (fun c4 => ?_)
      · replace h := ev_ifp h c4
        refine ev_aload_0 (pc := 24) dX9_lagged_24 ?_
        refine gt_X9_41 (pc := 25) rfl dX9_lagged_25 ?_
        refine ev_iconst (pc := 28) (v := 2) dX9_lagged_28 rfl ?_
        refine ev_iload_4 (pc := 29) dX9_lagged_29 ?_
        obtain ⟨m5, hm5, h⟩ := ev_letE h
        refine cl0_X9_185 (pc := 31) (fr := 0) (lo := 0) (m' := m5) rfl dX9_lagged_31 (by decide) (Nat.le_of_ble_eq_true rfl) (by rw [hm5]; exact c_X5_write p3.2 8 2 x4_) ?_
        refine ev_iconst (pc := 34) (v := 1) dX9_lagged_34 rfl ?_
        exact ev_iret (pc := 35) dX9_lagged_35 rfl rfl (hR _ _ h)
      · replace h := ev_ifn h c4
        refine ev_iconst (pc := 22) (v := 0) dX9_lagged_22 rfl ?_
        exact ev_iret (pc := 23) dX9_lagged_23 rfl rfl (hR _ _ h)
theorem c_X9_lagged {G : ev_G} {mF : ev_m} {i0 : Nat} {x1_ : Int32} {x2_ : Int32} {x3_ : Int32} {x4_ : Int32} {r : Bool × ev_m} (h : f_X9_lagged mF i0 x1_ x2_ x3_ x4_ = some r) : ev_CF G K_X9_lagged B_X9_lagged [vr 0 (i0), vi (x1_), vi (x2_), vi (x3_), vi (x4_)] mF (some (vi (bi (r.1)))) r.2 :=
  ev_Ct_of rfl rfl (Nat.le_of_ble_eq_true rfl) (e_X9_lagged (R := some r) (fun x0 m0 q => by cases q; exact ⟨rfl, rfl⟩) (fun q => by cases q) h)
set_option maxRecDepth 20000 in
set_option maxHeartbeats 4000000 in
theorem e_X9_growsWith {G : ev_G} {Q : Option ev_V → ev_M → Prop} {R : Option (Bool × ev_m)} {mF : ev_m} (hR : ∀ (x0 : Bool) (m0 : ev_m), (some ((x0, m0))) = R → Q (some (vi (bi x0))) (ev_emb m0)) (hN : none ≠ R) {i0 : Nat} {x1_ : Int32} {x2_ : Int32} {x3_ : Int32} (h : f_X9_growsWith mF i0 x1_ x2_ x3_ = R) : ev_E G K_X9_growsWith B_X9_growsWith (0, 0) 0 [some (vr 0 (i0)), some (vi (x1_)), some (vi (x2_)), some (vi (x3_))] [] (ev_emb mF) Q := by
  unfold f_X9_growsWith at h
  refine ev_aload_0 (pc := 0) dX9_growsWith_0 ?_
  refine gt_X9_48 (pc := 1) rfl dX9_growsWith_1 ?_
  refine ev_iload_1 (pc := 4) dX9_growsWith_4 ?_
  refine ev_iload_2 (pc := 5) dX9_growsWith_5 ?_
  obtain ⟨m1, hm1, h⟩ := ev_letE h
  refine cl0_X9_329 (pc := 6) (fr := 0) (lo := 0) (m' := m1) rfl dX9_growsWith_6 (by decide) (Nat.le_of_ble_eq_true rfl) (by rw [hm1]; exact c_X1_write mF 16 x1_ x2_) ?_
  refine ev_aload_0 (pc := 9) dX9_growsWith_9 ?_
  refine gt_X9_34 (pc := 10) rfl dX9_growsWith_10 ?_
  refine ev_aload_0 (pc := 13) dX9_growsWith_13 ?_
  refine gt_X9_41 (pc := 14) rfl dX9_growsWith_14 ?_
  refine ev_aload_0 (pc := 17) dX9_growsWith_17 ?_
  refine gt_X9_48 (pc := 18) rfl dX9_growsWith_18 ?_
  refine ev_iconst (pc := 21) (v := 0) dX9_growsWith_21 rfl ?_
  refine ev_iload_3 (pc := 22) dX9_growsWith_22 ?_
  obtain ⟨m2, hm2, h⟩ := ev_bindE hN h
  refine cl0_X9_189 (pc := 23) rfl dX9_growsWith_23 (by decide) (Nat.le_of_ble_eq_true rfl) (c_X8_sail hm2) ?_
  refine ev_aload_0 (pc := 26) dX9_growsWith_26 ?_
  refine gt_X9_34 (pc := 27) rfl dX9_growsWith_27 ?_
  obtain ⟨x3, hx3, h⟩ := ev_bindE hN h
  refine cl1_X9_330 (pc := 30) rfl dX9_growsWith_30 (by decide) (Nat.le_of_ble_eq_true rfl) (c_X8_grows hx3) ?_
  exact ev_iret (pc := 33) dX9_growsWith_33 rfl (ev_nb _) (hR _ _ h)
theorem c_X9_growsWith {G : ev_G} {mF : ev_m} {i0 : Nat} {x1_ : Int32} {x2_ : Int32} {x3_ : Int32} {r : Bool × ev_m} (h : f_X9_growsWith mF i0 x1_ x2_ x3_ = some r) : ev_CF G K_X9_growsWith B_X9_growsWith [vr 0 (i0), vi (x1_), vi (x2_), vi (x3_)] mF (some (vi (bi (r.1)))) r.2 :=
  ev_Ct_of rfl rfl (Nat.le_of_ble_eq_true rfl) (e_X9_growsWith (R := some r) (fun x0 m0 q => by cases q; exact ⟨rfl, rfl⟩) (fun q => by cases q) h)
set_option maxRecDepth 20000 in
set_option maxHeartbeats 4000000 in
theorem e_lp_X9_line_18 {G : ev_G} {Q : Option ev_V → ev_M → Prop} {R : Option (Int32 × ev_m)} (hR : ∀ (x0 : Int32) (m0 : ev_m), (some ((x0, m0))) = R → Q (some (vi x0)) (ev_emb m0)) (hN : none ≠ R) {i3 : Nat} {x4 : Int32} : ∀ (f : Nat) (x5 : Int32) (m6 : ev_m) (kx : ev_m → Option (Int32 × ev_m)) (h : lp_X9_line_18 i3 x4 f x5 m6 kx = R) (hk : ∀ (m6' : ev_m), kx m6' = R → ev_E G K_X9_line B_X9_line (0, 0) 43 [none, none, none, none, none, none] [] (ev_emb m6') Q), ev_E G K_X9_line B_X9_line (0, 0) 18 [some (vr 0 (i3)), none, none, some (vi (x4)), none, some (vi (x5))] [] (ev_emb m6) Q := by
  intro f
  induction f with
  | zero => intro x5 m6 kx h hk; rw [lp_X9_line_18] at h; exact absurd h hN
  | succ f ih =>
    intro x5 m6 kx h hk
    rw [lp_X9_line_18] at h
    refine ev_iload_5 (pc := 18) dX9_line_18 ?_
    refine ev_ifc_lt (pc := 20) (tgt := 43) dX9_line_20 (by decide) (fun c7 => ?_) (fun c7 => ?_)
    · replace h := ev_ifp h c7
      refine ev_E.forget (L' := [none, none, none, none, none, none]) trivial ?_
      exact hk _  h
    · replace h := ev_ifn h c7
      refine ev_aload_0 (pc := 23) dX9_line_23 ?_
      refine ev_iconst (pc := 24) (v := 0) dX9_line_24 rfl ?_
      refine ev_iload_5 (pc := 25) dX9_line_25 ?_
      refine ev_iload_3 (pc := 27) dX9_line_27 ?_
      obtain ⟨p8, hp8, h⟩ := ev_bindE hN h
      refine cl1_X9_174 (pc := 28) rfl dX9_line_28 (by decide) (Nat.le_of_ble_eq_true rfl) (c_X9_growsWith hp8) ?_
      refine ev_ifb_ne (pc := 31) (tgt := 37) dX9_line_31 (by decide) (fun c9 => ?_) (fun c9 => ?_)
      · replace h := ev_ifp h c9
        refine ev_iinc_5 (pc := 37) (y := x5 + (-1)) dX9_line_37 rfl (by decide) rfl ?_
        refine ev_goto (pc := 40) (tgt := 18) dX9_line_40 (by decide) ?_
        exact ih _ _ kx h hk
      · replace h := ev_ifn h c9
        refine ev_iload_5 (pc := 34) dX9_line_34 ?_
        exact ev_iret (pc := 36) dX9_line_36 rfl rfl (hR _ _ h)
set_option maxRecDepth 20000 in
set_option maxHeartbeats 4000000 in
theorem e_X9_line {G : ev_G} {Q : Option ev_V → ev_M → Prop} {R : Option (Int32 × ev_m)} {mF : ev_m} (hR : ∀ (x0 : Int32) (m0 : ev_m), (some ((x0, m0))) = R → Q (some (vi x0)) (ev_emb m0)) (hN : none ≠ R) {i0 : Nat} {x1_ : Int32} {x2_ : Int32} {x3_ : Int32} {x4_ : Int32} (h : f_X9_line mF i0 x1_ x2_ x3_ x4_ = R) : ev_E G K_X9_line B_X9_line (0, 0) 0 [some (vr 0 (i0)), some (vi (x1_)), some (vi (x2_)), some (vi (x3_)), some (vi (x4_)), none] [] (ev_emb mF) Q := by
  unfold f_X9_line at h
  refine ev_aload_0 (pc := 0) dX9_line_0 ?_
  refine ev_iload_1 (pc := 1) dX9_line_1 ?_
  refine ev_iload_2 (pc := 2) dX9_line_2 ?_
  refine ev_iload_3 (pc := 3) dX9_line_3 ?_
  refine ev_iload_4 (pc := 4) dX9_line_4 ?_
  obtain ⟨p1, hp1, h⟩ := ev_bindE hN h
  refine cl1_X9_171 (pc := 6) rfl dX9_line_6 (by decide) (Nat.le_of_ble_eq_true rfl) (c_X9_lagged hp1) ?_
  refine ev_ifb_ne (pc := 9) (tgt := 14) dX9_line_9 (by decide) (fun c2 => ?_) (fun c2 => ?_)
  · replace h := ev_ifp h c2
    refine ev_bipush (pc := 14) (v := 99) dX9_line_14 (by decide) ?_
    refine ev_istore_5 (pc := 16) dX9_line_16 (by decide) rfl ?_
    refine ev_E.forget (L' := [some (vr 0 (i0)), none, none, some (vi (x3_)), none, some (vi (99))]) ⟨rfl, ⟨rfl, ⟨rfl, trivial⟩⟩⟩ ?_
    refine e_lp_X9_line_18 hR hN 4000 _ _ _ h (fun m10 h => ?_)
    refine ev_iconst (pc := 43) (v := (-1)) dX9_line_43 rfl ?_
    exact ev_iret (pc := 44) dX9_line_44 rfl rfl (hR _ _ h)
  · replace h := ev_ifn h c2
    refine ev_iconst (pc := 12) (v := (-1)) dX9_line_12 rfl ?_
    exact ev_iret (pc := 13) dX9_line_13 rfl rfl (hR _ _ h)
theorem c_X9_line {G : ev_G} {mF : ev_m} {i0 : Nat} {x1_ : Int32} {x2_ : Int32} {x3_ : Int32} {x4_ : Int32} {r : Int32 × ev_m} (h : f_X9_line mF i0 x1_ x2_ x3_ x4_ = some r) : ev_CF G K_X9_line B_X9_line [vr 0 (i0), vi (x1_), vi (x2_), vi (x3_), vi (x4_)] mF (some (vi (r.1))) r.2 :=
  ev_Ct_of rfl rfl (Nat.le_of_ble_eq_true rfl) (e_X9_line (R := some r) (fun x0 m0 q => by cases q; exact ⟨rfl, rfl⟩) (fun q => by cases q) h)
set_option maxRecDepth 20000 in
set_option maxHeartbeats 4000000 in
theorem e_lp_X9_alone_40 {G : ev_G} {Q : Option ev_V → ev_M → Prop} {R : Option (Int32 × ev_m)} (hR : ∀ (x0 : Int32) (m0 : ev_m), (some ((x0, m0))) = R → Q (some (vi x0)) (ev_emb m0)) (hN : none ≠ R) {i6 : Nat} {x7 : Int32} {x8 : Int32} : ∀ (f : Nat) (x9 : Int32) (m10 : ev_m) (kx : ev_m → Option (Int32 × ev_m)) (h : lp_X9_alone_40 i6 x7 x8 f x9 m10 kx = R) (hk : ∀ (m10' : ev_m), kx m10' = R → ev_E G K_X9_alone B_X9_alone (0, 0) 94 [none, none, none, none, none, none] [] (ev_emb m10') Q), ev_E G K_X9_alone B_X9_alone (0, 0) 40 [some (vr 0 (i6)), none, some (vi (x7)), some (vi (x8)), none, some (vi (x9))] [] (ev_emb m10) Q := by
  intro f
  induction f with
  | zero => intro x9 m10 kx h hk; rw [lp_X9_alone_40] at h; exact absurd h hN
  | succ f ih =>
    intro x9 m10 kx h hk
    rw [lp_X9_alone_40] at h
    refine ev_iload_5 (pc := 40) dX9_alone_40 ?_
    refine ev_bipush (pc := 42) (v := 99) dX9_alone_42 (by decide) ?_
    refine ev_icc_gt (pc := 44) (tgt := 94) dX9_alone_44 (by decide) (fun c11 => ?_) (fun c11 => ?_)
    · replace h := ev_ifp h c11
      refine ev_E.forget (L' := [none, none, none, none, none, none]) trivial ?_
      exact hk _  h
    · replace h := ev_ifn h c11
      refine ev_aload_0 (pc := 47) dX9_alone_47 ?_
      refine gt_X9_41 (pc := 48) rfl dX9_alone_48 ?_
      refine ev_bipush (pc := 51) (v := 7) dX9_alone_51 (by decide) ?_
      refine ev_iload_5 (pc := 53) dX9_alone_53 ?_
      obtain ⟨m12, hm12, h⟩ := ev_letE h
      refine cl0_X9_185 (pc := 55) (fr := 0) (lo := 0) (m' := m12) rfl dX9_alone_55 (by decide) (Nat.le_of_ble_eq_true rfl) (by rw [hm12]; exact c_X5_write m10 8 7 x9) ?_
      refine ev_aload_0 (pc := 58) dX9_alone_58 ?_
      refine gt_X9_34 (pc := 59) rfl dX9_alone_59 ?_
      refine ev_aload_0 (pc := 62) dX9_alone_62 ?_
      refine gt_X9_41 (pc := 63) rfl dX9_alone_63 ?_
      refine ev_null (pc := 66) dX9_alone_66 ?_
      refine ev_iconst (pc := 67) (v := 0) dX9_alone_67 rfl ?_
      refine ev_iload_2 (pc := 68) dX9_alone_68 ?_
      obtain ⟨m13, hm13, h⟩ := ev_bindE hN h
      refine cl0_X9_189 (pc := 69) rfl dX9_alone_69 (by decide) (Nat.le_of_ble_eq_true rfl) (c_X8_sail hm13) ?_
      refine ev_aload_0 (pc := 72) dX9_alone_72 ?_
      refine gt_X9_34 (pc := 73) rfl dX9_alone_73 ?_
      obtain ⟨x14, hx14, h⟩ := ev_bindE hN h
      refine cl1_X9_193 (pc := 76) rfl dX9_alone_76 (by decide) (Nat.le_of_ble_eq_true rfl) (c_X8_widest hx14) ?_
      refine ev_iload_3 (pc := 79) dX9_alone_79 ?_
      refine ev_i2l (pc := 80) dX9_alone_80 ?_
      refine ev_lcc_gt (pc := 81) (tgt := 88) dX9_alone_81 dX9_alone_82 (by decide) (fun c15 => ?_) (fun c15 => ?_)
      · replace h := ev_ifp h c15
        refine ev_iinc_5 (pc := 88) (y := x9 + 1) dX9_alone_88 rfl (by decide) rfl ?_
        refine ev_goto (pc := 91) (tgt := 40) dX9_alone_91 (by decide) ?_
        exact ih _ _ kx h hk
      · replace h := ev_ifn h c15
        refine ev_iload_5 (pc := 85) dX9_alone_85 ?_
        exact ev_iret (pc := 87) dX9_alone_87 rfl rfl (hR _ _ h)
set_option maxRecDepth 20000 in
set_option maxHeartbeats 4000000 in
theorem e_X9_alone {G : ev_G} {Q : Option ev_V → ev_M → Prop} {R : Option (Int32 × ev_m)} {mF : ev_m} (hR : ∀ (x0 : Int32) (m0 : ev_m), (some ((x0, m0))) = R → Q (some (vi x0)) (ev_emb m0)) (hN : none ≠ R) {i0 : Nat} {x1_ : Int32} {x2_ : Int32} {x3_ : Int32} (h : f_X9_alone mF i0 x1_ x2_ x3_ = R) : ev_E G K_X9_alone B_X9_alone (0, 0) 0 [some (vr 0 (i0)), some (vi (x1_)), some (vi (x2_)), some (vi (x3_)), none, none] [] (ev_emb mF) Q := by
  unfold f_X9_alone at h
  refine ev_aload_0 (pc := 0) dX9_alone_0 ?_
  refine gt_X9_10 (pc := 1) rfl dX9_alone_1 ?_
  refine ev_iload_1 (pc := 4) dX9_alone_4 ?_
  obtain ⟨x1, hx1, h⟩ := ev_bindE hN h
  refine cl1_X9_86 (pc := 5) rfl dX9_alone_5 (by decide) (Nat.le_of_ble_eq_true rfl) (c_X0_shipAt hx1) ?_
  refine ev_astore_4 (pc := 8) dX9_alone_8 (by decide) rfl ?_
  refine ev_aload_4 (pc := 10) dX9_alone_10 ?_
  rcases x1 with _ | j2
  · replace h := ev_onN h
    show ev_E G K_X9_alone B_X9_alone (0, 0) 12 [some (vr 0 (i0)), some (vi (x1_)), some (vi (x2_)), some (vi (x3_)), some (vn), none] [vn] (ev_emb mF) Q
    refine ev_ifnull_n (pc := 12) (tgt := 26) dX9_alone_12 (by decide) ?_
    refine ev_iconst (pc := 26) (v := (-1)) dX9_alone_26 rfl ?_
    exact ev_iret (pc := 27) dX9_alone_27 rfl rfl (hR _ _ h)
  · replace h := ev_onS h
    show ev_E G K_X9_alone B_X9_alone (0, 0) 12 [some (vr 0 (i0)), some (vi (x1_)), some (vi (x2_)), some (vi (x3_)), some (vr 3 (j2)), none] [vr 3 (j2)] (ev_emb mF) Q
    refine ev_ifnull_r (pc := 12) dX9_alone_12 ?_
    refine ev_iload_2 (pc := 15) dX9_alone_15 ?_
    refine cl1_X9_177 (pc := 16) rfl dX9_alone_16 (by decide) (Nat.le_of_ble_eq_true rfl) (c_X9_isTrial mF x2_) ?_
    refine ev_ifb_eq (pc := 19) (tgt := 26) dX9_alone_19 (by decide) (fun c3 => ?_) (fun c3 => ?_)
    · replace h := ev_ifn h c3
      refine ev_iconst (pc := 26) (v := (-1)) dX9_alone_26 rfl ?_
      exact ev_iret (pc := 27) dX9_alone_27 rfl rfl (hR _ _ h)
    · replace h := ev_ifp h c3
      refine ev_iload_3 (pc := 22) dX9_alone_22 ?_
      refine ev_ifc_ge (pc := 23) (tgt := 28) dX9_alone_23 (by decide) (fun c4 => ?_) (fun c4 => ?_)
      · replace h := ev_ifn h c4
        refine ev_aload_0 (pc := 28) dX9_alone_28 ?_
        refine gt_X9_41 (pc := 29) rfl dX9_alone_29 ?_
        refine ev_aload_4 (pc := 32) dX9_alone_32 ?_
        obtain ⟨m5, hm5, h⟩ := ev_bindE hN h
        refine cl0_X9_181 (pc := 34) rfl dX9_alone_34 (by decide) (Nat.le_of_ble_eq_true rfl) (c_X5_copy hm5) ?_
        refine ev_iconst (pc := 37) (v := 0) dX9_alone_37 rfl ?_
        refine ev_istore_5 (pc := 38) dX9_alone_38 (by decide) rfl ?_
        refine ev_E.forget (L' := [some (vr 0 (i0)), none, some (vi (x2_)), some (vi (x3_)), none, some (vi (0))]) ⟨rfl, ⟨rfl, ⟨rfl, ⟨rfl, trivial⟩⟩⟩⟩ ?_
        refine e_lp_X9_alone_40 hR hN 4000 _ _ _ h (fun m16 h => ?_)
        refine ev_iconst (pc := 94) (v := (-1)) dX9_alone_94 rfl ?_
        exact ev_iret (pc := 95) dX9_alone_95 rfl rfl (hR _ _ h)
      · replace h := ev_ifp h c4
        refine ev_iconst (pc := 26) (v := (-1)) dX9_alone_26 rfl ?_
        exact ev_iret (pc := 27) dX9_alone_27 rfl rfl (hR _ _ h)
theorem c_X9_alone {G : ev_G} {mF : ev_m} {i0 : Nat} {x1_ : Int32} {x2_ : Int32} {x3_ : Int32} {r : Int32 × ev_m} (h : f_X9_alone mF i0 x1_ x2_ x3_ = some r) : ev_CF G K_X9_alone B_X9_alone [vr 0 (i0), vi (x1_), vi (x2_), vi (x3_)] mF (some (vi (r.1))) r.2 :=
  ev_Ct_of rfl rfl (Nat.le_of_ble_eq_true rfl) (e_X9_alone (R := some r) (fun x0 m0 q => by cases q; exact ⟨rfl, rfl⟩) (fun q => by cases q) h)
set_option maxRecDepth 20000 in
set_option maxHeartbeats 4000000 in
theorem e_X9_trialWidest {G : ev_G} {Q : Option ev_V → ev_M → Prop} {R : Option (Int64 × ev_m)} {mF : ev_m} (hR : ∀ (x0 : Int64) (m0 : ev_m), (some ((x0, m0))) = R → Q (some (vl x0)) (ev_emb m0)) (hN : none ≠ R) {i0 : Nat} {x1_ : Int32} (h : f_X9_trialWidest mF i0 x1_ = R) : ev_E G K_X9_trialWidest B_X9_trialWidest (0, 0) 0 [some (vr 0 (i0)), some (vi (x1_))] [] (ev_emb mF) Q := by
  unfold f_X9_trialWidest at h
  refine ev_aload_0 (pc := 0) dX9_trialWidest_0 ?_
  refine gt_X9_34 (pc := 1) rfl dX9_trialWidest_1 ?_
  refine ev_aload_0 (pc := 4) dX9_trialWidest_4 ?_
  refine gt_X9_41 (pc := 5) rfl dX9_trialWidest_5 ?_
  refine ev_aload_0 (pc := 8) dX9_trialWidest_8 ?_
  refine gt_X9_48 (pc := 9) rfl dX9_trialWidest_9 ?_
  refine ev_iconst (pc := 12) (v := 0) dX9_trialWidest_12 rfl ?_
  refine ev_iload_1 (pc := 13) dX9_trialWidest_13 ?_
  obtain ⟨m1, hm1, h⟩ := ev_bindE hN h
  refine cl0_X9_189 (pc := 14) rfl dX9_trialWidest_14 (by decide) (Nat.le_of_ble_eq_true rfl) (c_X8_sail hm1) ?_
  refine ev_aload_0 (pc := 17) dX9_trialWidest_17 ?_
  refine gt_X9_34 (pc := 18) rfl dX9_trialWidest_18 ?_
  obtain ⟨x2, hx2, h⟩ := ev_bindE hN h
  refine cl1_X9_193 (pc := 21) rfl dX9_trialWidest_21 (by decide) (Nat.le_of_ble_eq_true rfl) (c_X8_widest hx2) ?_
  exact ev_lret (pc := 24) dX9_trialWidest_24 rfl (hR _ _ h)
theorem c_X9_trialWidest {G : ev_G} {mF : ev_m} {i0 : Nat} {x1_ : Int32} {r : Int64 × ev_m} (h : f_X9_trialWidest mF i0 x1_ = some r) : ev_CF G K_X9_trialWidest B_X9_trialWidest [vr 0 (i0), vi (x1_)] mF (some (vl (r.1))) r.2 :=
  ev_Ct_of rfl rfl (Nat.le_of_ble_eq_true rfl) (e_X9_trialWidest (R := some r) (fun x0 m0 q => by cases q; exact ⟨rfl, rfl⟩) (fun q => by cases q) h)
set_option maxRecDepth 20000 in
set_option maxHeartbeats 4000000 in
theorem e_lp_X9_hard_36 {G : ev_G} {Q : Option ev_V → ev_M → Prop} {R : Option (Int32 × ev_m)} (hR : ∀ (x0 : Int32) (m0 : ev_m), (some ((x0, m0))) = R → Q (some (vi x0)) (ev_emb m0)) (hN : none ≠ R) {i6 : Nat} {x7 : Int32} {x8 : Int32} {i9 : Nat} : ∀ (f : Nat) (x10 : Int32) (m11 : ev_m) (kx : ev_m → Option (Int32 × ev_m)) (h : lp_X9_hard_36 i6 x7 x8 i9 f x10 m11 kx = R) (hk : ∀ (m11' : ev_m), kx m11' = R → ev_E G K_X9_hard B_X9_hard (0, 0) 73 [none, none, none, none, none, none, none] [] (ev_emb m11') Q), ev_E G K_X9_hard B_X9_hard (0, 0) 36 [some (vr 0 (i6)), none, none, some (vi (x7)), some (vi (x8)), some (vr 3 (i9)), some (vi (x10))] [] (ev_emb m11) Q := by
  intro f
  induction f with
  | zero => intro x10 m11 kx h hk; rw [lp_X9_hard_36] at h; exact absurd h hN
  | succ f ih =>
    intro x10 m11 kx h hk
    rw [lp_X9_hard_36] at h
    refine ev_iload_6 (pc := 36) dX9_hard_36 ?_
    refine ev_ifc_lt (pc := 38) (tgt := 73) dX9_hard_38 (by decide) (fun c12 => ?_) (fun c12 => ?_)
    · replace h := ev_ifp h c12
      refine ev_E.forget (L' := [none, none, none, none, none, none, none]) trivial ?_
      exact hk _  h
    · replace h := ev_ifn h c12
      refine ev_aload_0 (pc := 41) dX9_hard_41 ?_
      refine gt_X9_41 (pc := 42) rfl dX9_hard_42 ?_
      refine ev_aload_5 (pc := 45) dX9_hard_45 ?_
      refine ev_iload_6 (pc := 47) dX9_hard_47 ?_
      obtain ⟨m13, hm13, h⟩ := ev_bindE hN h
      refine cl0_X9_197 (pc := 49) rfl dX9_hard_49 (by decide) (Nat.le_of_ble_eq_true rfl) (c_X5_takeSeas hm13) ?_
      refine ev_aload_0 (pc := 52) dX9_hard_52 ?_
      refine ev_iload_3 (pc := 53) dX9_hard_53 ?_
      obtain ⟨p14, hp14, h⟩ := ev_bindE hN h
      refine cl1_X9_201 (pc := 54) rfl dX9_hard_54 (by decide) (Nat.le_of_ble_eq_true rfl) (c_X9_trialWidest hp14) ?_
      refine ev_iload_4 (pc := 57) dX9_hard_57 ?_
      refine ev_i2l (pc := 59) dX9_hard_59 ?_
      refine ev_lcc_gt (pc := 60) (tgt := 67) dX9_hard_60 dX9_hard_61 (by decide) (fun c15 => ?_) (fun c15 => ?_)
      · replace h := ev_ifp h c15
        refine ev_iinc_6 (pc := 67) (y := x10 + (-1)) dX9_hard_67 rfl (by decide) rfl ?_
        refine ev_goto (pc := 70) (tgt := 36) dX9_hard_70 (by decide) ?_
        exact ih _ _ kx h hk
      · replace h := ev_ifn h c15
        refine ev_iload_6 (pc := 64) dX9_hard_64 ?_
        exact ev_iret (pc := 66) dX9_hard_66 rfl rfl (hR _ _ h)
set_option maxRecDepth 20000 in
set_option maxHeartbeats 4000000 in
theorem e_X9_hard {G : ev_G} {Q : Option ev_V → ev_M → Prop} {R : Option (Int32 × ev_m)} {mF : ev_m} (hR : ∀ (x0 : Int32) (m0 : ev_m), (some ((x0, m0))) = R → Q (some (vi x0)) (ev_emb m0)) (hN : none ≠ R) {i0 : Nat} {x1_ : Int32} {x2_ : Int32} {x3_ : Int32} {x4_ : Int32} (h : f_X9_hard mF i0 x1_ x2_ x3_ x4_ = R) : ev_E G K_X9_hard B_X9_hard (0, 0) 0 [some (vr 0 (i0)), some (vi (x1_)), some (vi (x2_)), some (vi (x3_)), some (vi (x4_)), none, none] [] (ev_emb mF) Q := by
  unfold f_X9_hard at h
  refine ev_aload_0 (pc := 0) dX9_hard_0 ?_
  refine gt_X9_10 (pc := 1) rfl dX9_hard_1 ?_
  refine ev_iload_1 (pc := 4) dX9_hard_4 ?_
  obtain ⟨x1, hx1, h⟩ := ev_bindE hN h
  refine cl1_X9_86 (pc := 5) rfl dX9_hard_5 (by decide) (Nat.le_of_ble_eq_true rfl) (c_X0_shipAt hx1) ?_
  refine ev_astore_5 (pc := 8) dX9_hard_8 (by decide) rfl ?_
  refine ev_aload_5 (pc := 10) dX9_hard_10 ?_
  rcases x1 with _ | j2
  · replace h := ev_onN h
    show ev_E G K_X9_hard B_X9_hard (0, 0) 12 [some (vr 0 (i0)), some (vi (x1_)), some (vi (x2_)), some (vi (x3_)), some (vi (x4_)), some (vn), none] [vn] (ev_emb mF) Q
    refine ev_ifnull_n (pc := 12) (tgt := 30) dX9_hard_12 (by decide) ?_
    refine ev_iconst (pc := 30) (v := (-1)) dX9_hard_30 rfl ?_
    exact ev_iret (pc := 31) dX9_hard_31 rfl rfl (hR _ _ h)
  · replace h := ev_onS h
    show ev_E G K_X9_hard B_X9_hard (0, 0) 12 [some (vr 0 (i0)), some (vi (x1_)), some (vi (x2_)), some (vi (x3_)), some (vi (x4_)), some (vr 3 (j2)), none] [vr 3 (j2)] (ev_emb mF) Q
    refine ev_ifnull_r (pc := 12) dX9_hard_12 ?_
    refine ev_aload_0 (pc := 15) dX9_hard_15 ?_
    refine ev_iload_1 (pc := 16) dX9_hard_16 ?_
    refine ev_iload_2 (pc := 17) dX9_hard_17 ?_
    refine ev_iload_3 (pc := 18) dX9_hard_18 ?_
    obtain ⟨p3, hp3, h⟩ := ev_bindE hN h
    refine cl1_X9_155 (pc := 19) rfl dX9_hard_19 (by decide) (Nat.le_of_ble_eq_true rfl) (c_X9_ready hp3) ?_
    refine ev_ifb_eq (pc := 22) (tgt := 30) dX9_hard_22 (by decide) (fun c4 => ?_) (fun c4 => ?_)
    · replace h := ev_ifn h c4
      refine ev_iconst (pc := 30) (v := (-1)) dX9_hard_30 rfl ?_
      exact ev_iret (pc := 31) dX9_hard_31 rfl rfl (hR _ _ h)
    · replace h := ev_ifp h c4
      refine ev_iload_4 (pc := 25) dX9_hard_25 ?_
      refine ev_ifc_ge (pc := 27) (tgt := 32) dX9_hard_27 (by decide) (fun c5 => ?_) (fun c5 => ?_)
      · replace h := ev_ifn h c5
        refine ev_bipush (pc := 32) (v := 9) dX9_hard_32 (by decide) ?_
        refine ev_istore_6 (pc := 34) dX9_hard_34 (by decide) rfl ?_
        refine ev_E.forget (L' := [some (vr 0 (i0)), none, none, some (vi (x3_)), some (vi (x4_)), some (vr 3 (j2)), some (vi (9))]) ⟨rfl, ⟨rfl, ⟨rfl, ⟨rfl, ⟨rfl, trivial⟩⟩⟩⟩⟩ ?_
        refine e_lp_X9_hard_36 hR hN 4000 _ _ _ h (fun m16 h => ?_)
        refine ev_iconst (pc := 73) (v := (-1)) dX9_hard_73 rfl ?_
        exact ev_iret (pc := 74) dX9_hard_74 rfl rfl (hR _ _ h)
      · replace h := ev_ifp h c5
        refine ev_iconst (pc := 30) (v := (-1)) dX9_hard_30 rfl ?_
        exact ev_iret (pc := 31) dX9_hard_31 rfl rfl (hR _ _ h)
theorem c_X9_hard {G : ev_G} {mF : ev_m} {i0 : Nat} {x1_ : Int32} {x2_ : Int32} {x3_ : Int32} {x4_ : Int32} {r : Int32 × ev_m} (h : f_X9_hard mF i0 x1_ x2_ x3_ x4_ = some r) : ev_CF G K_X9_hard B_X9_hard [vr 0 (i0), vi (x1_), vi (x2_), vi (x3_), vi (x4_)] mF (some (vi (r.1))) r.2 :=
  ev_Ct_of rfl rfl (Nat.le_of_ble_eq_true rfl) (e_X9_hard (R := some r) (fun x0 m0 q => by cases q; exact ⟨rfl, rfl⟩) (fun q => by cases q) h)
set_option maxRecDepth 20000 in
set_option maxHeartbeats 4000000 in
theorem e_lp_X9_set_35 {G : ev_G} {Q : Option ev_V → ev_M → Prop} {R : Option (Int32 × ev_m)} (hR : ∀ (x0 : Int32) (m0 : ev_m), (some ((x0, m0))) = R → Q (some (vi x0)) (ev_emb m0)) (hN : none ≠ R) {i4 : Nat} {x5 : Int32} {x6 : Int32} : ∀ (f : Nat) (x7 : Int32) (y8 : Int64) (x9 : Int32) (m10 : ev_m) (kx : Int32 → ev_m → Option (Int32 × ev_m)) (h : lp_X9_set_35 i4 x5 x6 f x7 y8 x9 m10 kx = R) (hk : ∀ (x7' : Int32) (m10' : ev_m), kx x7' m10' = R → ev_E G K_X9_set B_X9_set (0, 0) 105 [none, none, none, none, none, some (vi (x7')), none, none, none, none, none] [] (ev_emb m10') Q), ev_E G K_X9_set B_X9_set (0, 0) 35 [some (vr 0 (i4)), none, none, some (vi (x5)), some (vi (x6)), some (vi (x7)), some (vl (y8)), none, some (vi (x9)), none, none] [] (ev_emb m10) Q := by
  intro f
  induction f with
  | zero => intro x7 y8 x9 m10 kx h hk; rw [lp_X9_set_35] at h; exact absurd h hN
  | succ f ih =>
    intro x7 y8 x9 m10 kx h hk
    rw [lp_X9_set_35] at h
    refine ev_iload_8 (pc := 35) dX9_set_35 ?_
    refine ev_bipush (pc := 37) (v := 50) dX9_set_37 (by decide) ?_
    refine ev_icc_gt (pc := 39) (tgt := 105) dX9_set_39 (by decide) (fun c11 => ?_) (fun c11 => ?_)
    · replace h := ev_ifp h c11
      refine ev_E.forget (L' := [none, none, none, none, none, some (vi (x7)), none, none, none, none, none]) ⟨rfl, trivial⟩ ?_
      exact hk _ _  h
    · replace h := ev_ifn h c11
      refine ev_aload_0 (pc := 42) dX9_set_42 ?_
      refine gt_X9_41 (pc := 43) rfl dX9_set_43 ?_
      refine ev_iload_4 (pc := 46) dX9_set_46 ?_
      refine ev_iload_8 (pc := 48) dX9_set_48 ?_
      refine ev_iadd (pc := 50) dX9_set_50 ?_
      obtain ⟨m12, hm12, h⟩ := ev_letE h
      refine pt_X9_204 (pc := 51) rfl dX9_set_51 ?_
      refine ev_mem (pc := 54) hm12 ?_
      refine ev_aload_0 (pc := 54) dX9_set_54 ?_
      refine gt_X9_34 (pc := 55) rfl dX9_set_55 ?_
      refine ev_aload_0 (pc := 58) dX9_set_58 ?_
      refine gt_X9_41 (pc := 59) rfl dX9_set_59 ?_
      refine ev_aload_0 (pc := 62) dX9_set_62 ?_
      refine gt_X9_48 (pc := 63) rfl dX9_set_63 ?_
      refine ev_iconst (pc := 66) (v := 0) dX9_set_66 rfl ?_
      refine ev_iload_3 (pc := 67) dX9_set_67 ?_
      obtain ⟨m13, hm13, h⟩ := ev_bindE hN h
      refine cl0_X9_189 (pc := 68) rfl dX9_set_68 (by decide) (Nat.le_of_ble_eq_true rfl) (c_X8_sail hm13) ?_
      refine ev_aload_0 (pc := 71) dX9_set_71 ?_
      refine gt_X9_34 (pc := 72) rfl dX9_set_72 ?_
      obtain ⟨x14, hx14, h⟩ := ev_bindE hN h
      refine cl1_X9_207 (pc := 75) rfl dX9_set_75 (by decide) (Nat.le_of_ble_eq_true rfl) (c_X8_drift hx14) ?_
      refine ev_mabsl (pc := 78) mabsl_X9_210 mabsl_w (by decide) (Nat.le_of_ble_eq_true rfl) dX9_set_78 ?_
      obtain ⟨y15, hy15, h⟩ := ev_letE h
      refine ev_topl (pc := 81) hy15 ?_
      refine ev_lstore_9 (pc := 81) dX9_set_81 (by decide) rfl ?_
      refine ev_lload_9 (pc := 83) dX9_set_83 ?_
      refine ev_lload_6 (pc := 85) dX9_set_85 ?_
      obtain ⟨x17, hx17, h⟩ := ev_letE h
      obtain ⟨y18, hy18, h⟩ := ev_letE h
      have hJ1 : ev_E G K_X9_set B_X9_set (0, 0) 99 [some (vr 0 (i4)), none, none, some (vi (x5)), some (vi (x6)), some (vi (x17)), some (vl (y18)), none, some (vi (x9)), some (vl (y15)), none] [] (ev_emb m13) Q := by
        refine ev_iinc_8 (pc := 99) (y := x9 + 1) dX9_set_99 rfl (by decide) rfl ?_
        refine ev_goto (pc := 102) (tgt := 35) dX9_set_102 (by decide) ?_
        refine ev_E.forget (L' := [some (vr 0 (i4)), none, none, some (vi (x5)), some (vi (x6)), some (vi (x17)), some (vl (y18)), none, some (vi (x9 + 1)), none, none]) ⟨rfl, ⟨rfl, ⟨rfl, ⟨rfl, ⟨rfl, ⟨rfl, trivial⟩⟩⟩⟩⟩⟩ ?_
        exact ih _ _ _ _ kx h hk
      refine ev_lcc_ge (pc := 87) (tgt := 99) dX9_set_87 dX9_set_88 (by decide) (fun c16 => ?_) (fun c16 => ?_)
      · replace hx17 := (hx17.trans (if_neg c16))
        replace hy18 := (hy18.trans (if_neg c16))
        subst hx17
        subst hy18
        exact hJ1
      · refine ev_lload_9 (pc := 91) dX9_set_91 ?_
        refine ev_lstore_6 (pc := 93) dX9_set_93 (by decide) rfl ?_
        refine ev_iload_8 (pc := 95) dX9_set_95 ?_
        refine ev_istore_5 (pc := 97) dX9_set_97 (by decide) rfl ?_
        replace hx17 := (hx17.trans (if_pos c16))
        replace hy18 := (hy18.trans (if_pos c16))
        subst hx17
        subst hy18
        exact hJ1
set_option maxRecDepth 20000 in
set_option maxHeartbeats 4000000 in
theorem e_X9_set {G : ev_G} {Q : Option ev_V → ev_M → Prop} {R : Option (Int32 × ev_m)} {mF : ev_m} (hR : ∀ (x0 : Int32) (m0 : ev_m), (some ((x0, m0))) = R → Q (some (vi x0)) (ev_emb m0)) (hN : none ≠ R) {i0 : Nat} {x1_ : Int32} {x2_ : Int32} {x3_ : Int32} (h : f_X9_set mF i0 x1_ x2_ x3_ = R) : ev_E G K_X9_set B_X9_set (0, 0) 0 [some (vr 0 (i0)), some (vi (x1_)), some (vi (x2_)), some (vi (x3_)), none, none, none, none, none, none, none] [] (ev_emb mF) Q := by
  unfold f_X9_set at h
  refine ev_aload_0 (pc := 0) dX9_set_0 ?_
  refine ev_iload_1 (pc := 1) dX9_set_1 ?_
  refine ev_iload_2 (pc := 2) dX9_set_2 ?_
  refine ev_iload_3 (pc := 3) dX9_set_3 ?_
  obtain ⟨p1, hp1, h⟩ := ev_bindE hN h
  refine cl1_X9_155 (pc := 4) rfl dX9_set_4 (by decide) (Nat.le_of_ble_eq_true rfl) (c_X9_ready hp1) ?_
  refine ev_ifb_ne (pc := 7) (tgt := 13) dX9_set_7 (by decide) (fun c2 => ?_) (fun c2 => ?_)
  · replace h := ev_ifp h c2
    refine ev_aload_0 (pc := 13) dX9_set_13 ?_
    refine gt_X9_41 (pc := 14) rfl dX9_set_14 ?_
    refine gt_X9_204 (pc := 17) rfl dX9_set_17 ?_
    obtain ⟨x3, hx3, h⟩ := ev_letE h
    refine ev_topi (pc := 20) hx3 ?_
    refine ev_istore_4 (pc := 20) dX9_set_20 (by decide) rfl ?_
    refine ev_ldc (pc := 22) (v := (-100000)) kc_X9_90 dX9_set_22 ?_
    refine ev_istore_5 (pc := 24) dX9_set_24 (by decide) rfl ?_
    refine ev_ldc2 (pc := 26) (v := 9223372036854775807) kl_X9_165 dX9_set_26 ?_
    refine ev_lstore_6 (pc := 29) dX9_set_29 (by decide) rfl ?_
    refine ev_bipush (pc := 31) (v := (-50)) dX9_set_31 (by decide) ?_
    refine ev_istore_8 (pc := 33) dX9_set_33 (by decide) rfl ?_
    refine ev_E.forget (L' := [some (vr 0 (i0)), none, none, some (vi (x3_)), some (vi (x3)), some (vi ((-100000))), some (vl (9223372036854775807)), none, some (vi ((-50))), none, none]) ⟨rfl, ⟨rfl, ⟨rfl, ⟨rfl, ⟨rfl, ⟨rfl, trivial⟩⟩⟩⟩⟩⟩ ?_
    refine e_lp_X9_set_35 hR hN 4000 _ _ _ _ _ h (fun x19 m20 h => ?_)
    refine ev_iload_5 (pc := 105) dX9_set_105 ?_
    exact ev_iret (pc := 107) dX9_set_107 rfl rfl (hR _ _ h)
  · replace h := ev_ifn h c2
    refine ev_ldc (pc := 10) (v := (-100000)) kc_X9_90 dX9_set_10 ?_
    exact ev_iret (pc := 12) dX9_set_12 rfl rfl (hR _ _ h)
theorem c_X9_set {G : ev_G} {mF : ev_m} {i0 : Nat} {x1_ : Int32} {x2_ : Int32} {x3_ : Int32} {r : Int32 × ev_m} (h : f_X9_set mF i0 x1_ x2_ x3_ = some r) : ev_CF G K_X9_set B_X9_set [vr 0 (i0), vi (x1_), vi (x2_), vi (x3_)] mF (some (vi (r.1))) r.2 :=
  ev_Ct_of rfl rfl (Nat.le_of_ble_eq_true rfl) (e_X9_set (R := some r) (fun x0 m0 q => by cases q; exact ⟨rfl, rfl⟩) (fun q => by cases q) h)
set_option maxRecDepth 20000 in
set_option maxHeartbeats 4000000 in
theorem e_X9_worth {G : ev_G} {Q : Option ev_V → ev_M → Prop} {R : Option (Int64 × ev_m)} {mF : ev_m} (hR : ∀ (x0 : Int64) (m0 : ev_m), (some ((x0, m0))) = R → Q (some (vl x0)) (ev_emb m0)) (hN : none ≠ R) {i0 : Nat} {x1_ : Int32} {x2_ : Int32} {x3_ : Int32} {x4_ : Int32} (h : f_X9_worth mF i0 x1_ x2_ x3_ x4_ = R) : ev_E G K_X9_worth B_X9_worth (0, 0) 0 [some (vr 0 (i0)), some (vi (x1_)), some (vi (x2_)), some (vi (x3_)), some (vi (x4_)), none, none] [] (ev_emb mF) Q := by
  unfold f_X9_worth at h
  refine ev_aload_0 (pc := 0) dX9_worth_0 ?_
  refine ev_iload_1 (pc := 1) dX9_worth_1 ?_
  refine ev_iload_2 (pc := 2) dX9_worth_2 ?_
  refine ev_iload_3 (pc := 3) dX9_worth_3 ?_
  obtain ⟨p1, hp1, h⟩ := ev_bindE hN h
  refine cl1_X9_155 (pc := 4) rfl dX9_worth_4 (by decide) (Nat.le_of_ble_eq_true rfl) (c_X9_ready hp1) ?_
  refine ev_ifb_ne (pc := 7) (tgt := 14) dX9_worth_7 (by decide) (fun c2 => ?_) (fun c2 => ?_)
  · replace h := ev_ifp h c2
    refine ev_aload_0 (pc := 14) dX9_worth_14 ?_
    refine ev_iload_3 (pc := 15) dX9_worth_15 ?_
    obtain ⟨p3, hp3, h⟩ := ev_bindE hN h
    refine cl1_X9_216 (pc := 16) rfl dX9_worth_16 (by decide) (Nat.le_of_ble_eq_true rfl) (c_X9_trialCost hp3) ?_
    obtain ⟨y4, hy4, h⟩ := ev_letE h
    refine ev_topl (pc := 19) hy4 ?_
    refine ev_lstore_5 (pc := 19) dX9_worth_19 (by decide) rfl ?_
    refine ev_iload_4 (pc := 21) dX9_worth_21 ?_
    by_cases c5 : x4_ = 0
    · replace h := ev_ifp h c5
      refine ev_tin (pc := 23) 0 (tgt := 48) c5 (by decide) dX9_worth_23 rfl (by decide) ?_
      refine ev_aload_0 (pc := 48) dX9_worth_48 ?_
      refine gt_X9_48 (pc := 49) rfl dX9_worth_49 ?_
      refine ev_iconst (pc := 52) (v := 0) dX9_worth_52 rfl ?_
      obtain ⟨m11, hm11, h⟩ := ev_letE h
      refine pt_X9_219 (pc := 53) rfl dX9_worth_53 ?_
      refine ev_mem (pc := 56) hm11 ?_
      refine ev_aload_0 (pc := 56) dX9_worth_56 ?_
      refine ev_iload_3 (pc := 57) dX9_worth_57 ?_
      obtain ⟨p12, hp12, h⟩ := ev_bindE hN h
      refine cl1_X9_216 (pc := 58) rfl dX9_worth_58 (by decide) (Nat.le_of_ble_eq_true rfl) (c_X9_trialCost hp12) ?_
      refine ev_lload_5 (pc := 61) dX9_worth_61 ?_
      refine ev_lsub (pc := 63) dX9_worth_63 ?_
      exact ev_lret (pc := 64) dX9_worth_64 rfl (hR _ _ h)
    · replace h := ev_ifn h c5
      by_cases c6 : x4_ = 1
      · replace h := ev_ifp h c6
        refine ev_tin (pc := 23) 1 (tgt := 65) c6 (by decide) dX9_worth_23 rfl (by decide) ?_
        refine ev_aload_0 (pc := 65) dX9_worth_65 ?_
        refine ev_bipush (pc := 66) (v := 8) dX9_worth_66 (by decide) ?_
        refine ev_iconst (pc := 68) (v := 1) dX9_worth_68 rfl ?_
        refine ev_iload_3 (pc := 69) dX9_worth_69 ?_
        obtain ⟨p9, hp9, h⟩ := ev_bindE hN h
        refine cl1_X9_167 (pc := 70) rfl dX9_worth_70 (by decide) (Nat.le_of_ble_eq_true rfl) (c_X9_costWith hp9) ?_
        refine ev_aload_0 (pc := 73) dX9_worth_73 ?_
        refine ev_bipush (pc := 74) (v := 8) dX9_worth_74 (by decide) ?_
        refine ev_iconst (pc := 76) (v := 0) dX9_worth_76 rfl ?_
        refine ev_iload_3 (pc := 77) dX9_worth_77 ?_
        obtain ⟨p10, hp10, h⟩ := ev_bindE hN h
        refine cl1_X9_167 (pc := 78) rfl dX9_worth_78 (by decide) (Nat.le_of_ble_eq_true rfl) (c_X9_costWith hp10) ?_
        refine ev_lsub (pc := 81) dX9_worth_81 ?_
        exact ev_lret (pc := 82) dX9_worth_82 rfl (hR _ _ h)
      · replace h := ev_ifn h c6
        by_cases c7 : x4_ = 2
        · replace h := ev_ifp h c7
          refine ev_tin (pc := 23) 2 (tgt := 83) c7 (by decide) dX9_worth_23 rfl (by decide) ?_
          refine ev_aload_0 (pc := 83) dX9_worth_83 ?_
          refine ev_iconst (pc := 84) (v := 1) dX9_worth_84 rfl ?_
          refine ev_iconst (pc := 85) (v := 0) dX9_worth_85 rfl ?_
          refine ev_iload_3 (pc := 86) dX9_worth_86 ?_
          obtain ⟨p8, hp8, h⟩ := ev_bindE hN h
          refine cl1_X9_167 (pc := 87) rfl dX9_worth_87 (by decide) (Nat.le_of_ble_eq_true rfl) (c_X9_costWith hp8) ?_
          refine ev_lload_5 (pc := 90) dX9_worth_90 ?_
          refine ev_lsub (pc := 92) dX9_worth_92 ?_
          exact ev_lret (pc := 93) dX9_worth_93 rfl (hR _ _ h)
        · replace h := ev_ifn h c7
          refine ev_tout (pc := 23) 3 (tgt := 94) rfl (by decide) (lt_s (p := fun j => ¬ x4_ = nI j) (lt_s (p := fun j => ¬ x4_ = nI j) (lt_s (p := fun j => ¬ x4_ = nI j) lt_0 c5) c6) c7) dX9_worth_23 (by decide) ?_
          refine ev_ldc2 (pc := 94) (v := (-9223372036854775808)) kl_X9_146 dX9_worth_94 ?_
          exact ev_lret (pc := 97) dX9_worth_97 rfl (hR _ _ h)
  · replace h := ev_ifn h c2
    refine ev_ldc2 (pc := 10) (v := (-9223372036854775808)) kl_X9_146 dX9_worth_10 ?_
    exact ev_lret (pc := 13) dX9_worth_13 rfl (hR _ _ h)
theorem c_X9_worth {G : ev_G} {mF : ev_m} {i0 : Nat} {x1_ : Int32} {x2_ : Int32} {x3_ : Int32} {x4_ : Int32} {r : Int64 × ev_m} (h : f_X9_worth mF i0 x1_ x2_ x3_ x4_ = some r) : ev_CF G K_X9_worth B_X9_worth [vr 0 (i0), vi (x1_), vi (x2_), vi (x3_), vi (x4_)] mF (some (vl (r.1))) r.2 :=
  ev_Ct_of rfl rfl (Nat.le_of_ble_eq_true rfl) (e_X9_worth (R := some r) (fun x0 m0 q => by cases q; exact ⟨rfl, rfl⟩) (fun q => by cases q) h)
set_option maxRecDepth 20000 in
set_option maxHeartbeats 4000000 in
theorem e_X9_night {G : ev_G} {Q : Option ev_V → ev_M → Prop} {R : Option (Int64 × ev_m)} {mF : ev_m} (hR : ∀ (x0 : Int64) (m0 : ev_m), (some ((x0, m0))) = R → Q (some (vl x0)) (ev_emb m0)) (hN : none ≠ R) {i0 : Nat} {x1_ : Int32} {x2_ : Int32} {x3_ : Int32} {x4_ : Int32} (h : f_X9_night mF i0 x1_ x2_ x3_ x4_ = R) : ev_E G K_X9_night B_X9_night (0, 0) 0 [some (vr 0 (i0)), some (vi (x1_)), some (vi (x2_)), some (vi (x3_)), some (vi (x4_))] [] (ev_emb mF) Q := by
  unfold f_X9_night at h
  refine ev_aload_0 (pc := 0) dX9_night_0 ?_
  refine ev_iload_1 (pc := 1) dX9_night_1 ?_
  refine ev_iload_2 (pc := 2) dX9_night_2 ?_
  refine ev_iload_3 (pc := 3) dX9_night_3 ?_
  obtain ⟨p1, hp1, h⟩ := ev_bindE hN h
  refine cl1_X9_155 (pc := 4) rfl dX9_night_4 (by decide) (Nat.le_of_ble_eq_true rfl) (c_X9_ready hp1) ?_
  refine ev_ifb_eq (pc := 7) (tgt := 23) dX9_night_7 (by decide) (fun c2 => ?_) (fun c2 => ?_)
  · replace h := ev_ifn h c2
    refine ev_ldc2 (pc := 23) (v := (-9223372036854775808)) kl_X9_146 dX9_night_23 ?_
    exact ev_lret (pc := 26) dX9_night_26 rfl (hR _ _ h)
  · replace h := ev_ifp h c2
    refine ev_iload_4 (pc := 10) dX9_night_10 ?_
    refine ev_ifc_lt (pc := 12) (tgt := 23) dX9_night_12 (by decide) (fun c3 => ?_) (fun c3 => ?_)
    · replace h := ev_ifp h c3
      refine ev_ldc2 (pc := 23) (v := (-9223372036854775808)) kl_X9_146 dX9_night_23 ?_
      exact ev_lret (pc := 26) dX9_night_26 rfl (hR _ _ h)
    · replace h := ev_ifn h c3
      refine ev_iload_4 (pc := 15) dX9_night_15 ?_
      refine ev_sipush (pc := 17) (v := 999) dX9_night_17 (by decide) ?_
      refine ev_icc_le (pc := 20) (tgt := 27) dX9_night_20 (by decide) (fun c4 => ?_) (fun c4 => ?_)
      · replace h := ev_ifn h c4
        refine ev_aload_0 (pc := 27) dX9_night_27 ?_
        refine ev_iconst (pc := 28) (v := 5) dX9_night_28 rfl ?_
        refine ev_iload_4 (pc := 29) dX9_night_29 ?_
        refine ev_iload_3 (pc := 31) dX9_night_31 ?_
        obtain ⟨p5, hp5, h⟩ := ev_bindE hN h
        refine cl1_X9_167 (pc := 32) rfl dX9_night_32 (by decide) (Nat.le_of_ble_eq_true rfl) (c_X9_costWith hp5) ?_
        refine ev_aload_0 (pc := 35) dX9_night_35 ?_
        refine ev_iconst (pc := 36) (v := 5) dX9_night_36 rfl ?_
        refine ev_iconst (pc := 37) (v := 0) dX9_night_37 rfl ?_
        refine ev_iload_3 (pc := 38) dX9_night_38 ?_
        obtain ⟨p6, hp6, h⟩ := ev_bindE hN h
        refine cl1_X9_167 (pc := 39) rfl dX9_night_39 (by decide) (Nat.le_of_ble_eq_true rfl) (c_X9_costWith hp6) ?_
        refine ev_lsub (pc := 42) dX9_night_42 ?_
        exact ev_lret (pc := 43) dX9_night_43 rfl (hR _ _ h)
      · replace h := ev_ifp h c4
        refine ev_ldc2 (pc := 23) (v := (-9223372036854775808)) kl_X9_146 dX9_night_23 ?_
        exact ev_lret (pc := 26) dX9_night_26 rfl (hR _ _ h)
theorem c_X9_night {G : ev_G} {mF : ev_m} {i0 : Nat} {x1_ : Int32} {x2_ : Int32} {x3_ : Int32} {x4_ : Int32} {r : Int64 × ev_m} (h : f_X9_night mF i0 x1_ x2_ x3_ x4_ = some r) : ev_CF G K_X9_night B_X9_night [vr 0 (i0), vi (x1_), vi (x2_), vi (x3_), vi (x4_)] mF (some (vl (r.1))) r.2 :=
  ev_Ct_of rfl rfl (Nat.le_of_ble_eq_true rfl) (e_X9_night (R := some r) (fun x0 m0 q => by cases q; exact ⟨rfl, rfl⟩) (fun q => by cases q) h)
set_option maxRecDepth 20000 in
set_option maxHeartbeats 4000000 in
theorem e_lp_X9_cloud_20 {G : ev_G} {Q : Option ev_V → ev_M → Prop} {R : Option (Int32 × ev_m)} (hR : ∀ (x0 : Int32) (m0 : ev_m), (some ((x0, m0))) = R → Q (some (vi x0)) (ev_emb m0)) (hN : none ≠ R) {i4 : Nat} {x5 : Int32} {x6 : Int32} : ∀ (f : Nat) (x7 : Int32) (m8 : ev_m) (kx : ev_m → Option (Int32 × ev_m)) (h : lp_X9_cloud_20 i4 x5 x6 f x7 m8 kx = R) (hk : ∀ (m8' : ev_m), kx m8' = R → ev_E G K_X9_cloud B_X9_cloud (0, 0) 65 [none, none, none, none, none, none] [] (ev_emb m8') Q), ev_E G K_X9_cloud B_X9_cloud (0, 0) 20 [some (vr 0 (i4)), none, none, some (vi (x5)), some (vi (x6)), some (vi (x7))] [] (ev_emb m8) Q := by
  intro f
  induction f with
  | zero => intro x7 m8 kx h hk; rw [lp_X9_cloud_20] at h; exact absurd h hN
  | succ f ih =>
    intro x7 m8 kx h hk
    rw [lp_X9_cloud_20] at h
    refine ev_iload_5 (pc := 20) dX9_cloud_20 ?_
    refine ev_ifc_lt (pc := 22) (tgt := 65) dX9_cloud_22 (by decide) (fun c9 => ?_) (fun c9 => ?_)
    · replace h := ev_ifp h c9
      refine ev_E.forget (L' := [none, none, none, none, none, none]) trivial ?_
      exact hk _  h
    · replace h := ev_ifn h c9
      refine ev_aload_0 (pc := 25) dX9_cloud_25 ?_
      refine gt_X9_48 (pc := 26) rfl dX9_cloud_26 ?_
      refine ev_iconst (pc := 29) (v := 0) dX9_cloud_29 rfl ?_
      obtain ⟨m10, hm10, h⟩ := ev_letE h
      refine pt_X9_219 (pc := 30) rfl dX9_cloud_30 ?_
      refine ev_mem (pc := 33) hm10 ?_
      refine ev_aload_0 (pc := 33) dX9_cloud_33 ?_
      refine gt_X9_48 (pc := 34) rfl dX9_cloud_34 ?_
      refine ev_iconst (pc := 37) (v := 1) dX9_cloud_37 rfl ?_
      refine ev_iload_5 (pc := 38) dX9_cloud_38 ?_
      obtain ⟨p11, hp11, h⟩ := ev_letE h
      refine cl1_X9_222 (pc := 40) (fr := 1) (lo := 22) (m' := p11.2) (v := vi (bi (p11.1))) rfl dX9_cloud_40 (by decide) (Nat.le_of_ble_eq_true rfl) (by rw [hp11]; exact c_X1_addStar m10 16 1 x7) ?_
      refine ev_pop_i (pc := 43) dX9_cloud_43 ?_
      refine ev_aload_0 (pc := 44) dX9_cloud_44 ?_
      refine ev_iload_3 (pc := 45) dX9_cloud_45 ?_
      obtain ⟨p12, hp12, h⟩ := ev_bindE hN h
      refine cl1_X9_201 (pc := 46) rfl dX9_cloud_46 (by decide) (Nat.le_of_ble_eq_true rfl) (c_X9_trialWidest hp12) ?_
      refine ev_iload_4 (pc := 49) dX9_cloud_49 ?_
      refine ev_i2l (pc := 51) dX9_cloud_51 ?_
      refine ev_lcc_gt (pc := 52) (tgt := 59) dX9_cloud_52 dX9_cloud_53 (by decide) (fun c13 => ?_) (fun c13 => ?_)
      · replace h := ev_ifp h c13
        refine ev_iinc_5 (pc := 59) (y := x7 + (-1)) dX9_cloud_59 rfl (by decide) rfl ?_
        refine ev_goto (pc := 62) (tgt := 20) dX9_cloud_62 (by decide) ?_
        exact ih _ _ kx h hk
      · replace h := ev_ifn h c13
        refine ev_iload_5 (pc := 56) dX9_cloud_56 ?_
        exact ev_iret (pc := 58) dX9_cloud_58 rfl rfl (hR _ _ h)
set_option maxRecDepth 20000 in
set_option maxHeartbeats 4000000 in
theorem e_X9_cloud {G : ev_G} {Q : Option ev_V → ev_M → Prop} {R : Option (Int32 × ev_m)} {mF : ev_m} (hR : ∀ (x0 : Int32) (m0 : ev_m), (some ((x0, m0))) = R → Q (some (vi x0)) (ev_emb m0)) (hN : none ≠ R) {i0 : Nat} {x1_ : Int32} {x2_ : Int32} {x3_ : Int32} {x4_ : Int32} (h : f_X9_cloud mF i0 x1_ x2_ x3_ x4_ = R) : ev_E G K_X9_cloud B_X9_cloud (0, 0) 0 [some (vr 0 (i0)), some (vi (x1_)), some (vi (x2_)), some (vi (x3_)), some (vi (x4_)), none] [] (ev_emb mF) Q := by
  unfold f_X9_cloud at h
  refine ev_aload_0 (pc := 0) dX9_cloud_0 ?_
  refine ev_iload_1 (pc := 1) dX9_cloud_1 ?_
  refine ev_iload_2 (pc := 2) dX9_cloud_2 ?_
  refine ev_iload_3 (pc := 3) dX9_cloud_3 ?_
  obtain ⟨p1, hp1, h⟩ := ev_bindE hN h
  refine cl1_X9_155 (pc := 4) rfl dX9_cloud_4 (by decide) (Nat.le_of_ble_eq_true rfl) (c_X9_ready hp1) ?_
  refine ev_ifb_eq (pc := 7) (tgt := 15) dX9_cloud_7 (by decide) (fun c2 => ?_) (fun c2 => ?_)
  · replace h := ev_ifn h c2
    refine ev_iconst (pc := 15) (v := (-1)) dX9_cloud_15 rfl ?_
    exact ev_iret (pc := 16) dX9_cloud_16 rfl rfl (hR _ _ h)
  · replace h := ev_ifp h c2
    refine ev_iload_4 (pc := 10) dX9_cloud_10 ?_
    refine ev_ifc_ge (pc := 12) (tgt := 17) dX9_cloud_12 (by decide) (fun c3 => ?_) (fun c3 => ?_)
    · replace h := ev_ifn h c3
      refine ev_iload_3 (pc := 17) dX9_cloud_17 ?_
      refine ev_istore_5 (pc := 18) dX9_cloud_18 (by decide) rfl ?_
      refine ev_E.forget (L' := [some (vr 0 (i0)), none, none, some (vi (x3_)), some (vi (x4_)), some (vi (x3_))]) ⟨rfl, ⟨rfl, ⟨rfl, ⟨rfl, trivial⟩⟩⟩⟩ ?_
      refine e_lp_X9_cloud_20 hR hN 4000 _ _ _ h (fun m14 h => ?_)
      refine ev_iconst (pc := 65) (v := (-1)) dX9_cloud_65 rfl ?_
      exact ev_iret (pc := 66) dX9_cloud_66 rfl rfl (hR _ _ h)
    · replace h := ev_ifp h c3
      refine ev_iconst (pc := 15) (v := (-1)) dX9_cloud_15 rfl ?_
      exact ev_iret (pc := 16) dX9_cloud_16 rfl rfl (hR _ _ h)
theorem c_X9_cloud {G : ev_G} {mF : ev_m} {i0 : Nat} {x1_ : Int32} {x2_ : Int32} {x3_ : Int32} {x4_ : Int32} {r : Int32 × ev_m} (h : f_X9_cloud mF i0 x1_ x2_ x3_ x4_ = some r) : ev_CF G K_X9_cloud B_X9_cloud [vr 0 (i0), vi (x1_), vi (x2_), vi (x3_), vi (x4_)] mF (some (vi (r.1))) r.2 :=
  ev_Ct_of rfl rfl (Nat.le_of_ble_eq_true rfl) (e_X9_cloud (R := some r) (fun x0 m0 q => by cases q; exact ⟨rfl, rfl⟩) (fun q => by cases q) h)
set_option maxRecDepth 20000 in
set_option maxHeartbeats 4000000 in
theorem e_lp_X9_coarse_40 {G : ev_G} {Q : Option ev_V → ev_M → Prop} {R : Option (Int32 × ev_m)} (hR : ∀ (x0 : Int32) (m0 : ev_m), (some ((x0, m0))) = R → Q (some (vi x0)) (ev_emb m0)) (hN : none ≠ R) {i7 : Nat} {x8 : Int32} {x9 : Int32} {y10 : Int64} : ∀ (f : Nat) (x11 : Int32) (x12 : Int32) (m13 : ev_m) (kx : Int32 → ev_m → Option (Int32 × ev_m)) (h : lp_X9_coarse_40 i7 x8 x9 y10 f x11 x12 m13 kx = R) (hk : ∀ (x11' : Int32) (m13' : ev_m), kx x11' m13' = R → ev_E G K_X9_coarse B_X9_coarse (0, 0) 71 [none, none, none, none, none, none, none, some (vi (x11')), none] [] (ev_emb m13') Q), ev_E G K_X9_coarse B_X9_coarse (0, 0) 40 [some (vr 0 (i7)), none, none, some (vi (x8)), some (vi (x9)), some (vl (y10)), none, some (vi (x11)), some (vi (x12))] [] (ev_emb m13) Q := by
  intro f
  induction f with
  | zero => intro x11 x12 m13 kx h hk; rw [lp_X9_coarse_40] at h; exact absurd h hN
  | succ f ih =>
    intro x11 x12 m13 kx h hk
    rw [lp_X9_coarse_40] at h
    refine ev_iload_8 (pc := 40) dX9_coarse_40 ?_
    refine ev_iload_4 (pc := 42) dX9_coarse_42 ?_
    refine ev_icc_gt (pc := 44) (tgt := 71) dX9_coarse_44 (by decide) (fun c14 => ?_) (fun c14 => ?_)
    · replace h := ev_ifp h c14
      refine ev_E.forget (L' := [none, none, none, none, none, none, none, some (vi (x11)), none]) ⟨rfl, trivial⟩ ?_
      exact hk _ _  h
    · replace h := ev_ifn h c14
      refine ev_aload_0 (pc := 47) dX9_coarse_47 ?_
      refine ev_iconst (pc := 48) (v := 4) dX9_coarse_48 rfl ?_
      refine ev_iload_8 (pc := 49) dX9_coarse_49 ?_
      refine ev_iload_3 (pc := 51) dX9_coarse_51 ?_
      obtain ⟨p15, hp15, h⟩ := ev_bindE hN h
      refine cl1_X9_167 (pc := 52) rfl dX9_coarse_52 (by decide) (Nat.le_of_ble_eq_true rfl) (c_X9_costWith hp15) ?_
      refine ev_lload_5 (pc := 55) dX9_coarse_55 ?_
      obtain ⟨x17, hx17, h⟩ := ev_letE h
      have hJ1 : ev_E G K_X9_coarse B_X9_coarse (0, 0) 65 [some (vr 0 (i7)), none, none, some (vi (x8)), some (vi (x9)), some (vl (y10)), none, some (vi (x17)), some (vi (x12))] [] (ev_emb p15.2) Q := by
        refine ev_iinc_8 (pc := 65) (y := x12 + 1) dX9_coarse_65 rfl (by decide) rfl ?_
        refine ev_goto (pc := 68) (tgt := 40) dX9_coarse_68 (by decide) ?_
        exact ih _ _ _ kx h hk
      refine ev_lcc_gt (pc := 57) (tgt := 65) dX9_coarse_57 dX9_coarse_58 (by decide) (fun c16 => ?_) (fun c16 => ?_)
      · replace hx17 := (hx17.trans (if_pos c16))
        subst hx17
        exact hJ1
      · refine ev_iload_8 (pc := 61) dX9_coarse_61 ?_
        refine ev_istore_7 (pc := 63) dX9_coarse_63 (by decide) rfl ?_
        replace hx17 := (hx17.trans (if_neg c16))
        subst hx17
        exact hJ1
set_option maxRecDepth 20000 in
set_option maxHeartbeats 4000000 in
theorem e_X9_coarse {G : ev_G} {Q : Option ev_V → ev_M → Prop} {R : Option (Int32 × ev_m)} {mF : ev_m} (hR : ∀ (x0 : Int32) (m0 : ev_m), (some ((x0, m0))) = R → Q (some (vi x0)) (ev_emb m0)) (hN : none ≠ R) {i0 : Nat} {x1_ : Int32} {x2_ : Int32} {x3_ : Int32} {x4_ : Int32} (h : f_X9_coarse mF i0 x1_ x2_ x3_ x4_ = R) : ev_E G K_X9_coarse B_X9_coarse (0, 0) 0 [some (vr 0 (i0)), some (vi (x1_)), some (vi (x2_)), some (vi (x3_)), some (vi (x4_)), none, none, none, none] [] (ev_emb mF) Q := by
  unfold f_X9_coarse at h
  refine ev_aload_0 (pc := 0) dX9_coarse_0 ?_
  refine ev_iload_1 (pc := 1) dX9_coarse_1 ?_
  refine ev_iload_2 (pc := 2) dX9_coarse_2 ?_
  refine ev_iload_3 (pc := 3) dX9_coarse_3 ?_
  obtain ⟨p1, hp1, h⟩ := ev_bindE hN h
  refine cl1_X9_155 (pc := 4) rfl dX9_coarse_4 (by decide) (Nat.le_of_ble_eq_true rfl) (c_X9_ready hp1) ?_
  refine ev_ifb_eq (pc := 7) (tgt := 23) dX9_coarse_7 (by decide) (fun c2 => ?_) (fun c2 => ?_)
  · replace h := ev_ifn h c2
    refine ev_iconst (pc := 23) (v := (-1)) dX9_coarse_23 rfl ?_
    exact ev_iret (pc := 24) dX9_coarse_24 rfl rfl (hR _ _ h)
  · replace h := ev_ifp h c2
    refine ev_iload_4 (pc := 10) dX9_coarse_10 ?_
    refine ev_iconst (pc := 12) (v := 1) dX9_coarse_12 rfl ?_
    refine ev_icc_lt (pc := 13) (tgt := 23) dX9_coarse_13 (by decide) (fun c3 => ?_) (fun c3 => ?_)
    · replace h := ev_ifp h c3
      refine ev_iconst (pc := 23) (v := (-1)) dX9_coarse_23 rfl ?_
      exact ev_iret (pc := 24) dX9_coarse_24 rfl rfl (hR _ _ h)
    · replace h := ev_ifn h c3
      refine ev_iload_4 (pc := 16) dX9_coarse_16 ?_
      refine ev_bipush (pc := 18) (v := 50) dX9_coarse_18 (by decide) ?_
      refine ev_icc_le (pc := 20) (tgt := 25) dX9_coarse_20 (by decide) (fun c4 => ?_) (fun c4 => ?_)
      · replace h := ev_ifn h c4
        refine ev_aload_0 (pc := 25) dX9_coarse_25 ?_
        refine ev_iconst (pc := 26) (v := 4) dX9_coarse_26 rfl ?_
        refine ev_iconst (pc := 27) (v := 1) dX9_coarse_27 rfl ?_
        refine ev_iload_3 (pc := 28) dX9_coarse_28 ?_
        obtain ⟨p5, hp5, h⟩ := ev_bindE hN h
        refine cl1_X9_167 (pc := 29) rfl dX9_coarse_29 (by decide) (Nat.le_of_ble_eq_true rfl) (c_X9_costWith hp5) ?_
        obtain ⟨y6, hy6, h⟩ := ev_letE h
        refine ev_topl (pc := 32) hy6 ?_
        refine ev_lstore_5 (pc := 32) dX9_coarse_32 (by decide) rfl ?_
        refine ev_iconst (pc := 34) (v := 1) dX9_coarse_34 rfl ?_
        refine ev_istore_7 (pc := 35) dX9_coarse_35 (by decide) rfl ?_
        refine ev_iconst (pc := 37) (v := 2) dX9_coarse_37 rfl ?_
        refine ev_istore_8 (pc := 38) dX9_coarse_38 (by decide) rfl ?_
        refine ev_E.forget (L' := [some (vr 0 (i0)), none, none, some (vi (x3_)), some (vi (x4_)), some (vl (y6)), none, some (vi (1)), some (vi (2))]) ⟨rfl, ⟨rfl, ⟨rfl, ⟨rfl, ⟨rfl, ⟨rfl, trivial⟩⟩⟩⟩⟩⟩ ?_
        refine e_lp_X9_coarse_40 hR hN 4000 _ _ _ _ h (fun x18 m19 h => ?_)
        refine ev_iload_7 (pc := 71) dX9_coarse_71 ?_
        exact ev_iret (pc := 73) dX9_coarse_73 rfl rfl (hR _ _ h)
      · replace h := ev_ifp h c4
        refine ev_iconst (pc := 23) (v := (-1)) dX9_coarse_23 rfl ?_
        exact ev_iret (pc := 24) dX9_coarse_24 rfl rfl (hR _ _ h)
theorem c_X9_coarse {G : ev_G} {mF : ev_m} {i0 : Nat} {x1_ : Int32} {x2_ : Int32} {x3_ : Int32} {x4_ : Int32} {r : Int32 × ev_m} (h : f_X9_coarse mF i0 x1_ x2_ x3_ x4_ = some r) : ev_CF G K_X9_coarse B_X9_coarse [vr 0 (i0), vi (x1_), vi (x2_), vi (x3_), vi (x4_)] mF (some (vi (r.1))) r.2 :=
  ev_Ct_of rfl rfl (Nat.le_of_ble_eq_true rfl) (e_X9_coarse (R := some r) (fun x0 m0 q => by cases q; exact ⟨rfl, rfl⟩) (fun q => by cases q) h)
