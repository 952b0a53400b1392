/-! lifted methods -/
set_option maxRecDepth 20000 in
set_option maxHeartbeats 4000000 in
theorem e_lp_X10_weary_38 {G : ev_G} {Q : Option ev_V → ev_M → Prop} {R : Option (Int32 × ev_m)} (hR : ∀ (x0 : Int32) (m0 : ev_m), (some ((x0, m0))) = R → Q (some (vi x0)) (ev_emb m0)) (hN : none ≠ R) {m13 : ev_m} {i6 : Nat} {x7 : Int32} {x8 : Int32} {x9 : Int32} : ∀ (f : Nat) (x10 : Int32) (x11 : Int32) (x12 : Int32) (kx : Int32 → Int32 → Option (Int32 × ev_m)) (h : lp_X10_weary_38 m13 i6 x7 x8 x9 f x10 x11 x12 kx = R) (hk : ∀ (x10' : Int32) (x11' : Int32), kx x10' x11' = R → ev_E G K_X10_weary B_X10_weary (0, 0) 106 [none, none, none, some (vi (x7)), none, some (vi (x9)), some (vi (x10')), some (vi (x11')), none, none] [] (ev_emb m13) Q), ev_E G K_X10_weary B_X10_weary (0, 0) 38 [some (vr 10 (i6)), none, none, some (vi (x7)), some (vi (x8)), some (vi (x9)), some (vi (x10)), some (vi (x11)), some (vi (x12)), none] [] (ev_emb m13) Q := by
  intro f
  induction f with
  | zero => intro x10 x11 x12 kx h hk; rw [lp_X10_weary_38] at h; exact absurd h hN
  | succ f ih =>
    intro x10 x11 x12 kx h hk
    rw [lp_X10_weary_38] at h
    refine ev_iload_8 (pc := 38) dX10_weary_38 ?_
    refine ev_iload_3 (pc := 40) dX10_weary_40 ?_
    refine ev_icc_gt (pc := 41) (tgt := 106) dX10_weary_41 (by decide) (fun c14 => ?_) (fun c14 => ?_)
    · replace h := ev_ifp h c14
      refine ev_E.forget (L' := [none, none, none, some (vi (x7)), none, some (vi (x9)), some (vi (x10)), some (vi (x11)), none, none]) ⟨rfl, ⟨rfl, ⟨rfl, ⟨rfl, trivial⟩⟩⟩⟩ ?_
      exact hk _ _  h
    · replace h := ev_ifn h c14
      refine ev_aload_0 (pc := 44) dX10_weary_44 ?_
      refine gt_X10_56 (pc := 45) rfl dX10_weary_45 ?_
      refine ev_iload_8 (pc := 48) dX10_weary_48 ?_
      obtain ⟨x15, hx15, h⟩ := ev_bindE hN h
      refine ev_iald1 (pc := 50) rfl (by decide) rfl hx15 dX10_weary_50 ?_
      refine cl1_X10_289 (pc := 51) rfl dX10_weary_51 (by decide) (Nat.le_of_ble_eq_true rfl) (c_X10_plain m13 x15) ?_
      refine ev_iload_4 (pc := 54) dX10_weary_54 ?_
      obtain ⟨x17, hx17, h⟩ := ev_letE h
      have hJ3 : ev_E G K_X10_weary B_X10_weary (0, 0) 64 [some (vr 10 (i6)), none, none, some (vi (x7)), some (vi (x8)), some (vi (x9)), some (vi (x10)), some (vi (x11)), some (vi (x12)), none] [vi (x17)] (ev_emb m13) Q := by
        refine ev_istore_9 (pc := 64) dX10_weary_64 (by decide) rfl ?_
        refine ev_iload_9 (pc := 66) dX10_weary_66 ?_
        obtain ⟨x20, hx20, h⟩ := ev_letE h
        have hJ2 : ev_E G K_X10_weary B_X10_weary (0, 0) 84 [some (vr 10 (i6)), none, none, some (vi (x7)), some (vi (x8)), some (vi (x9)), some (vi (x10)), some (vi (x11)), some (vi (x12)), some (vi (x17))] [vi (x20)] (ev_emb m13) Q := by
          refine ev_istore_6 (pc := 84) dX10_weary_84 (by decide) rfl ?_
          refine ev_iload_9 (pc := 86) dX10_weary_86 ?_
          obtain ⟨x22, hx22, h⟩ := ev_letE h
          have hJ1 : ev_E G K_X10_weary B_X10_weary (0, 0) 98 [some (vr 10 (i6)), none, none, some (vi (x7)), some (vi (x8)), some (vi (x9)), some (vi (x20)), some (vi (x11)), some (vi (x12)), some (vi (x17))] [vi (x22)] (ev_emb m13) Q := by
            refine ev_istore_7 (pc := 98) dX10_weary_98 (by decide) rfl ?_
            refine ev_iinc_8 (pc := 100) (y := x12 + 1) dX10_weary_100 rfl (by decide) rfl ?_
            refine ev_goto (pc := 103) (tgt := 38) dX10_weary_103 (by decide) ?_
            refine ev_E.forget (L' := [some (vr 10 (i6)), none, none, some (vi (x7)), some (vi (x8)), some (vi (x9)), some (vi (x20)), some (vi (x22)), some (vi (x12 + 1)), none]) ⟨rfl, ⟨rfl, ⟨rfl, ⟨rfl, ⟨rfl, ⟨rfl, ⟨rfl, trivial⟩⟩⟩⟩⟩⟩⟩ ?_
            exact ih _ _ _ kx h hk
          refine ev_ifc_eq (pc := 88) (tgt := 96) dX10_weary_88 (by decide) (fun c21 => ?_) (fun c21 => ?_)
          · refine ev_iload_7 (pc := 96) dX10_weary_96 ?_
            replace hx22 := (hx22.trans (if_pos c21))
            subst hx22
            exact hJ1
          · refine ev_iload_8 (pc := 91) dX10_weary_91 ?_
            refine ev_goto (pc := 93) (tgt := 98) dX10_weary_93 (by decide) ?_
            replace hx22 := (hx22.trans (if_neg c21))
            subst hx22
            exact hJ1
        refine ev_ifc_eq (pc := 68) (tgt := 82) dX10_weary_68 (by decide) (fun c18 => ?_) (fun c18 => ?_)
        · refine ev_iload_6 (pc := 82) dX10_weary_82 ?_
          replace hx20 := (hx20.trans (if_pos c18))
          subst hx20
          exact hJ2
        · refine ev_iload_6 (pc := 71) dX10_weary_71 ?_
          refine ev_iconst (pc := 73) (v := (-1)) dX10_weary_73 rfl ?_
          refine ev_icc_ne (pc := 74) (tgt := 82) dX10_weary_74 (by decide) (fun c19 => ?_) (fun c19 => ?_)
          · refine ev_iload_6 (pc := 82) dX10_weary_82 ?_
            replace hx20 := ((hx20.trans (if_neg c18)).trans (if_neg c19))
            subst hx20
            exact hJ2
          · refine ev_iload_8 (pc := 77) dX10_weary_77 ?_
            refine ev_goto (pc := 79) (tgt := 84) dX10_weary_79 (by decide) ?_
            replace hx20 := ((hx20.trans (if_neg c18)).trans (if_pos c19))
            subst hx20
            exact hJ2
      refine ev_icc_le (pc := 56) (tgt := 63) dX10_weary_56 (by decide) (fun c16 => ?_) (fun c16 => ?_)
      · refine ev_iconst (pc := 63) (v := 0) dX10_weary_63 rfl ?_
        replace hx17 := (hx17.trans (if_neg c16))
        subst hx17
        exact hJ3
      · refine ev_iconst (pc := 59) (v := 1) dX10_weary_59 rfl ?_
        refine ev_goto (pc := 60) (tgt := 64) dX10_weary_60 (by decide) ?_
        replace hx17 := (hx17.trans (if_pos c16))
        subst hx17
        exact hJ3
set_option maxRecDepth 20000 in
set_option maxHeartbeats 4000000 in
theorem e_X10_weary {G : ev_G} {Q : Option ev_V → ev_M → Prop} {R : Option (Int32 × ev_m)} {mF : ev_m} (hR : ∀ (x0 : Int32) (m0 : ev_m), (some ((x0, m0))) = R → Q (some (vi x0)) (ev_emb m0)) (hN : none ≠ R) {i0 : Nat} {x1_ : Int32} {x2_ : Int32} {x3_ : Int32} {x4_ : Int32} {x5_ : Int32} (h : f_X10_weary mF i0 x1_ x2_ x3_ x4_ x5_ = R) : ev_E G K_X10_weary B_X10_weary (0, 0) 0 [some (vr 10 (i0)), some (vi (x1_)), some (vi (x2_)), some (vi (x3_)), some (vi (x4_)), some (vi (x5_)), none, none, none, none] [] (ev_emb mF) Q := by
  unfold f_X10_weary at h
  refine ev_aload_0 (pc := 0) dX10_weary_0 ?_
  refine ev_iconst (pc := 1) (v := 0) dX10_weary_1 rfl ?_
  obtain ⟨m1, hm1, h⟩ := ev_letE h
  refine pt_X10_81 (pc := 2) rfl dX10_weary_2 ?_
  refine ev_mem (pc := 5) hm1 ?_
  refine ev_aload_0 (pc := 5) dX10_weary_5 ?_
  refine ev_iload_1 (pc := 6) dX10_weary_6 ?_
  refine ev_iload_2 (pc := 7) dX10_weary_7 ?_
  refine ev_iload_3 (pc := 8) dX10_weary_8 ?_
  obtain ⟨p2, hp2, h⟩ := ev_bindE hN h
  refine cl1_X10_338 (pc := 9) rfl dX10_weary_9 (by decide) (Nat.le_of_ble_eq_true rfl) (c_X10_layFor hp2) ?_
  refine ev_ifb_eq (pc := 12) (tgt := 20) dX10_weary_12 (by decide) (fun c3 => ?_) (fun c3 => ?_)
  · replace h := ev_ifn h c3
    refine ev_iconst (pc := 20) (v := (-1)) dX10_weary_20 rfl ?_
    exact ev_iret (pc := 21) dX10_weary_21 rfl rfl (hR _ _ h)
  · replace h := ev_ifp h c3
    refine ev_iload_4 (pc := 15) dX10_weary_15 ?_
    refine ev_ifc_ge (pc := 17) (tgt := 22) dX10_weary_17 (by decide) (fun c4 => ?_) (fun c4 => ?_)
    · replace h := ev_ifn h c4
      refine ev_aload_0 (pc := 22) dX10_weary_22 ?_
      refine ev_iconst (pc := 23) (v := 1) dX10_weary_23 rfl ?_
      refine ev_iconst (pc := 24) (v := 0) dX10_weary_24 rfl ?_
      refine ev_iload_3 (pc := 25) dX10_weary_25 ?_
      obtain ⟨m5, hm5, h⟩ := ev_bindE hN h
      refine cl0_X10_315 (pc := 26) rfl dX10_weary_26 (by decide) (Nat.le_of_ble_eq_true rfl) (c_X10_runBy hm5) ?_
      refine ev_iconst (pc := 29) (v := (-1)) dX10_weary_29 rfl ?_
      refine ev_istore_6 (pc := 30) dX10_weary_30 (by decide) rfl ?_
      refine ev_iconst (pc := 32) (v := 0) dX10_weary_32 rfl ?_
      refine ev_istore_7 (pc := 33) dX10_weary_33 (by decide) rfl ?_
      refine ev_iconst (pc := 35) (v := 1) dX10_weary_35 rfl ?_
      refine ev_istore_8 (pc := 36) dX10_weary_36 (by decide) rfl ?_
      refine ev_E.forget (L' := [some (vr 10 (i0)), none, none, some (vi (x3_)), some (vi (x4_)), some (vi (x5_)), some (vi ((-1))), some (vi (0)), some (vi (1)), none]) ⟨rfl, ⟨rfl, ⟨rfl, ⟨rfl, ⟨rfl, ⟨rfl, ⟨rfl, trivial⟩⟩⟩⟩⟩⟩⟩ ?_
      refine e_lp_X10_weary_38 hR hN 4000 _ _ _ _ h (fun x23 x24 h => ?_)
      refine ev_iload_5 (pc := 106) dX10_weary_106 ?_
      refine ev_ifc_ne (pc := 108) (tgt := 116) dX10_weary_108 (by decide) (fun c25 => ?_) (fun c25 => ?_)
      · replace h := ev_ifn h c25
        refine ev_iload_7 (pc := 116) dX10_weary_116 ?_
        refine ev_iload_3 (pc := 118) dX10_weary_118 ?_
        refine ev_icc_ne (pc := 119) (tgt := 126) dX10_weary_119 (by decide) (fun c26 => ?_) (fun c26 => ?_)
        · replace h := ev_ifn h c26
          refine ev_iload_7 (pc := 126) dX10_weary_126 ?_
          exact ev_iret (pc := 128) dX10_weary_128 rfl rfl (hR _ _ h)
        · replace h := ev_ifp h c26
          refine ev_iconst (pc := 122) (v := (-1)) dX10_weary_122 rfl ?_
          refine ev_goto (pc := 123) (tgt := 128) dX10_weary_123 (by decide) ?_
          exact ev_iret (pc := 128) dX10_weary_128 rfl rfl (hR _ _ h)
      · replace h := ev_ifp h c25
        refine ev_iload_6 (pc := 111) dX10_weary_111 ?_
        refine ev_goto (pc := 113) (tgt := 128) dX10_weary_113 (by decide) ?_
        exact ev_iret (pc := 128) dX10_weary_128 rfl rfl (hR _ _ h)
    · replace h := ev_ifp h c4
      refine ev_iconst (pc := 20) (v := (-1)) dX10_weary_20 rfl ?_
      exact ev_iret (pc := 21) dX10_weary_21 rfl rfl (hR _ _ h)
theorem c_X10_weary {G : ev_G} {mF : ev_m} {i0 : Nat} {x1_ : Int32} {x2_ : Int32} {x3_ : Int32} {x4_ : Int32} {x5_ : Int32} {r : Int32 × ev_m} (h : f_X10_weary mF i0 x1_ x2_ x3_ x4_ x5_ = some r) : ev_CF G K_X10_weary B_X10_weary [vr 10 (i0), vi (x1_), vi (x2_), vi (x3_), vi (x4_), vi (x5_)] mF (some (vi (r.1))) r.2 :=
  ev_Ct_of rfl rfl (Nat.le_of_ble_eq_true rfl) (e_X10_weary (R := some r) (fun x0 m0 q => by cases q; exact ⟨rfl, rfl⟩) (fun q => by cases q) h)
set_option maxRecDepth 20000 in
set_option maxHeartbeats 4000000 in
theorem e_lp_X10_third_18 {G : ev_G} {Q : Option ev_V → ev_M → Prop} {R : Option (Int32 × ev_m)} (hR : ∀ (x0 : Int32) (m0 : ev_m), (some ((x0, m0))) = R → Q (some (vi x0)) (ev_emb m0)) (hN : none ≠ R) {i4 : Nat} {x5 : Int32} {x6 : Int32} {x7 : Int32} : ∀ (f : Nat) (x8 : Int32) (y9 : Int64) (x10 : Int32) (m11 : ev_m) (kx : Int32 → ev_m → Option (Int32 × ev_m)) (h : lp_X10_third_18 i4 x5 x6 x7 f x8 y9 x10 m11 kx = R) (hk : ∀ (x8' : Int32) (m11' : ev_m), kx x8' m11' = R → ev_E G K_X10_third B_X10_third (0, 0) 82 [none, none, none, none, some (vi (x8')), none, none, none, none, none] [] (ev_emb m11') Q), ev_E G K_X10_third B_X10_third (0, 0) 18 [some (vr 10 (i4)), some (vi (x5)), some (vi (x6)), some (vi (x7)), some (vi (x8)), some (vl (y9)), none, some (vi (x10)), none, none] [] (ev_emb m11) Q := by
  intro f
  induction f with
  | zero => intro x8 y9 x10 m11 kx h hk; rw [lp_X10_third_18] at h; exact absurd h hN
  | succ f ih =>
    intro x8 y9 x10 m11 kx h hk
    rw [lp_X10_third_18] at h
    refine ev_iload_7 (pc := 18) dX10_third_18 ?_
    refine ev_iconst (pc := 20) (v := 1) dX10_third_20 rfl ?_
    refine ev_icc_gt (pc := 21) (tgt := 82) dX10_third_21 (by decide) (fun c12 => ?_) (fun c12 => ?_)
    · replace h := ev_ifp h c12
      refine ev_E.forget (L' := [none, none, none, none, some (vi (x8)), none, none, none, none, none]) ⟨rfl, trivial⟩ ?_
      exact hk _ _  h
    · replace h := ev_ifn h c12
      refine ev_aload_0 (pc := 24) dX10_third_24 ?_
      refine ev_iconst (pc := 25) (v := 0) dX10_third_25 rfl ?_
      refine ev_iload_1 (pc := 26) dX10_third_26 ?_
      refine ev_iload_7 (pc := 27) dX10_third_27 ?_
      refine ev_iload_2 (pc := 29) dX10_third_29 ?_
      refine ev_imul (pc := 30) dX10_third_30 ?_
      refine ev_iadd (pc := 31) dX10_third_31 ?_
      refine ev_iload_3 (pc := 32) dX10_third_32 ?_
      obtain ⟨p13, hp13, h⟩ := ev_bindE hN h
      refine cl1_X10_350 (pc := 33) rfl dX10_third_33 (by decide) (Nat.le_of_ble_eq_true rfl) (c_X10_costWith hp13) ?_
      obtain ⟨y14, hy14, h⟩ := ev_letE h
      refine ev_topl (pc := 36) hy14 ?_
      refine ev_lstore_8 (pc := 36) dX10_third_36 (by decide) rfl ?_
      refine ev_lload_8 (pc := 38) dX10_third_38 ?_
      refine ev_lload_5 (pc := 40) dX10_third_40 ?_
      obtain ⟨x16, hx16, h⟩ := ev_letE h
      have hJ2 : ev_E G K_X10_third B_X10_third (0, 0) 57 [some (vr 10 (i4)), some (vi (x5)), some (vi (x6)), some (vi (x7)), some (vi (x8)), some (vl (y9)), none, some (vi (x10)), some (vl (y14)), none] [vi (x16)] (ev_emb p13.2) Q := by
        refine ev_istore_4 (pc := 57) dX10_third_57 (by decide) rfl ?_
        refine ev_lload_8 (pc := 59) dX10_third_59 ?_
        refine ev_lload_5 (pc := 61) dX10_third_61 ?_
        obtain ⟨y18, hy18, h⟩ := ev_letE h
        have hJ1 : ev_E G K_X10_third B_X10_third (0, 0) 74 [some (vr 10 (i4)), some (vi (x5)), some (vi (x6)), some (vi (x7)), some (vi (x16)), some (vl (y9)), none, some (vi (x10)), some (vl (y14)), none] [vl (y18)] (ev_emb p13.2) Q := by
          refine ev_lstore_5 (pc := 74) dX10_third_74 (by decide) rfl ?_
          refine ev_iinc_7 (pc := 76) (y := x10 + 1) dX10_third_76 rfl (by decide) rfl ?_
          refine ev_goto (pc := 79) (tgt := 18) dX10_third_79 (by decide) ?_
          refine ev_E.forget (L' := [some (vr 10 (i4)), some (vi (x5)), some (vi (x6)), some (vi (x7)), some (vi (x16)), some (vl (y18)), none, some (vi (x10 + 1)), none, none]) ⟨rfl, ⟨rfl, ⟨rfl, ⟨rfl, ⟨rfl, ⟨rfl, ⟨rfl, trivial⟩⟩⟩⟩⟩⟩⟩ ?_
          exact ih _ _ _ _ kx h hk
        refine ev_lcc_ge (pc := 63) (tgt := 72) dX10_third_63 dX10_third_64 (by decide) (fun c17 => ?_) (fun c17 => ?_)
        · refine ev_lload_5 (pc := 72) dX10_third_72 ?_
          replace hy18 := (hy18.trans (if_neg c17))
          subst hy18
          exact hJ1
        · refine ev_lload_8 (pc := 67) dX10_third_67 ?_
          refine ev_goto (pc := 69) (tgt := 74) dX10_third_69 (by decide) ?_
          replace hy18 := (hy18.trans (if_pos c17))
          subst hy18
          exact hJ1
      refine ev_lcc_ge (pc := 42) (tgt := 55) dX10_third_42 dX10_third_43 (by decide) (fun c15 => ?_) (fun c15 => ?_)
      · refine ev_iload_4 (pc := 55) dX10_third_55 ?_
        replace hx16 := (hx16.trans (if_neg c15))
        subst hx16
        exact hJ2
      · refine ev_iload_1 (pc := 46) dX10_third_46 ?_
        refine ev_iload_7 (pc := 47) dX10_third_47 ?_
        refine ev_iload_2 (pc := 49) dX10_third_49 ?_
        refine ev_imul (pc := 50) dX10_third_50 ?_
        refine ev_iadd (pc := 51) dX10_third_51 ?_
        refine ev_goto (pc := 52) (tgt := 57) dX10_third_52 (by decide) ?_
        replace hx16 := (hx16.trans (if_pos c15))
        subst hx16
        exact hJ2
set_option maxRecDepth 20000 in
set_option maxHeartbeats 4000000 in
theorem e_X10_third {G : ev_G} {Q : Option ev_V → ev_M → Prop} {R : Option (Int32 × ev_m)} {mF : ev_m} (hR : ∀ (x0 : Int32) (m0 : ev_m), (some ((x0, m0))) = R → Q (some (vi x0)) (ev_emb m0)) (hN : none ≠ R) {i0 : Nat} {x1_ : Int32} {x2_ : Int32} {x3_ : Int32} (h : f_X10_third mF i0 x1_ x2_ x3_ = R) : ev_E G K_X10_third B_X10_third (0, 0) 0 [some (vr 10 (i0)), some (vi (x1_)), some (vi (x2_)), some (vi (x3_)), none, none, none, none, none, none] [] (ev_emb mF) Q := by
  unfold f_X10_third at h
  refine ev_iload_1 (pc := 0) dX10_third_0 ?_
  refine ev_iload_2 (pc := 1) dX10_third_1 ?_
  refine ev_isub (pc := 2) dX10_third_2 ?_
  obtain ⟨x1, hx1, h⟩ := ev_letE h
  refine ev_topi (pc := 3) hx1 ?_
  refine ev_istore_4 (pc := 3) dX10_third_3 (by decide) rfl ?_
  refine ev_aload_0 (pc := 5) dX10_third_5 ?_
  refine ev_iconst (pc := 6) (v := 0) dX10_third_6 rfl ?_
  refine ev_iload_4 (pc := 7) dX10_third_7 ?_
  refine ev_iload_3 (pc := 9) dX10_third_9 ?_
  obtain ⟨p2, hp2, h⟩ := ev_bindE hN h
  refine cl1_X10_350 (pc := 10) rfl dX10_third_10 (by decide) (Nat.le_of_ble_eq_true rfl) (c_X10_costWith hp2) ?_
  obtain ⟨y3, hy3, h⟩ := ev_letE h
  refine ev_topl (pc := 13) hy3 ?_
  refine ev_lstore_5 (pc := 13) dX10_third_13 (by decide) rfl ?_
  refine ev_iconst (pc := 15) (v := 0) dX10_third_15 rfl ?_
  refine ev_istore_7 (pc := 16) dX10_third_16 (by decide) rfl ?_
  refine e_lp_X10_third_18 hR hN 4000 _ _ _ _ _ h (fun x19 m20 h => ?_)
  refine ev_iload_4 (pc := 82) dX10_third_82 ?_
  exact ev_iret (pc := 84) dX10_third_84 rfl rfl (hR _ _ h)
theorem c_X10_third {G : ev_G} {mF : ev_m} {i0 : Nat} {x1_ : Int32} {x2_ : Int32} {x3_ : Int32} {r : Int32 × ev_m} (h : f_X10_third mF i0 x1_ x2_ x3_ = some r) : ev_CF G K_X10_third B_X10_third [vr 10 (i0), vi (x1_), vi (x2_), vi (x3_)] mF (some (vi (r.1))) r.2 :=
  ev_Ct_of rfl rfl (Nat.le_of_ble_eq_true rfl) (e_X10_third (R := some r) (fun x0 m0 q => by cases q; exact ⟨rfl, rfl⟩) (fun q => by cases q) h)
set_option maxRecDepth 20000 in
set_option maxHeartbeats 4000000 in
theorem e_lp_X10_tries_64 {G : ev_G} {Q : Option ev_V → ev_M → Prop} {R : Option (Int64 × ev_m)} (hR : ∀ (x0 : Int64) (m0 : ev_m), (some ((x0, m0))) = R → Q (some (vl x0)) (ev_emb m0)) (hN : none ≠ R) {i11 : Nat} {x12 : Int32} {x13 : Int32} : ∀ (f : Nat) (y14 : Int64) (x15 : Int32) (m16 : ev_m) (kx : Int64 → ev_m → Option (Int64 × ev_m)) (h : lp_X10_tries_64 i11 x12 x13 f y14 x15 m16 kx = R) (hk : ∀ (y14' : Int64) (m16' : ev_m), kx y14' m16' = R → ev_E G K_X10_tries B_X10_tries (0, 0) 104 [some (vr 10 (i11)), none, none, some (vi (x12)), none, some (vi (x13)), some (vl (y14')), none, none, none, none] [] (ev_emb m16') Q), ev_E G K_X10_tries B_X10_tries (0, 0) 64 [some (vr 10 (i11)), none, none, some (vi (x12)), none, some (vi (x13)), some (vl (y14)), none, some (vi (x15)), none, none] [] (ev_emb m16) Q := by
  intro f
  induction f with
  | zero => intro y14 x15 m16 kx h hk; rw [lp_X10_tries_64] at h; exact absurd h hN
  | succ f ih =>
    intro y14 x15 m16 kx h hk
    rw [lp_X10_tries_64] at h
    refine ev_iload_8 (pc := 64) dX10_tries_64 ?_
    refine ev_bipush (pc := 66) (v := 63) dX10_tries_66 (by decide) ?_
    refine ev_icc_gt (pc := 68) (tgt := 104) dX10_tries_68 (by decide) (fun c17 => ?_) (fun c17 => ?_)
    · replace h := ev_ifp h c17
      refine ev_E.forget (L' := [some (vr 10 (i11)), none, none, some (vi (x12)), none, some (vi (x13)), some (vl (y14)), none, none, none, none]) ⟨rfl, ⟨rfl, ⟨rfl, ⟨rfl, trivial⟩⟩⟩⟩ ?_
      exact hk _ _  h
    · replace h := ev_ifn h c17
      refine ev_aload_0 (pc := 71) dX10_tries_71 ?_
      refine ev_iconst (pc := 72) (v := 0) dX10_tries_72 rfl ?_
      refine ev_iload_8 (pc := 73) dX10_tries_73 ?_
      refine ev_iload_3 (pc := 75) dX10_tries_75 ?_
      obtain ⟨p18, hp18, h⟩ := ev_bindE hN h
      refine cl1_X10_350 (pc := 76) rfl dX10_tries_76 (by decide) (Nat.le_of_ble_eq_true rfl) (c_X10_costWith hp18) ?_
      obtain ⟨y19, hy19, h⟩ := ev_letE h
      refine ev_topl (pc := 79) hy19 ?_
      refine ev_lstore_9 (pc := 79) dX10_tries_79 (by decide) rfl ?_
      refine ev_lload_9 (pc := 81) dX10_tries_81 ?_
      refine ev_lload_6 (pc := 83) dX10_tries_83 ?_
      obtain ⟨y21, hy21, h⟩ := ev_letE h
      have hJ1 : ev_E G K_X10_tries B_X10_tries (0, 0) 96 [some (vr 10 (i11)), none, none, some (vi (x12)), none, some (vi (x13)), some (vl (y14)), none, some (vi (x15)), some (vl (y19)), none] [vl (y21)] (ev_emb p18.2) Q := by
        refine ev_lstore_6 (pc := 96) dX10_tries_96 (by decide) rfl ?_
        refine ev_iinc_8 (pc := 98) (y := x15 + 1) dX10_tries_98 rfl (by decide) rfl ?_
        refine ev_goto (pc := 101) (tgt := 64) dX10_tries_101 (by decide) ?_
        refine ev_E.forget (L' := [some (vr 10 (i11)), none, none, some (vi (x12)), none, some (vi (x13)), some (vl (y21)), none, some (vi (x15 + 1)), none, none]) ⟨rfl, ⟨rfl, ⟨rfl, ⟨rfl, ⟨rfl, trivial⟩⟩⟩⟩⟩ ?_
        exact ih _ _ _ kx h hk
      refine ev_lcc_ge (pc := 85) (tgt := 94) dX10_tries_85 dX10_tries_86 (by decide) (fun c20 => ?_) (fun c20 => ?_)
      · refine ev_lload_6 (pc := 94) dX10_tries_94 ?_
        replace hy21 := (hy21.trans (if_neg c20))
        subst hy21
        exact hJ1
      · refine ev_lload_9 (pc := 89) dX10_tries_89 ?_
        refine ev_goto (pc := 91) (tgt := 96) dX10_tries_91 (by decide) ?_
        replace hy21 := (hy21.trans (if_pos c20))
        subst hy21
        exact hJ1
set_option maxRecDepth 20000 in
set_option maxHeartbeats 4000000 in
theorem e_X10_tries {G : ev_G} {Q : Option ev_V → ev_M → Prop} {R : Option (Int64 × ev_m)} {mF : ev_m} (hR : ∀ (x0 : Int64) (m0 : ev_m), (some ((x0, m0))) = R → Q (some (vl x0)) (ev_emb m0)) (hN : none ≠ R) {i0 : Nat} {x1_ : Int32} {x2_ : Int32} {x3_ : Int32} {x4_ : Int32} (h : f_X10_tries mF i0 x1_ x2_ x3_ x4_ = R) : ev_E G K_X10_tries B_X10_tries (0, 0) 0 [some (vr 10 (i0)), some (vi (x1_)), some (vi (x2_)), some (vi (x3_)), some (vi (x4_)), none, none, none, none, none, none] [] (ev_emb mF) Q := by
  unfold f_X10_tries at h
  refine ev_aload_0 (pc := 0) dX10_tries_0 ?_
  refine ev_iconst (pc := 1) (v := 0) dX10_tries_1 rfl ?_
  obtain ⟨m1, hm1, h⟩ := ev_letE h
  refine pt_X10_81 (pc := 2) rfl dX10_tries_2 ?_
  refine ev_mem (pc := 5) hm1 ?_
  refine ev_aload_0 (pc := 5) dX10_tries_5 ?_
  refine ev_iload_1 (pc := 6) dX10_tries_6 ?_
  refine ev_iload_2 (pc := 7) dX10_tries_7 ?_
  refine ev_iload_3 (pc := 8) dX10_tries_8 ?_
  obtain ⟨p2, hp2, h⟩ := ev_bindE hN h
  refine cl1_X10_338 (pc := 9) rfl dX10_tries_9 (by decide) (Nat.le_of_ble_eq_true rfl) (c_X10_layFor hp2) ?_
  refine ev_ifb_ne (pc := 12) (tgt := 19) dX10_tries_12 (by decide) (fun c3 => ?_) (fun c3 => ?_)
  · replace h := ev_ifp h c3
    refine ev_aload_0 (pc := 19) dX10_tries_19 ?_
    refine ev_aload_0 (pc := 20) dX10_tries_20 ?_
    refine ev_aload_0 (pc := 21) dX10_tries_21 ?_
    refine ev_bipush (pc := 22) (v := 32) dX10_tries_22 (by decide) ?_
    refine ev_bipush (pc := 24) (v := 16) dX10_tries_24 (by decide) ?_
    refine ev_iload_3 (pc := 26) dX10_tries_26 ?_
    obtain ⟨p4, hp4, h⟩ := ev_bindE hN h
    refine cl1_X10_354 (pc := 27) rfl dX10_tries_27 (by decide) (Nat.le_of_ble_eq_true rfl) (c_X10_third hp4) ?_
    refine ev_bipush (pc := 30) (v := 8) dX10_tries_30 (by decide) ?_
    refine ev_iload_3 (pc := 32) dX10_tries_32 ?_
    obtain ⟨p5, hp5, h⟩ := ev_bindE hN h
    refine cl1_X10_354 (pc := 33) rfl dX10_tries_33 (by decide) (Nat.le_of_ble_eq_true rfl) (c_X10_third hp5) ?_
    refine ev_iconst (pc := 36) (v := 4) dX10_tries_36 rfl ?_
    refine ev_iload_3 (pc := 37) dX10_tries_37 ?_
    obtain ⟨p6, hp6, h⟩ := ev_bindE hN h
    refine cl1_X10_354 (pc := 38) rfl dX10_tries_38 (by decide) (Nat.le_of_ble_eq_true rfl) (c_X10_third hp6) ?_
    obtain ⟨x7, hx7, h⟩ := ev_letE h
    refine ev_topi (pc := 41) hx7 ?_
    refine ev_istore_5 (pc := 41) dX10_tries_41 (by decide) rfl ?_
    refine ev_iload_4 (pc := 43) dX10_tries_43 ?_
    refine ev_ifc_ne (pc := 45) (tgt := 52) dX10_tries_45 (by decide) (fun c8 => ?_) (fun c8 => ?_)
    · replace h := ev_ifn h c8
      refine ev_aload_0 (pc := 52) dX10_tries_52 ?_
      refine ev_iconst (pc := 53) (v := 0) dX10_tries_53 rfl ?_
      refine ev_iconst (pc := 54) (v := 0) dX10_tries_54 rfl ?_
      refine ev_iload_3 (pc := 55) dX10_tries_55 ?_
      obtain ⟨p9, hp9, h⟩ := ev_bindE hN h
      refine cl1_X10_350 (pc := 56) rfl dX10_tries_56 (by decide) (Nat.le_of_ble_eq_true rfl) (c_X10_costWith hp9) ?_
      obtain ⟨y10, hy10, h⟩ := ev_letE h
      refine ev_topl (pc := 59) hy10 ?_
      refine ev_lstore_6 (pc := 59) dX10_tries_59 (by decide) rfl ?_
      refine ev_iconst (pc := 61) (v := 1) dX10_tries_61 rfl ?_
      refine ev_istore_8 (pc := 62) dX10_tries_62 (by decide) rfl ?_
      refine ev_E.forget (L' := [some (vr 10 (i0)), none, none, some (vi (x3_)), none, some (vi (x7)), some (vl (y10)), none, some (vi (1)), none, none]) ⟨rfl, ⟨rfl, ⟨rfl, ⟨rfl, ⟨rfl, trivial⟩⟩⟩⟩⟩ ?_
      refine e_lp_X10_tries_64 hR hN 4000 _ _ _ _ h (fun y22 m23 h => ?_)
      refine ev_aload_0 (pc := 104) dX10_tries_104 ?_
      refine ev_iconst (pc := 105) (v := 0) dX10_tries_105 rfl ?_
      refine ev_iload_5 (pc := 106) dX10_tries_106 ?_
      refine ev_iload_3 (pc := 108) dX10_tries_108 ?_
      obtain ⟨p24, hp24, h⟩ := ev_bindE hN h
      refine cl1_X10_350 (pc := 109) rfl dX10_tries_109 (by decide) (Nat.le_of_ble_eq_true rfl) (c_X10_costWith hp24) ?_
      refine ev_lload_6 (pc := 112) dX10_tries_112 ?_
      refine ev_lsub (pc := 114) dX10_tries_114 ?_
      exact ev_lret (pc := 115) dX10_tries_115 rfl (hR _ _ h)
    · replace h := ev_ifp h c8
      refine ev_iload_5 (pc := 48) dX10_tries_48 ?_
      refine ev_i2l (pc := 50) dX10_tries_50 ?_
      exact ev_lret (pc := 51) dX10_tries_51 rfl (hR _ _ h)
  · replace h := ev_ifn h c3
    refine ev_ldc2 (pc := 15) (v := (-1)) kl_X10_341 dX10_tries_15 ?_
    exact ev_lret (pc := 18) dX10_tries_18 rfl (hR _ _ h)
theorem c_X10_tries {G : ev_G} {mF : ev_m} {i0 : Nat} {x1_ : Int32} {x2_ : Int32} {x3_ : Int32} {x4_ : Int32} {r : Int64 × ev_m} (h : f_X10_tries mF i0 x1_ x2_ x3_ x4_ = some r) : ev_CF G K_X10_tries B_X10_tries [vr 10 (i0), vi (x1_), vi (x2_), vi (x3_), vi (x4_)] mF (some (vl (r.1))) r.2 :=
  ev_Ct_of rfl rfl (Nat.le_of_ble_eq_true rfl) (e_X10_tries (R := some r) (fun x0 m0 q => by cases q; exact ⟨rfl, rfl⟩) (fun q => by cases q) h)
set_option maxRecDepth 20000 in
set_option maxHeartbeats 4000000 in
theorem e_jn_X10_learning_100_39 {G : ev_G} {Q : Option ev_V → ev_M → Prop} {R : Option (Int32 × ev_m)} (hR : ∀ (x0 : Int32) (m0 : ev_m), (some ((x0, m0))) = R → Q (some (vi x0)) (ev_emb m0)) (hN : none ≠ R) {m27 : ev_m} {i6 : Nat} {x7 : Int32} {x8 : Int32} {x22 : Int32} {x23 : Int32} {y24 : Int64} {y25 : Int64} {y26 : Int64} {kb : Int32 → Int32 → ev_m → Option (Int32 × ev_m)} {kx : Int32 → ev_m → Option (Int32 × ev_m)}  (h : jn_X10_learning_100_39 m27 i6 x7 x8 x22 x23 y24 y25 y26 kb kx = R) (hkb : ∀ (x9' : Int32) (x10' : Int32) (m11' : ev_m), kb x9' x10' m11' = R → ev_E G K_X10_learning B_X10_learning (0, 0) 39 [some (vr 10 (i6)), none, none, some (vi (x7)), some (vi (x8)), some (vi (x9')), some (vi (x10')), none, none, none, none, none, none] [] (ev_emb m11') Q) (hkx : ∀ (x9' : Int32) (m11' : ev_m), kx x9' m11' = R → ev_E G K_X10_learning B_X10_learning (0, 0) 150 [none, none, none, none, none, some (vi (x9')), none, none, none, none, none, none, none] [] (ev_emb m11') Q) : ev_E G K_X10_learning B_X10_learning (0, 0) 100 [some (vr 10 (i6)), none, none, some (vi (x7)), some (vi (x8)), some (vi (x22)), some (vi (x23)), some (vl (y24)), none, some (vl (y25)), none, none, none] [vl (y26)] (ev_emb m27) Q := by
  unfold jn_X10_learning_100_39 at h
  refine ev_lstore_11 (pc := 100) dX10_learning_100 (by decide) rfl ?_
  refine ev_lload_9 (pc := 102) dX10_learning_102 ?_
  refine ev_lload_7 (pc := 104) dX10_learning_104 ?_
  obtain ⟨x32, hx32, h⟩ := ev_letE h
  have hJ1 : ev_E G K_X10_learning B_X10_learning (0, 0) 142 [some (vr 10 (i6)), none, none, some (vi (x7)), some (vi (x8)), some (vi (x22)), some (vi (x23)), some (vl (y24)), none, some (vl (y25)), none, some (vl (y26)), none] [vi (x32)] (ev_emb m27) Q := by
    refine ev_istore_5 (pc := 142) dX10_learning_142 (by decide) rfl ?_
    refine ev_iinc_6 (pc := 144) (y := x23 + 1) dX10_learning_144 rfl (by decide) rfl ?_
    refine ev_goto (pc := 147) (tgt := 39) dX10_learning_147 (by decide) ?_
    refine ev_E.forget (L' := [some (vr 10 (i6)), none, none, some (vi (x7)), some (vi (x8)), some (vi (x32)), some (vi (x23 + 1)), none, none, none, none, none, none]) ⟨rfl, ⟨rfl, ⟨rfl, ⟨rfl, ⟨rfl, trivial⟩⟩⟩⟩⟩ ?_
    exact hkb _ _ _  h
  refine ev_lcc_ge (pc := 106) (tgt := 125) dX10_learning_106 dX10_learning_107 (by decide) (fun c28 => ?_) (fun c28 => ?_)
  · refine ev_lload_11 (pc := 125) dX10_learning_125 ?_
    refine ev_lload_7 (pc := 127) dX10_learning_127 ?_
    refine ev_lcc_ge (pc := 129) (tgt := 140) dX10_learning_129 dX10_learning_130 (by decide) (fun c29 => ?_) (fun c29 => ?_)
    · refine ev_iload_5 (pc := 140) dX10_learning_140 ?_
      replace hx32 := ((hx32.trans (if_neg c28)).trans (if_neg c29))
      subst hx32
      exact hJ1
    · refine ev_iload_5 (pc := 133) dX10_learning_133 ?_
      refine ev_iconst (pc := 135) (v := 1) dX10_learning_135 rfl ?_
      refine ev_iadd (pc := 136) dX10_learning_136 ?_
      refine ev_goto (pc := 137) (tgt := 142) dX10_learning_137 (by decide) ?_
      replace hx32 := ((hx32.trans (if_neg c28)).trans (if_pos c29))
      subst hx32
      exact hJ1
  · refine ev_lload_9 (pc := 110) dX10_learning_110 ?_
    refine ev_lload_11 (pc := 112) dX10_learning_112 ?_
    refine ev_lcc_gt (pc := 114) (tgt := 125) dX10_learning_114 dX10_learning_115 (by decide) (fun c30 => ?_) (fun c30 => ?_)
    · refine ev_lload_11 (pc := 125) dX10_learning_125 ?_
      refine ev_lload_7 (pc := 127) dX10_learning_127 ?_
      refine ev_lcc_ge (pc := 129) (tgt := 140) dX10_learning_129 dX10_learning_130 (by decide) (fun c31 => ?_) (fun c31 => ?_)
      · refine ev_iload_5 (pc := 140) dX10_learning_140 ?_
        replace hx32 := (((hx32.trans (if_pos c28)).trans (if_pos c30)).trans (if_neg c31))
        subst hx32
        exact hJ1
      · refine ev_iload_5 (pc := 133) dX10_learning_133 ?_
        refine ev_iconst (pc := 135) (v := 1) dX10_learning_135 rfl ?_
        refine ev_iadd (pc := 136) dX10_learning_136 ?_
        refine ev_goto (pc := 137) (tgt := 142) dX10_learning_137 (by decide) ?_
        replace hx32 := (((hx32.trans (if_pos c28)).trans (if_pos c30)).trans (if_pos c31))
        subst hx32
        exact hJ1
    · refine ev_iload_5 (pc := 118) dX10_learning_118 ?_
      refine ev_iconst (pc := 120) (v := 1) dX10_learning_120 rfl ?_
      refine ev_isub (pc := 121) dX10_learning_121 ?_
      refine ev_goto (pc := 122) (tgt := 142) dX10_learning_122 (by decide) ?_
      replace hx32 := ((hx32.trans (if_pos c28)).trans (if_neg c30))
      subst hx32
      exact hJ1
set_option maxRecDepth 20000 in
set_option maxHeartbeats 4000000 in
theorem e_jn_X10_learning_76_39 {G : ev_G} {Q : Option ev_V → ev_M → Prop} {R : Option (Int32 × ev_m)} (hR : ∀ (x0 : Int32) (m0 : ev_m), (some ((x0, m0))) = R → Q (some (vi x0)) (ev_emb m0)) (hN : none ≠ R) {m20 : ev_m} {i6 : Nat} {x7 : Int32} {x8 : Int32} {x16 : Int32} {x17 : Int32} {y18 : Int64} {y19 : Int64} {kb : Int32 → Int32 → ev_m → Option (Int32 × ev_m)} {kx : Int32 → ev_m → Option (Int32 × ev_m)}  (h : jn_X10_learning_76_39 m20 i6 x7 x8 x16 x17 y18 y19 kb kx = R) (hkb : ∀ (x9' : Int32) (x10' : Int32) (m11' : ev_m), kb x9' x10' m11' = R → ev_E G K_X10_learning B_X10_learning (0, 0) 39 [some (vr 10 (i6)), none, none, some (vi (x7)), some (vi (x8)), some (vi (x9')), some (vi (x10')), none, none, none, none, none, none] [] (ev_emb m11') Q) (hkx : ∀ (x9' : Int32) (m11' : ev_m), kx x9' m11' = R → ev_E G K_X10_learning B_X10_learning (0, 0) 150 [none, none, none, none, none, some (vi (x9')), none, none, none, none, none, none, none] [] (ev_emb m11') Q) : ev_E G K_X10_learning B_X10_learning (0, 0) 76 [some (vr 10 (i6)), none, none, some (vi (x7)), some (vi (x8)), some (vi (x16)), some (vi (x17)), some (vl (y18)), none, none, none, none, none] [vl (y19)] (ev_emb m20) Q := by
  unfold jn_X10_learning_76_39 at h
  refine ev_lstore_9 (pc := 76) dX10_learning_76 (by decide) rfl ?_
  refine ev_iload_5 (pc := 78) dX10_learning_78 ?_
  refine ev_bipush (pc := 80) (v := 99) dX10_learning_80 (by decide) ?_
  refine ev_icc_ge (pc := 82) (tgt := 98) dX10_learning_82 (by decide) (fun c21 => ?_) (fun c21 => ?_)
  · replace h := ev_ifn h c21
    refine ev_lload_7 (pc := 98) dX10_learning_98 ?_
    exact e_jn_X10_learning_100_39 hR hN h hkb hkx
  · replace h := ev_ifp h c21
    refine ev_aload_0 (pc := 85) dX10_learning_85 ?_
    refine ev_iconst (pc := 86) (v := 0) dX10_learning_86 rfl ?_
    refine ev_iload_5 (pc := 87) dX10_learning_87 ?_
    refine ev_iconst (pc := 89) (v := 1) dX10_learning_89 rfl ?_
    refine ev_iadd (pc := 90) dX10_learning_90 ?_
    refine ev_iload_3 (pc := 91) dX10_learning_91 ?_
    obtain ⟨p33, hp33, h⟩ := ev_bindE hN h
    refine cl1_X10_350 (pc := 92) rfl dX10_learning_92 (by decide) (Nat.le_of_ble_eq_true rfl) (c_X10_costWith hp33) ?_
    refine ev_goto (pc := 95) (tgt := 100) dX10_learning_95 (by decide) ?_
    exact e_jn_X10_learning_100_39 hR hN h hkb hkx
set_option maxRecDepth 20000 in
set_option maxHeartbeats 4000000 in
theorem e_lp_X10_learning_39 {G : ev_G} {Q : Option ev_V → ev_M → Prop} {R : Option (Int32 × ev_m)} (hR : ∀ (x0 : Int32) (m0 : ev_m), (some ((x0, m0))) = R → Q (some (vi x0)) (ev_emb m0)) (hN : none ≠ R) {i6 : Nat} {x7 : Int32} {x8 : Int32} : ∀ (f : Nat) (x9 : Int32) (x10 : Int32) (m11 : ev_m) (kx : Int32 → ev_m → Option (Int32 × ev_m)) (h : lp_X10_learning_39 i6 x7 x8 f x9 x10 m11 kx = R) (hk : ∀ (x9' : Int32) (m11' : ev_m), kx x9' m11' = R → ev_E G K_X10_learning B_X10_learning (0, 0) 150 [none, none, none, none, none, some (vi (x9')), none, none, none, none, none, none, none] [] (ev_emb m11') Q), ev_E G K_X10_learning B_X10_learning (0, 0) 39 [some (vr 10 (i6)), none, none, some (vi (x7)), some (vi (x8)), some (vi (x9)), some (vi (x10)), none, none, none, none, none, none] [] (ev_emb m11) Q := by
  intro f
  induction f with
  | zero => intro x9 x10 m11 kx h hk; rw [lp_X10_learning_39] at h; exact absurd h hN
  | succ f ih =>
    intro x9 x10 m11 kx h hk
    rw [lp_X10_learning_39] at h
    refine ev_iload_6 (pc := 39) dX10_learning_39 ?_
    refine ev_iload_4 (pc := 41) dX10_learning_41 ?_
    refine ev_icc_ge (pc := 43) (tgt := 150) dX10_learning_43 (by decide) (fun c12 => ?_) (fun c12 => ?_)
    · replace h := ev_ifn h c12
      refine ev_E.forget (L' := [none, none, none, none, none, some (vi (x9)), none, none, none, none, none, none, none]) ⟨rfl, trivial⟩ ?_
      exact hk _ _  h
    · replace h := ev_ifp h c12
      refine ev_aload_0 (pc := 46) dX10_learning_46 ?_
      refine ev_iconst (pc := 47) (v := 0) dX10_learning_47 rfl ?_
      refine ev_iload_5 (pc := 48) dX10_learning_48 ?_
      refine ev_iload_3 (pc := 50) dX10_learning_50 ?_
      obtain ⟨p13, hp13, h⟩ := ev_bindE hN h
      refine cl1_X10_350 (pc := 51) rfl dX10_learning_51 (by decide) (Nat.le_of_ble_eq_true rfl) (c_X10_costWith hp13) ?_
      obtain ⟨y14, hy14, h⟩ := ev_letE h
      refine ev_topl (pc := 54) hy14 ?_
      refine ev_lstore_7 (pc := 54) dX10_learning_54 (by decide) rfl ?_
      refine ev_iload_5 (pc := 56) dX10_learning_56 ?_
      refine ev_ifc_le (pc := 58) (tgt := 74) dX10_learning_58 (by decide) (fun c15 => ?_) (fun c15 => ?_)
      · replace h := ev_ifn h c15
        refine ev_lload_7 (pc := 74) dX10_learning_74 ?_
        exact e_jn_X10_learning_76_39 hR hN h (fun _ _ _ h => ih _ _ _ kx h hk) hk
      · replace h := ev_ifp h c15
        refine ev_aload_0 (pc := 61) dX10_learning_61 ?_
        refine ev_iconst (pc := 62) (v := 0) dX10_learning_62 rfl ?_
        refine ev_iload_5 (pc := 63) dX10_learning_63 ?_
        refine ev_iconst (pc := 65) (v := 1) dX10_learning_65 rfl ?_
        refine ev_isub (pc := 66) dX10_learning_66 ?_
        refine ev_iload_3 (pc := 67) dX10_learning_67 ?_
        obtain ⟨p34, hp34, h⟩ := ev_bindE hN h
        refine cl1_X10_350 (pc := 68) rfl dX10_learning_68 (by decide) (Nat.le_of_ble_eq_true rfl) (c_X10_costWith hp34) ?_
        refine ev_goto (pc := 71) (tgt := 76) dX10_learning_71 (by decide) ?_
        exact e_jn_X10_learning_76_39 hR hN h (fun _ _ _ h => ih _ _ _ kx h hk) hk
set_option maxRecDepth 20000 in
set_option maxHeartbeats 4000000 in
theorem e_X10_learning {G : ev_G} {Q : Option ev_V → ev_M → Prop} {R : Option (Int32 × ev_m)} {mF : ev_m} (hR : ∀ (x0 : Int32) (m0 : ev_m), (some ((x0, m0))) = R → Q (some (vi x0)) (ev_emb m0)) (hN : none ≠ R) {i0 : Nat} {x1_ : Int32} {x2_ : Int32} {x3_ : Int32} {x4_ : Int32} (h : f_X10_learning mF i0 x1_ x2_ x3_ x4_ = R) : ev_E G K_X10_learning B_X10_learning (0, 0) 0 [some (vr 10 (i0)), some (vi (x1_)), some (vi (x2_)), some (vi (x3_)), some (vi (x4_)), none, none, none, none, none, none, none, none] [] (ev_emb mF) Q := by
  unfold f_X10_learning at h
  refine ev_aload_0 (pc := 0) dX10_learning_0 ?_
  refine ev_iconst (pc := 1) (v := 0) dX10_learning_1 rfl ?_
  obtain ⟨m1, hm1, h⟩ := ev_letE h
  refine pt_X10_81 (pc := 2) rfl dX10_learning_2 ?_
  refine ev_mem (pc := 5) hm1 ?_
  refine ev_aload_0 (pc := 5) dX10_learning_5 ?_
  refine ev_iload_1 (pc := 6) dX10_learning_6 ?_
  refine ev_iload_2 (pc := 7) dX10_learning_7 ?_
  refine ev_iload_3 (pc := 8) dX10_learning_8 ?_
  obtain ⟨p2, hp2, h⟩ := ev_bindE hN h
  refine cl1_X10_338 (pc := 9) rfl dX10_learning_9 (by decide) (Nat.le_of_ble_eq_true rfl) (c_X10_layFor hp2) ?_
  refine ev_ifb_eq (pc := 12) (tgt := 26) dX10_learning_12 (by decide) (fun c3 => ?_) (fun c3 => ?_)
  · replace h := ev_ifn h c3
    refine ev_iconst (pc := 26) (v := (-1)) dX10_learning_26 rfl ?_
    exact ev_iret (pc := 27) dX10_learning_27 rfl rfl (hR _ _ h)
  · replace h := ev_ifp h c3
    refine ev_iload_4 (pc := 15) dX10_learning_15 ?_
    refine ev_iconst (pc := 17) (v := 0) dX10_learning_17 rfl ?_
    refine ev_bipush (pc := 18) (v := 30) dX10_learning_18 (by decide) ?_
    refine cl1_X10_89 (pc := 20) rfl dX10_learning_20 (by decide) (Nat.le_of_ble_eq_true rfl) (c_X10_in p2.2 x4_ 0 30) ?_
    refine ev_ifb_ne (pc := 23) (tgt := 28) dX10_learning_23 (by decide) (fun c4 => ?_) (fun c4 => ?_)
    · replace h := ev_ifp h c4
      refine ev_aload_0 (pc := 28) dX10_learning_28 ?_
      refine gt_X10_44 (pc := 29) rfl dX10_learning_29 ?_
      refine ev_iconst (pc := 32) (v := 0) dX10_learning_32 rfl ?_
      refine ev_ialdS (pc := 33) (j := 0) rfl (by decide) (by decide) (vp_in_iff.mpr (by decide)) dX10_learning_33 ?_
      obtain ⟨x5, hx5, h⟩ := ev_letE h
      refine ev_topi (pc := 34) hx5 ?_
      refine ev_istore_5 (pc := 34) dX10_learning_34 (by decide) rfl ?_
      refine ev_iconst (pc := 36) (v := 0) dX10_learning_36 rfl ?_
      refine ev_istore_6 (pc := 37) dX10_learning_37 (by decide) rfl ?_
      refine ev_E.forget (L' := [some (vr 10 (i0)), none, none, some (vi (x3_)), some (vi (x4_)), some (vi (x5)), some (vi (0)), none, none, none, none, none, none]) ⟨rfl, ⟨rfl, ⟨rfl, ⟨rfl, ⟨rfl, trivial⟩⟩⟩⟩⟩ ?_
      refine e_lp_X10_learning_39 hR hN 4000 _ _ _ _ h (fun x35 m36 h => ?_)
      refine ev_iload_5 (pc := 150) dX10_learning_150 ?_
      exact ev_iret (pc := 152) dX10_learning_152 rfl rfl (hR _ _ h)
    · replace h := ev_ifn h c4
      refine ev_iconst (pc := 26) (v := (-1)) dX10_learning_26 rfl ?_
      exact ev_iret (pc := 27) dX10_learning_27 rfl rfl (hR _ _ h)
theorem c_X10_learning {G : ev_G} {mF : ev_m} {i0 : Nat} {x1_ : Int32} {x2_ : Int32} {x3_ : Int32} {x4_ : Int32} {r : Int32 × ev_m} (h : f_X10_learning mF i0 x1_ x2_ x3_ x4_ = some r) : ev_CF G K_X10_learning B_X10_learning [vr 10 (i0), vi (x1_), vi (x2_), vi (x3_), vi (x4_)] mF (some (vi (r.1))) r.2 :=
  ev_Ct_of rfl rfl (Nat.le_of_ble_eq_true rfl) (e_X10_learning (R := some r) (fun x0 m0 q => by cases q; exact ⟨rfl, rfl⟩) (fun q => by cases q) h)
set_option maxRecDepth 20000 in
set_option maxHeartbeats 4000000 in
theorem e_lp_X10_steers_30 {G : ev_G} {Q : Option ev_V → ev_M → Prop} {R : Option (Int64 × ev_m)} (hR : ∀ (x0 : Int64) (m0 : ev_m), (some ((x0, m0))) = R → Q (some (vl x0)) (ev_emb m0)) (hN : none ≠ R) {m12 : ev_m} {i6 : Nat} {x7 : Int32} {x8 : Int32} {x9 : Int32} {x10 : Int32} : ∀ (f : Nat) (x11 : Int32) (kx : Unit → Option (Int64 × ev_m)) (h : lp_X10_steers_30 m12 i6 x7 x8 x9 x10 f x11 kx = R) (hk : ∀ (u0 : Unit), kx u0 = R → ev_E G K_X10_steers B_X10_steers (0, 0) 78 [some (vr 10 (i6)), some (vi (x7)), some (vi (x8)), some (vi (x9)), some (vi (x10)), none, none] [] (ev_emb m12) Q), ev_E G K_X10_steers B_X10_steers (0, 0) 30 [some (vr 10 (i6)), some (vi (x7)), some (vi (x8)), some (vi (x9)), some (vi (x10)), some (vi (x11)), none] [] (ev_emb m12) Q := by
  intro f
  induction f with
  | zero => intro x11 kx h hk; rw [lp_X10_steers_30] at h; exact absurd h hN
  | succ f ih =>
    intro x11 kx h hk
    rw [lp_X10_steers_30] at h
    refine ev_iload_5 (pc := 30) dX10_steers_30 ?_
    refine ev_aload_0 (pc := 32) dX10_steers_32 ?_
    refine gt_X10_35 (pc := 33) rfl dX10_steers_33 ?_
    refine ev_bipush (pc := 36) (v := 17) dX10_steers_36 (by decide) ?_
    refine ev_iload_2 (pc := 38) dX10_steers_38 ?_
    refine ev_imul (pc := 39) dX10_steers_39 ?_
    obtain ⟨x13, hx13, h⟩ := ev_bindE hN h
    refine ev_iald1 (pc := 40) rfl (by decide) rfl hx13 dX10_steers_40 ?_
    refine ev_icc_ge (pc := 41) (tgt := 78) dX10_steers_41 (by decide) (fun c14 => ?_) (fun c14 => ?_)
    · replace h := ev_ifn h c14
      refine ev_E.forget (L' := [some (vr 10 (i6)), some (vi (x7)), some (vi (x8)), some (vi (x9)), some (vi (x10)), none, none]) ⟨rfl, ⟨rfl, ⟨rfl, ⟨rfl, ⟨rfl, trivial⟩⟩⟩⟩⟩ ?_
      exact hk _  h
    · replace h := ev_ifp h c14
      refine ev_aload_0 (pc := 44) dX10_steers_44 ?_
      refine ev_iconst (pc := 45) (v := 1) dX10_steers_45 rfl ?_
      refine ev_aload_0 (pc := 46) dX10_steers_46 ?_
      refine gt_X10_35 (pc := 47) rfl dX10_steers_47 ?_
      refine ev_bipush (pc := 50) (v := 17) dX10_steers_50 (by decide) ?_
      refine ev_iload_2 (pc := 52) dX10_steers_52 ?_
      refine ev_imul (pc := 53) dX10_steers_53 ?_
      refine ev_iconst (pc := 54) (v := 1) dX10_steers_54 rfl ?_
      refine ev_iadd (pc := 55) dX10_steers_55 ?_
      refine ev_iconst (pc := 56) (v := 2) dX10_steers_56 rfl ?_
      refine ev_iload_5 (pc := 57) dX10_steers_57 ?_
      refine ev_imul (pc := 59) dX10_steers_59 ?_
      refine ev_iadd (pc := 60) dX10_steers_60 ?_
      obtain ⟨x15, hx15, h⟩ := ev_bindE hN h
      refine ev_iald1 (pc := 61) rfl (by decide) rfl hx15 dX10_steers_61 ?_
      obtain ⟨x16, hx16, h⟩ := ev_bindE hN h
      refine cl1_X10_226 (pc := 62) rfl dX10_steers_62 (by decide) (Nat.le_of_ble_eq_true rfl) (c_X10_is hx16) ?_
      refine ev_ifb_ne (pc := 65) (tgt := 72) dX10_steers_65 (by decide) (fun c17 => ?_) (fun c17 => ?_)
      · replace h := ev_ifp h c17
        refine ev_iinc_5 (pc := 72) (y := x11 + 1) dX10_steers_72 rfl (by decide) rfl ?_
        refine ev_goto (pc := 75) (tgt := 30) dX10_steers_75 (by decide) ?_
        exact ih _ kx h hk
      · replace h := ev_ifn h c17
        refine ev_ldc2 (pc := 68) (v := (-100000)) kl_X10_358 dX10_steers_68 ?_
        exact ev_lret (pc := 71) dX10_steers_71 rfl (hR _ _ h)
set_option maxRecDepth 20000 in
set_option maxHeartbeats 4000000 in
theorem e_lp_X10_steers_91 {G : ev_G} {Q : Option ev_V → ev_M → Prop} {R : Option (Int64 × ev_m)} (hR : ∀ (x0 : Int64) (m0 : ev_m), (some ((x0, m0))) = R → Q (some (vl x0)) (ev_emb m0)) (hN : none ≠ R) {i20 : Nat} {x21 : Int32} {x22 : Int32} : ∀ (f : Nat) (x23 : Int32) (m24 : ev_m) (kx : ev_m → Option (Int64 × ev_m)) (h : lp_X10_steers_91 i20 x21 x22 f x23 m24 kx = R) (hk : ∀ (m24' : ev_m), kx m24' = R → ev_E G K_X10_steers B_X10_steers (0, 0) 191 [some (vr 10 (i20)), none, none, none, some (vi (x22)), none, none] [] (ev_emb m24') Q), ev_E G K_X10_steers B_X10_steers (0, 0) 91 [some (vr 10 (i20)), none, some (vi (x21)), none, some (vi (x22)), some (vi (x23)), none] [] (ev_emb m24) Q := by
  intro f
  induction f with
  | zero => intro x23 m24 kx h hk; rw [lp_X10_steers_91] at h; exact absurd h hN
  | succ f ih =>
    intro x23 m24 kx h hk
    rw [lp_X10_steers_91] at h
    refine ev_iload_5 (pc := 91) dX10_steers_91 ?_
    refine ev_aload_0 (pc := 93) dX10_steers_93 ?_
    refine gt_X10_35 (pc := 94) rfl dX10_steers_94 ?_
    refine ev_bipush (pc := 97) (v := 17) dX10_steers_97 (by decide) ?_
    refine ev_iload_2 (pc := 99) dX10_steers_99 ?_
    refine ev_imul (pc := 100) dX10_steers_100 ?_
    obtain ⟨x25, hx25, h⟩ := ev_bindE hN h
    refine ev_iald1 (pc := 101) rfl (by decide) rfl hx25 dX10_steers_101 ?_
    refine ev_icc_ge (pc := 102) (tgt := 191) dX10_steers_102 (by decide) (fun c26 => ?_) (fun c26 => ?_)
    · replace h := ev_ifn h c26
      refine ev_E.forget (L' := [some (vr 10 (i20)), none, none, none, some (vi (x22)), none, none]) ⟨rfl, ⟨rfl, trivial⟩⟩ ?_
      exact hk _  h
    · replace h := ev_ifp h c26
      refine ev_aload_0 (pc := 105) dX10_steers_105 ?_
      refine gt_X10_240 (pc := 106) rfl dX10_steers_106 ?_
      refine ev_sipush (pc := 109) (v := 400) dX10_steers_109 (by decide) ?_
      refine ev_icc_ge (pc := 112) (tgt := 191) dX10_steers_112 (by decide) (fun c27 => ?_) (fun c27 => ?_)
      · replace h := ev_ifn h c27
        refine ev_E.forget (L' := [some (vr 10 (i20)), none, none, none, some (vi (x22)), none, none]) ⟨rfl, ⟨rfl, trivial⟩⟩ ?_
        exact hk _  h
      · replace h := ev_ifp h c27
        refine ev_aload_0 (pc := 115) dX10_steers_115 ?_
        refine gt_X10_35 (pc := 116) rfl dX10_steers_116 ?_
        refine ev_bipush (pc := 119) (v := 17) dX10_steers_119 (by decide) ?_
        refine ev_iload_2 (pc := 121) dX10_steers_121 ?_
        refine ev_imul (pc := 122) dX10_steers_122 ?_
        refine ev_iconst (pc := 123) (v := 2) dX10_steers_123 rfl ?_
        refine ev_iadd (pc := 124) dX10_steers_124 ?_
        refine ev_iconst (pc := 125) (v := 2) dX10_steers_125 rfl ?_
        refine ev_iload_5 (pc := 126) dX10_steers_126 ?_
        refine ev_imul (pc := 128) dX10_steers_128 ?_
        refine ev_iadd (pc := 129) dX10_steers_129 ?_
        obtain ⟨x28, hx28, h⟩ := ev_bindE hN h
        refine ev_iald1 (pc := 130) rfl (by decide) rfl hx28 dX10_steers_130 ?_
        refine ev_istore_6 (pc := 131) dX10_steers_131 (by decide) rfl ?_
        refine ev_aload_0 (pc := 133) dX10_steers_133 ?_
        refine ev_iconst (pc := 134) (v := 0) dX10_steers_134 rfl ?_
        refine ev_aload_0 (pc := 135) dX10_steers_135 ?_
        refine gt_X10_35 (pc := 136) rfl dX10_steers_136 ?_
        refine ev_bipush (pc := 139) (v := 17) dX10_steers_139 (by decide) ?_
        refine ev_iload_2 (pc := 141) dX10_steers_141 ?_
        refine ev_imul (pc := 142) dX10_steers_142 ?_
        refine ev_iconst (pc := 143) (v := 1) dX10_steers_143 rfl ?_
        refine ev_iadd (pc := 144) dX10_steers_144 ?_
        refine ev_iconst (pc := 145) (v := 2) dX10_steers_145 rfl ?_
        refine ev_iload_5 (pc := 146) dX10_steers_146 ?_
        refine ev_imul (pc := 148) dX10_steers_148 ?_
        refine ev_iadd (pc := 149) dX10_steers_149 ?_
        obtain ⟨x29, hx29, h⟩ := ev_bindE hN h
        refine ev_iald1 (pc := 150) rfl (by decide) rfl hx29 dX10_steers_150 ?_
        obtain ⟨m30, hm30, h⟩ := ev_bindE hN h
        refine cl0_X10_326 (pc := 151) rfl dX10_steers_151 (by decide) (Nat.le_of_ble_eq_true rfl) (c_X10_layHand hm30) ?_
        refine ev_aload_0 (pc := 154) dX10_steers_154 ?_
        refine ev_iconst (pc := 155) (v := 0) dX10_steers_155 rfl ?_
        refine ev_aload_0 (pc := 156) dX10_steers_156 ?_
        refine gt_X10_240 (pc := 157) rfl dX10_steers_157 ?_
        refine ev_iload_6 (pc := 160) dX10_steers_160 ?_
        refine ev_iadd (pc := 162) dX10_steers_162 ?_
        refine ev_sipush (pc := 163) (v := 400) dX10_steers_163 (by decide) ?_
        obtain ⟨x32, hx32, h⟩ := ev_letE h
        have hJ1 : ev_E G K_X10_steers B_X10_steers (0, 0) 182 [some (vr 10 (i20)), none, some (vi (x21)), none, some (vi (x22)), some (vi (x23)), some (vi (x28))] [vi (x32), vi (0), vr 10 (i20)] (ev_emb m30) Q := by
          obtain ⟨m33, hm33, h⟩ := ev_bindE hN h
          refine cl0_X10_312 (pc := 182) rfl dX10_steers_182 (by decide) (Nat.le_of_ble_eq_true rfl) (c_X10_steer hm33) ?_
          refine ev_iinc_5 (pc := 185) (y := x23 + 1) dX10_steers_185 rfl (by decide) rfl ?_
          refine ev_goto (pc := 188) (tgt := 91) dX10_steers_188 (by decide) ?_
          refine ev_E.forget (L' := [some (vr 10 (i20)), none, some (vi (x21)), none, some (vi (x22)), some (vi (x23 + 1)), none]) ⟨rfl, ⟨rfl, ⟨rfl, ⟨rfl, trivial⟩⟩⟩⟩ ?_
          exact ih _ _ kx h hk
        refine ev_icc_ge (pc := 166) (tgt := 174) dX10_steers_166 (by decide) (fun c31 => ?_) (fun c31 => ?_)
        · refine ev_sipush (pc := 174) (v := 400) dX10_steers_174 (by decide) ?_
          refine ev_aload_0 (pc := 177) dX10_steers_177 ?_
          refine gt_X10_240 (pc := 178) rfl dX10_steers_178 ?_
          refine ev_isub (pc := 181) dX10_steers_181 ?_
          replace hx32 := (hx32.trans (if_neg c31))
          subst hx32
          exact hJ1
        · refine ev_iload_6 (pc := 169) dX10_steers_169 ?_
          refine ev_goto (pc := 171) (tgt := 182) dX10_steers_171 (by decide) ?_
          replace hx32 := (hx32.trans (if_pos c31))
          subst hx32
          exact hJ1
set_option maxRecDepth 20000 in
set_option maxHeartbeats 4000000 in
theorem e_jn_X10_steers_191 {G : ev_G} {Q : Option ev_V → ev_M → Prop} {R : Option (Int64 × ev_m)} (hR : ∀ (x0 : Int64) (m0 : ev_m), (some ((x0, m0))) = R → Q (some (vl x0)) (ev_emb m0)) (hN : none ≠ R) {m37 : ev_m} {i35 : Nat} {x36 : Int32} (h : jn_X10_steers_191 m37 i35 x36 = R) : ev_E G K_X10_steers B_X10_steers (0, 0) 191 [some (vr 10 (i35)), none, none, none, some (vi (x36)), none, none] [] (ev_emb m37) Q := by
  unfold jn_X10_steers_191 at h
  refine ev_iload_4 (pc := 191) dX10_steers_191 ?_
  by_cases c38 : x36 = 0
  · replace h := ev_ifp h c38
    refine ev_tin (pc := 193) 0 (tgt := 228) c38 (by decide) dX10_steers_193 rfl (by decide) ?_
    refine ev_aload_0 (pc := 228) dX10_steers_228 ?_
    refine cl1_X10_319 (pc := 229) rfl dX10_steers_229 (by decide) (Nat.le_of_ble_eq_true rfl) (c_X10_cost m37 i35) ?_
    exact ev_lret (pc := 232) dX10_steers_232 rfl (hR _ _ h)
  · replace h := ev_ifn h c38
    by_cases c39 : x36 = 1
    · replace h := ev_ifp h c39
      refine ev_tin (pc := 193) 1 (tgt := 233) c39 (by decide) dX10_steers_193 rfl (by decide) ?_
      refine ev_aload_0 (pc := 233) dX10_steers_233 ?_
      refine gt_X10_243 (pc := 234) rfl dX10_steers_234 ?_
      exact ev_lret (pc := 237) dX10_steers_237 rfl (hR _ _ h)
    · replace h := ev_ifn h c39
      by_cases c40 : x36 = 2
      · replace h := ev_ifp h c40
        refine ev_tin (pc := 193) 2 (tgt := 238) c40 (by decide) dX10_steers_193 rfl (by decide) ?_
        refine ev_aload_0 (pc := 238) dX10_steers_238 ?_
        refine gt_X10_246 (pc := 239) rfl dX10_steers_239 ?_
        refine ev_i2l (pc := 242) dX10_steers_242 ?_
        exact ev_lret (pc := 243) dX10_steers_243 rfl (hR _ _ h)
      · replace h := ev_ifn h c40
        by_cases c41 : x36 = 3
        · replace h := ev_ifp h c41
          refine ev_tin (pc := 193) 3 (tgt := 244) c41 (by decide) dX10_steers_193 rfl (by decide) ?_
          refine ev_aload_0 (pc := 244) dX10_steers_244 ?_
          refine gt_X10_252 (pc := 245) rfl dX10_steers_245 ?_
          refine ev_i2l (pc := 248) dX10_steers_248 ?_
          exact ev_lret (pc := 249) dX10_steers_249 rfl (hR _ _ h)
        · replace h := ev_ifn h c41
          by_cases c42 : x36 = 4
          · replace h := ev_ifp h c42
            refine ev_tin (pc := 193) 4 (tgt := 250) c42 (by decide) dX10_steers_193 rfl (by decide) ?_
            refine ev_aload_0 (pc := 250) dX10_steers_250 ?_
            refine gt_X10_240 (pc := 251) rfl dX10_steers_251 ?_
            refine ev_i2l (pc := 254) dX10_steers_254 ?_
            exact ev_lret (pc := 255) dX10_steers_255 rfl (hR _ _ h)
          · replace h := ev_ifn h c42
            refine ev_tout (pc := 193) 5 (tgt := 256) rfl (by decide) (lt_s (p := fun j => ¬ x36 = nI j) (lt_s (p := fun j => ¬ x36 = nI j) (lt_s (p := fun j => ¬ x36 = nI j) (lt_s (p := fun j => ¬ x36 = nI j) (lt_s (p := fun j => ¬ x36 = nI j) lt_0 c38) c39) c40) c41) c42) dX10_steers_193 (by decide) ?_
            refine ev_iload_4 (pc := 256) dX10_steers_256 ?_
            refine ev_sipush (pc := 258) (v := 1000) dX10_steers_258 (by decide) ?_
            refine ev_sipush (pc := 261) (v := 1000) dX10_steers_261 (by decide) ?_
            refine ev_aload_0 (pc := 264) dX10_steers_264 ?_
            refine gt_X10_240 (pc := 265) rfl dX10_steers_265 ?_
            refine ev_iadd (pc := 268) dX10_steers_268 ?_
            refine cl1_X10_89 (pc := 269) rfl dX10_steers_269 (by decide) (Nat.le_of_ble_eq_true rfl) (c_X10_in m37 x36 1000 (1000 + (m37.1 10 i35 32))) ?_
            refine ev_ifb_eq (pc := 272) (tgt := 290) dX10_steers_272 (by decide) (fun c43 => ?_) (fun c43 => ?_)
            · replace h := ev_ifn h c43
              refine ev_ldc2 (pc := 290) (v := (-100000)) kl_X10_358 dX10_steers_290 ?_
              exact ev_lret (pc := 293) dX10_steers_293 rfl (hR _ _ h)
            · replace h := ev_ifp h c43
              refine ev_aload_0 (pc := 275) dX10_steers_275 ?_
              refine gt_X10_56 (pc := 276) rfl dX10_steers_276 ?_
              refine ev_iload_4 (pc := 279) dX10_steers_279 ?_
              refine ev_sipush (pc := 281) (v := 1000) dX10_steers_281 (by decide) ?_
              refine ev_isub (pc := 284) dX10_steers_284 ?_
              obtain ⟨x44, hx44, h⟩ := ev_bindE hN h
              refine ev_iald1 (pc := 285) rfl (by decide) rfl hx44 dX10_steers_285 ?_
              refine ev_i2l (pc := 286) dX10_steers_286 ?_
              refine ev_goto (pc := 287) (tgt := 293) dX10_steers_287 (by decide) ?_
              exact ev_lret (pc := 293) dX10_steers_293 rfl (hR _ _ h)
set_option maxRecDepth 20000 in
set_option maxHeartbeats 4000000 in
theorem e_X10_steers {G : ev_G} {Q : Option ev_V → ev_M → Prop} {R : Option (Int64 × ev_m)} {mF : ev_m} (hR : ∀ (x0 : Int64) (m0 : ev_m), (some ((x0, m0))) = R → Q (some (vl x0)) (ev_emb m0)) (hN : none ≠ R) {i0 : Nat} {x1_ : Int32} {x2_ : Int32} {x3_ : Int32} {x4_ : Int32} (h : f_X10_steers mF i0 x1_ x2_ x3_ x4_ = R) : ev_E G K_X10_steers B_X10_steers (0, 0) 0 [some (vr 10 (i0)), some (vi (x1_)), some (vi (x2_)), some (vi (x3_)), some (vi (x4_)), none, none] [] (ev_emb mF) Q := by
  unfold f_X10_steers at h
  refine ev_aload_0 (pc := 0) dX10_steers_0 ?_
  refine ev_iconst (pc := 1) (v := 0) dX10_steers_1 rfl ?_
  obtain ⟨m1, hm1, h⟩ := ev_letE h
  refine pt_X10_81 (pc := 2) rfl dX10_steers_2 ?_
  refine ev_mem (pc := 5) hm1 ?_
  refine ev_aload_0 (pc := 5) dX10_steers_5 ?_
  refine ev_iconst (pc := 6) (v := 0) dX10_steers_6 rfl ?_
  refine ev_iload_1 (pc := 7) dX10_steers_7 ?_
  obtain ⟨x2, hx2, h⟩ := ev_bindE hN h
  refine cl1_X10_226 (pc := 8) rfl dX10_steers_8 (by decide) (Nat.le_of_ble_eq_true rfl) (c_X10_is hx2) ?_
  refine ev_ifb_eq (pc := 11) (tgt := 23) dX10_steers_11 (by decide) (fun c3 => ?_) (fun c3 => ?_)
  · replace h := ev_ifn h c3
    refine ev_ldc2 (pc := 23) (v := (-100000)) kl_X10_358 dX10_steers_23 ?_
    exact ev_lret (pc := 26) dX10_steers_26 rfl (hR _ _ h)
  · replace h := ev_ifp h c3
    refine ev_aload_0 (pc := 14) dX10_steers_14 ?_
    refine ev_iconst (pc := 15) (v := 3) dX10_steers_15 rfl ?_
    refine ev_iload_2 (pc := 16) dX10_steers_16 ?_
    obtain ⟨x4, hx4, h⟩ := ev_bindE hN h
    refine cl1_X10_226 (pc := 17) rfl dX10_steers_17 (by decide) (Nat.le_of_ble_eq_true rfl) (c_X10_is hx4) ?_
    refine ev_ifb_ne (pc := 20) (tgt := 27) dX10_steers_20 (by decide) (fun c5 => ?_) (fun c5 => ?_)
    · replace h := ev_ifp h c5
      refine ev_iconst (pc := 27) (v := 0) dX10_steers_27 rfl ?_
      refine ev_istore_5 (pc := 28) dX10_steers_28 (by decide) rfl ?_
      refine e_lp_X10_steers_30 hR hN 4000 _ _ h (fun _ h => ?_)
      refine ev_aload_0 (pc := 78) dX10_steers_78 ?_
      refine ev_iload_1 (pc := 79) dX10_steers_79 ?_
      obtain ⟨m18, hm18, h⟩ := ev_bindE hN h
      refine cl0_X10_323 (pc := 80) rfl dX10_steers_80 (by decide) (Nat.le_of_ble_eq_true rfl) (c_X10_layShip hm18) ?_
      refine ev_aload_0 (pc := 83) dX10_steers_83 ?_
      refine ev_iload_3 (pc := 84) dX10_steers_84 ?_
      obtain ⟨m19, hm19, h⟩ := ev_letE h
      refine cl0_X10_309 (pc := 85) (fr := 1) (lo := 20) (m' := m19) rfl dX10_steers_85 (by decide) (Nat.le_of_ble_eq_true rfl) (by rw [hm19]; exact c_X10_begin m18 i0 x3_) ?_
      refine ev_iconst (pc := 88) (v := 0) dX10_steers_88 rfl ?_
      refine ev_istore_5 (pc := 89) dX10_steers_89 (by decide) rfl ?_
      refine ev_E.forget (L' := [some (vr 10 (i0)), none, some (vi (x2_)), none, some (vi (x4_)), some (vi (0)), none]) ⟨rfl, ⟨rfl, ⟨rfl, ⟨rfl, trivial⟩⟩⟩⟩ ?_
      refine e_lp_X10_steers_91 hR hN 4000 _ _ _ h (fun m34 h => ?_)
      exact e_jn_X10_steers_191 hR hN h
    · replace h := ev_ifn h c5
      refine ev_ldc2 (pc := 23) (v := (-100000)) kl_X10_358 dX10_steers_23 ?_
      exact ev_lret (pc := 26) dX10_steers_26 rfl (hR _ _ h)
theorem c_X10_steers {G : ev_G} {mF : ev_m} {i0 : Nat} {x1_ : Int32} {x2_ : Int32} {x3_ : Int32} {x4_ : Int32} {r : Int64 × ev_m} (h : f_X10_steers mF i0 x1_ x2_ x3_ x4_ = some r) : ev_CF G K_X10_steers B_X10_steers [vr 10 (i0), vi (x1_), vi (x2_), vi (x3_), vi (x4_)] mF (some (vl (r.1))) r.2 :=
  ev_Ct_of rfl rfl (Nat.le_of_ble_eq_true rfl) (e_X10_steers (R := some r) (fun x0 m0 q => by cases q; exact ⟨rfl, rfl⟩) (fun q => by cases q) h)
set_option maxRecDepth 20000 in
set_option maxHeartbeats 4000000 in
theorem e_lp_X10_change_42 {G : ev_G} {Q : Option ev_V → ev_M → Prop} {R : Option (Int32 × ev_m)} (hR : ∀ (x0 : Int32) (m0 : ev_m), (some ((x0, m0))) = R → Q (some (vi x0)) (ev_emb m0)) (hN : none ≠ R) {i7 : Nat} {x8 : Int32} : ∀ (f : Nat) (x9 : Int32) (y10 : Int64) (x11 : Int32) (m12 : ev_m) (kx : Int32 → ev_m → Option (Int32 × ev_m)) (h : lp_X10_change_42 i7 x8 f x9 y10 x11 m12 kx = R) (hk : ∀ (x9' : Int32) (m12' : ev_m), kx x9' m12' = R → ev_E G K_X10_change B_X10_change (0, 0) 103 [none, none, none, none, none, some (vi (x9')), none, none, none] [] (ev_emb m12') Q), ev_E G K_X10_change B_X10_change (0, 0) 42 [some (vr 10 (i7)), none, none, none, some (vi (x8)), some (vi (x9)), some (vl (y10)), none, some (vi (x11))] [] (ev_emb m12) Q := by
  intro f
  induction f with
  | zero => intro x9 y10 x11 m12 kx h hk; rw [lp_X10_change_42] at h; exact absurd h hN
  | succ f ih =>
    intro x9 y10 x11 m12 kx h hk
    rw [lp_X10_change_42] at h
    refine ev_iload_8 (pc := 42) dX10_change_42 ?_
    refine ev_iload_4 (pc := 44) dX10_change_44 ?_
    refine ev_icc_gt (pc := 46) (tgt := 103) dX10_change_46 (by decide) (fun c13 => ?_) (fun c13 => ?_)
    · replace h := ev_ifp h c13
      refine ev_E.forget (L' := [none, none, none, none, none, some (vi (x9)), none, none, none]) ⟨rfl, trivial⟩ ?_
      exact hk _ _  h
    · replace h := ev_ifn h c13
      refine ev_aload_0 (pc := 49) dX10_change_49 ?_
      refine ev_iconst (pc := 50) (v := 0) dX10_change_50 rfl ?_
      obtain ⟨m14, hm14, h⟩ := ev_letE h
      refine cl0_X10_309 (pc := 51) (fr := 1) (lo := 20) (m' := m14) rfl dX10_change_51 (by decide) (Nat.le_of_ble_eq_true rfl) (by rw [hm14]; exact c_X10_begin m12 i7 0) ?_
      refine ev_aload_0 (pc := 54) dX10_change_54 ?_
      refine ev_iconst (pc := 55) (v := 0) dX10_change_55 rfl ?_
      refine ev_iload_8 (pc := 56) dX10_change_56 ?_
      obtain ⟨m15, hm15, h⟩ := ev_bindE hN h
      refine cl0_X10_312 (pc := 58) rfl dX10_change_58 (by decide) (Nat.le_of_ble_eq_true rfl) (c_X10_steer hm15) ?_
      refine ev_aload_0 (pc := 61) dX10_change_61 ?_
      refine ev_iconst (pc := 62) (v := 1) dX10_change_62 rfl ?_
      refine ev_iload_4 (pc := 63) dX10_change_63 ?_
      refine ev_iload_8 (pc := 65) dX10_change_65 ?_
      refine ev_isub (pc := 67) dX10_change_67 ?_
      obtain ⟨m16, hm16, h⟩ := ev_bindE hN h
      refine cl0_X10_312 (pc := 68) rfl dX10_change_68 (by decide) (Nat.le_of_ble_eq_true rfl) (c_X10_steer hm16) ?_
      refine ev_iload_5 (pc := 71) dX10_change_71 ?_
      refine ev_iconst (pc := 73) (v := (-1)) dX10_change_73 rfl ?_
      obtain ⟨x19, hx19, h⟩ := ev_letE h
      obtain ⟨y20, hy20, h⟩ := ev_letE h
      have hJ1 : ev_E G K_X10_change B_X10_change (0, 0) 97 [some (vr 10 (i7)), none, none, none, some (vi (x8)), some (vi (x19)), some (vl (y20)), none, some (vi (x11))] [] (ev_emb m16) Q := by
        refine ev_iinc_8 (pc := 97) (y := x11 + 1) dX10_change_97 rfl (by decide) rfl ?_
        refine ev_goto (pc := 100) (tgt := 42) dX10_change_100 (by decide) ?_
        exact ih _ _ _ _ kx h hk
      refine ev_icc_eq (pc := 74) (tgt := 87) dX10_change_74 (by decide) (fun c17 => ?_) (fun c17 => ?_)
      · refine ev_iload_8 (pc := 87) dX10_change_87 ?_
        refine ev_istore_5 (pc := 89) dX10_change_89 (by decide) rfl ?_
        refine ev_aload_0 (pc := 91) dX10_change_91 ?_
        refine cl1_X10_319 (pc := 92) rfl dX10_change_92 (by decide) (Nat.le_of_ble_eq_true rfl) (c_X10_cost m16 i7) ?_
        refine ev_lstore_6 (pc := 95) dX10_change_95 (by decide) rfl ?_
        replace hx19 := (hx19.trans (if_pos c17))
        replace hy20 := (hy20.trans (if_pos c17))
        subst hx19
        subst hy20
        exact hJ1
      · refine ev_aload_0 (pc := 77) dX10_change_77 ?_
        refine cl1_X10_319 (pc := 78) rfl dX10_change_78 (by decide) (Nat.le_of_ble_eq_true rfl) (c_X10_cost m16 i7) ?_
        refine ev_lload_6 (pc := 81) dX10_change_81 ?_
        refine ev_lcc_ge (pc := 83) (tgt := 97) dX10_change_83 dX10_change_84 (by decide) (fun c18 => ?_) (fun c18 => ?_)
        · replace hx19 := ((hx19.trans (if_neg c17)).trans (if_neg c18))
          replace hy20 := ((hy20.trans (if_neg c17)).trans (if_neg c18))
          subst hx19
          subst hy20
          exact hJ1
        · refine ev_iload_8 (pc := 87) dX10_change_87 ?_
          refine ev_istore_5 (pc := 89) dX10_change_89 (by decide) rfl ?_
          refine ev_aload_0 (pc := 91) dX10_change_91 ?_
          refine cl1_X10_319 (pc := 92) rfl dX10_change_92 (by decide) (Nat.le_of_ble_eq_true rfl) (c_X10_cost m16 i7) ?_
          refine ev_lstore_6 (pc := 95) dX10_change_95 (by decide) rfl ?_
          replace hx19 := ((hx19.trans (if_neg c17)).trans (if_pos c18))
          replace hy20 := ((hy20.trans (if_neg c17)).trans (if_pos c18))
          subst hx19
          subst hy20
          exact hJ1
set_option maxRecDepth 20000 in
set_option maxHeartbeats 4000000 in
theorem e_X10_change {G : ev_G} {Q : Option ev_V → ev_M → Prop} {R : Option (Int32 × ev_m)} {mF : ev_m} (hR : ∀ (x0 : Int32) (m0 : ev_m), (some ((x0, m0))) = R → Q (some (vi x0)) (ev_emb m0)) (hN : none ≠ R) {i0 : Nat} {x1_ : Int32} {x2_ : Int32} {x3_ : Int32} {x4_ : Int32} (h : f_X10_change mF i0 x1_ x2_ x3_ x4_ = R) : ev_E G K_X10_change B_X10_change (0, 0) 0 [some (vr 10 (i0)), some (vi (x1_)), some (vi (x2_)), some (vi (x3_)), some (vi (x4_)), none, none, none, none] [] (ev_emb mF) Q := by
  unfold f_X10_change at h
  refine ev_aload_0 (pc := 0) dX10_change_0 ?_
  refine ev_iconst (pc := 1) (v := 0) dX10_change_1 rfl ?_
  obtain ⟨m1, hm1, h⟩ := ev_letE h
  refine pt_X10_81 (pc := 2) rfl dX10_change_2 ?_
  refine ev_mem (pc := 5) hm1 ?_
  refine ev_aload_0 (pc := 5) dX10_change_5 ?_
  refine ev_iconst (pc := 6) (v := 1) dX10_change_6 rfl ?_
  refine ev_iload_3 (pc := 7) dX10_change_7 ?_
  obtain ⟨x2, hx2, h⟩ := ev_bindE hN h
  refine cl1_X10_226 (pc := 8) rfl dX10_change_8 (by decide) (Nat.le_of_ble_eq_true rfl) (c_X10_is hx2) ?_
  refine ev_ifb_eq (pc := 11) (tgt := 25) dX10_change_11 (by decide) (fun c3 => ?_) (fun c3 => ?_)
  · replace h := ev_ifn h c3
    refine ev_iconst (pc := 25) (v := (-1)) dX10_change_25 rfl ?_
    exact ev_iret (pc := 26) dX10_change_26 rfl rfl (hR _ _ h)
  · replace h := ev_ifp h c3
    refine ev_aload_0 (pc := 14) dX10_change_14 ?_
    refine ev_iload_1 (pc := 15) dX10_change_15 ?_
    refine ev_iload_2 (pc := 16) dX10_change_16 ?_
    refine ev_iload_4 (pc := 17) dX10_change_17 ?_
    obtain ⟨p4, hp4, h⟩ := ev_bindE hN h
    refine cl1_X10_338 (pc := 19) rfl dX10_change_19 (by decide) (Nat.le_of_ble_eq_true rfl) (c_X10_layFor hp4) ?_
    refine ev_ifb_ne (pc := 22) (tgt := 27) dX10_change_22 (by decide) (fun c5 => ?_) (fun c5 => ?_)
    · replace h := ev_ifp h c5
      refine ev_aload_0 (pc := 27) dX10_change_27 ?_
      refine ev_iconst (pc := 28) (v := 1) dX10_change_28 rfl ?_
      refine ev_iload_3 (pc := 29) dX10_change_29 ?_
      obtain ⟨m6, hm6, h⟩ := ev_bindE hN h
      refine cl0_X10_326 (pc := 30) rfl dX10_change_30 (by decide) (Nat.le_of_ble_eq_true rfl) (c_X10_layHand hm6) ?_
      refine ev_iconst (pc := 33) (v := (-1)) dX10_change_33 rfl ?_
      refine ev_istore_5 (pc := 34) dX10_change_34 (by decide) rfl ?_
      refine ev_lconst (pc := 36) (v := 0) dX10_change_36 rfl ?_
      refine ev_lstore_6 (pc := 37) dX10_change_37 (by decide) rfl ?_
      refine ev_iconst (pc := 39) (v := 0) dX10_change_39 rfl ?_
      refine ev_istore_8 (pc := 40) dX10_change_40 (by decide) rfl ?_
      refine ev_E.forget (L' := [some (vr 10 (i0)), none, none, none, some (vi (x4_)), some (vi ((-1))), some (vl (0)), none, some (vi (0))]) ⟨rfl, ⟨rfl, ⟨rfl, ⟨rfl, ⟨rfl, trivial⟩⟩⟩⟩⟩ ?_
      refine e_lp_X10_change_42 hR hN 4000 _ _ _ _ _ h (fun x21 m22 h => ?_)
      refine ev_iload_5 (pc := 103) dX10_change_103 ?_
      exact ev_iret (pc := 105) dX10_change_105 rfl rfl (hR _ _ h)
    · replace h := ev_ifn h c5
      refine ev_iconst (pc := 25) (v := (-1)) dX10_change_25 rfl ?_
      exact ev_iret (pc := 26) dX10_change_26 rfl rfl (hR _ _ h)
theorem c_X10_change {G : ev_G} {mF : ev_m} {i0 : Nat} {x1_ : Int32} {x2_ : Int32} {x3_ : Int32} {x4_ : Int32} {r : Int32 × ev_m} (h : f_X10_change mF i0 x1_ x2_ x3_ x4_ = some r) : ev_CF G K_X10_change B_X10_change [vr 10 (i0), vi (x1_), vi (x2_), vi (x3_), vi (x4_)] mF (some (vi (r.1))) r.2 :=
  ev_Ct_of rfl rfl (Nat.le_of_ble_eq_true rfl) (e_X10_change (R := some r) (fun x0 m0 q => by cases q; exact ⟨rfl, rfl⟩) (fun q => by cases q) h)
set_option maxRecDepth 20000 in
set_option maxHeartbeats 4000000 in
theorem e_jn_X10_isOrder_57_9 {G : ev_G} {Q : Option ev_V → ev_M → Prop} {R : Option (Bool × ev_m)} (hR : ∀ (x0 : Bool) (m0 : ev_m), (some ((x0, m0))) = R → Q (some (vi (bi x0))) (ev_emb m0)) (hN : none ≠ R) {m17 : ev_m} {i1 : Nat} {x2 : Int32} {x3 : Int32} {x14 : Int32} {x15 : Int32} {x16 : Int32} {kb : Int32 → Int32 → Int32 → ev_m → Option (Bool × ev_m)} {kx : Int32 → ev_m → Option (Bool × ev_m)}  (h : jn_X10_isOrder_57_9 m17 i1 x2 x3 x14 x15 x16 kb kx = R) (hkb : ∀ (x4' : Int32) (x5' : Int32) (x6' : Int32) (m7' : ev_m), kb x4' x5' x6' m7' = R → ev_E G K_X10_isOrder B_X10_isOrder (0, 0) 9 [some (vr 10 (i1)), none, some (vi (x2)), some (vi (x3)), some (vi (x4')), some (vi (x5')), some (vi (x6')), none] [] (ev_emb m7') Q) (hkx : ∀ (x4' : Int32) (m7' : ev_m), kx x4' m7' = R → ev_E G K_X10_isOrder B_X10_isOrder (0, 0) 63 [none, none, some (vi (x2)), none, some (vi (x4')), none, none, none] [] (ev_emb m7') Q) : ev_E G K_X10_isOrder B_X10_isOrder (0, 0) 57 [some (vr 10 (i1)), none, some (vi (x2)), some (vi (x3)), some (vi (x14)), some (vi (x15)), some (vi (x16)), none] [] (ev_emb m17) Q := by
  unfold jn_X10_isOrder_57_9 at h
  refine ev_iinc_6 (pc := 57) (y := x16 + (-1)) dX10_isOrder_57 rfl (by decide) rfl ?_
  refine ev_goto (pc := 60) (tgt := 9) dX10_isOrder_60 (by decide) ?_
  exact hkb _ _ _ _  h
set_option maxRecDepth 20000 in
set_option maxHeartbeats 4000000 in
theorem e_lp_X10_isOrder_9 {G : ev_G} {Q : Option ev_V → ev_M → Prop} {R : Option (Bool × ev_m)} (hR : ∀ (x0 : Bool) (m0 : ev_m), (some ((x0, m0))) = R → Q (some (vi (bi x0))) (ev_emb m0)) (hN : none ≠ R) {i1 : Nat} {x2 : Int32} {x3 : Int32} : ∀ (f : Nat) (x4 : Int32) (x5 : Int32) (x6 : Int32) (m7 : ev_m) (kx : Int32 → ev_m → Option (Bool × ev_m)) (h : lp_X10_isOrder_9 i1 x2 x3 f x4 x5 x6 m7 kx = R) (hk : ∀ (x4' : Int32) (m7' : ev_m), kx x4' m7' = R → ev_E G K_X10_isOrder B_X10_isOrder (0, 0) 63 [none, none, some (vi (x2)), none, some (vi (x4')), none, none, none] [] (ev_emb m7') Q), ev_E G K_X10_isOrder B_X10_isOrder (0, 0) 9 [some (vr 10 (i1)), none, some (vi (x2)), some (vi (x3)), some (vi (x4)), some (vi (x5)), some (vi (x6)), none] [] (ev_emb m7) Q := by
  intro f
  induction f with
  | zero => intro x4 x5 x6 m7 kx h hk; rw [lp_X10_isOrder_9] at h; exact absurd h hN
  | succ f ih =>
    intro x4 x5 x6 m7 kx h hk
    rw [lp_X10_isOrder_9] at h
    refine ev_iload_6 (pc := 9) dX10_isOrder_9 ?_
    refine ev_ifc_lt (pc := 11) (tgt := 63) dX10_isOrder_11 (by decide) (fun c8 => ?_) (fun c8 => ?_)
    · replace h := ev_ifp h c8
      refine ev_E.forget (L' := [none, none, some (vi (x2)), none, some (vi (x4)), none, none, none]) ⟨rfl, ⟨rfl, trivial⟩⟩ ?_
      exact hk _ _  h
    · replace h := ev_ifn h c8
      refine ev_iload_5 (pc := 14) dX10_isOrder_14 ?_
      refine ev_iconst (pc := 16) (v := 4) dX10_isOrder_16 rfl ?_
      refine ev_irem (pc := 17) dX10_isOrder_17 (by decide) ?_
      obtain ⟨x9, hx9, h⟩ := ev_letE h
      refine ev_topi (pc := 18) hx9 ?_
      refine ev_istore_7 (pc := 18) dX10_isOrder_18 (by decide) rfl ?_
      refine ev_iload_5 (pc := 20) dX10_isOrder_20 ?_
      refine ev_iconst (pc := 22) (v := 4) dX10_isOrder_22 rfl ?_
      refine ev_idiv (pc := 23) dX10_isOrder_23 (by decide) ?_
      obtain ⟨x10, hx10, h⟩ := ev_letE h
      refine ev_topi (pc := 24) hx10 ?_
      refine ev_istore_5 (pc := 24) dX10_isOrder_24 (by decide) rfl ?_
      refine ev_iload_6 (pc := 26) dX10_isOrder_26 ?_
      refine ev_iload_3 (pc := 28) dX10_isOrder_28 ?_
      refine ev_icc_lt (pc := 29) (tgt := 39) dX10_isOrder_29 (by decide) (fun c11 => ?_) (fun c11 => ?_)
      · replace h := ev_ifp h c11
        refine ev_aload_0 (pc := 39) dX10_isOrder_39 ?_
        refine gt_X10_71 (pc := 40) rfl dX10_isOrder_40 ?_
        refine ev_iload_6 (pc := 43) dX10_isOrder_43 ?_
        refine ev_iload_7 (pc := 45) dX10_isOrder_45 ?_
        obtain ⟨m12, hm12, h⟩ := ev_bindE hN h
        refine ev_iast1 (pc := 47) rfl (by decide) (by decide) rfl hm12 dX10_isOrder_47 ?_
        refine ev_iload_4 (pc := 48) dX10_isOrder_48 ?_
        refine ev_iconst (pc := 50) (v := 1) dX10_isOrder_50 rfl ?_
        refine ev_iload_7 (pc := 51) dX10_isOrder_51 ?_
        refine ev_ishl (pc := 53) dX10_isOrder_53 ?_
        refine ev_ior (pc := 54) dX10_isOrder_54 ?_
        obtain ⟨x13, hx13, h⟩ := ev_letE h
        refine ev_topi (pc := 55) hx13 ?_
        refine ev_istore_4 (pc := 55) dX10_isOrder_55 (by decide) rfl ?_
        refine ev_E.forget (L' := [some (vr 10 (i1)), none, some (vi (x2)), some (vi (x3)), some (vi (x13)), some (vi (x10)), some (vi (x6)), none]) ⟨rfl, ⟨rfl, ⟨rfl, ⟨rfl, ⟨rfl, ⟨rfl, trivial⟩⟩⟩⟩⟩⟩ ?_
        exact e_jn_X10_isOrder_57_9 hR hN h (fun _ _ _ _ h => ih _ _ _ _ kx h hk) hk
      · replace h := ev_ifn h c11
        refine ev_iload_7 (pc := 32) dX10_isOrder_32 ?_
        refine ev_ifc_le (pc := 34) (tgt := 57) dX10_isOrder_34 (by decide) (fun c18 => ?_) (fun c18 => ?_)
        · replace h := ev_ifn h c18
          refine ev_E.forget (L' := [some (vr 10 (i1)), none, some (vi (x2)), some (vi (x3)), some (vi (x4)), some (vi (x10)), some (vi (x6)), none]) ⟨rfl, ⟨rfl, ⟨rfl, ⟨rfl, ⟨rfl, ⟨rfl, trivial⟩⟩⟩⟩⟩⟩ ?_
          exact e_jn_X10_isOrder_57_9 hR hN h (fun _ _ _ _ h => ih _ _ _ _ kx h hk) hk
        · replace h := ev_ifp h c18
          refine ev_iconst (pc := 37) (v := 0) dX10_isOrder_37 rfl ?_
          exact ev_iret (pc := 38) dX10_isOrder_38 rfl rfl (hR _ _ h)
set_option maxRecDepth 20000 in
set_option maxHeartbeats 4000000 in
theorem e_X10_isOrder {G : ev_G} {Q : Option ev_V → ev_M → Prop} {R : Option (Bool × ev_m)} {mF : ev_m} (hR : ∀ (x0 : Bool) (m0 : ev_m), (some ((x0, m0))) = R → Q (some (vi (bi x0))) (ev_emb m0)) (hN : none ≠ R) {i0 : Nat} {x1_ : Int32} {x2_ : Int32} {x3_ : Int32} (h : f_X10_isOrder mF i0 x1_ x2_ x3_ = R) : ev_E G K_X10_isOrder B_X10_isOrder (0, 0) 0 [some (vr 10 (i0)), some (vi (x1_)), some (vi (x2_)), some (vi (x3_)), none, none, none, none] [] (ev_emb mF) Q := by
  unfold f_X10_isOrder at h
  refine ev_iconst (pc := 0) (v := 0) dX10_isOrder_0 rfl ?_
  refine ev_istore_4 (pc := 1) dX10_isOrder_1 (by decide) rfl ?_
  refine ev_iload_1 (pc := 3) dX10_isOrder_3 ?_
  refine ev_istore_5 (pc := 4) dX10_isOrder_4 (by decide) rfl ?_
  refine ev_iconst (pc := 6) (v := 3) dX10_isOrder_6 rfl ?_
  refine ev_istore_6 (pc := 7) dX10_isOrder_7 (by decide) rfl ?_
  refine ev_E.forget (L' := [some (vr 10 (i0)), none, some (vi (x2_)), some (vi (x3_)), some (vi (0)), some (vi (x1_)), some (vi (3)), none]) ⟨rfl, ⟨rfl, ⟨rfl, ⟨rfl, ⟨rfl, ⟨rfl, trivial⟩⟩⟩⟩⟩⟩ ?_
  refine e_lp_X10_isOrder_9 hR hN 4000 _ _ _ _ _ h (fun x19 m20 h => ?_)
  refine ev_iload_4 (pc := 63) dX10_isOrder_63 ?_
  refine ev_iload_2 (pc := 65) dX10_isOrder_65 ?_
  refine ev_icc_ne (pc := 66) (tgt := 73) dX10_isOrder_66 (by decide) (fun c21 => ?_) (fun c21 => ?_)
  · replace h := ev_ifn h c21
    refine ev_iconst (pc := 73) (v := 0) dX10_isOrder_73 rfl ?_
    exact ev_iret (pc := 74) dX10_isOrder_74 rfl rfl (hR _ _ h)
  · replace h := ev_ifp h c21
    refine ev_iconst (pc := 69) (v := 1) dX10_isOrder_69 rfl ?_
    refine ev_goto (pc := 70) (tgt := 74) dX10_isOrder_70 (by decide) ?_
    exact ev_iret (pc := 74) dX10_isOrder_74 rfl rfl (hR _ _ h)
theorem c_X10_isOrder {G : ev_G} {mF : ev_m} {i0 : Nat} {x1_ : Int32} {x2_ : Int32} {x3_ : Int32} {r : Bool × ev_m} (h : f_X10_isOrder mF i0 x1_ x2_ x3_ = some r) : ev_CF G K_X10_isOrder B_X10_isOrder [vr 10 (i0), vi (x1_), vi (x2_), vi (x3_)] mF (some (vi (bi (r.1)))) r.2 :=
  ev_Ct_of rfl rfl (Nat.le_of_ble_eq_true rfl) (e_X10_isOrder (R := some r) (fun x0 m0 q => by cases q; exact ⟨rfl, rfl⟩) (fun q => by cases q) h)
set_option maxRecDepth 20000 in
set_option maxHeartbeats 4000000 in
theorem e_lp_X10_order_11 {G : ev_G} {Q : Option ev_V → ev_M → Prop} {R : Option (Int32 × ev_m)} (hR : ∀ (x0 : Int32) (m0 : ev_m), (some ((x0, m0))) = R → Q (some (vi x0)) (ev_emb m0)) (hN : none ≠ R) {m9 : ev_m} {i2 : Nat} {x3 : Int32} {x4 : Int32} {x5 : Int32} {x6 : Int32} : ∀ (f : Nat) (x7 : Int32) (x8 : Int32) (kx : Int32 → Option (Int32 × ev_m)) (h : lp_X10_order_11 m9 i2 x3 x4 x5 x6 f x7 x8 kx = R) (hk : ∀ (x7' : Int32), kx x7' = R → ev_E G K_X10_order B_X10_order (0, 0) 42 [some (vr 10 (i2)), some (vi (x3)), some (vi (x4)), some (vi (x5)), some (vi (x6)), some (vi (x7')), none, none, none, none, none] [] (ev_emb m9) Q), ev_E G K_X10_order B_X10_order (0, 0) 11 [some (vr 10 (i2)), some (vi (x3)), some (vi (x4)), some (vi (x5)), some (vi (x6)), some (vi (x7)), some (vi (x8)), none, none, none, none] [] (ev_emb m9) Q := by
  intro f
  induction f with
  | zero => intro x7 x8 kx h hk; rw [lp_X10_order_11] at h; exact absurd h hN
  | succ f ih =>
    intro x7 x8 kx h hk
    rw [lp_X10_order_11] at h
    refine ev_iload_6 (pc := 11) dX10_order_11 ?_
    refine ev_iconst (pc := 13) (v := 4) dX10_order_13 rfl ?_
    refine ev_icc_ge (pc := 14) (tgt := 42) dX10_order_14 (by decide) (fun c10 => ?_) (fun c10 => ?_)
    · replace h := ev_ifn h c10
      refine ev_E.forget (L' := [some (vr 10 (i2)), some (vi (x3)), some (vi (x4)), some (vi (x5)), some (vi (x6)), some (vi (x7)), none, none, none, none, none]) ⟨rfl, ⟨rfl, ⟨rfl, ⟨rfl, ⟨rfl, ⟨rfl, trivial⟩⟩⟩⟩⟩⟩ ?_
      exact hk _  h
    · replace h := ev_ifp h c10
      refine ev_iload_5 (pc := 17) dX10_order_17 ?_
      refine ev_iload_2 (pc := 19) dX10_order_19 ?_
      refine ev_iload_6 (pc := 20) dX10_order_20 ?_
      refine cl1_X10_360 (pc := 22) rfl dX10_order_22 (by decide) (Nat.le_of_ble_eq_true rfl) (c_X10_has m9 x4 x8) ?_
      obtain ⟨x12, hx12, h⟩ := ev_letE h
      have hJ1 : ev_E G K_X10_order B_X10_order (0, 0) 33 [some (vr 10 (i2)), some (vi (x3)), some (vi (x4)), some (vi (x5)), some (vi (x6)), some (vi (x7)), some (vi (x8)), none, none, none, none] [vi (x12), vi (x7)] (ev_emb m9) Q := by
        refine ev_iadd (pc := 33) dX10_order_33 ?_
        obtain ⟨x13, hx13, h⟩ := ev_letE h
        refine ev_topi (pc := 34) hx13 ?_
        refine ev_istore_5 (pc := 34) dX10_order_34 (by decide) rfl ?_
        refine ev_iinc_6 (pc := 36) (y := x8 + 1) dX10_order_36 rfl (by decide) rfl ?_
        refine ev_goto (pc := 39) (tgt := 11) dX10_order_39 (by decide) ?_
        exact ih _ _ kx h hk
      refine ev_ifb_eq (pc := 25) (tgt := 32) dX10_order_25 (by decide) (fun c11 => ?_) (fun c11 => ?_)
      · refine ev_iconst (pc := 32) (v := 0) dX10_order_32 rfl ?_
        replace hx12 := (hx12.trans (if_neg c11))
        subst hx12
        exact hJ1
      · refine ev_iconst (pc := 28) (v := 1) dX10_order_28 rfl ?_
        refine ev_goto (pc := 29) (tgt := 33) dX10_order_29 (by decide) ?_
        replace hx12 := (hx12.trans (if_pos c11))
        subst hx12
        exact hJ1
set_option maxRecDepth 20000 in
set_option maxHeartbeats 4000000 in
theorem e_jn_X10_order_186_138 {G : ev_G} {Q : Option ev_V → ev_M → Prop} {R : Option (Int32 × ev_m)} (hR : ∀ (x0 : Int32) (m0 : ev_m), (some ((x0, m0))) = R → Q (some (vi x0)) (ev_emb m0)) (hN : none ≠ R) {m54 : ev_m} {i35 : Nat} {x36 : Int32} {x37 : Int32} {x38 : Int32} {x39 : Int32} {x40 : Int32} {y41 : Int64} {x42 : Int32} {x50 : Int32} {x51 : Int32} {x52 : Int32} {i53 : Nat} {kb : Int32 → ev_m → Option (Int32 × ev_m)} {kx : ev_m → Option (Int32 × ev_m)}  (h : jn_X10_order_186_138 m54 i35 x36 x37 x38 x39 x40 y41 x42 x50 x51 x52 i53 kb kx = R) (hkb : ∀ (x43' : Int32) (m44' : ev_m), kb x43' m44' = R → ev_E G K_X10_order B_X10_order (0, 0) 138 [some (vr 10 (i35)), none, some (vi (x36)), some (vi (x37)), some (vi (x38)), some (vi (x39)), some (vi (x40)), some (vl (y41)), none, some (vi (x42)), some (vi (x43'))] [] (ev_emb m44') Q) (hkx : ∀ (m44' : ev_m), kx m44' = R → ev_E G K_X10_order B_X10_order (0, 0) 195 [some (vr 10 (i35)), none, some (vi (x36)), some (vi (x37)), some (vi (x38)), some (vi (x39)), some (vi (x40)), some (vl (y41)), none, some (vi (x42)), none] [] (ev_emb m44') Q) : ev_E G K_X10_order B_X10_order (0, 0) 186 [some (vr 10 (i35)), none, some (vi (x36)), some (vi (x37)), some (vi (x38)), some (vi (x39)), some (vi (x40)), some (vl (y41)), none, some (vi (x42)), some (vi (x50))] [vi (x51), vi (x52), vr 10 (i53)] (ev_emb m54) Q := by
  unfold jn_X10_order_186_138 at h
  obtain ⟨m55, hm55, h⟩ := ev_bindE hN h
  refine cl0_X10_312 (pc := 186) rfl dX10_order_186 (by decide) (Nat.le_of_ble_eq_true rfl) (c_X10_steer hm55) ?_
  refine ev_iinc_10 (pc := 189) (y := x50 + 1) dX10_order_189 rfl (by decide) rfl ?_
  refine ev_goto (pc := 192) (tgt := 138) dX10_order_192 (by decide) ?_
  exact hkb _ _  h
set_option maxRecDepth 20000 in
set_option maxHeartbeats 4000000 in
theorem e_lp_X10_order_138 {G : ev_G} {Q : Option ev_V → ev_M → Prop} {R : Option (Int32 × ev_m)} (hR : ∀ (x0 : Int32) (m0 : ev_m), (some ((x0, m0))) = R → Q (some (vi x0)) (ev_emb m0)) (hN : none ≠ R) {i35 : Nat} {x36 : Int32} {x37 : Int32} {x38 : Int32} {x39 : Int32} {x40 : Int32} {y41 : Int64} {x42 : Int32} : ∀ (f : Nat) (x43 : Int32) (m44 : ev_m) (kx : ev_m → Option (Int32 × ev_m)) (h : lp_X10_order_138 i35 x36 x37 x38 x39 x40 y41 x42 f x43 m44 kx = R) (hk : ∀ (m44' : ev_m), kx m44' = R → ev_E G K_X10_order B_X10_order (0, 0) 195 [some (vr 10 (i35)), none, some (vi (x36)), some (vi (x37)), some (vi (x38)), some (vi (x39)), some (vi (x40)), some (vl (y41)), none, some (vi (x42)), none] [] (ev_emb m44') Q), ev_E G K_X10_order B_X10_order (0, 0) 138 [some (vr 10 (i35)), none, some (vi (x36)), some (vi (x37)), some (vi (x38)), some (vi (x39)), some (vi (x40)), some (vl (y41)), none, some (vi (x42)), some (vi (x43))] [] (ev_emb m44) Q := by
  intro f
  induction f with
  | zero => intro x43 m44 kx h hk; rw [lp_X10_order_138] at h; exact absurd h hN
  | succ f ih =>
    intro x43 m44 kx h hk
    rw [lp_X10_order_138] at h
    refine ev_iload_10 (pc := 138) dX10_order_138 ?_
    refine ev_iload_5 (pc := 140) dX10_order_140 ?_
    refine ev_icc_ge (pc := 142) (tgt := 195) dX10_order_142 (by decide) (fun c45 => ?_) (fun c45 => ?_)
    · replace h := ev_ifn h c45
      refine ev_E.forget (L' := [some (vr 10 (i35)), none, some (vi (x36)), some (vi (x37)), some (vi (x38)), some (vi (x39)), some (vi (x40)), some (vl (y41)), none, some (vi (x42)), none]) ⟨rfl, ⟨rfl, ⟨rfl, ⟨rfl, ⟨rfl, ⟨rfl, ⟨rfl, ⟨rfl, trivial⟩⟩⟩⟩⟩⟩⟩⟩ ?_
      exact hk _  h
    · replace h := ev_ifp h c45
      refine ev_aload_0 (pc := 145) dX10_order_145 ?_
      refine ev_iconst (pc := 146) (v := 0) dX10_order_146 rfl ?_
      refine ev_aload_0 (pc := 147) dX10_order_147 ?_
      refine gt_X10_71 (pc := 148) rfl dX10_order_148 ?_
      refine ev_iload_10 (pc := 151) dX10_order_151 ?_
      obtain ⟨x46, hx46, h⟩ := ev_bindE hN h
      refine ev_iald1 (pc := 153) rfl (by decide) rfl hx46 dX10_order_153 ?_
      obtain ⟨m47, hm47, h⟩ := ev_bindE hN h
      refine cl0_X10_326 (pc := 154) rfl dX10_order_154 (by decide) (Nat.le_of_ble_eq_true rfl) (c_X10_layHand hm47) ?_
      refine ev_aload_0 (pc := 157) dX10_order_157 ?_
      refine ev_iconst (pc := 158) (v := 0) dX10_order_158 rfl ?_
      refine ev_iload_10 (pc := 159) dX10_order_159 ?_
      refine ev_iload_5 (pc := 161) dX10_order_161 ?_
      refine ev_iconst (pc := 163) (v := 1) dX10_order_163 rfl ?_
      refine ev_isub (pc := 164) dX10_order_164 ?_
      refine ev_icc_ge (pc := 165) (tgt := 175) dX10_order_165 (by decide) (fun c48 => ?_) (fun c48 => ?_)
      · replace h := ev_ifn h c48
        refine ev_iload_3 (pc := 175) dX10_order_175 ?_
        refine ev_iload_3 (pc := 176) dX10_order_176 ?_
        refine ev_iload_5 (pc := 177) dX10_order_177 ?_
        obtain ⟨x49, hx49, h⟩ := ev_bindE hN h
        refine ev_idiv1 (pc := 179) hx49 dX10_order_179 ?_
        refine ev_iload_5 (pc := 180) dX10_order_180 ?_
        refine ev_iconst (pc := 182) (v := 1) dX10_order_182 rfl ?_
        refine ev_isub (pc := 183) dX10_order_183 ?_
        refine ev_imul (pc := 184) dX10_order_184 ?_
        refine ev_isub (pc := 185) dX10_order_185 ?_
        exact e_jn_X10_order_186_138 hR hN h (fun _ _ h => ih _ _ kx h hk) hk
      · replace h := ev_ifp h c48
        refine ev_iload_3 (pc := 168) dX10_order_168 ?_
        refine ev_iload_5 (pc := 169) dX10_order_169 ?_
        obtain ⟨x56, hx56, h⟩ := ev_bindE hN h
        refine ev_idiv1 (pc := 171) hx56 dX10_order_171 ?_
        refine ev_goto (pc := 172) (tgt := 186) dX10_order_172 (by decide) ?_
        exact e_jn_X10_order_186_138 hR hN h (fun _ _ h => ih _ _ kx h hk) hk
set_option maxRecDepth 20000 in
set_option maxHeartbeats 4000000 in
theorem e_lp_X10_order_222 {G : ev_G} {Q : Option ev_V → ev_M → Prop} {R : Option (Int32 × ev_m)} (hR : ∀ (x0 : Int32) (m0 : ev_m), (some ((x0, m0))) = R → Q (some (vi x0)) (ev_emb m0)) (hN : none ≠ R) {i62 : Nat} {x63 : Int32} {x64 : Int32} {x65 : Int32} {x66 : Int32} {y67 : Int64} {x68 : Int32} : ∀ (f : Nat) (x69 : Int32) (m70 : ev_m) (kx : ev_m → Option (Int32 × ev_m)) (h : lp_X10_order_222 i62 x63 x64 x65 x66 y67 x68 f x69 m70 kx = R) (hk : ∀ (m70' : ev_m), kx m70' = R → ev_E G K_X10_order B_X10_order (0, 0) 249 [some (vr 10 (i62)), none, some (vi (x63)), some (vi (x64)), some (vi (x65)), some (vi (x66)), some (vi (1)), some (vl (y67)), none, some (vi (x68)), none] [] (ev_emb m70') Q), ev_E G K_X10_order B_X10_order (0, 0) 222 [some (vr 10 (i62)), none, some (vi (x63)), some (vi (x64)), some (vi (x65)), some (vi (x66)), some (vi (1)), some (vl (y67)), none, some (vi (x68)), some (vi (x69))] [] (ev_emb m70) Q := by
  intro f
  induction f with
  | zero => intro x69 m70 kx h hk; rw [lp_X10_order_222] at h; exact absurd h hN
  | succ f ih =>
    intro x69 m70 kx h hk
    rw [lp_X10_order_222] at h
    refine ev_iload_10 (pc := 222) dX10_order_222 ?_
    refine ev_iload_5 (pc := 224) dX10_order_224 ?_
    refine ev_icc_ge (pc := 226) (tgt := 249) dX10_order_226 (by decide) (fun c71 => ?_) (fun c71 => ?_)
    · replace h := ev_ifn h c71
      refine ev_E.forget (L' := [some (vr 10 (i62)), none, some (vi (x63)), some (vi (x64)), some (vi (x65)), some (vi (x66)), some (vi (1)), some (vl (y67)), none, some (vi (x68)), none]) ⟨rfl, ⟨rfl, ⟨rfl, ⟨rfl, ⟨rfl, ⟨rfl, ⟨rfl, ⟨rfl, trivial⟩⟩⟩⟩⟩⟩⟩⟩ ?_
      exact hk _  h
    · replace h := ev_ifp h c71
      refine ev_aload_0 (pc := 229) dX10_order_229 ?_
      refine gt_X10_74 (pc := 230) rfl dX10_order_230 ?_
      refine ev_iload_10 (pc := 233) dX10_order_233 ?_
      refine ev_aload_0 (pc := 235) dX10_order_235 ?_
      refine gt_X10_71 (pc := 236) rfl dX10_order_236 ?_
      refine ev_iload_10 (pc := 239) dX10_order_239 ?_
      obtain ⟨x72, hx72, h⟩ := ev_bindE hN h
      refine ev_iald1 (pc := 241) rfl (by decide) rfl hx72 dX10_order_241 ?_
      obtain ⟨m73, hm73, h⟩ := ev_bindE hN h
      refine ev_iast1 (pc := 242) rfl (by decide) (by decide) rfl hm73 dX10_order_242 ?_
      refine ev_iinc_10 (pc := 243) (y := x69 + 1) dX10_order_243 rfl (by decide) rfl ?_
      refine ev_goto (pc := 246) (tgt := 222) dX10_order_246 (by decide) ?_
      exact ih _ _ kx h hk
set_option maxRecDepth 20000 in
set_option maxHeartbeats 4000000 in
theorem e_jn_X10_order_249_107 {G : ev_G} {Q : Option ev_V → ev_M → Prop} {R : Option (Int32 × ev_m)} (hR : ∀ (x0 : Int32) (m0 : ev_m), (some ((x0, m0))) = R → Q (some (vi x0)) (ev_emb m0)) (hN : none ≠ R) {m78 : ev_m} {i22 : Nat} {x23 : Int32} {x24 : Int32} {x25 : Int32} {x26 : Int32} {x75 : Int32} {y76 : Int64} {x77 : Int32} {kb : Int32 → Int64 → Int32 → ev_m → Option (Int32 × ev_m)} {kx : ev_m → Option (Int32 × ev_m)}  (h : jn_X10_order_249_107 m78 i22 x23 x24 x25 x26 x75 y76 x77 kb kx = R) (hkb : ∀ (x27' : Int32) (y28' : Int64) (x29' : Int32) (m30' : ev_m), kb x27' y28' x29' m30' = R → ev_E G K_X10_order B_X10_order (0, 0) 107 [some (vr 10 (i22)), none, some (vi (x23)), some (vi (x24)), some (vi (x25)), some (vi (x26)), some (vi (x27')), some (vl (y28')), none, some (vi (x29')), none] [] (ev_emb m30') Q) (hkx : ∀ (m30' : ev_m), kx m30' = R → ev_E G K_X10_order B_X10_order (0, 0) 255 [some (vr 10 (i22)), none, none, none, some (vi (x25)), none, none, none, none, none, none] [] (ev_emb m30') Q) : ev_E G K_X10_order B_X10_order (0, 0) 249 [some (vr 10 (i22)), none, some (vi (x23)), some (vi (x24)), some (vi (x25)), some (vi (x26)), some (vi (x75)), some (vl (y76)), none, some (vi (x77)), none] [] (ev_emb m78) Q := by
  unfold jn_X10_order_249_107 at h
  refine ev_iinc_9 (pc := 249) (y := x77 + 1) dX10_order_249 rfl (by decide) rfl ?_
  refine ev_goto (pc := 252) (tgt := 107) dX10_order_252 (by decide) ?_
  exact hkb _ _ _ _  h
set_option maxRecDepth 20000 in
set_option maxHeartbeats 4000000 in
theorem e_jn_X10_order_210_107 {G : ev_G} {Q : Option ev_V → ev_M → Prop} {R : Option (Int32 × ev_m)} (hR : ∀ (x0 : Int32) (m0 : ev_m), (some ((x0, m0))) = R → Q (some (vi x0)) (ev_emb m0)) (hN : none ≠ R) {m60 : ev_m} {i22 : Nat} {x23 : Int32} {x24 : Int32} {x25 : Int32} {x26 : Int32} {x59 : Int32} {kb : Int32 → Int64 → Int32 → ev_m → Option (Int32 × ev_m)} {kx : ev_m → Option (Int32 × ev_m)}  (h : jn_X10_order_210_107 m60 i22 x23 x24 x25 x26 x59 kb kx = R) (hkb : ∀ (x27' : Int32) (y28' : Int64) (x29' : Int32) (m30' : ev_m), kb x27' y28' x29' m30' = R → ev_E G K_X10_order B_X10_order (0, 0) 107 [some (vr 10 (i22)), none, some (vi (x23)), some (vi (x24)), some (vi (x25)), some (vi (x26)), some (vi (x27')), some (vl (y28')), none, some (vi (x29')), none] [] (ev_emb m30') Q) (hkx : ∀ (m30' : ev_m), kx m30' = R → ev_E G K_X10_order B_X10_order (0, 0) 255 [some (vr 10 (i22)), none, none, none, some (vi (x25)), none, none, none, none, none, none] [] (ev_emb m30') Q) : ev_E G K_X10_order B_X10_order (0, 0) 210 [some (vr 10 (i22)), none, some (vi (x23)), some (vi (x24)), some (vi (x25)), some (vi (x26)), none, none, none, some (vi (x59)), none] [] (ev_emb m60) Q := by
  unfold jn_X10_order_210_107 at h
  refine ev_iconst (pc := 210) (v := 1) dX10_order_210 rfl ?_
  refine ev_istore_6 (pc := 211) dX10_order_211 (by decide) rfl ?_
  refine ev_aload_0 (pc := 213) dX10_order_213 ?_
  refine cl1_X10_319 (pc := 214) rfl dX10_order_214 (by decide) (Nat.le_of_ble_eq_true rfl) (c_X10_cost m60 i22) ?_
  obtain ⟨y61, hy61, h⟩ := ev_letE h
  refine ev_topl (pc := 217) hy61 ?_
  refine ev_lstore_7 (pc := 217) dX10_order_217 (by decide) rfl ?_
  refine ev_iconst (pc := 219) (v := 0) dX10_order_219 rfl ?_
  refine ev_istore_10 (pc := 220) dX10_order_220 (by decide) rfl ?_
  refine e_lp_X10_order_222 hR hN 4000 _ _ _ h (fun m74 h => ?_)
  exact e_jn_X10_order_249_107 hR hN h hkb hkx
set_option maxRecDepth 20000 in
set_option maxHeartbeats 4000000 in
theorem e_lp_X10_order_107 {G : ev_G} {Q : Option ev_V → ev_M → Prop} {R : Option (Int32 × ev_m)} (hR : ∀ (x0 : Int32) (m0 : ev_m), (some ((x0, m0))) = R → Q (some (vi x0)) (ev_emb m0)) (hN : none ≠ R) {i22 : Nat} {x23 : Int32} {x24 : Int32} {x25 : Int32} {x26 : Int32} : ∀ (f : Nat) (x27 : Int32) (y28 : Int64) (x29 : Int32) (m30 : ev_m) (kx : ev_m → Option (Int32 × ev_m)) (h : lp_X10_order_107 i22 x23 x24 x25 x26 f x27 y28 x29 m30 kx = R) (hk : ∀ (m30' : ev_m), kx m30' = R → ev_E G K_X10_order B_X10_order (0, 0) 255 [some (vr 10 (i22)), none, none, none, some (vi (x25)), none, none, none, none, none, none] [] (ev_emb m30') Q), ev_E G K_X10_order B_X10_order (0, 0) 107 [some (vr 10 (i22)), none, some (vi (x23)), some (vi (x24)), some (vi (x25)), some (vi (x26)), some (vi (x27)), some (vl (y28)), none, some (vi (x29)), none] [] (ev_emb m30) Q := by
  intro f
  induction f with
  | zero => intro x27 y28 x29 m30 kx h hk; rw [lp_X10_order_107] at h; exact absurd h hN
  | succ f ih =>
    intro x27 y28 x29 m30 kx h hk
    rw [lp_X10_order_107] at h
    refine ev_iload_9 (pc := 107) dX10_order_107 ?_
    refine ev_sipush (pc := 109) (v := 256) dX10_order_109 (by decide) ?_
    refine ev_icc_ge (pc := 112) (tgt := 255) dX10_order_112 (by decide) (fun c31 => ?_) (fun c31 => ?_)
    · replace h := ev_ifn h c31
      refine ev_E.forget (L' := [some (vr 10 (i22)), none, none, none, some (vi (x25)), none, none, none, none, none, none]) ⟨rfl, ⟨rfl, trivial⟩⟩ ?_
      exact hk _  h
    · replace h := ev_ifp h c31
      refine ev_aload_0 (pc := 115) dX10_order_115 ?_
      refine ev_iload_9 (pc := 116) dX10_order_116 ?_
      refine ev_iload_2 (pc := 118) dX10_order_118 ?_
      refine ev_iload_5 (pc := 119) dX10_order_119 ?_
      obtain ⟨p32, hp32, h⟩ := ev_bindE hN h
      refine cl1_X10_363 (pc := 121) rfl dX10_order_121 (by decide) (Nat.le_of_ble_eq_true rfl) (c_X10_isOrder hp32) ?_
      refine ev_ifb_ne (pc := 124) (tgt := 130) dX10_order_124 (by decide) (fun c33 => ?_) (fun c33 => ?_)
      · replace h := ev_ifp h c33
        refine ev_aload_0 (pc := 130) dX10_order_130 ?_
        refine ev_iconst (pc := 131) (v := 0) dX10_order_131 rfl ?_
        obtain ⟨m34, hm34, h⟩ := ev_letE h
        refine cl0_X10_309 (pc := 132) (fr := 1) (lo := 20) (m' := m34) rfl dX10_order_132 (by decide) (Nat.le_of_ble_eq_true rfl) (by rw [hm34]; exact c_X10_begin p32.2 i22 0) ?_
        refine ev_iconst (pc := 135) (v := 0) dX10_order_135 rfl ?_
        refine ev_istore_10 (pc := 136) dX10_order_136 (by decide) rfl ?_
        refine e_lp_X10_order_138 hR hN 4000 _ _ _ h (fun m57 h => ?_)
        refine ev_iload_6 (pc := 195) dX10_order_195 ?_
        refine ev_ifc_eq (pc := 197) (tgt := 210) dX10_order_197 (by decide) (fun c58 => ?_) (fun c58 => ?_)
        · replace h := ev_ifp h c58
          refine ev_E.forget (L' := [some (vr 10 (i22)), none, some (vi (x23)), some (vi (x24)), some (vi (x25)), some (vi (x26)), none, none, none, some (vi (x29)), none]) ⟨rfl, ⟨rfl, ⟨rfl, ⟨rfl, ⟨rfl, ⟨rfl, trivial⟩⟩⟩⟩⟩⟩ ?_
          exact e_jn_X10_order_210_107 hR hN h (fun _ _ _ _ h => ih _ _ _ _ kx h hk) hk
        · replace h := ev_ifn h c58
          refine ev_aload_0 (pc := 200) dX10_order_200 ?_
          refine cl1_X10_319 (pc := 201) rfl dX10_order_201 (by decide) (Nat.le_of_ble_eq_true rfl) (c_X10_cost m57 i22) ?_
          refine ev_lload_7 (pc := 204) dX10_order_204 ?_
          refine ev_lcc_ge (pc := 206) (tgt := 249) dX10_order_206 dX10_order_207 (by decide) (fun c79 => ?_) (fun c79 => ?_)
          · replace h := ev_ifn h c79
            exact e_jn_X10_order_249_107 hR hN h (fun _ _ _ _ h => ih _ _ _ _ kx h hk) hk
          · replace h := ev_ifp h c79
            refine ev_E.forget (L' := [some (vr 10 (i22)), none, some (vi (x23)), some (vi (x24)), some (vi (x25)), some (vi (x26)), none, none, none, some (vi (x29)), none]) ⟨rfl, ⟨rfl, ⟨rfl, ⟨rfl, ⟨rfl, ⟨rfl, trivial⟩⟩⟩⟩⟩⟩ ?_
            exact e_jn_X10_order_210_107 hR hN h (fun _ _ _ _ h => ih _ _ _ _ kx h hk) hk
      · replace h := ev_ifn h c33
        refine ev_goto (pc := 127) (tgt := 249) dX10_order_127 (by decide) ?_
        exact e_jn_X10_order_249_107 hR hN h (fun _ _ _ _ h => ih _ _ _ _ kx h hk) hk
set_option maxRecDepth 20000 in
set_option maxHeartbeats 4000000 in
theorem e_X10_order {G : ev_G} {Q : Option ev_V → ev_M → Prop} {R : Option (Int32 × ev_m)} {mF : ev_m} (hR : ∀ (x0 : Int32) (m0 : ev_m), (some ((x0, m0))) = R → Q (some (vi x0)) (ev_emb m0)) (hN : none ≠ R) {i0 : Nat} {x1_ : Int32} {x2_ : Int32} {x3_ : Int32} {x4_ : Int32} (h : f_X10_order mF i0 x1_ x2_ x3_ x4_ = R) : ev_E G K_X10_order B_X10_order (0, 0) 0 [some (vr 10 (i0)), some (vi (x1_)), some (vi (x2_)), some (vi (x3_)), some (vi (x4_)), none, none, none, none, none, none] [] (ev_emb mF) Q := by
  unfold f_X10_order at h
  refine ev_aload_0 (pc := 0) dX10_order_0 ?_
  refine ev_iconst (pc := 1) (v := 0) dX10_order_1 rfl ?_
  obtain ⟨m1, hm1, h⟩ := ev_letE h
  refine pt_X10_81 (pc := 2) rfl dX10_order_2 ?_
  refine ev_mem (pc := 5) hm1 ?_
  refine ev_iconst (pc := 5) (v := 0) dX10_order_5 rfl ?_
  refine ev_istore_5 (pc := 6) dX10_order_6 (by decide) rfl ?_
  refine ev_iconst (pc := 8) (v := 0) dX10_order_8 rfl ?_
  refine ev_istore_6 (pc := 9) dX10_order_9 (by decide) rfl ?_
  refine e_lp_X10_order_11 hR hN 4000 _ _ _ h (fun x14 h => ?_)
  refine ev_aload_0 (pc := 42) dX10_order_42 ?_
  refine ev_iconst (pc := 43) (v := 0) dX10_order_43 rfl ?_
  refine ev_iload_1 (pc := 44) dX10_order_44 ?_
  obtain ⟨x15, hx15, h⟩ := ev_bindE hN h
  refine cl1_X10_226 (pc := 45) rfl dX10_order_45 (by decide) (Nat.le_of_ble_eq_true rfl) (c_X10_is hx15) ?_
  refine ev_ifb_eq (pc := 48) (tgt := 91) dX10_order_48 (by decide) (fun c16 => ?_) (fun c16 => ?_)
  · replace h := ev_ifn h c16
    refine ev_iconst (pc := 91) (v := (-1)) dX10_order_91 rfl ?_
    exact ev_iret (pc := 92) dX10_order_92 rfl rfl (hR _ _ h)
  · replace h := ev_ifp h c16
    refine ev_iload_2 (pc := 51) dX10_order_51 ?_
    refine ev_ifc_le (pc := 52) (tgt := 91) dX10_order_52 (by decide) (fun c17 => ?_) (fun c17 => ?_)
    · replace h := ev_ifn h c17
      refine ev_iconst (pc := 91) (v := (-1)) dX10_order_91 rfl ?_
      exact ev_iret (pc := 92) dX10_order_92 rfl rfl (hR _ _ h)
    · replace h := ev_ifp h c17
      refine ev_iload_2 (pc := 55) dX10_order_55 ?_
      refine ev_aload_0 (pc := 56) dX10_order_56 ?_
      refine gt_X10_23 (pc := 57) rfl dX10_order_57 ?_
      refine ev_iconst (pc := 60) (v := 1) dX10_order_60 rfl ?_
      refine ev_ialdS (pc := 61) (j := 1) rfl (by decide) (by decide) (vp_in_iff.mpr (by decide)) dX10_order_61 ?_
      refine ev_ishr (pc := 62) dX10_order_62 ?_
      refine ev_ifc_ne (pc := 63) (tgt := 91) dX10_order_63 (by decide) (fun c18 => ?_) (fun c18 => ?_)
      · replace h := ev_ifn h c18
        refine ev_iconst (pc := 91) (v := (-1)) dX10_order_91 rfl ?_
        exact ev_iret (pc := 92) dX10_order_92 rfl rfl (hR _ _ h)
      · replace h := ev_ifp h c18
        refine ev_iload_3 (pc := 66) dX10_order_66 ?_
        refine ev_iload_5 (pc := 67) dX10_order_67 ?_
        refine ev_sipush (pc := 69) (v := 200) dX10_order_69 (by decide) ?_
        refine cl1_X10_89 (pc := 72) rfl dX10_order_72 (by decide) (Nat.le_of_ble_eq_true rfl) (c_X10_in m1 x3_ x14 200) ?_
        refine ev_ifb_eq (pc := 75) (tgt := 91) dX10_order_75 (by decide) (fun c19 => ?_) (fun c19 => ?_)
        · replace h := ev_ifn h c19
          refine ev_iconst (pc := 91) (v := (-1)) dX10_order_91 rfl ?_
          exact ev_iret (pc := 92) dX10_order_92 rfl rfl (hR _ _ h)
        · replace h := ev_ifp h c19
          refine ev_iload_4 (pc := 78) dX10_order_78 ?_
          refine ev_iconst (pc := 80) (v := 0) dX10_order_80 rfl ?_
          refine ev_iload_5 (pc := 81) dX10_order_81 ?_
          refine ev_iconst (pc := 83) (v := 1) dX10_order_83 rfl ?_
          refine ev_isub (pc := 84) dX10_order_84 ?_
          refine cl1_X10_89 (pc := 85) rfl dX10_order_85 (by decide) (Nat.le_of_ble_eq_true rfl) (c_X10_in m1 x4_ 0 (x14 - 1)) ?_
          refine ev_ifb_ne (pc := 88) (tgt := 93) dX10_order_88 (by decide) (fun c20 => ?_) (fun c20 => ?_)
          · replace h := ev_ifp h c20
            refine ev_aload_0 (pc := 93) dX10_order_93 ?_
            refine ev_iload_1 (pc := 94) dX10_order_94 ?_
            obtain ⟨m21, hm21, h⟩ := ev_bindE hN h
            refine cl0_X10_323 (pc := 95) rfl dX10_order_95 (by decide) (Nat.le_of_ble_eq_true rfl) (c_X10_layShip hm21) ?_
            refine ev_iconst (pc := 98) (v := 0) dX10_order_98 rfl ?_
            refine ev_istore_6 (pc := 99) dX10_order_99 (by decide) rfl ?_
            refine ev_lconst (pc := 101) (v := 0) dX10_order_101 rfl ?_
            refine ev_lstore_7 (pc := 102) dX10_order_102 (by decide) rfl ?_
            refine ev_iconst (pc := 104) (v := 0) dX10_order_104 rfl ?_
            refine ev_istore_9 (pc := 105) dX10_order_105 (by decide) rfl ?_
            refine ev_E.forget (L' := [some (vr 10 (i0)), none, some (vi (x2_)), some (vi (x3_)), some (vi (x4_)), some (vi (x14)), some (vi (0)), some (vl (0)), none, some (vi (0)), none]) ⟨rfl, ⟨rfl, ⟨rfl, ⟨rfl, ⟨rfl, ⟨rfl, ⟨rfl, ⟨rfl, trivial⟩⟩⟩⟩⟩⟩⟩⟩ ?_
            refine e_lp_X10_order_107 hR hN 4000 _ _ _ _ _ h (fun m80 h => ?_)
            refine ev_aload_0 (pc := 255) dX10_order_255 ?_
            refine gt_X10_74 (pc := 256) rfl dX10_order_256 ?_
            refine ev_iload_4 (pc := 259) dX10_order_259 ?_
            obtain ⟨x81, hx81, h⟩ := ev_bindE hN h
            refine ev_iald1 (pc := 261) rfl (by decide) rfl hx81 dX10_order_261 ?_
            exact ev_iret (pc := 262) dX10_order_262 rfl rfl (hR _ _ h)
          · replace h := ev_ifn h c20
            refine ev_iconst (pc := 91) (v := (-1)) dX10_order_91 rfl ?_
            exact ev_iret (pc := 92) dX10_order_92 rfl rfl (hR _ _ h)
theorem c_X10_order {G : ev_G} {mF : ev_m} {i0 : Nat} {x1_ : Int32} {x2_ : Int32} {x3_ : Int32} {x4_ : Int32} {r : Int32 × ev_m} (h : f_X10_order mF i0 x1_ x2_ x3_ x4_ = some r) : ev_CF G K_X10_order B_X10_order [vr 10 (i0), vi (x1_), vi (x2_), vi (x3_), vi (x4_)] mF (some (vi (r.1))) r.2 :=
  ev_Ct_of rfl rfl (Nat.le_of_ble_eq_true rfl) (e_X10_order (R := some r) (fun x0 m0 q => by cases q; exact ⟨rfl, rfl⟩) (fun q => by cases q) h)
set_option maxRecDepth 20000 in
set_option maxHeartbeats 4000000 in
theorem e_lp_X10_both_53 {G : ev_G} {Q : Option ev_V → ev_M → Prop} {R : Option (Int64 × ev_m)} (hR : ∀ (x0 : Int64) (m0 : ev_m), (some ((x0, m0))) = R → Q (some (vl x0)) (ev_emb m0)) (hN : none ≠ R) {i10 : Nat} {x11 : Int32} {x12 : Int32} : ∀ (f : Nat) (x13 : Int32) (m14 : ev_m) (kx : ev_m → Option (Int64 × ev_m)) (h : lp_X10_both_53 i10 x11 x12 f x13 m14 kx = R) (hk : ∀ (m14' : ev_m), kx m14' = R → ev_E G K_X10_both B_X10_both (0, 0) 92 [some (vr 10 (i10)), none, none, none, none, some (vi (x12)), none, none] [] (ev_emb m14') Q), ev_E G K_X10_both B_X10_both (0, 0) 53 [some (vr 10 (i10)), none, none, none, some (vi (x11)), some (vi (x12)), some (vi (x13)), none] [] (ev_emb m14) Q := by
  intro f
  induction f with
  | zero => intro x13 m14 kx h hk; rw [lp_X10_both_53] at h; exact absurd h hN
  | succ f ih =>
    intro x13 m14 kx h hk
    rw [lp_X10_both_53] at h
    refine ev_iload_6 (pc := 53) dX10_both_53 ?_
    refine ev_iload_4 (pc := 55) dX10_both_55 ?_
    refine ev_icc_ge (pc := 57) (tgt := 92) dX10_both_57 (by decide) (fun c15 => ?_) (fun c15 => ?_)
    · replace h := ev_ifn h c15
      refine ev_E.forget (L' := [some (vr 10 (i10)), none, none, none, none, some (vi (x12)), none, none]) ⟨rfl, ⟨rfl, trivial⟩⟩ ?_
      exact hk _  h
    · replace h := ev_ifp h c15
      refine ev_aload_0 (pc := 60) dX10_both_60 ?_
      refine ev_iconst (pc := 61) (v := 0) dX10_both_61 rfl ?_
      obtain ⟨p16, hp16, h⟩ := ev_bindE hN h
      refine cl1_X10_303 (pc := 62) rfl dX10_both_62 (by decide) (Nat.le_of_ble_eq_true rfl) (c_X10_wants hp16) ?_
      obtain ⟨x17, hx17, h⟩ := ev_letE h
      refine ev_topi (pc := 65) hx17 ?_
      refine ev_istore_7 (pc := 65) dX10_both_65 (by decide) rfl ?_
      refine ev_iload_7 (pc := 67) dX10_both_67 ?_
      refine ev_aload_0 (pc := 69) dX10_both_69 ?_
      refine ev_iconst (pc := 70) (v := 1) dX10_both_70 rfl ?_
      obtain ⟨p18, hp18, h⟩ := ev_bindE hN h
      refine cl1_X10_303 (pc := 71) rfl dX10_both_71 (by decide) (Nat.le_of_ble_eq_true rfl) (c_X10_wants hp18) ?_
      refine ev_iadd (pc := 74) dX10_both_74 ?_
      obtain ⟨x19, hx19, h⟩ := ev_letE h
      refine ev_topi (pc := 75) hx19 ?_
      refine ev_istore_7 (pc := 75) dX10_both_75 (by decide) rfl ?_
      refine ev_aload_0 (pc := 77) dX10_both_77 ?_
      refine ev_iload_7 (pc := 78) dX10_both_78 ?_
      refine ev_iconst (pc := 80) (v := 2) dX10_both_80 rfl ?_
      refine ev_idiv (pc := 81) dX10_both_81 (by decide) ?_
      refine ev_iconst (pc := 82) (v := 0) dX10_both_82 rfl ?_
      obtain ⟨m20, hm20, h⟩ := ev_bindE hN h
      refine cl0_X10_306 (pc := 83) rfl dX10_both_83 (by decide) (Nat.le_of_ble_eq_true rfl) (c_X10_pass hm20) ?_
      refine ev_iinc_6 (pc := 86) (y := x13 + 1) dX10_both_86 rfl (by decide) rfl ?_
      refine ev_goto (pc := 89) (tgt := 53) dX10_both_89 (by decide) ?_
      refine ev_E.forget (L' := [some (vr 10 (i10)), none, none, none, some (vi (x11)), some (vi (x12)), some (vi (x13 + 1)), none]) ⟨rfl, ⟨rfl, ⟨rfl, ⟨rfl, trivial⟩⟩⟩⟩ ?_
      exact ih _ _ kx h hk
set_option maxRecDepth 20000 in
set_option maxHeartbeats 4000000 in
theorem e_X10_both {G : ev_G} {Q : Option ev_V → ev_M → Prop} {R : Option (Int64 × ev_m)} {mF : ev_m} (hR : ∀ (x0 : Int64) (m0 : ev_m), (some ((x0, m0))) = R → Q (some (vl x0)) (ev_emb m0)) (hN : none ≠ R) {i0 : Nat} {x1_ : Int32} {x2_ : Int32} {x3_ : Int32} {x4_ : Int32} {x5_ : Int32} (h : f_X10_both mF i0 x1_ x2_ x3_ x4_ x5_ = R) : ev_E G K_X10_both B_X10_both (0, 0) 0 [some (vr 10 (i0)), some (vi (x1_)), some (vi (x2_)), some (vi (x3_)), some (vi (x4_)), some (vi (x5_)), none, none] [] (ev_emb mF) Q := by
  unfold f_X10_both at h
  refine ev_aload_0 (pc := 0) dX10_both_0 ?_
  refine ev_iconst (pc := 1) (v := 0) dX10_both_1 rfl ?_
  obtain ⟨m1, hm1, h⟩ := ev_letE h
  refine pt_X10_81 (pc := 2) rfl dX10_both_2 ?_
  refine ev_mem (pc := 5) hm1 ?_
  refine ev_aload_0 (pc := 5) dX10_both_5 ?_
  refine ev_iconst (pc := 6) (v := 1) dX10_both_6 rfl ?_
  refine ev_iload_3 (pc := 7) dX10_both_7 ?_
  obtain ⟨x2, hx2, h⟩ := ev_bindE hN h
  refine cl1_X10_226 (pc := 8) rfl dX10_both_8 (by decide) (Nat.le_of_ble_eq_true rfl) (c_X10_is hx2) ?_
  refine ev_ifb_eq (pc := 11) (tgt := 25) dX10_both_11 (by decide) (fun c3 => ?_) (fun c3 => ?_)
  · replace h := ev_ifn h c3
    refine ev_ldc2 (pc := 25) (v := (-1)) kl_X10_341 dX10_both_25 ?_
    exact ev_lret (pc := 28) dX10_both_28 rfl (hR _ _ h)
  · replace h := ev_ifp h c3
    refine ev_aload_0 (pc := 14) dX10_both_14 ?_
    refine ev_iload_1 (pc := 15) dX10_both_15 ?_
    refine ev_iload_2 (pc := 16) dX10_both_16 ?_
    refine ev_iload_4 (pc := 17) dX10_both_17 ?_
    obtain ⟨p4, hp4, h⟩ := ev_bindE hN h
    refine cl1_X10_338 (pc := 19) rfl dX10_both_19 (by decide) (Nat.le_of_ble_eq_true rfl) (c_X10_layFor hp4) ?_
    refine ev_ifb_ne (pc := 22) (tgt := 29) dX10_both_22 (by decide) (fun c5 => ?_) (fun c5 => ?_)
    · replace h := ev_ifp h c5
      refine ev_aload_0 (pc := 29) dX10_both_29 ?_
      refine ev_iconst (pc := 30) (v := 1) dX10_both_30 rfl ?_
      refine ev_iload_3 (pc := 31) dX10_both_31 ?_
      obtain ⟨m6, hm6, h⟩ := ev_bindE hN h
      refine cl0_X10_326 (pc := 32) rfl dX10_both_32 (by decide) (Nat.le_of_ble_eq_true rfl) (c_X10_layHand hm6) ?_
      refine ev_aload_0 (pc := 35) dX10_both_35 ?_
      refine ev_iconst (pc := 36) (v := 0) dX10_both_36 rfl ?_
      obtain ⟨m7, hm7, h⟩ := ev_letE h
      refine cl0_X10_309 (pc := 37) (fr := 1) (lo := 20) (m' := m7) rfl dX10_both_37 (by decide) (Nat.le_of_ble_eq_true rfl) (by rw [hm7]; exact c_X10_begin m6 i0 0) ?_
      refine ev_aload_0 (pc := 40) dX10_both_40 ?_
      refine ev_iconst (pc := 41) (v := 0) dX10_both_41 rfl ?_
      obtain ⟨m8, hm8, h⟩ := ev_bindE hN h
      refine cl0_X10_300 (pc := 42) rfl dX10_both_42 (by decide) (Nat.le_of_ble_eq_true rfl) (c_X10_takes hm8) ?_
      refine ev_aload_0 (pc := 45) dX10_both_45 ?_
      refine ev_iconst (pc := 46) (v := 1) dX10_both_46 rfl ?_
      obtain ⟨m9, hm9, h⟩ := ev_bindE hN h
      refine cl0_X10_300 (pc := 47) rfl dX10_both_47 (by decide) (Nat.le_of_ble_eq_true rfl) (c_X10_takes hm9) ?_
      refine ev_iconst (pc := 50) (v := 0) dX10_both_50 rfl ?_
      refine ev_istore_6 (pc := 51) dX10_both_51 (by decide) rfl ?_
      refine ev_E.forget (L' := [some (vr 10 (i0)), none, none, none, some (vi (x4_)), some (vi (x5_)), some (vi (0)), none]) ⟨rfl, ⟨rfl, ⟨rfl, ⟨rfl, trivial⟩⟩⟩⟩ ?_
      refine e_lp_X10_both_53 hR hN 4000 _ _ _ h (fun m21 h => ?_)
      refine ev_iload_5 (pc := 92) dX10_both_92 ?_
      refine ev_ifc_eq (pc := 94) (tgt := 105) dX10_both_94 (by decide) (fun c22 => ?_) (fun c22 => ?_)
      · replace h := ev_ifp h c22
        refine ev_aload_0 (pc := 105) dX10_both_105 ?_
        refine cl1_X10_319 (pc := 106) rfl dX10_both_106 (by decide) (Nat.le_of_ble_eq_true rfl) (c_X10_cost m21 i0) ?_
        exact ev_lret (pc := 109) dX10_both_109 rfl (hR _ _ h)
      · replace h := ev_ifn h c22
        refine ev_aload_0 (pc := 97) dX10_both_97 ?_
        refine gt_X10_252 (pc := 98) rfl dX10_both_98 ?_
        refine ev_i2l (pc := 101) dX10_both_101 ?_
        refine ev_goto (pc := 102) (tgt := 109) dX10_both_102 (by decide) ?_
        exact ev_lret (pc := 109) dX10_both_109 rfl (hR _ _ h)
    · replace h := ev_ifn h c5
      refine ev_ldc2 (pc := 25) (v := (-1)) kl_X10_341 dX10_both_25 ?_
      exact ev_lret (pc := 28) dX10_both_28 rfl (hR _ _ h)
theorem c_X10_both {G : ev_G} {mF : ev_m} {i0 : Nat} {x1_ : Int32} {x2_ : Int32} {x3_ : Int32} {x4_ : Int32} {x5_ : Int32} {r : Int64 × ev_m} (h : f_X10_both mF i0 x1_ x2_ x3_ x4_ x5_ = some r) : ev_CF G K_X10_both B_X10_both [vr 10 (i0), vi (x1_), vi (x2_), vi (x3_), vi (x4_), vi (x5_)] mF (some (vl (r.1))) r.2 :=
  ev_Ct_of rfl rfl (Nat.le_of_ble_eq_true rfl) (e_X10_both (R := some r) (fun x0 m0 q => by cases q; exact ⟨rfl, rfl⟩) (fun q => by cases q) h)
set_option maxRecDepth 20000 in
set_option maxHeartbeats 4000000 in
theorem e_lp_X10_apartFrom_15 {G : ev_G} {Q : Option ev_V → ev_M → Prop} {mF : ev_m} {R : Option (Int64)} (hR : ∀ x0 : Int64, (some (x0)) = R → Q (some (vl x0)) (ev_emb mF)) (hN : none ≠ R) {i2 : Nat} {x3 : Int32} {x4 : Int32} : ∀ (f : Nat) (y5 : Int64) (x6 : Int32) (kx : Int64 → Option (Int64)) (h : lp_X10_apartFrom_15 mF i2 x3 x4 f y5 x6 kx = R) (hk : ∀ (y5' : Int64), kx y5' = R → ev_E G K_X10_apartFrom B_X10_apartFrom (0, 0) 54 [none, none, none, some (vl (y5')), none, none] [] (ev_emb mF) Q), ev_E G K_X10_apartFrom B_X10_apartFrom (0, 0) 15 [some (vr 10 (i2)), some (vi (x3)), some (vi (x4)), some (vl (y5)), none, some (vi (x6))] [] (ev_emb mF) Q := by
  intro f
  induction f with
  | zero => intro y5 x6 kx h hk; rw [lp_X10_apartFrom_15] at h; exact absurd h hN
  | succ f ih =>
    intro y5 x6 kx h hk
    rw [lp_X10_apartFrom_15] at h
    refine ev_iload_5 (pc := 15) dX10_apartFrom_15 ?_
    refine ev_iload_2 (pc := 17) dX10_apartFrom_17 ?_
    refine ev_icc_gt (pc := 18) (tgt := 54) dX10_apartFrom_18 (by decide) (fun c7 => ?_) (fun c7 => ?_)
    · replace h := ev_ifp h c7
      refine ev_E.forget (L' := [none, none, none, some (vl (y5)), none, none]) ⟨rfl, trivial⟩ ?_
      exact hk _  h
    · replace h := ev_ifn h c7
      refine ev_lload_3 (pc := 21) dX10_apartFrom_21 ?_
      refine ev_aload_0 (pc := 22) dX10_apartFrom_22 ?_
      refine gt_X10_56 (pc := 23) rfl dX10_apartFrom_23 ?_
      refine ev_iload_5 (pc := 26) dX10_apartFrom_26 ?_
      obtain ⟨x8, hx8, h⟩ := ev_bindE hN h
      refine ev_iald1 (pc := 28) rfl (by decide) rfl hx8 dX10_apartFrom_28 ?_
      refine ev_aload_0 (pc := 29) dX10_apartFrom_29 ?_
      refine gt_X10_32 (pc := 30) rfl dX10_apartFrom_30 ?_
      refine ev_bipush (pc := 33) (v := 61) dX10_apartFrom_33 (by decide) ?_
      refine ev_iload_1 (pc := 35) dX10_apartFrom_35 ?_
      refine ev_imul (pc := 36) dX10_apartFrom_36 ?_
      refine ev_iload_5 (pc := 37) dX10_apartFrom_37 ?_
      refine ev_iadd (pc := 39) dX10_apartFrom_39 ?_
      obtain ⟨x9, hx9, h⟩ := ev_bindE hN h
      refine ev_iald1 (pc := 40) rfl (by decide) rfl hx9 dX10_apartFrom_40 ?_
      refine ev_isub (pc := 41) dX10_apartFrom_41 ?_
      refine cl1_X10_289 (pc := 42) rfl dX10_apartFrom_42 (by decide) (Nat.le_of_ble_eq_true rfl) (c_X10_plain mF (x8 - x9)) ?_
      refine ev_i2l (pc := 45) dX10_apartFrom_45 ?_
      refine ev_ladd (pc := 46) dX10_apartFrom_46 ?_
      obtain ⟨y10, hy10, h⟩ := ev_letE h
      refine ev_topl (pc := 47) hy10 ?_
      refine ev_lstore_3 (pc := 47) dX10_apartFrom_47 (by decide) rfl ?_
      refine ev_iinc_5 (pc := 48) (y := x6 + 1) dX10_apartFrom_48 rfl (by decide) rfl ?_
      refine ev_goto (pc := 51) (tgt := 15) dX10_apartFrom_51 (by decide) ?_
      exact ih _ _ kx h hk
set_option maxRecDepth 20000 in
set_option maxHeartbeats 4000000 in
theorem e_X10_apartFrom {G : ev_G} {Q : Option ev_V → ev_M → Prop} {R : Option (Int64)} {mF : ev_m} (hR : ∀ x0 : Int64, (some (x0)) = R → Q (some (vl x0)) (ev_emb mF)) (hN : none ≠ R) {i0 : Nat} {x1_ : Int32} (h : f_X10_apartFrom mF i0 x1_ = R) : ev_E G K_X10_apartFrom B_X10_apartFrom (0, 0) 0 [some (vr 10 (i0)), some (vi (x1_)), none, none, none, none] [] (ev_emb mF) Q := by
  unfold f_X10_apartFrom at h
  refine ev_aload_0 (pc := 0) dX10_apartFrom_0 ?_
  refine gt_X10_32 (pc := 1) rfl dX10_apartFrom_1 ?_
  refine ev_bipush (pc := 4) (v := 61) dX10_apartFrom_4 (by decide) ?_
  refine ev_iload_1 (pc := 6) dX10_apartFrom_6 ?_
  refine ev_imul (pc := 7) dX10_apartFrom_7 ?_
  obtain ⟨x1, hx1, h⟩ := ev_bindE hN h
  refine ev_iald1 (pc := 8) rfl (by decide) rfl hx1 dX10_apartFrom_8 ?_
  refine ev_istore_2 (pc := 9) dX10_apartFrom_9 (by decide) rfl ?_
  refine ev_lconst (pc := 10) (v := 0) dX10_apartFrom_10 rfl ?_
  refine ev_lstore_3 (pc := 11) dX10_apartFrom_11 (by decide) rfl ?_
  refine ev_iconst (pc := 12) (v := 1) dX10_apartFrom_12 rfl ?_
  refine ev_istore_5 (pc := 13) dX10_apartFrom_13 (by decide) rfl ?_
  refine e_lp_X10_apartFrom_15 hR hN 4000 _ _ _ h (fun y11 h => ?_)
  refine ev_lload_3 (pc := 54) dX10_apartFrom_54 ?_
  exact ev_lret (pc := 55) dX10_apartFrom_55 rfl (hR _ h)
theorem c_X10_apartFrom {G : ev_G} {mF : ev_m} {i0 : Nat} {x1_ : Int32} {r : Int64} (h : f_X10_apartFrom mF i0 x1_ = some r) : ev_CF G K_X10_apartFrom B_X10_apartFrom [vr 10 (i0), vi (x1_)] mF (some (vl (r))) mF :=
  ev_Ct_of rfl rfl (Nat.le_of_ble_eq_true rfl) (e_X10_apartFrom (R := some r) (fun x0 q => by cases q; exact ⟨rfl, rfl⟩) (fun q => by cases q) h)
