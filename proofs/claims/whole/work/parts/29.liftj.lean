/-! lifted methods -/
set_option maxRecDepth 20000 in
set_option maxHeartbeats 4000000 in
theorem e_X10_watch {G : ev_G} {Q : Option ev_V → ev_M → Prop} {R : Option (Int32 × ev_m)} {mF : ev_m} (hR : ∀ (x0 : Int32) (m0 : ev_m), (some ((x0, m0))) = R → Q (some (vi x0)) (ev_emb m0)) (hN : none ≠ R) {i0 : Nat} {x1_ : Int32} {x2_ : Int32} {x3_ : Int32} (h : f_X10_watch mF i0 x1_ x2_ x3_ = R) : ev_E G K_X10_watch B_X10_watch (0, 0) 0 [some (vr 10 (i0)), some (vi (x1_)), some (vi (x2_)), some (vi (x3_))] [] (ev_emb mF) Q := by
  unfold f_X10_watch at h
  refine ev_aload_0 (pc := 0) dX10_watch_0 ?_
  refine ev_iconst (pc := 1) (v := 0) dX10_watch_1 rfl ?_
  obtain ⟨m1, hm1, h⟩ := ev_letE h
  refine pt_X10_81 (pc := 2) rfl dX10_watch_2 ?_
  refine ev_mem (pc := 5) hm1 ?_
  refine ev_aload_0 (pc := 5) dX10_watch_5 ?_
  refine ev_iconst (pc := 6) (v := 3) dX10_watch_6 rfl ?_
  refine ev_iload_1 (pc := 7) dX10_watch_7 ?_
  obtain ⟨x2, hx2, h⟩ := ev_bindE hN h
  refine cl1_X10_226 (pc := 8) rfl dX10_watch_8 (by decide) (Nat.le_of_ble_eq_true rfl) (c_X10_is hx2) ?_
  refine ev_ifb_ne (pc := 11) (tgt := 16) dX10_watch_11 (by decide) (fun c3 => ?_) (fun c3 => ?_)
  · replace h := ev_ifp h c3
    refine ev_iload_2 (pc := 16) dX10_watch_16 ?_
    refine ev_iconst (pc := 17) (v := (-1)) dX10_watch_17 rfl ?_
    refine ev_icc_ne (pc := 18) (tgt := 39) dX10_watch_18 (by decide) (fun c4 => ?_) (fun c4 => ?_)
    · replace h := ev_ifn h c4
      refine ev_iload_2 (pc := 39) dX10_watch_39 ?_
      refine ev_iconst (pc := 40) (v := 0) dX10_watch_40 rfl ?_
      refine ev_aload_0 (pc := 41) dX10_watch_41 ?_
      refine gt_X10_35 (pc := 42) rfl dX10_watch_42 ?_
      refine ev_bipush (pc := 45) (v := 17) dX10_watch_45 (by decide) ?_
      refine ev_iload_1 (pc := 47) dX10_watch_47 ?_
      refine ev_imul (pc := 48) dX10_watch_48 ?_
      obtain ⟨x5, hx5, h⟩ := ev_bindE hN h
      refine ev_iald1 (pc := 49) rfl (by decide) rfl hx5 dX10_watch_49 ?_
      refine ev_iconst (pc := 50) (v := 1) dX10_watch_50 rfl ?_
      refine ev_isub (pc := 51) dX10_watch_51 ?_
      refine cl1_X10_89 (pc := 52) rfl dX10_watch_52 (by decide) (Nat.le_of_ble_eq_true rfl) (c_X10_in m1 x2_ 0 (x5 - 1)) ?_
      refine ev_ifb_eq (pc := 55) (tgt := 87) dX10_watch_55 (by decide) (fun c6 => ?_) (fun c6 => ?_)
      · replace h := ev_ifn h c6
        refine ev_iconst (pc := 87) (v := (-1)) dX10_watch_87 rfl ?_
        exact ev_iret (pc := 88) dX10_watch_88 rfl rfl (hR _ _ h)
      · replace h := ev_ifp h c6
        refine ev_iload_3 (pc := 58) dX10_watch_58 ?_
        refine ev_iconst (pc := 59) (v := 0) dX10_watch_59 rfl ?_
        refine ev_iconst (pc := 60) (v := 1) dX10_watch_60 rfl ?_
        refine cl1_X10_89 (pc := 61) rfl dX10_watch_61 (by decide) (Nat.le_of_ble_eq_true rfl) (c_X10_in m1 x3_ 0 1) ?_
        refine ev_ifb_eq (pc := 64) (tgt := 87) dX10_watch_64 (by decide) (fun c7 => ?_) (fun c7 => ?_)
        · replace h := ev_ifn h c7
          refine ev_iconst (pc := 87) (v := (-1)) dX10_watch_87 rfl ?_
          exact ev_iret (pc := 88) dX10_watch_88 rfl rfl (hR _ _ h)
        · replace h := ev_ifp h c7
          refine ev_aload_0 (pc := 67) dX10_watch_67 ?_
          refine gt_X10_35 (pc := 68) rfl dX10_watch_68 ?_
          refine ev_bipush (pc := 71) (v := 17) dX10_watch_71 (by decide) ?_
          refine ev_iload_1 (pc := 73) dX10_watch_73 ?_
          refine ev_imul (pc := 74) dX10_watch_74 ?_
          refine ev_iconst (pc := 75) (v := 1) dX10_watch_75 rfl ?_
          refine ev_iadd (pc := 76) dX10_watch_76 ?_
          refine ev_iconst (pc := 77) (v := 2) dX10_watch_77 rfl ?_
          refine ev_iload_2 (pc := 78) dX10_watch_78 ?_
          refine ev_imul (pc := 79) dX10_watch_79 ?_
          refine ev_iadd (pc := 80) dX10_watch_80 ?_
          refine ev_iload_3 (pc := 81) dX10_watch_81 ?_
          refine ev_iadd (pc := 82) dX10_watch_82 ?_
          obtain ⟨x8, hx8, h⟩ := ev_bindE hN h
          refine ev_iald1 (pc := 83) rfl (by decide) rfl hx8 dX10_watch_83 ?_
          refine ev_goto (pc := 84) (tgt := 88) dX10_watch_84 (by decide) ?_
          exact ev_iret (pc := 88) dX10_watch_88 rfl rfl (hR _ _ h)
    · replace h := ev_ifp h c4
      refine ev_iload_3 (pc := 21) dX10_watch_21 ?_
      refine ev_ifc_ne (pc := 22) (tgt := 37) dX10_watch_22 (by decide) (fun c9 => ?_) (fun c9 => ?_)
      · replace h := ev_ifn h c9
        refine ev_iconst (pc := 37) (v := (-1)) dX10_watch_37 rfl ?_
        exact ev_iret (pc := 38) dX10_watch_38 rfl rfl (hR _ _ h)
      · replace h := ev_ifp h c9
        refine ev_aload_0 (pc := 25) dX10_watch_25 ?_
        refine gt_X10_35 (pc := 26) rfl dX10_watch_26 ?_
        refine ev_bipush (pc := 29) (v := 17) dX10_watch_29 (by decide) ?_
        refine ev_iload_1 (pc := 31) dX10_watch_31 ?_
        refine ev_imul (pc := 32) dX10_watch_32 ?_
        obtain ⟨x10, hx10, h⟩ := ev_bindE hN h
        refine ev_iald1 (pc := 33) rfl (by decide) rfl hx10 dX10_watch_33 ?_
        refine ev_goto (pc := 34) (tgt := 38) dX10_watch_34 (by decide) ?_
        exact ev_iret (pc := 38) dX10_watch_38 rfl rfl (hR _ _ h)
  · replace h := ev_ifn h c3
    refine ev_iconst (pc := 14) (v := (-1)) dX10_watch_14 rfl ?_
    exact ev_iret (pc := 15) dX10_watch_15 rfl rfl (hR _ _ h)
theorem c_X10_watch {G : ev_G} {mF : ev_m} {i0 : Nat} {x1_ : Int32} {x2_ : Int32} {x3_ : Int32} {r : Int32 × ev_m} (h : f_X10_watch mF i0 x1_ x2_ x3_ = some r) : ev_CF G K_X10_watch B_X10_watch [vr 10 (i0), vi (x1_), vi (x2_), vi (x3_)] mF (some (vi (r.1))) r.2 :=
  ev_Ct_of rfl rfl (Nat.le_of_ble_eq_true rfl) (e_X10_watch (R := some r) (fun x0 m0 q => by cases q; exact ⟨rfl, rfl⟩) (fun q => by cases q) h)
set_option maxRecDepth 20000 in
set_option maxHeartbeats 4000000 in
theorem e_lp_X10_layShip_2 {G : ev_G} {Q : Option ev_V → ev_M → Prop} {R : Option (ev_m)} (hR : ∀ m0 : ev_m, (some (m0)) = R → Q none (ev_emb m0)) (hN : none ≠ R) {i1 : Nat} {x2 : Int32} : ∀ (f : Nat) (x3 : Int32) (m4 : ev_m) (kx : ev_m → Option (ev_m)) (h : lp_X10_layShip_2 i1 x2 f x3 m4 kx = R) (hk : ∀ (m4' : ev_m), kx m4' = R → ev_E G K_X10_layShip B_X10_layShip (0, 0) 31 [none, none, none] [] (ev_emb m4') Q), ev_E G K_X10_layShip B_X10_layShip (0, 0) 2 [some (vr 10 (i1)), some (vi (x2)), some (vi (x3))] [] (ev_emb m4) Q := by
  intro f
  induction f with
  | zero => intro x3 m4 kx h hk; rw [lp_X10_layShip_2] at h; exact absurd h hN
  | succ f ih =>
    intro x3 m4 kx h hk
    rw [lp_X10_layShip_2] at h
    refine ev_iload_2 (pc := 2) dX10_layShip_2 ?_
    refine ev_bipush (pc := 3) (v := 23) dX10_layShip_3 (by decide) ?_
    refine ev_icc_ge (pc := 5) (tgt := 31) dX10_layShip_5 (by decide) (fun c5 => ?_) (fun c5 => ?_)
    · replace h := ev_ifn h c5
      refine ev_E.forget (L' := [none, none, none]) trivial ?_
      exact hk _  h
    · replace h := ev_ifp h c5
      refine ev_aload_0 (pc := 8) dX10_layShip_8 ?_
      refine gt_X10_41 (pc := 9) rfl dX10_layShip_9 ?_
      refine ev_iload_2 (pc := 12) dX10_layShip_12 ?_
      refine ev_aload_0 (pc := 13) dX10_layShip_13 ?_
      refine gt_X10_26 (pc := 14) rfl dX10_layShip_14 ?_
      refine ev_bipush (pc := 17) (v := 23) dX10_layShip_17 (by decide) ?_
      refine ev_iload_1 (pc := 19) dX10_layShip_19 ?_
      refine ev_imul (pc := 20) dX10_layShip_20 ?_
      refine ev_iload_2 (pc := 21) dX10_layShip_21 ?_
      refine ev_iadd (pc := 22) dX10_layShip_22 ?_
      obtain ⟨x6, hx6, h⟩ := ev_bindE hN h
      refine ev_iald1 (pc := 23) rfl (by decide) rfl hx6 dX10_layShip_23 ?_
      obtain ⟨m7, hm7, h⟩ := ev_bindE hN h
      refine ev_iast1 (pc := 24) rfl (by decide) (by decide) rfl hm7 dX10_layShip_24 ?_
      refine ev_iinc_2 (pc := 25) (y := x3 + 1) dX10_layShip_25 rfl (by decide) rfl ?_
      refine ev_goto (pc := 28) (tgt := 2) dX10_layShip_28 (by decide) ?_
      exact ih _ _ kx h hk
set_option maxRecDepth 20000 in
set_option maxHeartbeats 4000000 in
theorem e_X10_layShip {G : ev_G} {Q : Option ev_V → ev_M → Prop} {R : Option (ev_m)} {mF : ev_m} (hR : ∀ m0 : ev_m, (some (m0)) = R → Q none (ev_emb m0)) (hN : none ≠ R) {i0 : Nat} {x1_ : Int32} (h : f_X10_layShip mF i0 x1_ = R) : ev_E G K_X10_layShip B_X10_layShip (0, 0) 0 [some (vr 10 (i0)), some (vi (x1_)), none] [] (ev_emb mF) Q := by
  unfold f_X10_layShip at h
  refine ev_iconst (pc := 0) (v := 0) dX10_layShip_0 rfl ?_
  refine ev_istore_2 (pc := 1) dX10_layShip_1 (by decide) rfl ?_
  refine e_lp_X10_layShip_2 hR hN 4000 _ _ _ h (fun m8 h => ?_)
  exact ev_vret (pc := 31) dX10_layShip_31 rfl (hR _ h)
theorem c_X10_layShip {G : ev_G} {mF : ev_m} {i0 : Nat} {x1_ : Int32} {r : ev_m} (h : f_X10_layShip mF i0 x1_ = some r) : ev_CF G K_X10_layShip B_X10_layShip [vr 10 (i0), vi (x1_)] mF none r :=
  ev_Ct_of rfl rfl (Nat.le_of_ble_eq_true rfl) (e_X10_layShip (R := some r) (fun m0 q => by cases q; exact ⟨rfl, rfl⟩) (fun q => by cases q) h)
set_option maxRecDepth 20000 in
set_option maxHeartbeats 4000000 in
theorem e_lp_X10_layHand_2 {G : ev_G} {Q : Option ev_V → ev_M → Prop} {R : Option (ev_m)} (hR : ∀ m0 : ev_m, (some (m0)) = R → Q none (ev_emb m0)) (hN : none ≠ R) {i1 : Nat} {x2 : Int32} {x3 : Int32} : ∀ (f : Nat) (x4 : Int32) (m5 : ev_m) (kx : ev_m → Option (ev_m)) (h : lp_X10_layHand_2 i1 x2 x3 f x4 m5 kx = R) (hk : ∀ (m5' : ev_m), kx m5' = R → ev_E G K_X10_layHand B_X10_layHand (0, 0) 36 [none, none, none, none] [] (ev_emb m5') Q), ev_E G K_X10_layHand B_X10_layHand (0, 0) 2 [some (vr 10 (i1)), some (vi (x2)), some (vi (x3)), some (vi (x4))] [] (ev_emb m5) Q := by
  intro f
  induction f with
  | zero => intro x4 m5 kx h hk; rw [lp_X10_layHand_2] at h; exact absurd h hN
  | succ f ih =>
    intro x4 m5 kx h hk
    rw [lp_X10_layHand_2] at h
    refine ev_iload_3 (pc := 2) dX10_layHand_2 ?_
    refine ev_bipush (pc := 3) (v := 18) dX10_layHand_3 (by decide) ?_
    refine ev_icc_ge (pc := 5) (tgt := 36) dX10_layHand_5 (by decide) (fun c6 => ?_) (fun c6 => ?_)
    · replace h := ev_ifn h c6
      refine ev_E.forget (L' := [none, none, none, none]) trivial ?_
      exact hk _  h
    · replace h := ev_ifp h c6
      refine ev_aload_0 (pc := 8) dX10_layHand_8 ?_
      refine gt_X10_44 (pc := 9) rfl dX10_layHand_9 ?_
      refine ev_bipush (pc := 12) (v := 18) dX10_layHand_12 (by decide) ?_
      refine ev_iload_1 (pc := 14) dX10_layHand_14 ?_
      refine ev_imul (pc := 15) dX10_layHand_15 ?_
      refine ev_iload_3 (pc := 16) dX10_layHand_16 ?_
      refine ev_iadd (pc := 17) dX10_layHand_17 ?_
      refine ev_aload_0 (pc := 18) dX10_layHand_18 ?_
      refine gt_X10_29 (pc := 19) rfl dX10_layHand_19 ?_
      refine ev_bipush (pc := 22) (v := 18) dX10_layHand_22 (by decide) ?_
      refine ev_iload_2 (pc := 24) dX10_layHand_24 ?_
      refine ev_imul (pc := 25) dX10_layHand_25 ?_
      refine ev_iload_3 (pc := 26) dX10_layHand_26 ?_
      refine ev_iadd (pc := 27) dX10_layHand_27 ?_
      obtain ⟨x7, hx7, h⟩ := ev_bindE hN h
      refine ev_iald1 (pc := 28) rfl (by decide) rfl hx7 dX10_layHand_28 ?_
      obtain ⟨m8, hm8, h⟩ := ev_bindE hN h
      refine ev_iast1 (pc := 29) rfl (by decide) (by decide) rfl hm8 dX10_layHand_29 ?_
      refine ev_iinc_3 (pc := 30) (y := x4 + 1) dX10_layHand_30 rfl (by decide) rfl ?_
      refine ev_goto (pc := 33) (tgt := 2) dX10_layHand_33 (by decide) ?_
      exact ih _ _ kx h hk
set_option maxRecDepth 20000 in
set_option maxHeartbeats 4000000 in
theorem e_X10_layHand {G : ev_G} {Q : Option ev_V → ev_M → Prop} {R : Option (ev_m)} {mF : ev_m} (hR : ∀ m0 : ev_m, (some (m0)) = R → Q none (ev_emb m0)) (hN : none ≠ R) {i0 : Nat} {x1_ : Int32} {x2_ : Int32} (h : f_X10_layHand mF i0 x1_ x2_ = R) : ev_E G K_X10_layHand B_X10_layHand (0, 0) 0 [some (vr 10 (i0)), some (vi (x1_)), some (vi (x2_)), none] [] (ev_emb mF) Q := by
  unfold f_X10_layHand at h
  refine ev_iconst (pc := 0) (v := 0) dX10_layHand_0 rfl ?_
  refine ev_istore_3 (pc := 1) dX10_layHand_1 (by decide) rfl ?_
  refine e_lp_X10_layHand_2 hR hN 4000 _ _ _ h (fun m9 h => ?_)
  exact ev_vret (pc := 36) dX10_layHand_36 rfl (hR _ h)
theorem c_X10_layHand {G : ev_G} {mF : ev_m} {i0 : Nat} {x1_ : Int32} {x2_ : Int32} {r : ev_m} (h : f_X10_layHand mF i0 x1_ x2_ = some r) : ev_CF G K_X10_layHand B_X10_layHand [vr 10 (i0), vi (x1_), vi (x2_)] mF none r :=
  ev_Ct_of rfl rfl (Nat.le_of_ble_eq_true rfl) (e_X10_layHand (R := some r) (fun m0 q => by cases q; exact ⟨rfl, rfl⟩) (fun q => by cases q) h)
set_option maxRecDepth 20000 in
set_option maxHeartbeats 4000000 in
theorem e_X10_of {G : ev_G} {Q : Option ev_V → ev_M → Prop} {R : Option (Int32)} {mF : ev_m} (hR : ∀ x0 : Int32, (some (x0)) = R → Q (some (vi x0)) (ev_emb mF)) (hN : none ≠ R) {i0 : Nat} {x1_ : Int32} {x2_ : Int32} (h : f_X10_of mF i0 x1_ x2_ = R) : ev_E G K_X10_of B_X10_of (0, 0) 0 [some (vr 10 (i0)), some (vi (x1_)), some (vi (x2_))] [] (ev_emb mF) Q := by
  unfold f_X10_of at h
  refine ev_aload_0 (pc := 0) dX10_of_0 ?_
  refine gt_X10_44 (pc := 1) rfl dX10_of_1 ?_
  refine ev_bipush (pc := 4) (v := 18) dX10_of_4 (by decide) ?_
  refine ev_iload_1 (pc := 6) dX10_of_6 ?_
  refine ev_imul (pc := 7) dX10_of_7 ?_
  refine ev_iload_2 (pc := 8) dX10_of_8 ?_
  refine ev_iadd (pc := 9) dX10_of_9 ?_
  obtain ⟨x1, hx1, h⟩ := ev_bindE hN h
  refine ev_iald1 (pc := 10) rfl (by decide) rfl hx1 dX10_of_10 ?_
  exact ev_iret (pc := 11) dX10_of_11 rfl rfl (hR _ h)
theorem c_X10_of {G : ev_G} {mF : ev_m} {i0 : Nat} {x1_ : Int32} {x2_ : Int32} {r : Int32} (h : f_X10_of mF i0 x1_ x2_ = some r) : ev_CF G K_X10_of B_X10_of [vr 10 (i0), vi (x1_), vi (x2_)] mF (some (vi (r))) mF :=
  ev_Ct_of rfl rfl (Nat.le_of_ble_eq_true rfl) (e_X10_of (R := some r) (fun x0 q => by cases q; exact ⟨rfl, rfl⟩) (fun q => by cases q) h)
set_option maxRecDepth 20000 in
set_option maxHeartbeats 4000000 in
theorem e_X10_draw {G : ev_G} {Q : Option ev_V → ev_M → Prop} {R : Option (Int32 × ev_m)} {mF : ev_m} (hR : ∀ (x0 : Int32) (m0 : ev_m), (some ((x0, m0))) = R → Q (some (vi x0)) (ev_emb m0)) (hN : none ≠ R) {i0 : Nat} {x1_ : Int32} (h : f_X10_draw mF i0 x1_ = R) : ev_E G K_X10_draw B_X10_draw (0, 0) 0 [some (vr 10 (i0)), some (vi (x1_))] [] (ev_emb mF) Q := by
  unfold f_X10_draw at h
  refine ev_aload_0 (pc := 0) dX10_draw_0 ?_
  refine ev_aload_0 (pc := 1) dX10_draw_1 ?_
  refine gt_X10_236 (pc := 2) rfl dX10_draw_2 ?_
  refine ev_ldc (pc := 5) (v := 1103515245) kc_X10_239 dX10_draw_5 ?_
  refine ev_imul (pc := 7) dX10_draw_7 ?_
  refine ev_sipush (pc := 8) (v := 12345) dX10_draw_8 (by decide) ?_
  refine ev_iadd (pc := 11) dX10_draw_11 ?_
  obtain ⟨m1, hm1, h⟩ := ev_letE h
  refine pt_X10_236 (pc := 12) rfl dX10_draw_12 ?_
  refine ev_mem (pc := 15) hm1 ?_
  refine ev_aload_0 (pc := 15) dX10_draw_15 ?_
  refine gt_X10_236 (pc := 16) rfl dX10_draw_16 ?_
  refine ev_bipush (pc := 19) (v := 16) dX10_draw_19 (by decide) ?_
  refine ev_iushr (pc := 21) dX10_draw_21 ?_
  refine ev_iload_1 (pc := 22) dX10_draw_22 ?_
  obtain ⟨x2, hx2, h⟩ := ev_bindE hN h
  refine ev_irem1 (pc := 23) hx2 dX10_draw_23 ?_
  exact ev_iret (pc := 24) dX10_draw_24 rfl rfl (hR _ _ h)
theorem c_X10_draw {G : ev_G} {mF : ev_m} {i0 : Nat} {x1_ : Int32} {r : Int32 × ev_m} (h : f_X10_draw mF i0 x1_ = some r) : ev_CF G K_X10_draw B_X10_draw [vr 10 (i0), vi (x1_)] mF (some (vi (r.1))) r.2 :=
  ev_Ct_of rfl rfl (Nat.le_of_ble_eq_true rfl) (e_X10_draw (R := some r) (fun x0 m0 q => by cases q; exact ⟨rfl, rfl⟩) (fun q => by cases q) h)
set_option maxRecDepth 20000 in
set_option maxHeartbeats 4000000 in
theorem e_X10_signOf {G : ev_G} {Q : Option ev_V → ev_M → Prop} {R : Int32} {mF : ev_m} (hR : ∀ x0 : Int32, x0 = R → Q (some (vi x0)) (ev_emb mF)) {x0_ : Int32} (h : s_X10_signOf mF x0_ = R) : ev_E G K_X10_signOf B_X10_signOf (0, 0) 0 [some (vi (x0_))] [] (ev_emb mF) Q := by
  unfold s_X10_signOf at h
  refine ev_iload_0 (pc := 0) dX10_signOf_0 ?_
  refine ev_ifc_le (pc := 1) (tgt := 8) dX10_signOf_1 (by decide) (fun c1 => ?_) (fun c1 => ?_)
  · replace h := ev_ifn h c1
    refine ev_iload_0 (pc := 8) dX10_signOf_8 ?_
    refine ev_ifc_ge (pc := 9) (tgt := 16) dX10_signOf_9 (by decide) (fun c2 => ?_) (fun c2 => ?_)
    · replace h := ev_ifn h c2
      refine ev_iconst (pc := 16) (v := 0) dX10_signOf_16 rfl ?_
      exact ev_iret (pc := 17) dX10_signOf_17 rfl rfl (hR _ h)
    · replace h := ev_ifp h c2
      refine ev_iconst (pc := 12) (v := (-1)) dX10_signOf_12 rfl ?_
      refine ev_goto (pc := 13) (tgt := 17) dX10_signOf_13 (by decide) ?_
      exact ev_iret (pc := 17) dX10_signOf_17 rfl rfl (hR _ h)
  · replace h := ev_ifp h c1
    refine ev_iconst (pc := 4) (v := 1) dX10_signOf_4 rfl ?_
    refine ev_goto (pc := 5) (tgt := 17) dX10_signOf_5 (by decide) ?_
    exact ev_iret (pc := 17) dX10_signOf_17 rfl rfl (hR _ h)
theorem c_X10_signOf {G : ev_G} (mF : ev_m) (x0_ : Int32) : ev_CF G K_X10_signOf B_X10_signOf [vi (x0_)] mF (some (vi (s_X10_signOf mF x0_))) mF :=
  ev_Ct_of rfl rfl (Nat.le_of_ble_eq_true rfl) (e_X10_signOf (R := s_X10_signOf mF x0_) (fun x0 q => ⟨by rw [← q], rfl⟩) rfl)
set_option maxRecDepth 20000 in
set_option maxHeartbeats 4000000 in
theorem e_X10_begin {G : ev_G} {Q : Option ev_V → ev_M → Prop} {R : ev_m} {mF : ev_m} (hR : ∀ m0 : ev_m, m0 = R → Q none (ev_emb m0)) {i0 : Nat} {x1_ : Int32} (h : s_X10_begin mF i0 x1_ = R) : ev_E G K_X10_begin B_X10_begin (0, 0) 0 [some (vr 10 (i0)), some (vi (x1_))] [] (ev_emb mF) Q := by
  unfold s_X10_begin at h
  refine ev_aload_0 (pc := 0) dX10_begin_0 ?_
  refine ev_iload_1 (pc := 1) dX10_begin_1 ?_
  obtain ⟨m1, hm1, h⟩ := ev_letE h
  refine pt_X10_236 (pc := 2) rfl dX10_begin_2 ?_
  refine ev_mem (pc := 5) hm1 ?_
  refine ev_aload_0 (pc := 5) dX10_begin_5 ?_
  refine ev_iconst (pc := 6) (v := 0) dX10_begin_6 rfl ?_
  obtain ⟨m2, hm2, h⟩ := ev_letE h
  refine pt_X10_240 (pc := 7) rfl dX10_begin_7 ?_
  refine ev_mem (pc := 10) hm2 ?_
  refine ev_aload_0 (pc := 10) dX10_begin_10 ?_
  refine gt_X10_56 (pc := 11) rfl dX10_begin_11 ?_
  refine ev_iconst (pc := 14) (v := 0) dX10_begin_14 rfl ?_
  refine ev_aload_0 (pc := 15) dX10_begin_15 ?_
  refine gt_X10_41 (pc := 16) rfl dX10_begin_16 ?_
  refine ev_bipush (pc := 19) (v := 8) dX10_begin_19 (by decide) ?_
  refine ev_ialdS (pc := 21) (j := 8) rfl (by decide) (by decide) (vp_in_iff.mpr (by decide)) dX10_begin_21 ?_
  obtain ⟨m3, hm3, h⟩ := ev_letE h
  refine ev_iastS (pc := 22) (j := 0) rfl (by decide) (by decide) (by decide) (vp_in_iff.mpr (by decide)) dX10_begin_22 ?_
  refine ev_mem (pc := 23) hm3 ?_
  refine ev_aload_0 (pc := 23) dX10_begin_23 ?_
  refine gt_X10_59 (pc := 24) rfl dX10_begin_24 ?_
  refine ev_iconst (pc := 27) (v := 0) dX10_begin_27 rfl ?_
  refine ev_aload_0 (pc := 28) dX10_begin_28 ?_
  refine gt_X10_41 (pc := 29) rfl dX10_begin_29 ?_
  refine ev_bipush (pc := 32) (v := 9) dX10_begin_32 (by decide) ?_
  refine ev_ialdS (pc := 34) (j := 9) rfl (by decide) (by decide) (vp_in_iff.mpr (by decide)) dX10_begin_34 ?_
  obtain ⟨m4, hm4, h⟩ := ev_letE h
  refine ev_iastS (pc := 35) (j := 0) rfl (by decide) (by decide) (by decide) (vp_in_iff.mpr (by decide)) dX10_begin_35 ?_
  refine ev_mem (pc := 36) hm4 ?_
  refine ev_aload_0 (pc := 36) dX10_begin_36 ?_
  refine gt_X10_62 (pc := 37) rfl dX10_begin_37 ?_
  refine ev_iconst (pc := 40) (v := 0) dX10_begin_40 rfl ?_
  refine ev_iconst (pc := 41) (v := 0) dX10_begin_41 rfl ?_
  obtain ⟨m5, hm5, h⟩ := ev_letE h
  refine ev_iastS (pc := 42) (j := 0) rfl (by decide) (by decide) (by decide) (vp_in_iff.mpr (by decide)) dX10_begin_42 ?_
  refine ev_mem (pc := 43) hm5 ?_
  refine ev_aload_0 (pc := 43) dX10_begin_43 ?_
  refine gt_X10_65 (pc := 44) rfl dX10_begin_44 ?_
  refine ev_iconst (pc := 47) (v := 0) dX10_begin_47 rfl ?_
  refine ev_iconst (pc := 48) (v := 0) dX10_begin_48 rfl ?_
  obtain ⟨m6, hm6, h⟩ := ev_letE h
  refine ev_iastS (pc := 49) (j := 0) rfl (by decide) (by decide) (by decide) (vp_in_iff.mpr (by decide)) dX10_begin_49 ?_
  refine ev_mem (pc := 50) hm6 ?_
  refine ev_aload_0 (pc := 50) dX10_begin_50 ?_
  refine ev_lconst (pc := 51) (v := 0) dX10_begin_51 rfl ?_
  obtain ⟨m7, hm7, h⟩ := ev_letE h
  refine pt_X10_243 (pc := 52) rfl dX10_begin_52 ?_
  refine ev_mem (pc := 55) hm7 ?_
  refine ev_aload_0 (pc := 55) dX10_begin_55 ?_
  refine ev_iconst (pc := 56) (v := 0) dX10_begin_56 rfl ?_
  obtain ⟨m8, hm8, h⟩ := ev_letE h
  refine pt_X10_246 (pc := 57) rfl dX10_begin_57 ?_
  refine ev_mem (pc := 60) hm8 ?_
  refine ev_aload_0 (pc := 60) dX10_begin_60 ?_
  refine ev_lconst (pc := 61) (v := 0) dX10_begin_61 rfl ?_
  obtain ⟨m9, hm9, h⟩ := ev_letE h
  refine pt_X10_249 (pc := 62) rfl dX10_begin_62 ?_
  refine ev_mem (pc := 65) hm9 ?_
  refine ev_aload_0 (pc := 65) dX10_begin_65 ?_
  refine ev_iconst (pc := 66) (v := 0) dX10_begin_66 rfl ?_
  obtain ⟨m10, hm10, h⟩ := ev_letE h
  refine pt_X10_252 (pc := 67) rfl dX10_begin_67 ?_
  refine ev_mem (pc := 70) hm10 ?_
  refine ev_aload_0 (pc := 70) dX10_begin_70 ?_
  refine ev_lconst (pc := 71) (v := 0) dX10_begin_71 rfl ?_
  obtain ⟨m11, hm11, h⟩ := ev_letE h
  refine pt_X10_255 (pc := 72) rfl dX10_begin_72 ?_
  refine ev_mem (pc := 75) hm11 ?_
  refine ev_aload_0 (pc := 75) dX10_begin_75 ?_
  refine ev_iconst (pc := 76) (v := 0) dX10_begin_76 rfl ?_
  obtain ⟨m12, hm12, h⟩ := ev_letE h
  refine pt_X10_258 (pc := 77) rfl dX10_begin_77 ?_
  refine ev_mem (pc := 80) hm12 ?_
  refine ev_aload_0 (pc := 80) dX10_begin_80 ?_
  refine gt_X10_68 (pc := 81) rfl dX10_begin_81 ?_
  refine ev_iconst (pc := 84) (v := 0) dX10_begin_84 rfl ?_
  refine ev_iconst (pc := 85) (v := 0) dX10_begin_85 rfl ?_
  obtain ⟨m13, hm13, h⟩ := ev_letE h
  refine ev_iastS (pc := 86) (j := 0) rfl (by decide) (by decide) (by decide) (vp_in_iff.mpr (by decide)) dX10_begin_86 ?_
  refine ev_mem (pc := 87) hm13 ?_
  refine ev_aload_0 (pc := 87) dX10_begin_87 ?_
  refine ev_aload_0 (pc := 88) dX10_begin_88 ?_
  refine gt_X10_41 (pc := 89) rfl dX10_begin_89 ?_
  refine ev_bipush (pc := 92) (v := 8) dX10_begin_92 (by decide) ?_
  refine ev_ialdS (pc := 94) (j := 8) rfl (by decide) (by decide) (vp_in_iff.mpr (by decide)) dX10_begin_94 ?_
  refine cl1_X10_261 (pc := 95) rfl dX10_begin_95 (by decide) (Nat.le_of_ble_eq_true rfl) (c_X10_signOf m13 (m13.1 40 0 8)) ?_
  obtain ⟨m14, hm14, h⟩ := ev_letE h
  refine pt_X10_264 (pc := 98) rfl dX10_begin_98 ?_
  refine ev_mem (pc := 101) hm14 ?_
  refine ev_aload_0 (pc := 101) dX10_begin_101 ?_
  refine ev_iconst (pc := 102) (v := 0) dX10_begin_102 rfl ?_
  obtain ⟨m15, hm15, h⟩ := ev_letE h
  refine pt_X10_267 (pc := 103) rfl dX10_begin_103 ?_
  refine ev_mem (pc := 106) hm15 ?_
  refine ev_aload_0 (pc := 106) dX10_begin_106 ?_
  refine ev_iconst (pc := 107) (v := 0) dX10_begin_107 rfl ?_
  obtain ⟨m16, hm16, h⟩ := ev_letE h
  refine pt_X10_270 (pc := 108) rfl dX10_begin_108 ?_
  refine ev_mem (pc := 111) hm16 ?_
  refine ev_aload_0 (pc := 111) dX10_begin_111 ?_
  refine ev_iconst (pc := 112) (v := 0) dX10_begin_112 rfl ?_
  obtain ⟨m17, hm17, h⟩ := ev_letE h
  refine pt_X10_273 (pc := 113) rfl dX10_begin_113 ?_
  refine ev_mem (pc := 116) hm17 ?_
  exact ev_vret (pc := 116) dX10_begin_116 rfl (hR _ h)
theorem c_X10_begin {G : ev_G} (mF : ev_m) (i0 : Nat) (x1_ : Int32) : ev_CF G K_X10_begin B_X10_begin [vr 10 (i0), vi (x1_)] mF none (s_X10_begin mF i0 x1_) :=
  ev_Ct_of rfl rfl (Nat.le_of_ble_eq_true rfl) (e_X10_begin (R := s_X10_begin mF i0 x1_) (fun m0 q => ⟨rfl, by rw [← q]⟩) rfl)
set_option maxRecDepth 20000 in
set_option maxHeartbeats 4000000 in
theorem e_X10_takes {G : ev_G} {Q : Option ev_V → ev_M → Prop} {R : Option (ev_m)} {mF : ev_m} (hR : ∀ m0 : ev_m, (some (m0)) = R → Q none (ev_emb m0)) (hN : none ≠ R) {i0 : Nat} {x1_ : Int32} (h : f_X10_takes mF i0 x1_ = R) : ev_E G K_X10_takes B_X10_takes (0, 0) 0 [some (vr 10 (i0)), some (vi (x1_))] [] (ev_emb mF) Q := by
  unfold f_X10_takes at h
  refine ev_aload_0 (pc := 0) dX10_takes_0 ?_
  refine gt_X10_47 (pc := 1) rfl dX10_takes_1 ?_
  refine ev_iload_1 (pc := 4) dX10_takes_4 ?_
  refine ev_iconst (pc := 5) (v := 0) dX10_takes_5 rfl ?_
  obtain ⟨m1, hm1, h⟩ := ev_bindE hN h
  refine ev_iast1 (pc := 6) rfl (by decide) (by decide) rfl hm1 dX10_takes_6 ?_
  refine ev_aload_0 (pc := 7) dX10_takes_7 ?_
  refine gt_X10_50 (pc := 8) rfl dX10_takes_8 ?_
  refine ev_iload_1 (pc := 11) dX10_takes_11 ?_
  refine ev_iconst (pc := 12) (v := 0) dX10_takes_12 rfl ?_
  obtain ⟨m2, hm2, h⟩ := ev_bindE hN h
  refine ev_iast1 (pc := 13) rfl (by decide) (by decide) rfl hm2 dX10_takes_13 ?_
  refine ev_aload_0 (pc := 14) dX10_takes_14 ?_
  refine gt_X10_53 (pc := 15) rfl dX10_takes_15 ?_
  refine ev_iload_1 (pc := 18) dX10_takes_18 ?_
  refine ev_aload_0 (pc := 19) dX10_takes_19 ?_
  refine gt_X10_240 (pc := 20) rfl dX10_takes_20 ?_
  obtain ⟨m3, hm3, h⟩ := ev_bindE hN h
  refine ev_iast1 (pc := 23) rfl (by decide) (by decide) rfl hm3 dX10_takes_23 ?_
  exact ev_vret (pc := 24) dX10_takes_24 rfl (hR _ h)
theorem c_X10_takes {G : ev_G} {mF : ev_m} {i0 : Nat} {x1_ : Int32} {r : ev_m} (h : f_X10_takes mF i0 x1_ = some r) : ev_CF G K_X10_takes B_X10_takes [vr 10 (i0), vi (x1_)] mF none r :=
  ev_Ct_of rfl rfl (Nat.le_of_ble_eq_true rfl) (e_X10_takes (R := some r) (fun m0 q => by cases q; exact ⟨rfl, rfl⟩) (fun q => by cases q) h)
set_option maxRecDepth 20000 in
set_option maxHeartbeats 4000000 in
theorem e_lp_X10_isStar_2 {G : ev_G} {Q : Option ev_V → ev_M → Prop} {mF : ev_m} {R : Option (Bool)} (hR : ∀ x0 : Bool, (some (x0)) = R → Q (some (vi (bi x0))) (ev_emb mF)) (hN : none ≠ R) {i1 : Nat} {x2 : Int32} {x3 : Int32} : ∀ (f : Nat) (x4 : Int32) (kx : Unit → Option (Bool)) (h : lp_X10_isStar_2 mF i1 x2 x3 f x4 kx = R) (hk : ∀ (u0 : Unit), kx u0 = R → ev_E G K_X10_isStar B_X10_isStar (0, 0) 50 [none, none, none, none] [] (ev_emb mF) Q), ev_E G K_X10_isStar B_X10_isStar (0, 0) 2 [some (vr 10 (i1)), some (vi (x2)), some (vi (x3)), some (vi (x4))] [] (ev_emb mF) Q := by
  intro f
  induction f with
  | zero => intro x4 kx h hk; rw [lp_X10_isStar_2] at h; exact absurd h hN
  | succ f ih =>
    intro x4 kx h hk
    rw [lp_X10_isStar_2] at h
    refine ev_iload_3 (pc := 2) dX10_isStar_2 ?_
    refine ev_aload_0 (pc := 3) dX10_isStar_3 ?_
    refine ev_iload_1 (pc := 4) dX10_isStar_4 ?_
    refine ev_bipush (pc := 5) (v := 9) dX10_isStar_5 (by decide) ?_
    obtain ⟨x5, hx5, h⟩ := ev_bindE hN h
    refine cl1_X10_276 (pc := 7) rfl dX10_isStar_7 (by decide) (Nat.le_of_ble_eq_true rfl) (c_X10_of hx5) ?_
    refine ev_icc_ge (pc := 10) (tgt := 50) dX10_isStar_10 (by decide) (fun c6 => ?_) (fun c6 => ?_)
    · replace h := ev_ifn h c6
      refine ev_E.forget (L' := [none, none, none, none]) trivial ?_
      exact hk _  h
    · replace h := ev_ifp h c6
      refine ev_iload_2 (pc := 13) dX10_isStar_13 ?_
      refine ev_aload_0 (pc := 14) dX10_isStar_14 ?_
      refine ev_iload_1 (pc := 15) dX10_isStar_15 ?_
      refine ev_bipush (pc := 16) (v := 10) dX10_isStar_16 (by decide) ?_
      refine ev_iconst (pc := 18) (v := 2) dX10_isStar_18 rfl ?_
      refine ev_iload_3 (pc := 19) dX10_isStar_19 ?_
      refine ev_imul (pc := 20) dX10_isStar_20 ?_
      refine ev_iadd (pc := 21) dX10_isStar_21 ?_
      obtain ⟨x7, hx7, h⟩ := ev_bindE hN h
      refine cl1_X10_276 (pc := 22) rfl dX10_isStar_22 (by decide) (Nat.le_of_ble_eq_true rfl) (c_X10_of hx7) ?_
      refine ev_aload_0 (pc := 25) dX10_isStar_25 ?_
      refine ev_iload_1 (pc := 26) dX10_isStar_26 ?_
      refine ev_bipush (pc := 27) (v := 11) dX10_isStar_27 (by decide) ?_
      refine ev_iconst (pc := 29) (v := 2) dX10_isStar_29 rfl ?_
      refine ev_iload_3 (pc := 30) dX10_isStar_30 ?_
      refine ev_imul (pc := 31) dX10_isStar_31 ?_
      refine ev_iadd (pc := 32) dX10_isStar_32 ?_
      obtain ⟨x8, hx8, h⟩ := ev_bindE hN h
      refine cl1_X10_276 (pc := 33) rfl dX10_isStar_33 (by decide) (Nat.le_of_ble_eq_true rfl) (c_X10_of hx8) ?_
      refine cl1_X10_89 (pc := 36) rfl dX10_isStar_36 (by decide) (Nat.le_of_ble_eq_true rfl) (c_X10_in mF x3 x7 x8) ?_
      refine ev_ifb_eq (pc := 39) (tgt := 44) dX10_isStar_39 (by decide) (fun c9 => ?_) (fun c9 => ?_)
      · replace h := ev_ifn h c9
        refine ev_iinc_3 (pc := 44) (y := x4 + 1) dX10_isStar_44 rfl (by decide) rfl ?_
        refine ev_goto (pc := 47) (tgt := 2) dX10_isStar_47 (by decide) ?_
        exact ih _ kx h hk
      · replace h := ev_ifp h c9
        refine ev_iconst (pc := 42) (v := 1) dX10_isStar_42 rfl ?_
        exact ev_iret (pc := 43) dX10_isStar_43 rfl rfl (hR _ h)
set_option maxRecDepth 20000 in
set_option maxHeartbeats 4000000 in
theorem e_X10_isStar {G : ev_G} {Q : Option ev_V → ev_M → Prop} {R : Option (Bool)} {mF : ev_m} (hR : ∀ x0 : Bool, (some (x0)) = R → Q (some (vi (bi x0))) (ev_emb mF)) (hN : none ≠ R) {i0 : Nat} {x1_ : Int32} {x2_ : Int32} (h : f_X10_isStar mF i0 x1_ x2_ = R) : ev_E G K_X10_isStar B_X10_isStar (0, 0) 0 [some (vr 10 (i0)), some (vi (x1_)), some (vi (x2_)), none] [] (ev_emb mF) Q := by
  unfold f_X10_isStar at h
  refine ev_iconst (pc := 0) (v := 0) dX10_isStar_0 rfl ?_
  refine ev_istore_3 (pc := 1) dX10_isStar_1 (by decide) rfl ?_
  refine e_lp_X10_isStar_2 hR hN 4000 _ _ h (fun _ h => ?_)
  refine ev_iconst (pc := 50) (v := 0) dX10_isStar_50 rfl ?_
  exact ev_iret (pc := 51) dX10_isStar_51 rfl rfl (hR _ h)
theorem c_X10_isStar {G : ev_G} {mF : ev_m} {i0 : Nat} {x1_ : Int32} {x2_ : Int32} {r : Bool} (h : f_X10_isStar mF i0 x1_ x2_ = some r) : ev_CF G K_X10_isStar B_X10_isStar [vr 10 (i0), vi (x1_), vi (x2_)] mF (some (vi (bi (r)))) mF :=
  ev_Ct_of rfl rfl (Nat.le_of_ble_eq_true rfl) (e_X10_isStar (R := some r) (fun x0 q => by cases q; exact ⟨rfl, rfl⟩) (fun q => by cases q) h)
set_option maxRecDepth 20000 in
set_option maxHeartbeats 4000000 in
theorem e_jn_X10_sees_40 {G : ev_G} {Q : Option ev_V → ev_M → Prop} {mF : ev_m} {R : Option (Int32)} (hR : ∀ x0 : Int32, (some (x0)) = R → Q (some (vi x0)) (ev_emb mF)) (hN : none ≠ R) {i6 : Nat} {x7 : Int32} {x8 : Int32} {x9 : Int32} (h : jn_X10_sees_40 mF i6 x7 x8 x9 = R) : ev_E G K_X10_sees B_X10_sees (0, 0) 40 [some (vr 10 (i6)), some (vi (x7)), some (vi (x8)), none, none, none] [vi (x9)] (ev_emb mF) Q := by
  unfold jn_X10_sees_40 at h
  refine ev_istore_3 (pc := 40) dX10_sees_40 (by decide) rfl ?_
  refine ev_aload_0 (pc := 41) dX10_sees_41 ?_
  refine ev_iload_1 (pc := 42) dX10_sees_42 ?_
  refine ev_iload_2 (pc := 43) dX10_sees_43 ?_
  obtain ⟨x10, hx10, h⟩ := ev_bindE hN h
  refine cl1_X10_280 (pc := 44) rfl dX10_sees_44 (by decide) (Nat.le_of_ble_eq_true rfl) (c_X10_isStar hx10) ?_
  obtain ⟨x12, hx12, h⟩ := ev_letE h
  have hJ2 : ev_E G K_X10_sees B_X10_sees (0, 0) 62 [some (vr 10 (i6)), some (vi (x7)), some (vi (x8)), some (vi (x9)), none, none] [vi (x12)] (ev_emb mF) Q := by
    refine ev_istore_4 (pc := 62) dX10_sees_62 (by decide) rfl ?_
    refine ev_aload_0 (pc := 64) dX10_sees_64 ?_
    refine gt_X10_56 (pc := 65) rfl dX10_sees_65 ?_
    refine ev_aload_0 (pc := 68) dX10_sees_68 ?_
    refine gt_X10_240 (pc := 69) rfl dX10_sees_69 ?_
    refine ev_iload_4 (pc := 72) dX10_sees_72 ?_
    obtain ⟨x14, hx14, h⟩ := ev_letE h
    have hJ1 : ev_E G K_X10_sees B_X10_sees (0, 0) 88 [some (vr 10 (i6)), some (vi (x7)), some (vi (x8)), some (vi (x9)), some (vi (x12)), none] [vi (x14), vr 45 (0)] (ev_emb mF) Q := by
      obtain ⟨x15, hx15, h⟩ := ev_bindE hN h
      refine ev_iald1 (pc := 88) rfl (by decide) rfl hx15 dX10_sees_88 ?_
      refine ev_istore_5 (pc := 89) dX10_sees_89 (by decide) rfl ?_
      refine ev_iload_5 (pc := 91) dX10_sees_91 ?_
      refine ev_iload_5 (pc := 93) dX10_sees_93 ?_
      refine ev_aload_0 (pc := 95) dX10_sees_95 ?_
      refine ev_iload_1 (pc := 96) dX10_sees_96 ?_
      refine ev_iconst (pc := 97) (v := 4) dX10_sees_97 rfl ?_
      obtain ⟨x16, hx16, h⟩ := ev_bindE hN h
      refine cl1_X10_276 (pc := 98) rfl dX10_sees_98 (by decide) (Nat.le_of_ble_eq_true rfl) (c_X10_of hx16) ?_
      obtain ⟨x17, hx17, h⟩ := ev_bindE hN h
      refine ev_irem1 (pc := 101) hx17 dX10_sees_101 ?_
      refine ev_isub (pc := 102) dX10_sees_102 ?_
      exact ev_iret (pc := 103) dX10_sees_103 rfl rfl (hR _ h)
    refine ev_icc_ge (pc := 74) (tgt := 81) dX10_sees_74 (by decide) (fun c13 => ?_) (fun c13 => ?_)
    · refine ev_aload_0 (pc := 81) dX10_sees_81 ?_
      refine gt_X10_240 (pc := 82) rfl dX10_sees_82 ?_
      refine ev_iload_4 (pc := 85) dX10_sees_85 ?_
      refine ev_isub (pc := 87) dX10_sees_87 ?_
      replace hx14 := (hx14.trans (if_neg c13))
      subst hx14
      exact hJ1
    · refine ev_iconst (pc := 77) (v := 0) dX10_sees_77 rfl ?_
      refine ev_goto (pc := 78) (tgt := 88) dX10_sees_78 (by decide) ?_
      replace hx14 := (hx14.trans (if_pos c13))
      subst hx14
      exact hJ1
  refine ev_ifb_eq (pc := 47) (tgt := 54) dX10_sees_47 (by decide) (fun c11 => ?_) (fun c11 => ?_)
  · refine ev_aload_0 (pc := 54) dX10_sees_54 ?_
    refine gt_X10_41 (pc := 55) rfl dX10_sees_55 ?_
    refine ev_iconst (pc := 58) (v := 2) dX10_sees_58 rfl ?_
    refine ev_ialdS (pc := 59) (j := 2) rfl (by decide) (by decide) (vp_in_iff.mpr (by decide)) dX10_sees_59 ?_
    refine ev_iload_3 (pc := 60) dX10_sees_60 ?_
    refine ev_iadd (pc := 61) dX10_sees_61 ?_
    replace hx12 := (hx12.trans (if_neg c11))
    subst hx12
    exact hJ2
  · refine ev_iconst (pc := 50) (v := 0) dX10_sees_50 rfl ?_
    refine ev_goto (pc := 51) (tgt := 62) dX10_sees_51 (by decide) ?_
    replace hx12 := (hx12.trans (if_pos c11))
    subst hx12
    exact hJ2
set_option maxRecDepth 20000 in
set_option maxHeartbeats 4000000 in
theorem e_X10_sees {G : ev_G} {Q : Option ev_V → ev_M → Prop} {R : Option (Int32)} {mF : ev_m} (hR : ∀ x0 : Int32, (some (x0)) = R → Q (some (vi x0)) (ev_emb mF)) (hN : none ≠ R) {i0 : Nat} {x1_ : Int32} {x2_ : Int32} (h : f_X10_sees mF i0 x1_ x2_ = R) : ev_E G K_X10_sees B_X10_sees (0, 0) 0 [some (vr 10 (i0)), some (vi (x1_)), some (vi (x2_)), none, none, none] [] (ev_emb mF) Q := by
  unfold f_X10_sees at h
  refine ev_aload_0 (pc := 0) dX10_sees_0 ?_
  refine ev_iload_1 (pc := 1) dX10_sees_1 ?_
  refine ev_bipush (pc := 2) (v := 6) dX10_sees_2 (by decide) ?_
  obtain ⟨x1, hx1, h⟩ := ev_bindE hN h
  refine cl1_X10_276 (pc := 4) rfl dX10_sees_4 (by decide) (Nat.le_of_ble_eq_true rfl) (c_X10_of hx1) ?_
  refine ev_ifc_ne (pc := 7) (tgt := 14) dX10_sees_7 (by decide) (fun c2 => ?_) (fun c2 => ?_)
  · replace h := ev_ifn h c2
    refine ev_iload_2 (pc := 14) dX10_sees_14 ?_
    refine ev_aload_0 (pc := 15) dX10_sees_15 ?_
    refine ev_iload_1 (pc := 16) dX10_sees_16 ?_
    refine ev_bipush (pc := 17) (v := 6) dX10_sees_17 (by decide) ?_
    obtain ⟨x3, hx3, h⟩ := ev_bindE hN h
    refine cl1_X10_276 (pc := 19) rfl dX10_sees_19 (by decide) (Nat.le_of_ble_eq_true rfl) (c_X10_of hx3) ?_
    obtain ⟨x4, hx4, h⟩ := ev_bindE hN h
    refine ev_idiv1 (pc := 22) hx4 dX10_sees_22 ?_
    refine ev_iconst (pc := 23) (v := 5) dX10_sees_23 rfl ?_
    refine ev_icc_ge (pc := 24) (tgt := 39) dX10_sees_24 (by decide) (fun c5 => ?_) (fun c5 => ?_)
    · replace h := ev_ifn h c5
      refine ev_iconst (pc := 39) (v := 5) dX10_sees_39 rfl ?_
      exact e_jn_X10_sees_40 hR hN h
    · replace h := ev_ifp h c5
      refine ev_iload_2 (pc := 27) dX10_sees_27 ?_
      refine ev_aload_0 (pc := 28) dX10_sees_28 ?_
      refine ev_iload_1 (pc := 29) dX10_sees_29 ?_
      refine ev_bipush (pc := 30) (v := 6) dX10_sees_30 (by decide) ?_
      obtain ⟨x18, hx18, h⟩ := ev_bindE hN h
      refine cl1_X10_276 (pc := 32) rfl dX10_sees_32 (by decide) (Nat.le_of_ble_eq_true rfl) (c_X10_of hx18) ?_
      obtain ⟨x19, hx19, h⟩ := ev_bindE hN h
      refine ev_idiv1 (pc := 35) hx19 dX10_sees_35 ?_
      refine ev_goto (pc := 36) (tgt := 40) dX10_sees_36 (by decide) ?_
      exact e_jn_X10_sees_40 hR hN h
  · replace h := ev_ifp h c2
    refine ev_iconst (pc := 10) (v := 0) dX10_sees_10 rfl ?_
    refine ev_goto (pc := 11) (tgt := 40) dX10_sees_11 (by decide) ?_
    exact e_jn_X10_sees_40 hR hN h
theorem c_X10_sees {G : ev_G} {mF : ev_m} {i0 : Nat} {x1_ : Int32} {x2_ : Int32} {r : Int32} (h : f_X10_sees mF i0 x1_ x2_ = some r) : ev_CF G K_X10_sees B_X10_sees [vr 10 (i0), vi (x1_), vi (x2_)] mF (some (vi (r))) mF :=
  ev_Ct_of rfl rfl (Nat.le_of_ble_eq_true rfl) (e_X10_sees (R := some r) (fun x0 q => by cases q; exact ⟨rfl, rfl⟩) (fun q => by cases q) h)
set_option maxRecDepth 20000 in
set_option maxHeartbeats 4000000 in
theorem e_jn_X10_wants_38 {G : ev_G} {Q : Option ev_V → ev_M → Prop} {R : Option (Int32 × ev_m)} (hR : ∀ (x0 : Int32) (m0 : ev_m), (some ((x0, m0))) = R → Q (some (vi x0)) (ev_emb m0)) (hN : none ≠ R) {m11 : ev_m} {i6 : Nat} {x7 : Int32} {x8 : Int32} {x9 : Int32} {x10 : Int32} (h : jn_X10_wants_38 m11 i6 x7 x8 x9 x10 = R) : ev_E G K_X10_wants B_X10_wants (0, 0) 38 [some (vr 10 (i6)), some (vi (x7)), some (vi (x8)), some (vi (x9)), none, none] [vi (x10)] (ev_emb m11) Q := by
  unfold jn_X10_wants_38 at h
  refine ev_istore_4 (pc := 38) dX10_wants_38 (by decide) rfl ?_
  refine ev_aload_0 (pc := 40) dX10_wants_40 ?_
  refine gt_X10_47 (pc := 41) rfl dX10_wants_41 ?_
  refine ev_iload_1 (pc := 44) dX10_wants_44 ?_
  refine ev_iload_3 (pc := 45) dX10_wants_45 ?_
  obtain ⟨m12, hm12, h⟩ := ev_bindE hN h
  refine ev_iast1 (pc := 46) rfl (by decide) (by decide) rfl hm12 dX10_wants_46 ?_
  refine ev_aload_0 (pc := 47) dX10_wants_47 ?_
  refine gt_X10_50 (pc := 48) rfl dX10_wants_48 ?_
  refine ev_iload_1 (pc := 51) dX10_wants_51 ?_
  refine ev_aload_0 (pc := 52) dX10_wants_52 ?_
  refine gt_X10_50 (pc := 53) rfl dX10_wants_53 ?_
  refine ev_iload_1 (pc := 56) dX10_wants_56 ?_
  obtain ⟨x13, hx13, h⟩ := ev_bindE hN h
  refine ev_iald1 (pc := 57) rfl (by decide) rfl hx13 dX10_wants_57 ?_
  refine ev_iload_3 (pc := 58) dX10_wants_58 ?_
  refine ev_iadd (pc := 59) dX10_wants_59 ?_
  refine ev_sipush (pc := 60) (v := 9999) dX10_wants_60 (by decide) ?_
  refine cl1_X10_286 (pc := 63) rfl dX10_wants_63 (by decide) (Nat.le_of_ble_eq_true rfl) (c_X10_within m12 (x13 + x9) 9999) ?_
  obtain ⟨m14, hm14, h⟩ := ev_bindE hN h
  refine ev_iast1 (pc := 66) rfl (by decide) (by decide) rfl hm14 dX10_wants_66 ?_
  refine ev_aload_0 (pc := 67) dX10_wants_67 ?_
  refine ev_iload_1 (pc := 68) dX10_wants_68 ?_
  refine ev_iconst (pc := 69) (v := 0) dX10_wants_69 rfl ?_
  obtain ⟨x15, hx15, h⟩ := ev_bindE hN h
  refine cl1_X10_276 (pc := 70) rfl dX10_wants_70 (by decide) (Nat.le_of_ble_eq_true rfl) (c_X10_of hx15) ?_
  refine ev_ineg (pc := 73) dX10_wants_73 ?_
  refine ev_iload_3 (pc := 74) dX10_wants_74 ?_
  refine ev_imul (pc := 75) dX10_wants_75 ?_
  refine ev_aload_0 (pc := 76) dX10_wants_76 ?_
  refine ev_iload_1 (pc := 77) dX10_wants_77 ?_
  refine ev_iconst (pc := 78) (v := 1) dX10_wants_78 rfl ?_
  obtain ⟨x16, hx16, h⟩ := ev_bindE hN h
  refine cl1_X10_276 (pc := 79) rfl dX10_wants_79 (by decide) (Nat.le_of_ble_eq_true rfl) (c_X10_of hx16) ?_
  refine ev_iload_4 (pc := 82) dX10_wants_82 ?_
  refine ev_imul (pc := 84) dX10_wants_84 ?_
  refine ev_isub (pc := 85) dX10_wants_85 ?_
  refine ev_aload_0 (pc := 86) dX10_wants_86 ?_
  refine ev_iload_1 (pc := 87) dX10_wants_87 ?_
  refine ev_iconst (pc := 88) (v := 2) dX10_wants_88 rfl ?_
  obtain ⟨x17, hx17, h⟩ := ev_bindE hN h
  refine cl1_X10_276 (pc := 89) rfl dX10_wants_89 (by decide) (Nat.le_of_ble_eq_true rfl) (c_X10_of hx17) ?_
  refine ev_aload_0 (pc := 92) dX10_wants_92 ?_
  refine gt_X10_50 (pc := 93) rfl dX10_wants_93 ?_
  refine ev_iload_1 (pc := 96) dX10_wants_96 ?_
  obtain ⟨x18, hx18, h⟩ := ev_bindE hN h
  refine ev_iald1 (pc := 97) rfl (by decide) rfl hx18 dX10_wants_97 ?_
  refine ev_imul (pc := 98) dX10_wants_98 ?_
  refine ev_bipush (pc := 99) (v := 100) dX10_wants_99 (by decide) ?_
  refine ev_idiv (pc := 101) dX10_wants_101 (by decide) ?_
  refine ev_isub (pc := 102) dX10_wants_102 ?_
  refine ev_bipush (pc := 103) (v := 100) dX10_wants_103 (by decide) ?_
  refine ev_idiv (pc := 105) dX10_wants_105 (by decide) ?_
  refine ev_aload_0 (pc := 106) dX10_wants_106 ?_
  refine gt_X10_41 (pc := 107) rfl dX10_wants_107 ?_
  refine ev_iconst (pc := 110) (v := 3) dX10_wants_110 rfl ?_
  refine ev_ialdS (pc := 111) (j := 3) rfl (by decide) (by decide) (vp_in_iff.mpr (by decide)) dX10_wants_111 ?_
  refine cl1_X10_286 (pc := 112) rfl dX10_wants_112 (by decide) (Nat.le_of_ble_eq_true rfl) (c_X10_within m14 (((((-x15) * x9) - (x16 * x10)) - ((x17 * x18) / 100)) / 100) (m14.1 40 0 3)) ?_
  obtain ⟨x19, hx19, h⟩ := ev_letE h
  refine ev_topi (pc := 115) hx19 ?_
  refine ev_istore_5 (pc := 115) dX10_wants_115 (by decide) rfl ?_
  refine ev_iload_3 (pc := 117) dX10_wants_117 ?_
  refine cl1_X10_289 (pc := 118) rfl dX10_wants_118 (by decide) (Nat.le_of_ble_eq_true rfl) (c_X10_plain m14 x9) ?_
  refine ev_aload_0 (pc := 121) dX10_wants_121 ?_
  refine ev_iload_1 (pc := 122) dX10_wants_122 ?_
  refine ev_iconst (pc := 123) (v := 3) dX10_wants_123 rfl ?_
  obtain ⟨x20, hx20, h⟩ := ev_bindE hN h
  refine cl1_X10_276 (pc := 124) rfl dX10_wants_124 (by decide) (Nat.le_of_ble_eq_true rfl) (c_X10_of hx20) ?_
  obtain ⟨x22, hx22, h⟩ := ev_letE h
  have hJ3 : ev_E G K_X10_wants B_X10_wants (0, 0) 136 [some (vr 10 (i6)), some (vi (x7)), some (vi (x8)), some (vi (x9)), some (vi (x10)), some (vi (x19))] [vi (x22)] (ev_emb m14) Q := by
    refine ev_istore_5 (pc := 136) dX10_wants_136 (by decide) rfl ?_
    refine ev_aload_0 (pc := 138) dX10_wants_138 ?_
    refine ev_iload_1 (pc := 139) dX10_wants_139 ?_
    refine ev_bipush (pc := 140) (v := 8) dX10_wants_140 (by decide) ?_
    obtain ⟨x23, hx23, h⟩ := ev_bindE hN h
    refine cl1_X10_276 (pc := 142) rfl dX10_wants_142 (by decide) (Nat.le_of_ble_eq_true rfl) (c_X10_of hx23) ?_
    refine ev_iconst (pc := 145) (v := 1) dX10_wants_145 rfl ?_
    obtain ⟨x26, hx26, h⟩ := ev_letE h
    have hJ2 : ev_E G K_X10_wants B_X10_wants (0, 0) 168 [some (vr 10 (i6)), some (vi (x7)), some (vi (x8)), some (vi (x9)), some (vi (x10)), some (vi (x22))] [vi (x26)] (ev_emb m14) Q := by
      refine ev_istore_5 (pc := 168) dX10_wants_168 (by decide) rfl ?_
      refine ev_iload_2 (pc := 170) dX10_wants_170 ?_
      refine ev_aload_0 (pc := 171) dX10_wants_171 ?_
      refine ev_iload_1 (pc := 172) dX10_wants_172 ?_
      refine ev_iconst (pc := 173) (v := 5) dX10_wants_173 rfl ?_
      obtain ⟨x27, hx27, h⟩ := ev_bindE hN h
      refine cl1_X10_276 (pc := 174) rfl dX10_wants_174 (by decide) (Nat.le_of_ble_eq_true rfl) (c_X10_of hx27) ?_
      obtain ⟨x29, hx29, h⟩ := ev_letE h
      have hJ1 : ev_E G K_X10_wants B_X10_wants (0, 0) 188 [some (vr 10 (i6)), some (vi (x7)), some (vi (x8)), some (vi (x9)), some (vi (x10)), some (vi (x26))] [vi (x29)] (ev_emb m14) Q := by
        refine ev_istore_5 (pc := 188) dX10_wants_188 (by decide) rfl ?_
        refine ev_aload_0 (pc := 190) dX10_wants_190 ?_
        refine ev_iload_1 (pc := 191) dX10_wants_191 ?_
        refine ev_bipush (pc := 192) (v := 7) dX10_wants_192 (by decide) ?_
        obtain ⟨x30, hx30, h⟩ := ev_bindE hN h
        refine cl1_X10_276 (pc := 194) rfl dX10_wants_194 (by decide) (Nat.le_of_ble_eq_true rfl) (c_X10_of hx30) ?_
        refine ev_ifc_le (pc := 197) (tgt := 227) dX10_wants_197 (by decide) (fun c31 => ?_) (fun c31 => ?_)
        · replace h := ev_ifn h c31
          refine ev_iload_5 (pc := 227) dX10_wants_227 ?_
          exact ev_iret (pc := 229) dX10_wants_229 rfl rfl (hR _ _ h)
        · replace h := ev_ifp h c31
          refine ev_aload_0 (pc := 200) dX10_wants_200 ?_
          refine ev_bipush (pc := 201) (v := 100) dX10_wants_201 (by decide) ?_
          obtain ⟨p32, hp32, h⟩ := ev_bindE hN h
          refine cl1_X10_292 (pc := 203) rfl dX10_wants_203 (by decide) (Nat.le_of_ble_eq_true rfl) (c_X10_draw hp32) ?_
          refine ev_aload_0 (pc := 206) dX10_wants_206 ?_
          refine ev_iload_1 (pc := 207) dX10_wants_207 ?_
          refine ev_bipush (pc := 208) (v := 7) dX10_wants_208 (by decide) ?_
          obtain ⟨x33, hx33, h⟩ := ev_bindE hN h
          refine cl1_X10_276 (pc := 210) rfl dX10_wants_210 (by decide) (Nat.le_of_ble_eq_true rfl) (c_X10_of hx33) ?_
          refine ev_icc_ge (pc := 213) (tgt := 227) dX10_wants_213 (by decide) (fun c34 => ?_) (fun c34 => ?_)
          · replace h := ev_ifn h c34
            refine ev_iload_5 (pc := 227) dX10_wants_227 ?_
            exact ev_iret (pc := 229) dX10_wants_229 rfl rfl (hR _ _ h)
          · replace h := ev_ifp h c34
            refine ev_aload_0 (pc := 216) dX10_wants_216 ?_
            refine gt_X10_62 (pc := 217) rfl dX10_wants_217 ?_
            refine ev_aload_0 (pc := 220) dX10_wants_220 ?_
            refine gt_X10_240 (pc := 221) rfl dX10_wants_221 ?_
            obtain ⟨x35, hx35, h⟩ := ev_bindE hN h
            refine ev_iald1 (pc := 224) rfl (by decide) rfl hx35 dX10_wants_224 ?_
            refine ev_istore_5 (pc := 225) dX10_wants_225 (by decide) rfl ?_
            refine ev_iload_5 (pc := 227) dX10_wants_227 ?_
            exact ev_iret (pc := 229) dX10_wants_229 rfl rfl (hR _ _ h)
      refine ev_icc_gt (pc := 177) (tgt := 186) dX10_wants_177 (by decide) (fun c28 => ?_) (fun c28 => ?_)
      · refine ev_iload_5 (pc := 186) dX10_wants_186 ?_
        replace hx29 := (hx29.trans (if_pos c28))
        subst hx29
        exact hJ1
      · refine ev_iload_5 (pc := 180) dX10_wants_180 ?_
        refine ev_ineg (pc := 182) dX10_wants_182 ?_
        refine ev_goto (pc := 183) (tgt := 188) dX10_wants_183 (by decide) ?_
        replace hx29 := (hx29.trans (if_neg c28))
        subst hx29
        exact hJ1
    refine ev_icc_ne (pc := 146) (tgt := 166) dX10_wants_146 (by decide) (fun c24 => ?_) (fun c24 => ?_)
    · refine ev_iload_5 (pc := 166) dX10_wants_166 ?_
      replace hx26 := (hx26.trans (if_neg c24))
      subst hx26
      exact hJ2
    · refine ev_iload_4 (pc := 149) dX10_wants_149 ?_
      refine cl1_X10_261 (pc := 151) rfl dX10_wants_151 (by decide) (Nat.le_of_ble_eq_true rfl) (c_X10_signOf m14 x10) ?_
      refine ev_iload_3 (pc := 154) dX10_wants_154 ?_
      refine cl1_X10_261 (pc := 155) rfl dX10_wants_155 (by decide) (Nat.le_of_ble_eq_true rfl) (c_X10_signOf m14 x9) ?_
      refine ev_imul (pc := 158) dX10_wants_158 ?_
      refine ev_ifc_ge (pc := 159) (tgt := 166) dX10_wants_159 (by decide) (fun c25 => ?_) (fun c25 => ?_)
      · refine ev_iload_5 (pc := 166) dX10_wants_166 ?_
        replace hx26 := ((hx26.trans (if_pos c24)).trans (if_neg c25))
        subst hx26
        exact hJ2
      · refine ev_iconst (pc := 162) (v := 0) dX10_wants_162 rfl ?_
        refine ev_goto (pc := 163) (tgt := 168) dX10_wants_163 (by decide) ?_
        replace hx26 := ((hx26.trans (if_pos c24)).trans (if_pos c25))
        subst hx26
        exact hJ2
  refine ev_icc_gt (pc := 127) (tgt := 134) dX10_wants_127 (by decide) (fun c21 => ?_) (fun c21 => ?_)
  · refine ev_iload_5 (pc := 134) dX10_wants_134 ?_
    replace hx22 := (hx22.trans (if_pos c21))
    subst hx22
    exact hJ3
  · refine ev_iconst (pc := 130) (v := 0) dX10_wants_130 rfl ?_
    refine ev_goto (pc := 131) (tgt := 136) dX10_wants_131 (by decide) ?_
    replace hx22 := (hx22.trans (if_neg c21))
    subst hx22
    exact hJ3
set_option maxRecDepth 20000 in
set_option maxHeartbeats 4000000 in
theorem e_X10_wants {G : ev_G} {Q : Option ev_V → ev_M → Prop} {R : Option (Int32 × ev_m)} {mF : ev_m} (hR : ∀ (x0 : Int32) (m0 : ev_m), (some ((x0, m0))) = R → Q (some (vi x0)) (ev_emb m0)) (hN : none ≠ R) {i0 : Nat} {x1_ : Int32} (h : f_X10_wants mF i0 x1_ = R) : ev_E G K_X10_wants B_X10_wants (0, 0) 0 [some (vr 10 (i0)), some (vi (x1_)), none, none, none, none] [] (ev_emb mF) Q := by
  unfold f_X10_wants at h
  refine ev_aload_0 (pc := 0) dX10_wants_0 ?_
  refine gt_X10_240 (pc := 1) rfl dX10_wants_1 ?_
  refine ev_iconst (pc := 4) (v := 1) dX10_wants_4 rfl ?_
  refine ev_iadd (pc := 5) dX10_wants_5 ?_
  refine ev_aload_0 (pc := 6) dX10_wants_6 ?_
  refine gt_X10_53 (pc := 7) rfl dX10_wants_7 ?_
  refine ev_iload_1 (pc := 10) dX10_wants_10 ?_
  obtain ⟨x1, hx1, h⟩ := ev_bindE hN h
  refine ev_iald1 (pc := 11) rfl (by decide) rfl hx1 dX10_wants_11 ?_
  refine ev_isub (pc := 12) dX10_wants_12 ?_
  obtain ⟨x2, hx2, h⟩ := ev_letE h
  refine ev_topi (pc := 13) hx2 ?_
  refine ev_istore_2 (pc := 13) dX10_wants_13 (by decide) rfl ?_
  refine ev_aload_0 (pc := 14) dX10_wants_14 ?_
  refine ev_iload_1 (pc := 15) dX10_wants_15 ?_
  refine ev_iload_2 (pc := 16) dX10_wants_16 ?_
  obtain ⟨x3, hx3, h⟩ := ev_bindE hN h
  refine cl1_X10_283 (pc := 17) rfl dX10_wants_17 (by decide) (Nat.le_of_ble_eq_true rfl) (c_X10_sees hx3) ?_
  refine ev_istore_3 (pc := 20) dX10_wants_20 (by decide) rfl ?_
  refine ev_iload_2 (pc := 21) dX10_wants_21 ?_
  refine ev_iconst (pc := 22) (v := 1) dX10_wants_22 rfl ?_
  refine ev_icc_ne (pc := 23) (tgt := 30) dX10_wants_23 (by decide) (fun c4 => ?_) (fun c4 => ?_)
  · replace h := ev_ifn h c4
    refine ev_iload_3 (pc := 30) dX10_wants_30 ?_
    refine ev_aload_0 (pc := 31) dX10_wants_31 ?_
    refine gt_X10_47 (pc := 32) rfl dX10_wants_32 ?_
    refine ev_iload_1 (pc := 35) dX10_wants_35 ?_
    obtain ⟨x5, hx5, h⟩ := ev_bindE hN h
    refine ev_iald1 (pc := 36) rfl (by decide) rfl hx5 dX10_wants_36 ?_
    refine ev_isub (pc := 37) dX10_wants_37 ?_
    exact e_jn_X10_wants_38 hR hN h
  · replace h := ev_ifp h c4
    refine ev_iconst (pc := 26) (v := 0) dX10_wants_26 rfl ?_
    refine ev_goto (pc := 27) (tgt := 38) dX10_wants_27 (by decide) ?_
    exact e_jn_X10_wants_38 hR hN h
theorem c_X10_wants {G : ev_G} {mF : ev_m} {i0 : Nat} {x1_ : Int32} {r : Int32 × ev_m} (h : f_X10_wants mF i0 x1_ = some r) : ev_CF G K_X10_wants B_X10_wants [vr 10 (i0), vi (x1_)] mF (some (vi (r.1))) r.2 :=
  ev_Ct_of rfl rfl (Nat.le_of_ble_eq_true rfl) (e_X10_wants (R := some r) (fun x0 m0 q => by cases q; exact ⟨rfl, rfl⟩) (fun q => by cases q) h)
set_option maxRecDepth 20000 in
set_option maxHeartbeats 4000000 in
theorem e_jn_X10_tally_159 {G : ev_G} {Q : Option ev_V → ev_M → Prop} {R : Option (ev_m)} (hR : ∀ m0 : ev_m, (some (m0)) = R → Q none (ev_emb m0)) (hN : none ≠ R) {m23 : ev_m} {x21 : Int32} {x22 : Int32} (h : jn_X10_tally_159 m23 x21 x22 = R) : ev_E G K_X10_tally B_X10_tally (0, 0) 159 [none, none, none, none] [vi (x21), vi (x22), vr 49 (0)] (ev_emb m23) Q := by
  unfold jn_X10_tally_159 at h
  obtain ⟨m24, hm24, h⟩ := ev_bindE hN h
  refine ev_iast1 (pc := 159) rfl (by decide) (by decide) rfl hm24 dX10_tally_159 ?_
  exact ev_vret (pc := 160) dX10_tally_160 rfl (hR _ h)
set_option maxRecDepth 20000 in
set_option maxHeartbeats 4000000 in
theorem e_jn_X10_tally_109 {G : ev_G} {Q : Option ev_V → ev_M → Prop} {R : Option (ev_m)} (hR : ∀ m0 : ev_m, (some (m0)) = R → Q none (ev_emb m0)) (hN : none ≠ R) {m14 : ev_m} {i11 : Nat} {x12 : Int32} {x13 : Int32} (h : jn_X10_tally_109 m14 i11 x12 x13 = R) : ev_E G K_X10_tally B_X10_tally (0, 0) 109 [some (vr 10 (i11)), none, some (vi (x12)), some (vi (x13))] [] (ev_emb m14) Q := by
  unfold jn_X10_tally_109 at h
  refine ev_aload_0 (pc := 109) dX10_tally_109 ?_
  refine ev_iload_3 (pc := 110) dX10_tally_110 ?_
  obtain ⟨x16, hx16, h⟩ := ev_letE h
  have hJ1 : ev_E G K_X10_tally B_X10_tally (0, 0) 122 [some (vr 10 (i11)), none, some (vi (x12)), some (vi (x13))] [vi (x16), vr 10 (i11)] (ev_emb m14) Q := by
    obtain ⟨m17, hm17, h⟩ := ev_letE h
    refine pt_X10_264 (pc := 122) rfl dX10_tally_122 ?_
    refine ev_mem (pc := 125) hm17 ?_
    refine ev_aload_0 (pc := 125) dX10_tally_125 ?_
    refine gt_X10_68 (pc := 126) rfl dX10_tally_126 ?_
    refine ev_aload_0 (pc := 129) dX10_tally_129 ?_
    refine gt_X10_258 (pc := 130) rfl dX10_tally_130 ?_
    refine ev_iload_2 (pc := 133) dX10_tally_133 ?_
    refine ev_aload_0 (pc := 134) dX10_tally_134 ?_
    refine gt_X10_68 (pc := 135) rfl dX10_tally_135 ?_
    refine ev_aload_0 (pc := 138) dX10_tally_138 ?_
    refine gt_X10_258 (pc := 139) rfl dX10_tally_139 ?_
    obtain ⟨x18, hx18, h⟩ := ev_bindE hN h
    refine ev_iald1 (pc := 142) rfl (by decide) rfl hx18 dX10_tally_142 ?_
    refine ev_icc_le (pc := 143) (tgt := 150) dX10_tally_143 (by decide) (fun c19 => ?_) (fun c19 => ?_)
    · replace h := ev_ifn h c19
      refine ev_aload_0 (pc := 150) dX10_tally_150 ?_
      refine gt_X10_68 (pc := 151) rfl dX10_tally_151 ?_
      refine ev_aload_0 (pc := 154) dX10_tally_154 ?_
      refine gt_X10_258 (pc := 155) rfl dX10_tally_155 ?_
      obtain ⟨x20, hx20, h⟩ := ev_bindE hN h
      refine ev_iald1 (pc := 158) rfl (by decide) rfl hx20 dX10_tally_158 ?_
      refine ev_E.forget (L' := [none, none, none, none]) trivial ?_
      exact e_jn_X10_tally_159 hR hN h
    · replace h := ev_ifp h c19
      refine ev_iload_2 (pc := 146) dX10_tally_146 ?_
      refine ev_goto (pc := 147) (tgt := 159) dX10_tally_147 (by decide) ?_
      refine ev_E.forget (L' := [none, none, none, none]) trivial ?_
      exact e_jn_X10_tally_159 hR hN h
  refine ev_ifc_ne (pc := 111) (tgt := 121) dX10_tally_111 (by decide) (fun c15 => ?_) (fun c15 => ?_)
  · refine ev_iload_3 (pc := 121) dX10_tally_121 ?_
    replace hx16 := (hx16.trans (if_neg c15))
    subst hx16
    exact hJ1
  · refine ev_aload_0 (pc := 114) dX10_tally_114 ?_
    refine gt_X10_264 (pc := 115) rfl dX10_tally_115 ?_
    refine ev_goto (pc := 118) (tgt := 122) dX10_tally_118 (by decide) ?_
    replace hx16 := (hx16.trans (if_pos c15))
    subst hx16
    exact hJ1
set_option maxRecDepth 20000 in
set_option maxHeartbeats 4000000 in
theorem e_X10_tally {G : ev_G} {Q : Option ev_V → ev_M → Prop} {R : Option (ev_m)} {mF : ev_m} (hR : ∀ m0 : ev_m, (some (m0)) = R → Q none (ev_emb m0)) (hN : none ≠ R) {i0 : Nat} (h : f_X10_tally mF i0 = R) : ev_E G K_X10_tally B_X10_tally (0, 0) 0 [some (vr 10 (i0)), none, none, none] [] (ev_emb mF) Q := by
  unfold f_X10_tally at h
  refine ev_aload_0 (pc := 0) dX10_tally_0 ?_
  refine gt_X10_56 (pc := 1) rfl dX10_tally_1 ?_
  refine ev_aload_0 (pc := 4) dX10_tally_4 ?_
  refine gt_X10_240 (pc := 5) rfl dX10_tally_5 ?_
  obtain ⟨x1, hx1, h⟩ := ev_bindE hN h
  refine ev_iald1 (pc := 8) rfl (by decide) rfl hx1 dX10_tally_8 ?_
  refine ev_istore_1 (pc := 9) dX10_tally_9 (by decide) rfl ?_
  refine ev_iload_1 (pc := 10) dX10_tally_10 ?_
  refine cl1_X10_289 (pc := 11) rfl dX10_tally_11 (by decide) (Nat.le_of_ble_eq_true rfl) (c_X10_plain mF x1) ?_
  obtain ⟨x2, hx2, h⟩ := ev_letE h
  refine ev_topi (pc := 14) hx2 ?_
  refine ev_istore_2 (pc := 14) dX10_tally_14 (by decide) rfl ?_
  refine ev_aload_0 (pc := 15) dX10_tally_15 ?_
  refine ev_dup_r (pc := 16) dX10_tally_16 ?_
  refine gt_X10_243 (pc := 17) rfl dX10_tally_17 ?_
  refine ev_iload_2 (pc := 20) dX10_tally_20 ?_
  refine ev_i2l (pc := 21) dX10_tally_21 ?_
  refine ev_ladd (pc := 22) dX10_tally_22 ?_
  obtain ⟨m3, hm3, h⟩ := ev_letE h
  refine pt_X10_243 (pc := 23) rfl dX10_tally_23 ?_
  refine ev_mem (pc := 26) hm3 ?_
  refine ev_aload_0 (pc := 26) dX10_tally_26 ?_
  refine ev_dup_r (pc := 27) dX10_tally_27 ?_
  refine gt_X10_249 (pc := 28) rfl dX10_tally_28 ?_
  refine ev_iload_1 (pc := 31) dX10_tally_31 ?_
  refine ev_i2l (pc := 32) dX10_tally_32 ?_
  refine ev_iload_1 (pc := 33) dX10_tally_33 ?_
  refine ev_i2l (pc := 34) dX10_tally_34 ?_
  refine ev_lmul (pc := 35) dX10_tally_35 ?_
  refine ev_ldc2 (pc := 36) (v := 1000) kl_X10_298 dX10_tally_36 ?_
  refine ev_ldiv (pc := 39) dX10_tally_39 (by decide) ?_
  refine ev_ladd (pc := 40) dX10_tally_40 ?_
  obtain ⟨m4, hm4, h⟩ := ev_letE h
  refine pt_X10_249 (pc := 41) rfl dX10_tally_41 ?_
  refine ev_mem (pc := 44) hm4 ?_
  refine ev_aload_0 (pc := 44) dX10_tally_44 ?_
  refine ev_iload_2 (pc := 45) dX10_tally_45 ?_
  refine ev_aload_0 (pc := 46) dX10_tally_46 ?_
  refine gt_X10_252 (pc := 47) rfl dX10_tally_47 ?_
  obtain ⟨x6, hx6, h⟩ := ev_letE h
  have hJ2 : ev_E G K_X10_tally B_X10_tally (0, 0) 61 [some (vr 10 (i0)), some (vi (x1)), some (vi (x2)), none] [vi (x6), vr 10 (i0)] (ev_emb m4) Q := by
    obtain ⟨m7, hm7, h⟩ := ev_letE h
    refine pt_X10_252 (pc := 61) rfl dX10_tally_61 ?_
    refine ev_mem (pc := 64) hm7 ?_
    refine ev_aload_0 (pc := 64) dX10_tally_64 ?_
    refine ev_dup_r (pc := 65) dX10_tally_65 ?_
    refine gt_X10_255 (pc := 66) rfl dX10_tally_66 ?_
    refine ev_iload_1 (pc := 69) dX10_tally_69 ?_
    refine ev_i2l (pc := 70) dX10_tally_70 ?_
    refine ev_ladd (pc := 71) dX10_tally_71 ?_
    obtain ⟨m8, hm8, h⟩ := ev_letE h
    refine pt_X10_255 (pc := 72) rfl dX10_tally_72 ?_
    refine ev_mem (pc := 75) hm8 ?_
    refine ev_iload_1 (pc := 75) dX10_tally_75 ?_
    refine cl1_X10_261 (pc := 76) rfl dX10_tally_76 (by decide) (Nat.le_of_ble_eq_true rfl) (c_X10_signOf m8 x1) ?_
    obtain ⟨x9, hx9, h⟩ := ev_letE h
    refine ev_topi (pc := 79) hx9 ?_
    refine ev_istore_3 (pc := 79) dX10_tally_79 (by decide) rfl ?_
    refine ev_iload_3 (pc := 80) dX10_tally_80 ?_
    refine ev_aload_0 (pc := 81) dX10_tally_81 ?_
    refine gt_X10_264 (pc := 82) rfl dX10_tally_82 ?_
    refine ev_imul (pc := 85) dX10_tally_85 ?_
    refine ev_ifc_ge (pc := 86) (tgt := 109) dX10_tally_86 (by decide) (fun c10 => ?_) (fun c10 => ?_)
    · replace h := ev_ifn h c10
      refine ev_E.forget (L' := [some (vr 10 (i0)), none, some (vi (x2)), some (vi (x9))]) ⟨rfl, ⟨rfl, ⟨rfl, trivial⟩⟩⟩ ?_
      exact e_jn_X10_tally_109 hR hN h
    · replace h := ev_ifp h c10
      refine ev_aload_0 (pc := 89) dX10_tally_89 ?_
      refine ev_dup_r (pc := 90) dX10_tally_90 ?_
      refine gt_X10_258 (pc := 91) rfl dX10_tally_91 ?_
      refine ev_iconst (pc := 94) (v := 1) dX10_tally_94 rfl ?_
      refine ev_iadd (pc := 95) dX10_tally_95 ?_
      obtain ⟨m25, hm25, h⟩ := ev_letE h
      refine pt_X10_258 (pc := 96) rfl dX10_tally_96 ?_
      refine ev_mem (pc := 99) hm25 ?_
      refine ev_aload_0 (pc := 99) dX10_tally_99 ?_
      refine gt_X10_68 (pc := 100) rfl dX10_tally_100 ?_
      refine ev_aload_0 (pc := 103) dX10_tally_103 ?_
      refine gt_X10_258 (pc := 104) rfl dX10_tally_104 ?_
      refine ev_iconst (pc := 107) (v := 0) dX10_tally_107 rfl ?_
      obtain ⟨m26, hm26, h⟩ := ev_bindE hN h
      refine ev_iast1 (pc := 108) rfl (by decide) (by decide) rfl hm26 dX10_tally_108 ?_
      refine ev_E.forget (L' := [some (vr 10 (i0)), none, some (vi (x2)), some (vi (x9))]) ⟨rfl, ⟨rfl, ⟨rfl, trivial⟩⟩⟩ ?_
      exact e_jn_X10_tally_109 hR hN h
  refine ev_icc_le (pc := 50) (tgt := 57) dX10_tally_50 (by decide) (fun c5 => ?_) (fun c5 => ?_)
  · refine ev_aload_0 (pc := 57) dX10_tally_57 ?_
    refine gt_X10_252 (pc := 58) rfl dX10_tally_58 ?_
    replace hx6 := (hx6.trans (if_neg c5))
    subst hx6
    exact hJ2
  · refine ev_iload_2 (pc := 53) dX10_tally_53 ?_
    refine ev_goto (pc := 54) (tgt := 61) dX10_tally_54 (by decide) ?_
    replace hx6 := (hx6.trans (if_pos c5))
    subst hx6
    exact hJ2
theorem c_X10_tally {G : ev_G} {mF : ev_m} {i0 : Nat} {r : ev_m} (h : f_X10_tally mF i0 = some r) : ev_CF G K_X10_tally B_X10_tally [vr 10 (i0)] mF none r :=
  ev_Ct_of rfl rfl (Nat.le_of_ble_eq_true rfl) (e_X10_tally (R := some r) (fun m0 q => by cases q; exact ⟨rfl, rfl⟩) (fun q => by cases q) h)
set_option maxRecDepth 20000 in
set_option maxHeartbeats 4000000 in
theorem e_X10_pass {G : ev_G} {Q : Option ev_V → ev_M → Prop} {R : Option (ev_m)} {mF : ev_m} (hR : ∀ m0 : ev_m, (some (m0)) = R → Q none (ev_emb m0)) (hN : none ≠ R) {i0 : Nat} {x1_ : Int32} {x2_ : Int32} (h : f_X10_pass mF i0 x1_ x2_ = R) : ev_E G K_X10_pass B_X10_pass (0, 0) 0 [some (vr 10 (i0)), some (vi (x1_)), some (vi (x2_)), none, none, none, none, none] [] (ev_emb mF) Q := by
  unfold f_X10_pass at h
  refine ev_aload_0 (pc := 0) dX10_pass_0 ?_
  refine gt_X10_62 (pc := 1) rfl dX10_pass_1 ?_
  refine ev_aload_0 (pc := 4) dX10_pass_4 ?_
  refine gt_X10_240 (pc := 5) rfl dX10_pass_5 ?_
  obtain ⟨x1, hx1, h⟩ := ev_bindE hN h
  refine ev_iald1 (pc := 8) rfl (by decide) rfl hx1 dX10_pass_8 ?_
  refine ev_iload_1 (pc := 9) dX10_pass_9 ?_
  refine ev_aload_0 (pc := 10) dX10_pass_10 ?_
  refine gt_X10_62 (pc := 11) rfl dX10_pass_11 ?_
  refine ev_aload_0 (pc := 14) dX10_pass_14 ?_
  refine gt_X10_240 (pc := 15) rfl dX10_pass_15 ?_
  obtain ⟨x2, hx2, h⟩ := ev_bindE hN h
  refine ev_iald1 (pc := 18) rfl (by decide) rfl hx2 dX10_pass_18 ?_
  refine ev_isub (pc := 19) dX10_pass_19 ?_
  refine ev_aload_0 (pc := 20) dX10_pass_20 ?_
  refine gt_X10_41 (pc := 21) rfl dX10_pass_21 ?_
  refine ev_iconst (pc := 24) (v := 4) dX10_pass_24 rfl ?_
  refine ev_ialdS (pc := 25) (j := 4) rfl (by decide) (by decide) (vp_in_iff.mpr (by decide)) dX10_pass_25 ?_
  refine cl1_X10_286 (pc := 26) rfl dX10_pass_26 (by decide) (Nat.le_of_ble_eq_true rfl) (c_X10_within mF (x1_ - x2) (mF.1 40 0 4)) ?_
  refine ev_iadd (pc := 29) dX10_pass_29 ?_
  obtain ⟨x3, hx3, h⟩ := ev_letE h
  refine ev_topi (pc := 30) hx3 ?_
  refine ev_istore_3 (pc := 30) dX10_pass_30 (by decide) rfl ?_
  refine ev_aload_0 (pc := 31) dX10_pass_31 ?_
  refine gt_X10_56 (pc := 32) rfl dX10_pass_32 ?_
  refine ev_aload_0 (pc := 35) dX10_pass_35 ?_
  refine gt_X10_240 (pc := 36) rfl dX10_pass_36 ?_
  obtain ⟨x4, hx4, h⟩ := ev_bindE hN h
  refine ev_iald1 (pc := 39) rfl (by decide) rfl hx4 dX10_pass_39 ?_
  refine ev_istore_4 (pc := 40) dX10_pass_40 (by decide) rfl ?_
  refine ev_aload_0 (pc := 42) dX10_pass_42 ?_
  refine gt_X10_59 (pc := 43) rfl dX10_pass_43 ?_
  refine ev_aload_0 (pc := 46) dX10_pass_46 ?_
  refine gt_X10_240 (pc := 47) rfl dX10_pass_47 ?_
  obtain ⟨x5, hx5, h⟩ := ev_bindE hN h
  refine ev_iald1 (pc := 50) rfl (by decide) rfl hx5 dX10_pass_50 ?_
  refine ev_istore_5 (pc := 51) dX10_pass_51 (by decide) rfl ?_
  refine ev_aload_0 (pc := 53) dX10_pass_53 ?_
  refine gt_X10_41 (pc := 54) rfl dX10_pass_54 ?_
  refine ev_bipush (pc := 57) (v := 11) dX10_pass_57 (by decide) ?_
  refine ev_aload_0 (pc := 59) dX10_pass_59 ?_
  refine gt_X10_240 (pc := 60) rfl dX10_pass_60 ?_
  refine ev_aload_0 (pc := 63) dX10_pass_63 ?_
  refine gt_X10_41 (pc := 64) rfl dX10_pass_64 ?_
  refine ev_bipush (pc := 67) (v := 10) dX10_pass_67 (by decide) ?_
  refine ev_ialdS (pc := 69) (j := 10) rfl (by decide) (by decide) (vp_in_iff.mpr (by decide)) dX10_pass_69 ?_
  obtain ⟨x6, hx6, h⟩ := ev_bindE hN h
  refine ev_irem1 (pc := 70) hx6 dX10_pass_70 ?_
  refine ev_iadd (pc := 71) dX10_pass_71 ?_
  obtain ⟨x7, hx7, h⟩ := ev_bindE hN h
  refine ev_iald1 (pc := 72) rfl (by decide) rfl hx7 dX10_pass_72 ?_
  refine ev_istore_6 (pc := 73) dX10_pass_73 (by decide) rfl ?_
  refine ev_iload_3 (pc := 75) dX10_pass_75 ?_
  refine ev_aload_0 (pc := 76) dX10_pass_76 ?_
  refine gt_X10_62 (pc := 77) rfl dX10_pass_77 ?_
  refine ev_aload_0 (pc := 80) dX10_pass_80 ?_
  refine gt_X10_240 (pc := 81) rfl dX10_pass_81 ?_
  obtain ⟨x8, hx8, h⟩ := ev_bindE hN h
  refine ev_iald1 (pc := 84) rfl (by decide) rfl hx8 dX10_pass_84 ?_
  refine ev_isub (pc := 85) dX10_pass_85 ?_
  refine cl1_X10_289 (pc := 86) rfl dX10_pass_86 (by decide) (Nat.le_of_ble_eq_true rfl) (c_X10_plain mF (x3 - x8)) ?_
  obtain ⟨x9, hx9, h⟩ := ev_letE h
  refine ev_topi (pc := 89) hx9 ?_
  refine ev_istore_7 (pc := 89) dX10_pass_89 (by decide) rfl ?_
  refine ev_aload_0 (pc := 91) dX10_pass_91 ?_
  refine ev_dup_r (pc := 92) dX10_pass_92 ?_
  refine gt_X10_240 (pc := 93) rfl dX10_pass_93 ?_
  refine ev_iconst (pc := 96) (v := 1) dX10_pass_96 rfl ?_
  refine ev_iadd (pc := 97) dX10_pass_97 ?_
  obtain ⟨m10, hm10, h⟩ := ev_letE h
  refine pt_X10_240 (pc := 98) rfl dX10_pass_98 ?_
  refine ev_mem (pc := 101) hm10 ?_
  refine ev_aload_0 (pc := 101) dX10_pass_101 ?_
  refine gt_X10_62 (pc := 102) rfl dX10_pass_102 ?_
  refine ev_aload_0 (pc := 105) dX10_pass_105 ?_
  refine gt_X10_240 (pc := 106) rfl dX10_pass_106 ?_
  refine ev_iload_3 (pc := 109) dX10_pass_109 ?_
  obtain ⟨m11, hm11, h⟩ := ev_bindE hN h
  refine ev_iast1 (pc := 110) rfl (by decide) (by decide) rfl hm11 dX10_pass_110 ?_
  refine ev_aload_0 (pc := 111) dX10_pass_111 ?_
  refine gt_X10_65 (pc := 112) rfl dX10_pass_112 ?_
  refine ev_aload_0 (pc := 115) dX10_pass_115 ?_
  refine gt_X10_240 (pc := 116) rfl dX10_pass_116 ?_
  refine ev_iload_2 (pc := 119) dX10_pass_119 ?_
  obtain ⟨m12, hm12, h⟩ := ev_bindE hN h
  refine ev_iast1 (pc := 120) rfl (by decide) (by decide) rfl hm12 dX10_pass_120 ?_
  refine ev_aload_0 (pc := 121) dX10_pass_121 ?_
  refine gt_X10_59 (pc := 122) rfl dX10_pass_122 ?_
  refine ev_aload_0 (pc := 125) dX10_pass_125 ?_
  refine gt_X10_240 (pc := 126) rfl dX10_pass_126 ?_
  refine ev_iload_5 (pc := 129) dX10_pass_129 ?_
  refine ev_iload_5 (pc := 131) dX10_pass_131 ?_
  refine ev_aload_0 (pc := 133) dX10_pass_133 ?_
  refine gt_X10_41 (pc := 134) rfl dX10_pass_134 ?_
  refine ev_iconst (pc := 137) (v := 1) dX10_pass_137 rfl ?_
  refine ev_ialdS (pc := 138) (j := 1) rfl (by decide) (by decide) (vp_in_iff.mpr (by decide)) dX10_pass_138 ?_
  refine ev_imul (pc := 139) dX10_pass_139 ?_
  refine ev_bipush (pc := 140) (v := 100) dX10_pass_140 (by decide) ?_
  refine ev_idiv (pc := 142) dX10_pass_142 (by decide) ?_
  refine ev_isub (pc := 143) dX10_pass_143 ?_
  refine ev_aload_0 (pc := 144) dX10_pass_144 ?_
  refine gt_X10_41 (pc := 145) rfl dX10_pass_145 ?_
  refine ev_iconst (pc := 148) (v := 0) dX10_pass_148 rfl ?_
  refine ev_ialdS (pc := 149) (j := 0) rfl (by decide) (by decide) (vp_in_iff.mpr (by decide)) dX10_pass_149 ?_
  refine ev_iload_3 (pc := 150) dX10_pass_150 ?_
  refine ev_imul (pc := 151) dX10_pass_151 ?_
  refine ev_iadd (pc := 152) dX10_pass_152 ?_
  refine ev_aload_0 (pc := 153) dX10_pass_153 ?_
  refine gt_X10_41 (pc := 154) rfl dX10_pass_154 ?_
  refine ev_bipush (pc := 157) (v := 6) dX10_pass_157 (by decide) ?_
  refine ev_ialdS (pc := 159) (j := 6) rfl (by decide) (by decide) (vp_in_iff.mpr (by decide)) dX10_pass_159 ?_
  refine ev_iadd (pc := 160) dX10_pass_160 ?_
  refine ev_iload_6 (pc := 161) dX10_pass_161 ?_
  refine ev_iadd (pc := 163) dX10_pass_163 ?_
  refine ev_aload_0 (pc := 164) dX10_pass_164 ?_
  refine gt_X10_41 (pc := 165) rfl dX10_pass_165 ?_
  refine ev_bipush (pc := 168) (v := 7) dX10_pass_168 (by decide) ?_
  refine ev_ialdS (pc := 170) (j := 7) rfl (by decide) (by decide) (vp_in_iff.mpr (by decide)) dX10_pass_170 ?_
  refine ev_iload_4 (pc := 171) dX10_pass_171 ?_
  refine ev_imul (pc := 173) dX10_pass_173 ?_
  refine ev_bipush (pc := 174) (v := 100) dX10_pass_174 (by decide) ?_
  refine ev_idiv (pc := 176) dX10_pass_176 (by decide) ?_
  refine ev_isub (pc := 177) dX10_pass_177 ?_
  refine ev_sipush (pc := 178) (v := 9999) dX10_pass_178 (by decide) ?_
  refine cl1_X10_286 (pc := 181) rfl dX10_pass_181 (by decide) (Nat.le_of_ble_eq_true rfl) (c_X10_within m12 (((((x5 - ((x5 * (m12.1 40 0 1)) / 100)) + ((m12.1 40 0 0) * x3)) + (m12.1 40 0 6)) + x7) - (((m12.1 40 0 7) * x4) / 100)) 9999) ?_
  obtain ⟨m13, hm13, h⟩ := ev_bindE hN h
  refine ev_iast1 (pc := 184) rfl (by decide) (by decide) rfl hm13 dX10_pass_184 ?_
  refine ev_aload_0 (pc := 185) dX10_pass_185 ?_
  refine gt_X10_56 (pc := 186) rfl dX10_pass_186 ?_
  refine ev_aload_0 (pc := 189) dX10_pass_189 ?_
  refine gt_X10_240 (pc := 190) rfl dX10_pass_190 ?_
  refine ev_iload_4 (pc := 193) dX10_pass_193 ?_
  refine ev_aload_0 (pc := 195) dX10_pass_195 ?_
  refine gt_X10_59 (pc := 196) rfl dX10_pass_196 ?_
  refine ev_aload_0 (pc := 199) dX10_pass_199 ?_
  refine gt_X10_240 (pc := 200) rfl dX10_pass_200 ?_
  obtain ⟨x14, hx14, h⟩ := ev_bindE hN h
  refine ev_iald1 (pc := 203) rfl (by decide) rfl hx14 dX10_pass_203 ?_
  refine ev_iadd (pc := 204) dX10_pass_204 ?_
  refine ev_sipush (pc := 205) (v := 18000) dX10_pass_205 (by decide) ?_
  refine cl1_X10_286 (pc := 208) rfl dX10_pass_208 (by decide) (Nat.le_of_ble_eq_true rfl) (c_X10_within m13 (x4 + x14) 18000) ?_
  obtain ⟨m15, hm15, h⟩ := ev_bindE hN h
  refine ev_iast1 (pc := 211) rfl (by decide) (by decide) rfl hm15 dX10_pass_211 ?_
  refine ev_aload_0 (pc := 212) dX10_pass_212 ?_
  refine ev_dup_r (pc := 213) dX10_pass_213 ?_
  refine gt_X10_246 (pc := 214) rfl dX10_pass_214 ?_
  refine ev_iload_7 (pc := 217) dX10_pass_217 ?_
  refine ev_iadd (pc := 219) dX10_pass_219 ?_
  obtain ⟨m16, hm16, h⟩ := ev_letE h
  refine pt_X10_246 (pc := 220) rfl dX10_pass_220 ?_
  refine ev_mem (pc := 223) hm16 ?_
  refine ev_aload_0 (pc := 223) dX10_pass_223 ?_
  refine ev_dup_r (pc := 224) dX10_pass_224 ?_
  refine gt_X10_267 (pc := 225) rfl dX10_pass_225 ?_
  refine ev_iload_7 (pc := 228) dX10_pass_228 ?_
  obtain ⟨x18, hx18, h⟩ := ev_letE h
  have hJ3 : ev_E G K_X10_pass B_X10_pass (0, 0) 238 [some (vr 10 (i0)), some (vi (x1_)), some (vi (x2_)), some (vi (x3)), some (vi (x4)), some (vi (x5)), some (vi (x7)), some (vi (x9))] [vi (x18), vi (m16.1 10 i0 40), vr 10 (i0)] (ev_emb m16) Q := by
    refine ev_iadd (pc := 238) dX10_pass_238 ?_
    obtain ⟨m19, hm19, h⟩ := ev_letE h
    refine pt_X10_267 (pc := 239) rfl dX10_pass_239 ?_
    refine ev_mem (pc := 242) hm19 ?_
    refine ev_aload_0 (pc := 242) dX10_pass_242 ?_
    refine ev_iload_7 (pc := 243) dX10_pass_243 ?_
    obtain ⟨x21, hx21, h⟩ := ev_letE h
    have hJ2 : ev_E G K_X10_pass B_X10_pass (0, 0) 258 [some (vr 10 (i0)), some (vi (x1_)), some (vi (x2_)), some (vi (x3)), some (vi (x4)), some (vi (x5)), some (vi (x7)), some (vi (x9))] [vi (x21), vr 10 (i0)] (ev_emb m19) Q := by
      obtain ⟨m22, hm22, h⟩ := ev_letE h
      refine pt_X10_270 (pc := 258) rfl dX10_pass_258 ?_
      refine ev_mem (pc := 261) hm22 ?_
      refine ev_aload_0 (pc := 261) dX10_pass_261 ?_
      refine ev_aload_0 (pc := 262) dX10_pass_262 ?_
      refine gt_X10_270 (pc := 263) rfl dX10_pass_263 ?_
      refine ev_aload_0 (pc := 266) dX10_pass_266 ?_
      refine gt_X10_273 (pc := 267) rfl dX10_pass_267 ?_
      obtain ⟨x24, hx24, h⟩ := ev_letE h
      have hJ1 : ev_E G K_X10_pass B_X10_pass (0, 0) 284 [some (vr 10 (i0)), some (vi (x1_)), some (vi (x2_)), some (vi (x3)), some (vi (x4)), some (vi (x5)), some (vi (x7)), some (vi (x9))] [vi (x24), vr 10 (i0)] (ev_emb m22) Q := by
        obtain ⟨m25, hm25, h⟩ := ev_letE h
        refine pt_X10_273 (pc := 284) rfl dX10_pass_284 ?_
        refine ev_mem (pc := 287) hm25 ?_
        refine ev_aload_0 (pc := 287) dX10_pass_287 ?_
        obtain ⟨m26, hm26, h⟩ := ev_bindE hN h
        refine cl0_X10_295 (pc := 288) rfl dX10_pass_288 (by decide) (Nat.le_of_ble_eq_true rfl) (c_X10_tally hm26) ?_
        exact ev_vret (pc := 291) dX10_pass_291 rfl (hR _ h)
      refine ev_icc_le (pc := 270) (tgt := 280) dX10_pass_270 (by decide) (fun c23 => ?_) (fun c23 => ?_)
      · refine ev_aload_0 (pc := 280) dX10_pass_280 ?_
        refine gt_X10_273 (pc := 281) rfl dX10_pass_281 ?_
        replace hx24 := (hx24.trans (if_neg c23))
        subst hx24
        exact hJ1
      · refine ev_aload_0 (pc := 273) dX10_pass_273 ?_
        refine gt_X10_270 (pc := 274) rfl dX10_pass_274 ?_
        refine ev_goto (pc := 277) (tgt := 284) dX10_pass_277 (by decide) ?_
        replace hx24 := (hx24.trans (if_pos c23))
        subst hx24
        exact hJ1
    refine ev_ifc_le (pc := 245) (tgt := 252) dX10_pass_245 (by decide) (fun c20 => ?_) (fun c20 => ?_)
    · refine ev_aload_0 (pc := 252) dX10_pass_252 ?_
      refine gt_X10_270 (pc := 253) rfl dX10_pass_253 ?_
      refine ev_iconst (pc := 256) (v := 1) dX10_pass_256 rfl ?_
      refine ev_iadd (pc := 257) dX10_pass_257 ?_
      replace hx21 := (hx21.trans (if_neg c20))
      subst hx21
      exact hJ2
    · refine ev_iconst (pc := 248) (v := 0) dX10_pass_248 rfl ?_
      refine ev_goto (pc := 249) (tgt := 258) dX10_pass_249 (by decide) ?_
      replace hx21 := (hx21.trans (if_pos c20))
      subst hx21
      exact hJ2
  refine ev_ifc_le (pc := 230) (tgt := 237) dX10_pass_230 (by decide) (fun c17 => ?_) (fun c17 => ?_)
  · refine ev_iconst (pc := 237) (v := 0) dX10_pass_237 rfl ?_
    replace hx18 := (hx18.trans (if_neg c17))
    subst hx18
    exact hJ3
  · refine ev_iconst (pc := 233) (v := 1) dX10_pass_233 rfl ?_
    refine ev_goto (pc := 234) (tgt := 238) dX10_pass_234 (by decide) ?_
    replace hx18 := (hx18.trans (if_pos c17))
    subst hx18
    exact hJ3
theorem c_X10_pass {G : ev_G} {mF : ev_m} {i0 : Nat} {x1_ : Int32} {x2_ : Int32} {r : ev_m} (h : f_X10_pass mF i0 x1_ x2_ = some r) : ev_CF G K_X10_pass B_X10_pass [vr 10 (i0), vi (x1_), vi (x2_)] mF none r :=
  ev_Ct_of rfl rfl (Nat.le_of_ble_eq_true rfl) (e_X10_pass (R := some r) (fun m0 q => by cases q; exact ⟨rfl, rfl⟩) (fun q => by cases q) h)
set_option maxRecDepth 20000 in
set_option maxHeartbeats 4000000 in
theorem e_lp_X10_steer_7 {G : ev_G} {Q : Option ev_V → ev_M → Prop} {R : Option (ev_m)} (hR : ∀ m0 : ev_m, (some (m0)) = R → Q none (ev_emb m0)) (hN : none ≠ R) {i2 : Nat} {x3 : Int32} {x4 : Int32} : ∀ (f : Nat) (x5 : Int32) (m6 : ev_m) (kx : ev_m → Option (ev_m)) (h : lp_X10_steer_7 i2 x3 x4 f x5 m6 kx = R) (hk : ∀ (m6' : ev_m), kx m6' = R → ev_E G K_X10_steer B_X10_steer (0, 0) 37 [none, none, none, none, none] [] (ev_emb m6') Q), ev_E G K_X10_steer B_X10_steer (0, 0) 7 [some (vr 10 (i2)), some (vi (x3)), some (vi (x4)), some (vi (x5)), none] [] (ev_emb m6) Q := by
  intro f
  induction f with
  | zero => intro x5 m6 kx h hk; rw [lp_X10_steer_7] at h; exact absurd h hN
  | succ f ih =>
    intro x5 m6 kx h hk
    rw [lp_X10_steer_7] at h
    refine ev_iload_3 (pc := 7) dX10_steer_7 ?_
    refine ev_iload_2 (pc := 8) dX10_steer_8 ?_
    refine ev_icc_ge (pc := 9) (tgt := 37) dX10_steer_9 (by decide) (fun c7 => ?_) (fun c7 => ?_)
    · replace h := ev_ifn h c7
      refine ev_E.forget (L' := [none, none, none, none, none]) trivial ?_
      exact hk _  h
    · replace h := ev_ifp h c7
      refine ev_aload_0 (pc := 12) dX10_steer_12 ?_
      refine ev_iload_1 (pc := 13) dX10_steer_13 ?_
      obtain ⟨p8, hp8, h⟩ := ev_bindE hN h
      refine cl1_X10_303 (pc := 14) rfl dX10_steer_14 (by decide) (Nat.le_of_ble_eq_true rfl) (c_X10_wants hp8) ?_
      obtain ⟨x9, hx9, h⟩ := ev_letE h
      refine ev_topi (pc := 17) hx9 ?_
      refine ev_istore_4 (pc := 17) dX10_steer_17 (by decide) rfl ?_
      refine ev_aload_0 (pc := 19) dX10_steer_19 ?_
      refine ev_iload_4 (pc := 20) dX10_steer_20 ?_
      refine ev_aload_0 (pc := 22) dX10_steer_22 ?_
      refine gt_X10_47 (pc := 23) rfl dX10_steer_23 ?_
      refine ev_iload_1 (pc := 26) dX10_steer_26 ?_
      obtain ⟨x10, hx10, h⟩ := ev_bindE hN h
      refine ev_iald1 (pc := 27) rfl (by decide) rfl hx10 dX10_steer_27 ?_
      obtain ⟨m11, hm11, h⟩ := ev_bindE hN h
      refine cl0_X10_306 (pc := 28) rfl dX10_steer_28 (by decide) (Nat.le_of_ble_eq_true rfl) (c_X10_pass hm11) ?_
      refine ev_iinc_3 (pc := 31) (y := x5 + 1) dX10_steer_31 rfl (by decide) rfl ?_
      refine ev_goto (pc := 34) (tgt := 7) dX10_steer_34 (by decide) ?_
      refine ev_E.forget (L' := [some (vr 10 (i2)), some (vi (x3)), some (vi (x4)), some (vi (x5 + 1)), none]) ⟨rfl, ⟨rfl, ⟨rfl, ⟨rfl, trivial⟩⟩⟩⟩ ?_
      exact ih _ _ kx h hk
set_option maxRecDepth 20000 in
set_option maxHeartbeats 4000000 in
theorem e_X10_steer {G : ev_G} {Q : Option ev_V → ev_M → Prop} {R : Option (ev_m)} {mF : ev_m} (hR : ∀ m0 : ev_m, (some (m0)) = R → Q none (ev_emb m0)) (hN : none ≠ R) {i0 : Nat} {x1_ : Int32} {x2_ : Int32} (h : f_X10_steer mF i0 x1_ x2_ = R) : ev_E G K_X10_steer B_X10_steer (0, 0) 0 [some (vr 10 (i0)), some (vi (x1_)), some (vi (x2_)), none, none] [] (ev_emb mF) Q := by
  unfold f_X10_steer at h
  refine ev_aload_0 (pc := 0) dX10_steer_0 ?_
  refine ev_iload_1 (pc := 1) dX10_steer_1 ?_
  obtain ⟨m1, hm1, h⟩ := ev_bindE hN h
  refine cl0_X10_300 (pc := 2) rfl dX10_steer_2 (by decide) (Nat.le_of_ble_eq_true rfl) (c_X10_takes hm1) ?_
  refine ev_iconst (pc := 5) (v := 0) dX10_steer_5 rfl ?_
  refine ev_istore_3 (pc := 6) dX10_steer_6 (by decide) rfl ?_
  refine e_lp_X10_steer_7 hR hN 4000 _ _ _ h (fun m12 h => ?_)
  exact ev_vret (pc := 37) dX10_steer_37 rfl (hR _ h)
theorem c_X10_steer {G : ev_G} {mF : ev_m} {i0 : Nat} {x1_ : Int32} {x2_ : Int32} {r : ev_m} (h : f_X10_steer mF i0 x1_ x2_ = some r) : ev_CF G K_X10_steer B_X10_steer [vr 10 (i0), vi (x1_), vi (x2_)] mF none r :=
  ev_Ct_of rfl rfl (Nat.le_of_ble_eq_true rfl) (e_X10_steer (R := some r) (fun m0 q => by cases q; exact ⟨rfl, rfl⟩) (fun q => by cases q) h)
set_option maxRecDepth 20000 in
set_option maxHeartbeats 4000000 in
theorem e_lp_X10_runBy_19 {G : ev_G} {Q : Option ev_V → ev_M → Prop} {R : Option (ev_m)} (hR : ∀ m0 : ev_m, (some (m0)) = R → Q none (ev_emb m0)) (hN : none ≠ R) {i3 : Nat} {x4 : Int32} : ∀ (f : Nat) (x5 : Int32) (m6 : ev_m) (kx : ev_m → Option (ev_m)) (h : lp_X10_runBy_19 i3 x4 f x5 m6 kx = R) (hk : ∀ (m6' : ev_m), kx m6' = R → ev_E G K_X10_runBy B_X10_runBy (0, 0) 37 [none, none, none, none, none] [] (ev_emb m6') Q), ev_E G K_X10_runBy B_X10_runBy (0, 0) 19 [some (vr 10 (i3)), none, none, some (vi (x4)), some (vi (x5))] [] (ev_emb m6) Q := by
  intro f
  induction f with
  | zero => intro x5 m6 kx h hk; rw [lp_X10_runBy_19] at h; exact absurd h hN
  | succ f ih =>
    intro x5 m6 kx h hk
    rw [lp_X10_runBy_19] at h
    refine ev_iload_4 (pc := 19) dX10_runBy_19 ?_
    refine ev_iload_3 (pc := 21) dX10_runBy_21 ?_
    refine ev_icc_ge (pc := 22) (tgt := 37) dX10_runBy_22 (by decide) (fun c7 => ?_) (fun c7 => ?_)
    · replace h := ev_ifn h c7
      refine ev_E.forget (L' := [none, none, none, none, none]) trivial ?_
      exact hk _  h
    · replace h := ev_ifp h c7
      refine ev_aload_0 (pc := 25) dX10_runBy_25 ?_
      refine ev_iconst (pc := 26) (v := 0) dX10_runBy_26 rfl ?_
      refine ev_iconst (pc := 27) (v := 0) dX10_runBy_27 rfl ?_
      obtain ⟨m8, hm8, h⟩ := ev_bindE hN h
      refine cl0_X10_306 (pc := 28) rfl dX10_runBy_28 (by decide) (Nat.le_of_ble_eq_true rfl) (c_X10_pass hm8) ?_
      refine ev_iinc_4 (pc := 31) (y := x5 + 1) dX10_runBy_31 rfl (by decide) rfl ?_
      refine ev_goto (pc := 34) (tgt := 19) dX10_runBy_34 (by decide) ?_
      exact ih _ _ kx h hk
set_option maxRecDepth 20000 in
set_option maxHeartbeats 4000000 in
theorem e_X10_runBy {G : ev_G} {Q : Option ev_V → ev_M → Prop} {R : Option (ev_m)} {mF : ev_m} (hR : ∀ m0 : ev_m, (some (m0)) = R → Q none (ev_emb m0)) (hN : none ≠ R) {i0 : Nat} {x1_ : Int32} {x2_ : Int32} {x3_ : Int32} (h : f_X10_runBy mF i0 x1_ x2_ x3_ = R) : ev_E G K_X10_runBy B_X10_runBy (0, 0) 0 [some (vr 10 (i0)), some (vi (x1_)), some (vi (x2_)), some (vi (x3_)), none] [] (ev_emb mF) Q := by
  unfold f_X10_runBy at h
  refine ev_aload_0 (pc := 0) dX10_runBy_0 ?_
  refine ev_iload_2 (pc := 1) dX10_runBy_1 ?_
  obtain ⟨m1, hm1, h⟩ := ev_letE h
  refine cl0_X10_309 (pc := 2) (fr := 1) (lo := 20) (m' := m1) rfl dX10_runBy_2 (by decide) (Nat.le_of_ble_eq_true rfl) (by rw [hm1]; exact c_X10_begin mF i0 x2_) ?_
  refine ev_iload_1 (pc := 5) dX10_runBy_5 ?_
  refine ev_ifc_eq (pc := 6) (tgt := 16) dX10_runBy_6 (by decide) (fun c2 => ?_) (fun c2 => ?_)
  · replace h := ev_ifp h c2
    refine ev_iconst (pc := 16) (v := 0) dX10_runBy_16 rfl ?_
    refine ev_istore_4 (pc := 17) dX10_runBy_17 (by decide) rfl ?_
    refine ev_E.forget (L' := [some (vr 10 (i0)), none, none, some (vi (x3_)), some (vi (0))]) ⟨rfl, ⟨rfl, ⟨rfl, trivial⟩⟩⟩ ?_
    refine e_lp_X10_runBy_19 hR hN 4000 _ _ _ h (fun m9 h => ?_)
    exact ev_vret (pc := 37) dX10_runBy_37 rfl (hR _ h)
  · replace h := ev_ifn h c2
    refine ev_aload_0 (pc := 9) dX10_runBy_9 ?_
    refine ev_iconst (pc := 10) (v := 0) dX10_runBy_10 rfl ?_
    refine ev_iload_3 (pc := 11) dX10_runBy_11 ?_
    obtain ⟨m10, hm10, h⟩ := ev_bindE hN h
    refine cl0_X10_312 (pc := 12) rfl dX10_runBy_12 (by decide) (Nat.le_of_ble_eq_true rfl) (c_X10_steer hm10) ?_
    exact ev_vret (pc := 15) dX10_runBy_15 rfl (hR _ h)
theorem c_X10_runBy {G : ev_G} {mF : ev_m} {i0 : Nat} {x1_ : Int32} {x2_ : Int32} {x3_ : Int32} {r : ev_m} (h : f_X10_runBy mF i0 x1_ x2_ x3_ = some r) : ev_CF G K_X10_runBy B_X10_runBy [vr 10 (i0), vi (x1_), vi (x2_), vi (x3_)] mF none r :=
  ev_Ct_of rfl rfl (Nat.le_of_ble_eq_true rfl) (e_X10_runBy (R := some r) (fun m0 q => by cases q; exact ⟨rfl, rfl⟩) (fun q => by cases q) h)
set_option maxRecDepth 20000 in
set_option maxHeartbeats 4000000 in
theorem e_X10_cost {G : ev_G} {Q : Option ev_V → ev_M → Prop} {R : Int64} {mF : ev_m} (hR : ∀ x0 : Int64, x0 = R → Q (some (vl x0)) (ev_emb mF)) {i0 : Nat} (h : s_X10_cost mF i0 = R) : ev_E G K_X10_cost B_X10_cost (0, 0) 0 [some (vr 10 (i0))] [] (ev_emb mF) Q := by
  unfold s_X10_cost at h
  refine ev_aload_0 (pc := 0) dX10_cost_0 ?_
  refine gt_X10_243 (pc := 1) rfl dX10_cost_1 ?_
  refine ev_aload_0 (pc := 4) dX10_cost_4 ?_
  refine gt_X10_41 (pc := 5) rfl dX10_cost_5 ?_
  refine ev_iconst (pc := 8) (v := 5) dX10_cost_8 rfl ?_
  refine ev_ialdS (pc := 9) (j := 5) rfl (by decide) (by decide) (vp_in_iff.mpr (by decide)) dX10_cost_9 ?_
  refine ev_i2l (pc := 10) dX10_cost_10 ?_
  refine ev_aload_0 (pc := 11) dX10_cost_11 ?_
  refine gt_X10_246 (pc := 12) rfl dX10_cost_12 ?_
  refine ev_i2l (pc := 15) dX10_cost_15 ?_
  refine ev_lmul (pc := 16) dX10_cost_16 ?_
  refine ev_ladd (pc := 17) dX10_cost_17 ?_
  exact ev_lret (pc := 18) dX10_cost_18 rfl (hR _ h)
theorem c_X10_cost {G : ev_G} (mF : ev_m) (i0 : Nat) : ev_CF G K_X10_cost B_X10_cost [vr 10 (i0)] mF (some (vl (s_X10_cost mF i0))) mF :=
  ev_Ct_of rfl rfl (Nat.le_of_ble_eq_true rfl) (e_X10_cost (R := s_X10_cost mF i0) (fun x0 q => ⟨by rw [← q], rfl⟩) rfl)
set_option maxRecDepth 20000 in
set_option maxHeartbeats 4000000 in
theorem e_X10_costBy {G : ev_G} {Q : Option ev_V → ev_M → Prop} {R : Option (Int64 × ev_m)} {mF : ev_m} (hR : ∀ (x0 : Int64) (m0 : ev_m), (some ((x0, m0))) = R → Q (some (vl x0)) (ev_emb m0)) (hN : none ≠ R) {i0 : Nat} {x1_ : Int32} (h : f_X10_costBy mF i0 x1_ = R) : ev_E G K_X10_costBy B_X10_costBy (0, 0) 0 [some (vr 10 (i0)), some (vi (x1_))] [] (ev_emb mF) Q := by
  unfold f_X10_costBy at h
  refine ev_aload_0 (pc := 0) dX10_costBy_0 ?_
  refine ev_iconst (pc := 1) (v := 1) dX10_costBy_1 rfl ?_
  refine ev_iconst (pc := 2) (v := 0) dX10_costBy_2 rfl ?_
  refine ev_iload_1 (pc := 3) dX10_costBy_3 ?_
  obtain ⟨m1, hm1, h⟩ := ev_bindE hN h
  refine cl0_X10_315 (pc := 4) rfl dX10_costBy_4 (by decide) (Nat.le_of_ble_eq_true rfl) (c_X10_runBy hm1) ?_
  refine ev_aload_0 (pc := 7) dX10_costBy_7 ?_
  refine cl1_X10_319 (pc := 8) rfl dX10_costBy_8 (by decide) (Nat.le_of_ble_eq_true rfl) (c_X10_cost m1 i0) ?_
  exact ev_lret (pc := 11) dX10_costBy_11 rfl (hR _ _ h)
theorem c_X10_costBy {G : ev_G} {mF : ev_m} {i0 : Nat} {x1_ : Int32} {r : Int64 × ev_m} (h : f_X10_costBy mF i0 x1_ = some r) : ev_CF G K_X10_costBy B_X10_costBy [vr 10 (i0), vi (x1_)] mF (some (vl (r.1))) r.2 :=
  ev_Ct_of rfl rfl (Nat.le_of_ble_eq_true rfl) (e_X10_costBy (R := some r) (fun x0 m0 q => by cases q; exact ⟨rfl, rfl⟩) (fun q => by cases q) h)
set_option maxRecDepth 20000 in
set_option maxHeartbeats 4000000 in
theorem e_X10_grows {G : ev_G} {Q : Option ev_V → ev_M → Prop} {R : Option (Bool)} {mF : ev_m} (hR : ∀ x0 : Bool, (some (x0)) = R → Q (some (vi (bi x0))) (ev_emb mF)) (hN : none ≠ R) {i0 : Nat} (h : f_X10_grows mF i0 = R) : ev_E G K_X10_grows B_X10_grows (0, 0) 0 [some (vr 10 (i0))] [] (ev_emb mF) Q := by
  unfold f_X10_grows at h
  refine ev_aload_0 (pc := 0) dX10_grows_0 ?_
  refine gt_X10_258 (pc := 1) rfl dX10_grows_1 ?_
  refine ev_iconst (pc := 4) (v := 2) dX10_grows_4 rfl ?_
  refine ev_icc_lt (pc := 5) (tgt := 37) dX10_grows_5 (by decide) (fun c1 => ?_) (fun c1 => ?_)
  · replace h := ev_ifp h c1
    refine ev_iconst (pc := 37) (v := 0) dX10_grows_37 rfl ?_
    exact ev_iret (pc := 38) dX10_grows_38 rfl rfl (hR _ h)
  · replace h := ev_ifn h c1
    refine ev_aload_0 (pc := 8) dX10_grows_8 ?_
    refine gt_X10_68 (pc := 9) rfl dX10_grows_9 ?_
    refine ev_aload_0 (pc := 12) dX10_grows_12 ?_
    refine gt_X10_258 (pc := 13) rfl dX10_grows_13 ?_
    refine ev_iconst (pc := 16) (v := 1) dX10_grows_16 rfl ?_
    refine ev_isub (pc := 17) dX10_grows_17 ?_
    obtain ⟨x2, hx2, h⟩ := ev_bindE hN h
    refine ev_iald1 (pc := 18) rfl (by decide) rfl hx2 dX10_grows_18 ?_
    refine ev_aload_0 (pc := 19) dX10_grows_19 ?_
    refine gt_X10_68 (pc := 20) rfl dX10_grows_20 ?_
    refine ev_aload_0 (pc := 23) dX10_grows_23 ?_
    refine gt_X10_258 (pc := 24) rfl dX10_grows_24 ?_
    refine ev_iconst (pc := 27) (v := 2) dX10_grows_27 rfl ?_
    refine ev_isub (pc := 28) dX10_grows_28 ?_
    obtain ⟨x3, hx3, h⟩ := ev_bindE hN h
    refine ev_iald1 (pc := 29) rfl (by decide) rfl hx3 dX10_grows_29 ?_
    refine ev_icc_le (pc := 30) (tgt := 37) dX10_grows_30 (by decide) (fun c4 => ?_) (fun c4 => ?_)
    · replace h := ev_ifn h c4
      refine ev_iconst (pc := 37) (v := 0) dX10_grows_37 rfl ?_
      exact ev_iret (pc := 38) dX10_grows_38 rfl rfl (hR _ h)
    · replace h := ev_ifp h c4
      refine ev_iconst (pc := 33) (v := 1) dX10_grows_33 rfl ?_
      refine ev_goto (pc := 34) (tgt := 38) dX10_grows_34 (by decide) ?_
      exact ev_iret (pc := 38) dX10_grows_38 rfl rfl (hR _ h)
theorem c_X10_grows {G : ev_G} {mF : ev_m} {i0 : Nat} {r : Bool} (h : f_X10_grows mF i0 = some r) : ev_CF G K_X10_grows B_X10_grows [vr 10 (i0)] mF (some (vi (bi (r)))) mF :=
  ev_Ct_of rfl rfl (Nat.le_of_ble_eq_true rfl) (e_X10_grows (R := some r) (fun x0 q => by cases q; exact ⟨rfl, rfl⟩) (fun q => by cases q) h)
set_option maxRecDepth 20000 in
set_option maxHeartbeats 4000000 in
theorem e_jn_X10_lay_29 {G : ev_G} {Q : Option ev_V → ev_M → Prop} {R : Option (Bool × ev_m)} (hR : ∀ (x0 : Bool) (m0 : ev_m), (some ((x0, m0))) = R → Q (some (vi (bi x0))) (ev_emb m0)) (hN : none ≠ R) {m8 : ev_m} {i5 : Nat} {x6 : Int32} {x7 : Int32} (h : jn_X10_lay_29 m8 i5 x6 x7 = R) : ev_E G K_X10_lay B_X10_lay (0, 0) 29 [some (vr 10 (i5)), some (vi (x6)), some (vi (x7)), none] [] (ev_emb m8) Q := by
  unfold jn_X10_lay_29 at h
  refine ev_aload_0 (pc := 29) dX10_lay_29 ?_
  refine ev_iload_1 (pc := 30) dX10_lay_30 ?_
  obtain ⟨m9, hm9, h⟩ := ev_bindE hN h
  refine cl0_X10_323 (pc := 31) rfl dX10_lay_31 (by decide) (Nat.le_of_ble_eq_true rfl) (c_X10_layShip hm9) ?_
  refine ev_iload_2 (pc := 34) dX10_lay_34 ?_
  refine ev_iconst (pc := 35) (v := (-1)) dX10_lay_35 rfl ?_
  refine ev_icc_eq (pc := 36) (tgt := 45) dX10_lay_36 (by decide) (fun c10 => ?_) (fun c10 => ?_)
  · replace h := ev_ifp h c10
    refine ev_iconst (pc := 45) (v := 1) dX10_lay_45 rfl ?_
    exact ev_iret (pc := 46) dX10_lay_46 rfl rfl (hR _ _ h)
  · replace h := ev_ifn h c10
    refine ev_aload_0 (pc := 39) dX10_lay_39 ?_
    refine ev_iconst (pc := 40) (v := 0) dX10_lay_40 rfl ?_
    refine ev_iload_2 (pc := 41) dX10_lay_41 ?_
    obtain ⟨m11, hm11, h⟩ := ev_bindE hN h
    refine cl0_X10_326 (pc := 42) rfl dX10_lay_42 (by decide) (Nat.le_of_ble_eq_true rfl) (c_X10_layHand hm11) ?_
    refine ev_iconst (pc := 45) (v := 1) dX10_lay_45 rfl ?_
    exact ev_iret (pc := 46) dX10_lay_46 rfl rfl (hR _ _ h)
set_option maxRecDepth 20000 in
set_option maxHeartbeats 4000000 in
theorem e_X10_lay {G : ev_G} {Q : Option ev_V → ev_M → Prop} {R : Option (Bool × ev_m)} {mF : ev_m} (hR : ∀ (x0 : Bool) (m0 : ev_m), (some ((x0, m0))) = R → Q (some (vi (bi x0))) (ev_emb m0)) (hN : none ≠ R) {i0 : Nat} {x1_ : Int32} {x2_ : Int32} {x3_ : Int32} (h : f_X10_lay mF i0 x1_ x2_ x3_ = R) : ev_E G K_X10_lay B_X10_lay (0, 0) 0 [some (vr 10 (i0)), some (vi (x1_)), some (vi (x2_)), some (vi (x3_))] [] (ev_emb mF) Q := by
  unfold f_X10_lay at h
  refine ev_aload_0 (pc := 0) dX10_lay_0 ?_
  refine ev_iconst (pc := 1) (v := 0) dX10_lay_1 rfl ?_
  refine ev_iload_1 (pc := 2) dX10_lay_2 ?_
  obtain ⟨x1, hx1, h⟩ := ev_bindE hN h
  refine cl1_X10_226 (pc := 3) rfl dX10_lay_3 (by decide) (Nat.le_of_ble_eq_true rfl) (c_X10_is hx1) ?_
  refine ev_ifb_eq (pc := 6) (tgt := 27) dX10_lay_6 (by decide) (fun c2 => ?_) (fun c2 => ?_)
  · replace h := ev_ifn h c2
    refine ev_iconst (pc := 27) (v := 0) dX10_lay_27 rfl ?_
    exact ev_iret (pc := 28) dX10_lay_28 rfl rfl (hR _ _ h)
  · replace h := ev_ifp h c2
    refine ev_aload_0 (pc := 9) dX10_lay_9 ?_
    refine ev_iconst (pc := 10) (v := 1) dX10_lay_10 rfl ?_
    refine ev_iload_2 (pc := 11) dX10_lay_11 ?_
    obtain ⟨x3, hx3, h⟩ := ev_bindE hN h
    refine cl1_X10_226 (pc := 12) rfl dX10_lay_12 (by decide) (Nat.le_of_ble_eq_true rfl) (c_X10_is hx3) ?_
    refine ev_ifb_ne (pc := 15) (tgt := 29) dX10_lay_15 (by decide) (fun c4 => ?_) (fun c4 => ?_)
    · replace h := ev_ifp h c4
      refine ev_E.forget (L' := [some (vr 10 (i0)), some (vi (x1_)), some (vi (x2_)), none]) ⟨rfl, ⟨rfl, ⟨rfl, trivial⟩⟩⟩ ?_
      exact e_jn_X10_lay_29 hR hN h
    · replace h := ev_ifn h c4
      refine ev_iload_3 (pc := 18) dX10_lay_18 ?_
      refine ev_ifc_eq (pc := 19) (tgt := 27) dX10_lay_19 (by decide) (fun c12 => ?_) (fun c12 => ?_)
      · replace h := ev_ifp h c12
        refine ev_iconst (pc := 27) (v := 0) dX10_lay_27 rfl ?_
        exact ev_iret (pc := 28) dX10_lay_28 rfl rfl (hR _ _ h)
      · replace h := ev_ifn h c12
        refine ev_iload_2 (pc := 22) dX10_lay_22 ?_
        refine ev_iconst (pc := 23) (v := (-1)) dX10_lay_23 rfl ?_
        refine ev_icc_eq (pc := 24) (tgt := 29) dX10_lay_24 (by decide) (fun c13 => ?_) (fun c13 => ?_)
        · replace h := ev_ifp h c13
          refine ev_E.forget (L' := [some (vr 10 (i0)), some (vi (x1_)), some (vi (x2_)), none]) ⟨rfl, ⟨rfl, ⟨rfl, trivial⟩⟩⟩ ?_
          exact e_jn_X10_lay_29 hR hN h
        · replace h := ev_ifn h c13
          refine ev_iconst (pc := 27) (v := 0) dX10_lay_27 rfl ?_
          exact ev_iret (pc := 28) dX10_lay_28 rfl rfl (hR _ _ h)
theorem c_X10_lay {G : ev_G} {mF : ev_m} {i0 : Nat} {x1_ : Int32} {x2_ : Int32} {x3_ : Int32} {r : Bool × ev_m} (h : f_X10_lay mF i0 x1_ x2_ x3_ = some r) : ev_CF G K_X10_lay B_X10_lay [vr 10 (i0), vi (x1_), vi (x2_), vi (x3_)] mF (some (vi (bi (r.1)))) r.2 :=
  ev_Ct_of rfl rfl (Nat.le_of_ble_eq_true rfl) (e_X10_lay (R := some r) (fun x0 m0 q => by cases q; exact ⟨rfl, rfl⟩) (fun q => by cases q) h)
