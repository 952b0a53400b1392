/-! lifted methods -/
set_option maxRecDepth 20000 in
set_option maxHeartbeats 4000000 in
theorem e_X9_weary {G : ev_G} {Q : Option ev_V → ev_M → Prop} {R : Option (Int32 × ev_m)} {mF : ev_m} (hR : ∀ (x0 : Int32) (m0 : ev_m), (some ((x0, m0))) = R → Q (some (vi x0)) (ev_emb m0)) (hN : none ≠ R) {i0 : Nat} {x1_ : Int32} {x2_ : Int32} {x3_ : Int32} {x4_ : Int32} {x5_ : Int32} (h : f_X9_weary mF i0 x1_ x2_ x3_ x4_ x5_ = R) : ev_E G K_X9_weary B_X9_weary (0, 0) 0 [some (vr 0 (i0)), some (vi (x1_)), some (vi (x2_)), some (vi (x3_)), some (vi (x4_)), some (vi (x5_)), none] [] (ev_emb mF) Q := by
  unfold f_X9_weary at h
  refine ev_aload_0 (pc := 0) dX9_weary_0 ?_
  refine ev_iload_1 (pc := 1) dX9_weary_1 ?_
  refine ev_iload_2 (pc := 2) dX9_weary_2 ?_
  refine ev_iload_3 (pc := 3) dX9_weary_3 ?_
  obtain ⟨p1, hp1, h⟩ := ev_bindE hN h
  refine cl1_X9_155 (pc := 4) rfl dX9_weary_4 (by decide) (Nat.le_of_ble_eq_true rfl) (c_X9_ready hp1) ?_
  refine ev_ifb_eq (pc := 7) (tgt := 15) dX9_weary_7 (by decide) (fun c2 => ?_) (fun c2 => ?_)
  · replace h := ev_ifn h c2
    refine ev_iconst (pc := 15) (v := (-1)) dX9_weary_15 rfl ?_
    exact ev_iret (pc := 16) dX9_weary_16 rfl rfl (hR _ _ h)
  · replace h := ev_ifp h c2
    refine ev_iload_4 (pc := 10) dX9_weary_10 ?_
    refine ev_ifc_ge (pc := 12) (tgt := 17) dX9_weary_12 (by decide) (fun c3 => ?_) (fun c3 => ?_)
    · replace h := ev_ifn h c3
      refine ev_aload_0 (pc := 17) dX9_weary_17 ?_
      refine gt_X9_34 (pc := 18) rfl dX9_weary_18 ?_
      refine ev_aload_0 (pc := 21) dX9_weary_21 ?_
      refine gt_X9_41 (pc := 22) rfl dX9_weary_22 ?_
      refine ev_aload_0 (pc := 25) dX9_weary_25 ?_
      refine gt_X9_48 (pc := 26) rfl dX9_weary_26 ?_
      refine ev_iconst (pc := 29) (v := 0) dX9_weary_29 rfl ?_
      refine ev_iload_3 (pc := 30) dX9_weary_30 ?_
      obtain ⟨m4, hm4, h⟩ := ev_bindE hN h
      refine cl0_X9_189 (pc := 31) rfl dX9_weary_31 (by decide) (Nat.le_of_ble_eq_true rfl) (c_X8_sail hm4) ?_
      refine ev_iload_5 (pc := 34) dX9_weary_34 ?_
      refine ev_ifc_ne (pc := 36) (tgt := 49) dX9_weary_36 (by decide) (fun c5 => ?_) (fun c5 => ?_)
      · replace h := ev_ifn h c5
        refine ev_aload_0 (pc := 49) dX9_weary_49 ?_
        refine gt_X9_34 (pc := 50) rfl dX9_weary_50 ?_
        refine ev_iload_4 (pc := 53) dX9_weary_53 ?_
        obtain ⟨x6, hx6, h⟩ := ev_bindE hN h
        refine cl1_X9_229 (pc := 55) rfl dX9_weary_55 (by decide) (Nat.le_of_ble_eq_true rfl) (c_X8_latestBeyond hx6) ?_
        refine ev_istore_6 (pc := 58) dX9_weary_58 (by decide) rfl ?_
        refine ev_iload_6 (pc := 60) dX9_weary_60 ?_
        refine ev_iload_3 (pc := 62) dX9_weary_62 ?_
        refine ev_icc_ne (pc := 63) (tgt := 70) dX9_weary_63 (by decide) (fun c7 => ?_) (fun c7 => ?_)
        · replace h := ev_ifn h c7
          refine ev_iload_6 (pc := 70) dX9_weary_70 ?_
          exact ev_iret (pc := 72) dX9_weary_72 rfl rfl (hR _ _ h)
        · replace h := ev_ifp h c7
          refine ev_iconst (pc := 66) (v := (-1)) dX9_weary_66 rfl ?_
          refine ev_goto (pc := 67) (tgt := 72) dX9_weary_67 (by decide) ?_
          exact ev_iret (pc := 72) dX9_weary_72 rfl rfl (hR _ _ h)
      · replace h := ev_ifp h c5
        refine ev_aload_0 (pc := 39) dX9_weary_39 ?_
        refine gt_X9_34 (pc := 40) rfl dX9_weary_40 ?_
        refine ev_iload_4 (pc := 43) dX9_weary_43 ?_
        obtain ⟨x8, hx8, h⟩ := ev_bindE hN h
        refine cl1_X9_226 (pc := 45) rfl dX9_weary_45 (by decide) (Nat.le_of_ble_eq_true rfl) (c_X8_earliestBeyond hx8) ?_
        exact ev_iret (pc := 48) dX9_weary_48 rfl rfl (hR _ _ h)
    · replace h := ev_ifp h c3
      refine ev_iconst (pc := 15) (v := (-1)) dX9_weary_15 rfl ?_
      exact ev_iret (pc := 16) dX9_weary_16 rfl rfl (hR _ _ h)
theorem c_X9_weary {G : ev_G} {mF : ev_m} {i0 : Nat} {x1_ : Int32} {x2_ : Int32} {x3_ : Int32} {x4_ : Int32} {x5_ : Int32} {r : Int32 × ev_m} (h : f_X9_weary mF i0 x1_ x2_ x3_ x4_ x5_ = some r) : ev_CF G K_X9_weary B_X9_weary [vr 0 (i0), vi (x1_), vi (x2_), vi (x3_), vi (x4_), vi (x5_)] mF (some (vi (r.1))) r.2 :=
  ev_Ct_of rfl rfl (Nat.le_of_ble_eq_true rfl) (e_X9_weary (R := some r) (fun x0 m0 q => by cases q; exact ⟨rfl, rfl⟩) (fun q => by cases q) h)
set_option maxRecDepth 20000 in
set_option maxHeartbeats 4000000 in
theorem e_lp_X9_leastOfThree_11 {G : ev_G} {Q : Option ev_V → ev_M → Prop} {R : Option (Int32 × ev_m)} (hR : ∀ (x0 : Int32) (m0 : ev_m), (some ((x0, m0))) = R → Q (some (vi x0)) (ev_emb m0)) (hN : none ≠ R) {i1 : Nat} {x2 : Int32} {x3 : Int32} {x4 : Int32} : ∀ (f : Nat) (x5 : Int32) (y6 : Int64) (x7 : Int32) (m8 : ev_m) (kx : Int32 → ev_m → Option (Int32 × ev_m)) (h : lp_X9_leastOfThree_11 i1 x2 x3 x4 f x5 y6 x7 m8 kx = R) (hk : ∀ (x5' : Int32) (m8' : ev_m), kx x5' m8' = R → ev_E G K_X9_leastOfThree B_X9_leastOfThree (0, 0) 57 [none, none, none, none, some (vi (x5')), none, none, none, none, none] [] (ev_emb m8') Q), ev_E G K_X9_leastOfThree B_X9_leastOfThree (0, 0) 11 [some (vr 0 (i1)), some (vi (x2)), some (vi (x3)), some (vi (x4)), some (vi (x5)), some (vl (y6)), none, some (vi (x7)), none, none] [] (ev_emb m8) Q := by
  intro f
  induction f with
  | zero => intro x5 y6 x7 m8 kx h hk; rw [lp_X9_leastOfThree_11] at h; exact absurd h hN
  | succ f ih =>
    intro x5 y6 x7 m8 kx h hk
    rw [lp_X9_leastOfThree_11] at h
    refine ev_iload_7 (pc := 11) dX9_leastOfThree_11 ?_
    refine ev_iconst (pc := 13) (v := 1) dX9_leastOfThree_13 rfl ?_
    refine ev_icc_gt (pc := 14) (tgt := 57) dX9_leastOfThree_14 (by decide) (fun c9 => ?_) (fun c9 => ?_)
    · replace h := ev_ifp h c9
      refine ev_E.forget (L' := [none, none, none, none, some (vi (x5)), none, none, none, none, none]) ⟨rfl, trivial⟩ ?_
      exact hk _ _  h
    · replace h := ev_ifn h c9
      refine ev_aload_0 (pc := 17) dX9_leastOfThree_17 ?_
      refine ev_iconst (pc := 18) (v := 0) dX9_leastOfThree_18 rfl ?_
      refine ev_iload_1 (pc := 19) dX9_leastOfThree_19 ?_
      refine ev_iload_7 (pc := 20) dX9_leastOfThree_20 ?_
      refine ev_iload_2 (pc := 22) dX9_leastOfThree_22 ?_
      refine ev_imul (pc := 23) dX9_leastOfThree_23 ?_
      refine ev_iadd (pc := 24) dX9_leastOfThree_24 ?_
      refine ev_iload_3 (pc := 25) dX9_leastOfThree_25 ?_
      obtain ⟨p10, hp10, h⟩ := ev_bindE hN h
      refine cl1_X9_167 (pc := 26) rfl dX9_leastOfThree_26 (by decide) (Nat.le_of_ble_eq_true rfl) (c_X9_costWith hp10) ?_
      obtain ⟨y11, hy11, h⟩ := ev_letE h
      refine ev_topl (pc := 29) hy11 ?_
      refine ev_lstore_8 (pc := 29) dX9_leastOfThree_29 (by decide) rfl ?_
      refine ev_lload_8 (pc := 31) dX9_leastOfThree_31 ?_
      refine ev_lload_5 (pc := 33) dX9_leastOfThree_33 ?_
      obtain ⟨x13, hx13, h⟩ := ev_letE h
      obtain ⟨y14, hy14, h⟩ := ev_letE h
      have hJ1 : ev_E G K_X9_leastOfThree B_X9_leastOfThree (0, 0) 51 [some (vr 0 (i1)), some (vi (x2)), some (vi (x3)), some (vi (x4)), some (vi (x13)), some (vl (y14)), none, some (vi (x7)), some (vl (y11)), none] [] (ev_emb p10.2) Q := by
        refine ev_iinc_7 (pc := 51) (y := x7 + 1) dX9_leastOfThree_51 rfl (by decide) rfl ?_
        refine ev_goto (pc := 54) (tgt := 11) dX9_leastOfThree_54 (by decide) ?_
        refine ev_E.forget (L' := [some (vr 0 (i1)), some (vi (x2)), some (vi (x3)), some (vi (x4)), some (vi (x13)), some (vl (y14)), none, some (vi (x7 + 1)), none, none]) ⟨rfl, ⟨rfl, ⟨rfl, ⟨rfl, ⟨rfl, ⟨rfl, ⟨rfl, trivial⟩⟩⟩⟩⟩⟩⟩ ?_
        exact ih _ _ _ _ kx h hk
      refine ev_lcc_ge (pc := 35) (tgt := 51) dX9_leastOfThree_35 dX9_leastOfThree_36 (by decide) (fun c12 => ?_) (fun c12 => ?_)
      · replace hx13 := (hx13.trans (if_neg c12))
        replace hy14 := (hy14.trans (if_neg c12))
        subst hx13
        subst hy14
        exact hJ1
      · refine ev_lload_8 (pc := 39) dX9_leastOfThree_39 ?_
        refine ev_lstore_5 (pc := 41) dX9_leastOfThree_41 (by decide) rfl ?_
        refine ev_iload_1 (pc := 43) dX9_leastOfThree_43 ?_
        refine ev_iload_7 (pc := 44) dX9_leastOfThree_44 ?_
        refine ev_iload_2 (pc := 46) dX9_leastOfThree_46 ?_
        refine ev_imul (pc := 47) dX9_leastOfThree_47 ?_
        refine ev_iadd (pc := 48) dX9_leastOfThree_48 ?_
        refine ev_istore_4 (pc := 49) dX9_leastOfThree_49 (by decide) rfl ?_
        replace hx13 := (hx13.trans (if_pos c12))
        replace hy14 := (hy14.trans (if_pos c12))
        subst hx13
        subst hy14
        exact hJ1
set_option maxRecDepth 20000 in
set_option maxHeartbeats 4000000 in
theorem e_X9_leastOfThree {G : ev_G} {Q : Option ev_V → ev_M → Prop} {R : Option (Int32 × ev_m)} {mF : ev_m} (hR : ∀ (x0 : Int32) (m0 : ev_m), (some ((x0, m0))) = R → Q (some (vi x0)) (ev_emb m0)) (hN : none ≠ R) {i0 : Nat} {x1_ : Int32} {x2_ : Int32} {x3_ : Int32} (h : f_X9_leastOfThree mF i0 x1_ x2_ x3_ = R) : ev_E G K_X9_leastOfThree B_X9_leastOfThree (0, 0) 0 [some (vr 0 (i0)), some (vi (x1_)), some (vi (x2_)), some (vi (x3_)), none, none, none, none, none, none] [] (ev_emb mF) Q := by
  unfold f_X9_leastOfThree at h
  refine ev_iload_1 (pc := 0) dX9_leastOfThree_0 ?_
  refine ev_istore_4 (pc := 1) dX9_leastOfThree_1 (by decide) rfl ?_
  refine ev_ldc2 (pc := 3) (v := 9223372036854775807) kl_X9_165 dX9_leastOfThree_3 ?_
  refine ev_lstore_5 (pc := 6) dX9_leastOfThree_6 (by decide) rfl ?_
  refine ev_iconst (pc := 8) (v := (-1)) dX9_leastOfThree_8 rfl ?_
  refine ev_istore_7 (pc := 9) dX9_leastOfThree_9 (by decide) rfl ?_
  refine e_lp_X9_leastOfThree_11 hR hN 4000 _ _ _ _ _ h (fun x15 m16 h => ?_)
  refine ev_iload_4 (pc := 57) dX9_leastOfThree_57 ?_
  exact ev_iret (pc := 59) dX9_leastOfThree_59 rfl rfl (hR _ _ h)
theorem c_X9_leastOfThree {G : ev_G} {mF : ev_m} {i0 : Nat} {x1_ : Int32} {x2_ : Int32} {x3_ : Int32} {r : Int32 × ev_m} (h : f_X9_leastOfThree mF i0 x1_ x2_ x3_ = some r) : ev_CF G K_X9_leastOfThree B_X9_leastOfThree [vr 0 (i0), vi (x1_), vi (x2_), vi (x3_)] mF (some (vi (r.1))) r.2 :=
  ev_Ct_of rfl rfl (Nat.le_of_ble_eq_true rfl) (e_X9_leastOfThree (R := some r) (fun x0 m0 q => by cases q; exact ⟨rfl, rfl⟩) (fun q => by cases q) h)
set_option maxRecDepth 20000 in
set_option maxHeartbeats 4000000 in
theorem e_lp_X9_tries_63 {G : ev_G} {Q : Option ev_V → ev_M → Prop} {R : Option (Int64 × ev_m)} (hR : ∀ (x0 : Int64) (m0 : ev_m), (some ((x0, m0))) = R → Q (some (vl x0)) (ev_emb m0)) (hN : none ≠ R) {i10 : Nat} {x11 : Int32} {x12 : Int32} : ∀ (f : Nat) (y13 : Int64) (x14 : Int32) (m15 : ev_m) (kx : Int64 → ev_m → Option (Int64 × ev_m)) (h : lp_X9_tries_63 i10 x11 x12 f y13 x14 m15 kx = R) (hk : ∀ (y13' : Int64) (m15' : ev_m), kx y13' m15' = R → ev_E G K_X9_tries B_X9_tries (0, 0) 91 [some (vr 0 (i10)), none, none, some (vi (x11)), none, some (vi (x12)), some (vl (y13')), none, none] [] (ev_emb m15') Q), ev_E G K_X9_tries B_X9_tries (0, 0) 63 [some (vr 0 (i10)), none, none, some (vi (x11)), none, some (vi (x12)), some (vl (y13)), none, some (vi (x14))] [] (ev_emb m15) Q := by
  intro f
  induction f with
  | zero => intro y13 x14 m15 kx h hk; rw [lp_X9_tries_63] at h; exact absurd h hN
  | succ f ih =>
    intro y13 x14 m15 kx h hk
    rw [lp_X9_tries_63] at h
    refine ev_iload_8 (pc := 63) dX9_tries_63 ?_
    refine ev_bipush (pc := 65) (v := 63) dX9_tries_65 (by decide) ?_
    refine ev_icc_gt (pc := 67) (tgt := 91) dX9_tries_67 (by decide) (fun c16 => ?_) (fun c16 => ?_)
    · replace h := ev_ifp h c16
      refine ev_E.forget (L' := [some (vr 0 (i10)), none, none, some (vi (x11)), none, some (vi (x12)), some (vl (y13)), none, none]) ⟨rfl, ⟨rfl, ⟨rfl, ⟨rfl, trivial⟩⟩⟩⟩ ?_
      exact hk _ _  h
    · replace h := ev_ifn h c16
      refine ev_lload_6 (pc := 70) dX9_tries_70 ?_
      refine ev_aload_0 (pc := 72) dX9_tries_72 ?_
      refine ev_iconst (pc := 73) (v := 0) dX9_tries_73 rfl ?_
      refine ev_iload_8 (pc := 74) dX9_tries_74 ?_
      refine ev_iload_3 (pc := 76) dX9_tries_76 ?_
      obtain ⟨p17, hp17, h⟩ := ev_bindE hN h
      refine cl1_X9_167 (pc := 77) rfl dX9_tries_77 (by decide) (Nat.le_of_ble_eq_true rfl) (c_X9_costWith hp17) ?_
      refine ev_mminl (pc := 80) mminl_X9_236 mminl_w (by decide) (Nat.le_of_ble_eq_true rfl) dX9_tries_80 ?_
      obtain ⟨y18, hy18, h⟩ := ev_letE h
      refine ev_topl (pc := 83) hy18 ?_
      refine ev_lstore_6 (pc := 83) dX9_tries_83 (by decide) rfl ?_
      refine ev_iinc_8 (pc := 85) (y := x14 + 1) dX9_tries_85 rfl (by decide) rfl ?_
      refine ev_goto (pc := 88) (tgt := 63) dX9_tries_88 (by decide) ?_
      exact ih _ _ _ kx h hk
set_option maxRecDepth 20000 in
set_option maxHeartbeats 4000000 in
theorem e_X9_tries {G : ev_G} {Q : Option ev_V → ev_M → Prop} {R : Option (Int64 × ev_m)} {mF : ev_m} (hR : ∀ (x0 : Int64) (m0 : ev_m), (some ((x0, m0))) = R → Q (some (vl x0)) (ev_emb m0)) (hN : none ≠ R) {i0 : Nat} {x1_ : Int32} {x2_ : Int32} {x3_ : Int32} {x4_ : Int32} (h : f_X9_tries mF i0 x1_ x2_ x3_ x4_ = R) : ev_E G K_X9_tries B_X9_tries (0, 0) 0 [some (vr 0 (i0)), some (vi (x1_)), some (vi (x2_)), some (vi (x3_)), some (vi (x4_)), none, none, none, none] [] (ev_emb mF) Q := by
  unfold f_X9_tries at h
  refine ev_aload_0 (pc := 0) dX9_tries_0 ?_
  refine ev_iload_1 (pc := 1) dX9_tries_1 ?_
  refine ev_iload_2 (pc := 2) dX9_tries_2 ?_
  refine ev_iload_3 (pc := 3) dX9_tries_3 ?_
  obtain ⟨p1, hp1, h⟩ := ev_bindE hN h
  refine cl1_X9_155 (pc := 4) rfl dX9_tries_4 (by decide) (Nat.le_of_ble_eq_true rfl) (c_X9_ready hp1) ?_
  refine ev_ifb_ne (pc := 7) (tgt := 14) dX9_tries_7 (by decide) (fun c2 => ?_) (fun c2 => ?_)
  · replace h := ev_ifp h c2
    refine ev_aload_0 (pc := 14) dX9_tries_14 ?_
    refine ev_bipush (pc := 15) (v := 32) dX9_tries_15 (by decide) ?_
    refine ev_bipush (pc := 17) (v := 16) dX9_tries_17 (by decide) ?_
    refine ev_iload_3 (pc := 19) dX9_tries_19 ?_
    obtain ⟨p3, hp3, h⟩ := ev_bindE hN h
    refine cl1_X9_232 (pc := 20) rfl dX9_tries_20 (by decide) (Nat.le_of_ble_eq_true rfl) (c_X9_leastOfThree hp3) ?_
    obtain ⟨x4, hx4, h⟩ := ev_letE h
    refine ev_topi (pc := 23) hx4 ?_
    refine ev_istore_5 (pc := 23) dX9_tries_23 (by decide) rfl ?_
    refine ev_aload_0 (pc := 25) dX9_tries_25 ?_
    refine ev_iload_5 (pc := 26) dX9_tries_26 ?_
    refine ev_bipush (pc := 28) (v := 8) dX9_tries_28 (by decide) ?_
    refine ev_iload_3 (pc := 30) dX9_tries_30 ?_
    obtain ⟨p5, hp5, h⟩ := ev_bindE hN h
    refine cl1_X9_232 (pc := 31) rfl dX9_tries_31 (by decide) (Nat.le_of_ble_eq_true rfl) (c_X9_leastOfThree hp5) ?_
    obtain ⟨x6, hx6, h⟩ := ev_letE h
    refine ev_topi (pc := 34) hx6 ?_
    refine ev_istore_5 (pc := 34) dX9_tries_34 (by decide) rfl ?_
    refine ev_aload_0 (pc := 36) dX9_tries_36 ?_
    refine ev_iload_5 (pc := 37) dX9_tries_37 ?_
    refine ev_iconst (pc := 39) (v := 4) dX9_tries_39 rfl ?_
    refine ev_iload_3 (pc := 40) dX9_tries_40 ?_
    obtain ⟨p7, hp7, h⟩ := ev_bindE hN h
    refine cl1_X9_232 (pc := 41) rfl dX9_tries_41 (by decide) (Nat.le_of_ble_eq_true rfl) (c_X9_leastOfThree hp7) ?_
    obtain ⟨x8, hx8, h⟩ := ev_letE h
    refine ev_topi (pc := 44) hx8 ?_
    refine ev_istore_5 (pc := 44) dX9_tries_44 (by decide) rfl ?_
    refine ev_iload_4 (pc := 46) dX9_tries_46 ?_
    refine ev_ifc_ne (pc := 48) (tgt := 55) dX9_tries_48 (by decide) (fun c9 => ?_) (fun c9 => ?_)
    · replace h := ev_ifn h c9
      refine ev_ldc2 (pc := 55) (v := 9223372036854775807) kl_X9_165 dX9_tries_55 ?_
      refine ev_lstore_6 (pc := 58) dX9_tries_58 (by decide) rfl ?_
      refine ev_iconst (pc := 60) (v := 0) dX9_tries_60 rfl ?_
      refine ev_istore_8 (pc := 61) dX9_tries_61 (by decide) rfl ?_
      refine ev_E.forget (L' := [some (vr 0 (i0)), none, none, some (vi (x3_)), none, some (vi (x8)), some (vl (9223372036854775807)), none, some (vi (0))]) ⟨rfl, ⟨rfl, ⟨rfl, ⟨rfl, ⟨rfl, trivial⟩⟩⟩⟩⟩ ?_
      refine e_lp_X9_tries_63 hR hN 4000 _ _ _ _ h (fun y19 m20 h => ?_)
      refine ev_aload_0 (pc := 91) dX9_tries_91 ?_
      refine ev_iconst (pc := 92) (v := 0) dX9_tries_92 rfl ?_
      refine ev_iload_5 (pc := 93) dX9_tries_93 ?_
      refine ev_iload_3 (pc := 95) dX9_tries_95 ?_
      obtain ⟨p21, hp21, h⟩ := ev_bindE hN h
      refine cl1_X9_167 (pc := 96) rfl dX9_tries_96 (by decide) (Nat.le_of_ble_eq_true rfl) (c_X9_costWith hp21) ?_
      refine ev_lload_6 (pc := 99) dX9_tries_99 ?_
      refine ev_lsub (pc := 101) dX9_tries_101 ?_
      exact ev_lret (pc := 102) dX9_tries_102 rfl (hR _ _ h)
    · replace h := ev_ifp h c9
      refine ev_iload_5 (pc := 51) dX9_tries_51 ?_
      refine ev_i2l (pc := 53) dX9_tries_53 ?_
      exact ev_lret (pc := 54) dX9_tries_54 rfl (hR _ _ h)
  · replace h := ev_ifn h c2
    refine ev_ldc2 (pc := 10) (v := (-1)) kl_X9_159 dX9_tries_10 ?_
    exact ev_lret (pc := 13) dX9_tries_13 rfl (hR _ _ h)
theorem c_X9_tries {G : ev_G} {mF : ev_m} {i0 : Nat} {x1_ : Int32} {x2_ : Int32} {x3_ : Int32} {x4_ : Int32} {r : Int64 × ev_m} (h : f_X9_tries mF i0 x1_ x2_ x3_ x4_ = some r) : ev_CF G K_X9_tries B_X9_tries [vr 0 (i0), vi (x1_), vi (x2_), vi (x3_), vi (x4_)] mF (some (vl (r.1))) r.2 :=
  ev_Ct_of rfl rfl (Nat.le_of_ble_eq_true rfl) (e_X9_tries (R := some r) (fun x0 m0 q => by cases q; exact ⟨rfl, rfl⟩) (fun q => by cases q) h)
set_option maxRecDepth 20000 in
set_option maxHeartbeats 4000000 in
theorem e_jn_X9_learnt_42 {G : ev_G} {Q : Option ev_V → ev_M → Prop} {R : Option (Int32 × ev_m)} (hR : ∀ (x0 : Int32) (m0 : ev_m), (some ((x0, m0))) = R → Q (some (vi x0)) (ev_emb m0)) (hN : none ≠ R) {m9 : ev_m} {i4 : Nat} {x5 : Int32} {x6 : Int32} {x7 : Int32} {y8 : Int64} (h : jn_X9_learnt_42 m9 i4 x5 x6 x7 y8 = R) : ev_E G K_X9_learnt B_X9_learnt (0, 0) 42 [some (vr 0 (i4)), some (vi (x5)), some (vi (x6)), some (vi (x7)), some (vl (y8)), none, none, none] [] (ev_emb m9) Q := by
  unfold jn_X9_learnt_42 at h
  refine ev_iload_1 (pc := 42) dX9_learnt_42 ?_
  refine ev_bipush (pc := 43) (v := 99) dX9_learnt_43 (by decide) ?_
  refine ev_icc_ge (pc := 45) (tgt := 67) dX9_learnt_45 (by decide) (fun c10 => ?_) (fun c10 => ?_)
  · replace h := ev_ifn h c10
    refine ev_iload_3 (pc := 67) dX9_learnt_67 ?_
    exact ev_iret (pc := 68) dX9_learnt_68 rfl rfl (hR _ _ h)
  · replace h := ev_ifp h c10
    refine ev_aload_0 (pc := 48) dX9_learnt_48 ?_
    refine ev_iconst (pc := 49) (v := 0) dX9_learnt_49 rfl ?_
    refine ev_iload_1 (pc := 50) dX9_learnt_50 ?_
    refine ev_iconst (pc := 51) (v := 1) dX9_learnt_51 rfl ?_
    refine ev_iadd (pc := 52) dX9_learnt_52 ?_
    refine ev_iload_2 (pc := 53) dX9_learnt_53 ?_
    obtain ⟨p11, hp11, h⟩ := ev_bindE hN h
    refine cl1_X9_167 (pc := 54) rfl dX9_learnt_54 (by decide) (Nat.le_of_ble_eq_true rfl) (c_X9_costWith hp11) ?_
    refine ev_lload_4 (pc := 57) dX9_learnt_57 ?_
    refine ev_lcc_ge (pc := 59) (tgt := 67) dX9_learnt_59 dX9_learnt_60 (by decide) (fun c12 => ?_) (fun c12 => ?_)
    · replace h := ev_ifn h c12
      refine ev_iload_3 (pc := 67) dX9_learnt_67 ?_
      exact ev_iret (pc := 68) dX9_learnt_68 rfl rfl (hR _ _ h)
    · replace h := ev_ifp h c12
      refine ev_iload_1 (pc := 63) dX9_learnt_63 ?_
      refine ev_iconst (pc := 64) (v := 1) dX9_learnt_64 rfl ?_
      refine ev_iadd (pc := 65) dX9_learnt_65 ?_
      obtain ⟨x13, hx13, h⟩ := ev_letE h
      refine ev_topi (pc := 66) hx13 ?_
      refine ev_istore_3 (pc := 66) dX9_learnt_66 (by decide) rfl ?_
      refine ev_iload_3 (pc := 67) dX9_learnt_67 ?_
      exact ev_iret (pc := 68) dX9_learnt_68 rfl rfl (hR _ _ h)
set_option maxRecDepth 20000 in
set_option maxHeartbeats 4000000 in
theorem e_X9_learnt {G : ev_G} {Q : Option ev_V → ev_M → Prop} {R : Option (Int32 × ev_m)} {mF : ev_m} (hR : ∀ (x0 : Int32) (m0 : ev_m), (some ((x0, m0))) = R → Q (some (vi x0)) (ev_emb m0)) (hN : none ≠ R) {i0 : Nat} {x1_ : Int32} {x2_ : Int32} (h : f_X9_learnt mF i0 x1_ x2_ = R) : ev_E G K_X9_learnt B_X9_learnt (0, 0) 0 [some (vr 0 (i0)), some (vi (x1_)), some (vi (x2_)), none, none, none, none, none] [] (ev_emb mF) Q := by
  unfold f_X9_learnt at h
  refine ev_iload_1 (pc := 0) dX9_learnt_0 ?_
  refine ev_istore_3 (pc := 1) dX9_learnt_1 (by decide) rfl ?_
  refine ev_aload_0 (pc := 2) dX9_learnt_2 ?_
  refine ev_iconst (pc := 3) (v := 0) dX9_learnt_3 rfl ?_
  refine ev_iload_1 (pc := 4) dX9_learnt_4 ?_
  refine ev_iload_2 (pc := 5) dX9_learnt_5 ?_
  obtain ⟨p1, hp1, h⟩ := ev_bindE hN h
  refine cl1_X9_167 (pc := 6) rfl dX9_learnt_6 (by decide) (Nat.le_of_ble_eq_true rfl) (c_X9_costWith hp1) ?_
  obtain ⟨y2, hy2, h⟩ := ev_letE h
  refine ev_topl (pc := 9) hy2 ?_
  refine ev_lstore_4 (pc := 9) dX9_learnt_9 (by decide) rfl ?_
  refine ev_iload_1 (pc := 11) dX9_learnt_11 ?_
  refine ev_ifc_le (pc := 12) (tgt := 42) dX9_learnt_12 (by decide) (fun c3 => ?_) (fun c3 => ?_)
  · replace h := ev_ifn h c3
    exact e_jn_X9_learnt_42 hR hN h
  · replace h := ev_ifp h c3
    refine ev_aload_0 (pc := 15) dX9_learnt_15 ?_
    refine ev_iconst (pc := 16) (v := 0) dX9_learnt_16 rfl ?_
    refine ev_iload_1 (pc := 17) dX9_learnt_17 ?_
    refine ev_iconst (pc := 18) (v := 1) dX9_learnt_18 rfl ?_
    refine ev_isub (pc := 19) dX9_learnt_19 ?_
    refine ev_iload_2 (pc := 20) dX9_learnt_20 ?_
    obtain ⟨p14, hp14, h⟩ := ev_bindE hN h
    refine cl1_X9_167 (pc := 21) rfl dX9_learnt_21 (by decide) (Nat.le_of_ble_eq_true rfl) (c_X9_costWith hp14) ?_
    obtain ⟨y15, hy15, h⟩ := ev_letE h
    refine ev_topl (pc := 24) hy15 ?_
    refine ev_lstore_6 (pc := 24) dX9_learnt_24 (by decide) rfl ?_
    refine ev_lload_6 (pc := 26) dX9_learnt_26 ?_
    refine ev_lload_4 (pc := 28) dX9_learnt_28 ?_
    obtain ⟨x17, hx17, h⟩ := ev_letE h
    obtain ⟨y18, hy18, h⟩ := ev_letE h
    have hJ1 : ev_E G K_X9_learnt B_X9_learnt (0, 0) 42 [some (vr 0 (i0)), some (vi (x1_)), some (vi (x2_)), some (vi (x17)), some (vl (y18)), none, some (vl (y15)), none] [] (ev_emb p14.2) Q := by
      refine ev_iload_1 (pc := 42) dX9_learnt_42 ?_
      refine ev_bipush (pc := 43) (v := 99) dX9_learnt_43 (by decide) ?_
      refine ev_icc_ge (pc := 45) (tgt := 67) dX9_learnt_45 (by decide) (fun c19 => ?_) (fun c19 => ?_)
      · replace h := ev_ifn h c19
        refine ev_iload_3 (pc := 67) dX9_learnt_67 ?_
        exact ev_iret (pc := 68) dX9_learnt_68 rfl rfl (hR _ _ h)
      · replace h := ev_ifp h c19
        refine ev_aload_0 (pc := 48) dX9_learnt_48 ?_
        refine ev_iconst (pc := 49) (v := 0) dX9_learnt_49 rfl ?_
        refine ev_iload_1 (pc := 50) dX9_learnt_50 ?_
        refine ev_iconst (pc := 51) (v := 1) dX9_learnt_51 rfl ?_
        refine ev_iadd (pc := 52) dX9_learnt_52 ?_
        refine ev_iload_2 (pc := 53) dX9_learnt_53 ?_
        obtain ⟨p20, hp20, h⟩ := ev_bindE hN h
        refine cl1_X9_167 (pc := 54) rfl dX9_learnt_54 (by decide) (Nat.le_of_ble_eq_true rfl) (c_X9_costWith hp20) ?_
        refine ev_lload_4 (pc := 57) dX9_learnt_57 ?_
        refine ev_lcc_ge (pc := 59) (tgt := 67) dX9_learnt_59 dX9_learnt_60 (by decide) (fun c21 => ?_) (fun c21 => ?_)
        · replace h := ev_ifn h c21
          refine ev_iload_3 (pc := 67) dX9_learnt_67 ?_
          exact ev_iret (pc := 68) dX9_learnt_68 rfl rfl (hR _ _ h)
        · replace h := ev_ifp h c21
          refine ev_iload_1 (pc := 63) dX9_learnt_63 ?_
          refine ev_iconst (pc := 64) (v := 1) dX9_learnt_64 rfl ?_
          refine ev_iadd (pc := 65) dX9_learnt_65 ?_
          obtain ⟨x22, hx22, h⟩ := ev_letE h
          refine ev_topi (pc := 66) hx22 ?_
          refine ev_istore_3 (pc := 66) dX9_learnt_66 (by decide) rfl ?_
          refine ev_iload_3 (pc := 67) dX9_learnt_67 ?_
          exact ev_iret (pc := 68) dX9_learnt_68 rfl rfl (hR _ _ h)
    refine ev_lcc_ge (pc := 30) (tgt := 42) dX9_learnt_30 dX9_learnt_31 (by decide) (fun c16 => ?_) (fun c16 => ?_)
    · replace hx17 := (hx17.trans (if_neg c16))
      replace hy18 := (hy18.trans (if_neg c16))
      subst hx17
      subst hy18
      exact hJ1
    · refine ev_lload_6 (pc := 34) dX9_learnt_34 ?_
      refine ev_lstore_4 (pc := 36) dX9_learnt_36 (by decide) rfl ?_
      refine ev_iload_1 (pc := 38) dX9_learnt_38 ?_
      refine ev_iconst (pc := 39) (v := 1) dX9_learnt_39 rfl ?_
      refine ev_isub (pc := 40) dX9_learnt_40 ?_
      refine ev_istore_3 (pc := 41) dX9_learnt_41 (by decide) rfl ?_
      replace hx17 := (hx17.trans (if_pos c16))
      replace hy18 := (hy18.trans (if_pos c16))
      subst hx17
      subst hy18
      exact hJ1
theorem c_X9_learnt {G : ev_G} {mF : ev_m} {i0 : Nat} {x1_ : Int32} {x2_ : Int32} {r : Int32 × ev_m} (h : f_X9_learnt mF i0 x1_ x2_ = some r) : ev_CF G K_X9_learnt B_X9_learnt [vr 0 (i0), vi (x1_), vi (x2_)] mF (some (vi (r.1))) r.2 :=
  ev_Ct_of rfl rfl (Nat.le_of_ble_eq_true rfl) (e_X9_learnt (R := some r) (fun x0 m0 q => by cases q; exact ⟨rfl, rfl⟩) (fun q => by cases q) h)
set_option maxRecDepth 20000 in
set_option maxHeartbeats 4000000 in
theorem e_lp_X9_learning_36 {G : ev_G} {Q : Option ev_V → ev_M → Prop} {R : Option (Int32 × ev_m)} (hR : ∀ (x0 : Int32) (m0 : ev_m), (some ((x0, m0))) = R → Q (some (vi x0)) (ev_emb m0)) (hN : none ≠ R) {i6 : Nat} {x7 : Int32} {x8 : Int32} : ∀ (f : Nat) (x9 : Int32) (x10 : Int32) (m11 : ev_m) (kx : Int32 → ev_m → Option (Int32 × ev_m)) (h : lp_X9_learning_36 i6 x7 x8 f x9 x10 m11 kx = R) (hk : ∀ (x9' : Int32) (m11' : ev_m), kx x9' m11' = R → ev_E G K_X9_learning B_X9_learning (0, 0) 58 [none, none, none, none, none, some (vi (x9')), none] [] (ev_emb m11') Q), ev_E G K_X9_learning B_X9_learning (0, 0) 36 [some (vr 0 (i6)), none, none, some (vi (x7)), some (vi (x8)), some (vi (x9)), some (vi (x10))] [] (ev_emb m11) Q := by
  intro f
  induction f with
  | zero => intro x9 x10 m11 kx h hk; rw [lp_X9_learning_36] at h; exact absurd h hN
  | succ f ih =>
    intro x9 x10 m11 kx h hk
    rw [lp_X9_learning_36] at h
    refine ev_iload_6 (pc := 36) dX9_learning_36 ?_
    refine ev_iload_4 (pc := 38) dX9_learning_38 ?_
    refine ev_icc_gt (pc := 40) (tgt := 58) dX9_learning_40 (by decide) (fun c12 => ?_) (fun c12 => ?_)
    · replace h := ev_ifp h c12
      refine ev_E.forget (L' := [none, none, none, none, none, some (vi (x9)), none]) ⟨rfl, trivial⟩ ?_
      exact hk _ _  h
    · replace h := ev_ifn h c12
      refine ev_aload_0 (pc := 43) dX9_learning_43 ?_
      refine ev_iload_5 (pc := 44) dX9_learning_44 ?_
      refine ev_iload_3 (pc := 46) dX9_learning_46 ?_
      obtain ⟨p13, hp13, h⟩ := ev_bindE hN h
      refine cl1_X9_243 (pc := 47) rfl dX9_learning_47 (by decide) (Nat.le_of_ble_eq_true rfl) (c_X9_learnt hp13) ?_
      obtain ⟨x14, hx14, h⟩ := ev_letE h
      refine ev_topi (pc := 50) hx14 ?_
      refine ev_istore_5 (pc := 50) dX9_learning_50 (by decide) rfl ?_
      refine ev_iinc_6 (pc := 52) (y := x10 + 1) dX9_learning_52 rfl (by decide) rfl ?_
      refine ev_goto (pc := 55) (tgt := 36) dX9_learning_55 (by decide) ?_
      exact ih _ _ _ kx h hk
set_option maxRecDepth 20000 in
set_option maxHeartbeats 4000000 in
theorem e_X9_learning {G : ev_G} {Q : Option ev_V → ev_M → Prop} {R : Option (Int32 × ev_m)} {mF : ev_m} (hR : ∀ (x0 : Int32) (m0 : ev_m), (some ((x0, m0))) = R → Q (some (vi x0)) (ev_emb m0)) (hN : none ≠ R) {i0 : Nat} {x1_ : Int32} {x2_ : Int32} {x3_ : Int32} {x4_ : Int32} (h : f_X9_learning mF i0 x1_ x2_ x3_ x4_ = R) : ev_E G K_X9_learning B_X9_learning (0, 0) 0 [some (vr 0 (i0)), some (vi (x1_)), some (vi (x2_)), some (vi (x3_)), some (vi (x4_)), none, none] [] (ev_emb mF) Q := by
  unfold f_X9_learning at h
  refine ev_aload_0 (pc := 0) dX9_learning_0 ?_
  refine ev_iload_1 (pc := 1) dX9_learning_1 ?_
  refine ev_iload_2 (pc := 2) dX9_learning_2 ?_
  refine ev_iload_3 (pc := 3) dX9_learning_3 ?_
  obtain ⟨p1, hp1, h⟩ := ev_bindE hN h
  refine cl1_X9_155 (pc := 4) rfl dX9_learning_4 (by decide) (Nat.le_of_ble_eq_true rfl) (c_X9_ready hp1) ?_
  refine ev_ifb_eq (pc := 7) (tgt := 22) dX9_learning_7 (by decide) (fun c2 => ?_) (fun c2 => ?_)
  · replace h := ev_ifn h c2
    refine ev_iconst (pc := 22) (v := (-1)) dX9_learning_22 rfl ?_
    exact ev_iret (pc := 23) dX9_learning_23 rfl rfl (hR _ _ h)
  · replace h := ev_ifp h c2
    refine ev_iload_4 (pc := 10) dX9_learning_10 ?_
    refine ev_ifc_lt (pc := 12) (tgt := 22) dX9_learning_12 (by decide) (fun c3 => ?_) (fun c3 => ?_)
    · replace h := ev_ifp h c3
      refine ev_iconst (pc := 22) (v := (-1)) dX9_learning_22 rfl ?_
      exact ev_iret (pc := 23) dX9_learning_23 rfl rfl (hR _ _ h)
    · replace h := ev_ifn h c3
      refine ev_iload_4 (pc := 15) dX9_learning_15 ?_
      refine ev_bipush (pc := 17) (v := 30) dX9_learning_17 (by decide) ?_
      refine ev_icc_le (pc := 19) (tgt := 24) dX9_learning_19 (by decide) (fun c4 => ?_) (fun c4 => ?_)
      · replace h := ev_ifn h c4
        refine ev_aload_0 (pc := 24) dX9_learning_24 ?_
        refine gt_X9_48 (pc := 25) rfl dX9_learning_25 ?_
        refine gt_X9_240 (pc := 28) rfl dX9_learning_28 ?_
        obtain ⟨x5, hx5, h⟩ := ev_letE h
        refine ev_topi (pc := 31) hx5 ?_
        refine ev_istore_5 (pc := 31) dX9_learning_31 (by decide) rfl ?_
        refine ev_iconst (pc := 33) (v := 1) dX9_learning_33 rfl ?_
        refine ev_istore_6 (pc := 34) dX9_learning_34 (by decide) rfl ?_
        refine ev_E.forget (L' := [some (vr 0 (i0)), none, none, some (vi (x3_)), some (vi (x4_)), some (vi (x5)), some (vi (1))]) ⟨rfl, ⟨rfl, ⟨rfl, ⟨rfl, ⟨rfl, trivial⟩⟩⟩⟩⟩ ?_
        refine e_lp_X9_learning_36 hR hN 4000 _ _ _ _ h (fun x15 m16 h => ?_)
        refine ev_iload_5 (pc := 58) dX9_learning_58 ?_
        exact ev_iret (pc := 60) dX9_learning_60 rfl rfl (hR _ _ h)
      · replace h := ev_ifp h c4
        refine ev_iconst (pc := 22) (v := (-1)) dX9_learning_22 rfl ?_
        exact ev_iret (pc := 23) dX9_learning_23 rfl rfl (hR _ _ h)
theorem c_X9_learning {G : ev_G} {mF : ev_m} {i0 : Nat} {x1_ : Int32} {x2_ : Int32} {x3_ : Int32} {x4_ : Int32} {r : Int32 × ev_m} (h : f_X9_learning mF i0 x1_ x2_ x3_ x4_ = some r) : ev_CF G K_X9_learning B_X9_learning [vr 0 (i0), vi (x1_), vi (x2_), vi (x3_), vi (x4_)] mF (some (vi (r.1))) r.2 :=
  ev_Ct_of rfl rfl (Nat.le_of_ble_eq_true rfl) (e_X9_learning (R := some r) (fun x0 m0 q => by cases q; exact ⟨rfl, rfl⟩) (fun q => by cases q) h)
set_option maxRecDepth 20000 in
set_option maxHeartbeats 4000000 in
theorem e_lp_X9_isManned_8 {G : ev_G} {Q : Option ev_V → ev_M → Prop} {mF : ev_m} {R : Option (Bool)} (hR : ∀ x0 : Bool, (some (x0)) = R → Q (some (vi (bi x0))) (ev_emb mF)) (hN : none ≠ R) {i2 : Nat} {i3 : Nat} : ∀ (f : Nat) (x4 : Int32) (kx : Unit → Option (Bool)) (h : lp_X9_isManned_8 mF i2 i3 f x4 kx = R) (hk : ∀ (u0 : Unit), kx u0 = R → ev_E G K_X9_isManned B_X9_isManned (0, 0) 42 [none, none, none] [] (ev_emb mF) Q), ev_E G K_X9_isManned B_X9_isManned (0, 0) 8 [some (vr 0 (i2)), some (vr 6 (i3)), some (vi (x4))] [] (ev_emb mF) Q := by
  intro f
  induction f with
  | zero => intro x4 kx h hk; rw [lp_X9_isManned_8] at h; exact absurd h hN
  | succ f ih =>
    intro x4 kx h hk
    rw [lp_X9_isManned_8] at h
    refine ev_iload_2 (pc := 8) dX9_isManned_8 ?_
    refine ev_aload_1 (pc := 9) dX9_isManned_9 ?_
    refine gt_X9_121 (pc := 10) rfl dX9_isManned_10 ?_
    refine ev_icc_ge (pc := 13) (tgt := 42) dX9_isManned_13 (by decide) (fun c5 => ?_) (fun c5 => ?_)
    · replace h := ev_ifn h c5
      refine ev_E.forget (L' := [none, none, none]) trivial ?_
      exact hk _  h
    · replace h := ev_ifp h c5
      refine ev_aload_0 (pc := 16) dX9_isManned_16 ?_
      refine gt_X9_10 (pc := 17) rfl dX9_isManned_17 ?_
      refine ev_aload_1 (pc := 20) dX9_isManned_20 ?_
      refine gt_X9_126 (pc := 21) rfl dX9_isManned_21 ?_
      refine ev_iload_2 (pc := 24) dX9_isManned_24 ?_
      refine cl1_X9_113 (pc := 25) rfl dX9_isManned_25 (by decide) (Nat.le_of_ble_eq_true rfl) (c_X9_at (r := 16) rfl (by decide)) ?_
      obtain ⟨x6, hx6, h⟩ := ev_bindE hN h
      refine cl1_X9_95 (pc := 28) rfl dX9_isManned_28 (by decide) (Nat.le_of_ble_eq_true rfl) (c_X0_handAt hx6) ?_
      rcases x6 with _ | j7
      · replace h := ev_onN h
        show ev_E G K_X9_isManned B_X9_isManned (0, 0) 31 [some (vr 0 (i2)), some (vr 6 (i3)), some (vi (x4))] [vn] (ev_emb mF) Q
        refine ev_ifnonnull_n (pc := 31) dX9_isManned_31 ?_
        refine ev_iconst (pc := 34) (v := 0) dX9_isManned_34 rfl ?_
        exact ev_iret (pc := 35) dX9_isManned_35 rfl rfl (hR _ h)
      · replace h := ev_onS h
        show ev_E G K_X9_isManned B_X9_isManned (0, 0) 31 [some (vr 0 (i2)), some (vr 6 (i3)), some (vi (x4))] [vr 4 (j7)] (ev_emb mF) Q
        refine ev_ifnonnull_r (pc := 31) (tgt := 36) dX9_isManned_31 (by decide) ?_
        refine ev_iinc_2 (pc := 36) (y := x4 + 1) dX9_isManned_36 rfl (by decide) rfl ?_
        refine ev_goto (pc := 39) (tgt := 8) dX9_isManned_39 (by decide) ?_
        exact ih _ kx h hk
set_option maxRecDepth 20000 in
set_option maxHeartbeats 4000000 in
theorem e_X9_isManned {G : ev_G} {Q : Option ev_V → ev_M → Prop} {R : Option (Bool)} {mF : ev_m} (hR : ∀ x0 : Bool, (some (x0)) = R → Q (some (vi (bi x0))) (ev_emb mF)) (hN : none ≠ R) {i0 : Nat} {o1_ : Option Nat} (h : f_X9_isManned mF i0 o1_ = R) : ev_E G K_X9_isManned B_X9_isManned (0, 0) 0 [some (vr 0 (i0)), some (vo 6 (o1_)), none] [] (ev_emb mF) Q := by
  unfold f_X9_isManned at h
  refine ev_aload_1 (pc := 0) dX9_isManned_0 ?_
  rcases o1_ with _ | j1
  · replace h := ev_onN h
    show ev_E G K_X9_isManned B_X9_isManned (0, 0) 1 [some (vr 0 (i0)), some (vn), none] [vn] (ev_emb mF) Q
    refine ev_ifnonnull_n (pc := 1) dX9_isManned_1 ?_
    refine ev_iconst (pc := 4) (v := 0) dX9_isManned_4 rfl ?_
    exact ev_iret (pc := 5) dX9_isManned_5 rfl rfl (hR _ h)
  · replace h := ev_onS h
    show ev_E G K_X9_isManned B_X9_isManned (0, 0) 1 [some (vr 0 (i0)), some (vr 6 (j1)), none] [vr 6 (j1)] (ev_emb mF) Q
    refine ev_ifnonnull_r (pc := 1) (tgt := 6) dX9_isManned_1 (by decide) ?_
    refine ev_iconst (pc := 6) (v := 0) dX9_isManned_6 rfl ?_
    refine ev_istore_2 (pc := 7) dX9_isManned_7 (by decide) rfl ?_
    refine e_lp_X9_isManned_8 hR hN 4000 _ _ h (fun _ h => ?_)
    refine ev_iconst (pc := 42) (v := 1) dX9_isManned_42 rfl ?_
    exact ev_iret (pc := 43) dX9_isManned_43 rfl rfl (hR _ h)
theorem c_X9_isManned {G : ev_G} {mF : ev_m} {i0 : Nat} {o1_ : Option Nat} {r : Bool} (h : f_X9_isManned mF i0 o1_ = some r) : ev_CF G K_X9_isManned B_X9_isManned [vr 0 (i0), vo 6 (o1_)] mF (some (vi (bi (r)))) mF :=
  ev_Ct_of rfl rfl (Nat.le_of_ble_eq_true rfl) (e_X9_isManned (R := some r) (fun x0 q => by cases q; exact ⟨rfl, rfl⟩) (fun q => by cases q) h)
set_option maxRecDepth 20000 in
set_option maxHeartbeats 4000000 in
theorem e_lp_X9_steers_56 {G : ev_G} {Q : Option ev_V → ev_M → Prop} {R : Option (Int64 × ev_m)} (hR : ∀ (x0 : Int64) (m0 : ev_m), (some ((x0, m0))) = R → Q (some (vl x0)) (ev_emb m0)) (hN : none ≠ R) {i8 : Nat} {x9 : Int32} {i10 : Nat} : ∀ (f : Nat) (x11 : Int32) (m12 : ev_m) (kx : ev_m → Option (Int64 × ev_m)) (h : lp_X9_steers_56 i8 x9 i10 f x11 m12 kx = R) (hk : ∀ (m12' : ev_m), kx m12' = R → ev_E G K_X9_steers B_X9_steers (0, 0) 106 [some (vr 0 (i8)), none, none, none, some (vi (x9)), none, none, none] [] (ev_emb m12') Q), ev_E G K_X9_steers B_X9_steers (0, 0) 56 [some (vr 0 (i8)), none, none, none, some (vi (x9)), none, some (vr 6 (i10)), some (vi (x11))] [] (ev_emb m12) Q := by
  intro f
  induction f with
  | zero => intro x11 m12 kx h hk; rw [lp_X9_steers_56] at h; exact absurd h hN
  | succ f ih =>
    intro x11 m12 kx h hk
    rw [lp_X9_steers_56] at h
    refine ev_iload_7 (pc := 56) dX9_steers_56 ?_
    refine ev_aload_6 (pc := 58) dX9_steers_58 ?_
    refine gt_X9_121 (pc := 60) rfl dX9_steers_60 ?_
    refine ev_icc_ge (pc := 63) (tgt := 106) dX9_steers_63 (by decide) (fun c13 => ?_) (fun c13 => ?_)
    · replace h := ev_ifn h c13
      refine ev_E.forget (L' := [some (vr 0 (i8)), none, none, none, some (vi (x9)), none, none, none]) ⟨rfl, ⟨rfl, trivial⟩⟩ ?_
      exact hk _  h
    · replace h := ev_ifp h c13
      refine ev_aload_0 (pc := 66) dX9_steers_66 ?_
      refine gt_X9_34 (pc := 67) rfl dX9_steers_67 ?_
      refine ev_aload_0 (pc := 70) dX9_steers_70 ?_
      refine gt_X9_10 (pc := 71) rfl dX9_steers_71 ?_
      refine ev_aload_6 (pc := 74) dX9_steers_74 ?_
      refine gt_X9_126 (pc := 76) rfl dX9_steers_76 ?_
      refine ev_iload_7 (pc := 79) dX9_steers_79 ?_
      refine cl1_X9_113 (pc := 81) rfl dX9_steers_81 (by decide) (Nat.le_of_ble_eq_true rfl) (c_X9_at (r := 16) rfl (by decide)) ?_
      obtain ⟨x14, hx14, h⟩ := ev_bindE hN h
      refine cl1_X9_95 (pc := 84) rfl dX9_steers_84 (by decide) (Nat.le_of_ble_eq_true rfl) (c_X0_handAt hx14) ?_
      refine ev_aload_6 (pc := 87) dX9_steers_87 ?_
      refine gt_X9_129 (pc := 89) rfl dX9_steers_89 ?_
      refine ev_iload_7 (pc := 92) dX9_steers_92 ?_
      refine cl1_X9_113 (pc := 94) rfl dX9_steers_94 (by decide) (Nat.le_of_ble_eq_true rfl) (c_X9_at (r := 17) rfl (by decide)) ?_
      obtain ⟨m15, hm15, h⟩ := ev_bindE hN h
      refine cl0_X9_255 (pc := 97) rfl dX9_steers_97 (by decide) (Nat.le_of_ble_eq_true rfl) (c_X8_steer hm15) ?_
      refine ev_iinc_7 (pc := 100) (y := x11 + 1) dX9_steers_100 rfl (by decide) rfl ?_
      refine ev_goto (pc := 103) (tgt := 56) dX9_steers_103 (by decide) ?_
      exact ih _ _ kx h hk
set_option maxRecDepth 20000 in
set_option maxHeartbeats 4000000 in
theorem e_X9_steers {G : ev_G} {Q : Option ev_V → ev_M → Prop} {R : Option (Int64 × ev_m)} {mF : ev_m} (hR : ∀ (x0 : Int64) (m0 : ev_m), (some ((x0, m0))) = R → Q (some (vl x0)) (ev_emb m0)) (hN : none ≠ R) {i0 : Nat} {x1_ : Int32} {x2_ : Int32} {x3_ : Int32} {x4_ : Int32} (h : f_X9_steers mF i0 x1_ x2_ x3_ x4_ = R) : ev_E G K_X9_steers B_X9_steers (0, 0) 0 [some (vr 0 (i0)), some (vi (x1_)), some (vi (x2_)), some (vi (x3_)), some (vi (x4_)), none, none, none] [] (ev_emb mF) Q := by
  unfold f_X9_steers at h
  refine ev_aload_0 (pc := 0) dX9_steers_0 ?_
  refine gt_X9_10 (pc := 1) rfl dX9_steers_1 ?_
  refine ev_iload_1 (pc := 4) dX9_steers_4 ?_
  obtain ⟨x1, hx1, h⟩ := ev_bindE hN h
  refine cl1_X9_86 (pc := 5) rfl dX9_steers_5 (by decide) (Nat.le_of_ble_eq_true rfl) (c_X0_shipAt hx1) ?_
  refine ev_astore_5 (pc := 8) dX9_steers_8 (by decide) rfl ?_
  refine ev_aload_0 (pc := 10) dX9_steers_10 ?_
  refine gt_X9_10 (pc := 11) rfl dX9_steers_11 ?_
  refine ev_iload_2 (pc := 14) dX9_steers_14 ?_
  obtain ⟨x2, hx2, h⟩ := ev_bindE hN h
  refine cl1_X9_117 (pc := 15) rfl dX9_steers_15 (by decide) (Nat.le_of_ble_eq_true rfl) (c_X0_watchAt hx2) ?_
  refine ev_astore_6 (pc := 18) dX9_steers_18 (by decide) rfl ?_
  refine ev_aload_5 (pc := 20) dX9_steers_20 ?_
  rcases x1 with _ | j3
  · replace h := ev_onN h
    show ev_E G K_X9_steers B_X9_steers (0, 0) 22 [some (vr 0 (i0)), some (vi (x1_)), some (vi (x2_)), some (vi (x3_)), some (vi (x4_)), some (vn), some (vo 6 (x2)), none] [vn] (ev_emb mF) Q
    refine ev_ifnull_n (pc := 22) (tgt := 39) dX9_steers_22 (by decide) ?_
    refine ev_ldc2 (pc := 39) (v := (-100000)) kl_X9_250 dX9_steers_39 ?_
    exact ev_lret (pc := 42) dX9_steers_42 rfl (hR _ _ h)
  · replace h := ev_onS h
    show ev_E G K_X9_steers B_X9_steers (0, 0) 22 [some (vr 0 (i0)), some (vi (x1_)), some (vi (x2_)), some (vi (x3_)), some (vi (x4_)), some (vr 3 (j3)), some (vo 6 (x2)), none] [vr 3 (j3)] (ev_emb mF) Q
    refine ev_ifnull_r (pc := 22) dX9_steers_22 ?_
    refine ev_aload_6 (pc := 25) dX9_steers_25 ?_
    rcases x2 with _ | j4
    · replace h := ev_onN h
      show ev_E G K_X9_steers B_X9_steers (0, 0) 27 [some (vr 0 (i0)), some (vi (x1_)), some (vi (x2_)), some (vi (x3_)), some (vi (x4_)), some (vr 3 (j3)), some (vn), none] [vn] (ev_emb mF) Q
      refine ev_ifnull_n (pc := 27) (tgt := 39) dX9_steers_27 (by decide) ?_
      refine ev_ldc2 (pc := 39) (v := (-100000)) kl_X9_250 dX9_steers_39 ?_
      exact ev_lret (pc := 42) dX9_steers_42 rfl (hR _ _ h)
    · replace h := ev_onS h
      show ev_E G K_X9_steers B_X9_steers (0, 0) 27 [some (vr 0 (i0)), some (vi (x1_)), some (vi (x2_)), some (vi (x3_)), some (vi (x4_)), some (vr 3 (j3)), some (vr 6 (j4)), none] [vr 6 (j4)] (ev_emb mF) Q
      refine ev_ifnull_r (pc := 27) dX9_steers_27 ?_
      refine ev_aload_0 (pc := 30) dX9_steers_30 ?_
      refine ev_aload_6 (pc := 31) dX9_steers_31 ?_
      obtain ⟨x5, hx5, h⟩ := ev_bindE hN h
      refine cl1_X9_246 (pc := 33) rfl dX9_steers_33 (by decide) (Nat.le_of_ble_eq_true rfl) (c_X9_isManned hx5) ?_
      refine ev_ifb_ne (pc := 36) (tgt := 43) dX9_steers_36 (by decide) (fun c6 => ?_) (fun c6 => ?_)
      · replace h := ev_ifp h c6
        refine ev_aload_0 (pc := 43) dX9_steers_43 ?_
        refine gt_X9_34 (pc := 44) rfl dX9_steers_44 ?_
        refine ev_aload_5 (pc := 47) dX9_steers_47 ?_
        refine ev_iload_3 (pc := 49) dX9_steers_49 ?_
        obtain ⟨m7, hm7, h⟩ := ev_letE h
        refine cl0_X9_252 (pc := 50) (fr := 1) (lo := 22) (m' := m7) rfl dX9_steers_50 (by decide) (Nat.le_of_ble_eq_true rfl) (by rw [hm7]; exact c_X8_begin mF 0 (some j3) x3_) ?_
        refine ev_iconst (pc := 53) (v := 0) dX9_steers_53 rfl ?_
        refine ev_istore_7 (pc := 54) dX9_steers_54 (by decide) rfl ?_
        refine ev_E.forget (L' := [some (vr 0 (i0)), none, none, none, some (vi (x4_)), none, some (vr 6 (j4)), some (vi (0))]) ⟨rfl, ⟨rfl, ⟨rfl, ⟨rfl, trivial⟩⟩⟩⟩ ?_
        refine e_lp_X9_steers_56 hR hN 4000 _ _ _ h (fun m16 h => ?_)
        refine ev_iload_4 (pc := 106) dX9_steers_106 ?_
        by_cases c17 : x4_ = 0
        · replace h := ev_ifp h c17
          refine ev_tin (pc := 108) 0 (tgt := 144) c17 (by decide) dX9_steers_108 rfl (by decide) ?_
          refine ev_aload_0 (pc := 144) dX9_steers_144 ?_
          refine gt_X9_34 (pc := 145) rfl dX9_steers_145 ?_
          obtain ⟨x29, hx29, h⟩ := ev_bindE hN h
          refine cl1_X9_259 (pc := 148) rfl dX9_steers_148 (by decide) (Nat.le_of_ble_eq_true rfl) (c_X8_cost hx29) ?_
          exact ev_lret (pc := 151) dX9_steers_151 rfl (hR _ _ h)
        · replace h := ev_ifn h c17
          by_cases c18 : x4_ = 1
          · replace h := ev_ifp h c18
            refine ev_tin (pc := 108) 1 (tgt := 152) c18 (by decide) dX9_steers_108 rfl (by decide) ?_
            refine ev_aload_0 (pc := 152) dX9_steers_152 ?_
            refine gt_X9_34 (pc := 153) rfl dX9_steers_153 ?_
            obtain ⟨x28, hx28, h⟩ := ev_bindE hN h
            refine cl1_X9_262 (pc := 156) rfl dX9_steers_156 (by decide) (Nat.le_of_ble_eq_true rfl) (c_X8_off hx28) ?_
            exact ev_lret (pc := 159) dX9_steers_159 rfl (hR _ _ h)
          · replace h := ev_ifn h c18
            by_cases c19 : x4_ = 2
            · replace h := ev_ifp h c19
              refine ev_tin (pc := 108) 2 (tgt := 160) c19 (by decide) dX9_steers_108 rfl (by decide) ?_
              refine ev_aload_0 (pc := 160) dX9_steers_160 ?_
              refine gt_X9_34 (pc := 161) rfl dX9_steers_161 ?_
              obtain ⟨x27, hx27, h⟩ := ev_bindE hN h
              refine cl1_X9_265 (pc := 164) rfl dX9_steers_164 (by decide) (Nat.le_of_ble_eq_true rfl) (c_X8_wear hx27) ?_
              exact ev_lret (pc := 167) dX9_steers_167 rfl (hR _ _ h)
            · replace h := ev_ifn h c19
              by_cases c20 : x4_ = 3
              · replace h := ev_ifp h c20
                refine ev_tin (pc := 108) 3 (tgt := 168) c20 (by decide) dX9_steers_108 rfl (by decide) ?_
                refine ev_aload_0 (pc := 168) dX9_steers_168 ?_
                refine gt_X9_34 (pc := 169) rfl dX9_steers_169 ?_
                obtain ⟨x26, hx26, h⟩ := ev_bindE hN h
                refine cl1_X9_193 (pc := 172) rfl dX9_steers_172 (by decide) (Nat.le_of_ble_eq_true rfl) (c_X8_widest hx26) ?_
                exact ev_lret (pc := 175) dX9_steers_175 rfl (hR _ _ h)
              · replace h := ev_ifn h c20
                by_cases c21 : x4_ = 4
                · replace h := ev_ifp h c21
                  refine ev_tin (pc := 108) 4 (tgt := 176) c21 (by decide) dX9_steers_108 rfl (by decide) ?_
                  refine ev_aload_0 (pc := 176) dX9_steers_176 ?_
                  refine gt_X9_34 (pc := 177) rfl dX9_steers_177 ?_
                  refine gt_X9_268 (pc := 180) rfl dX9_steers_180 ?_
                  refine ev_i2l (pc := 183) dX9_steers_183 ?_
                  exact ev_lret (pc := 184) dX9_steers_184 rfl (hR _ _ h)
                · replace h := ev_ifn h c21
                  refine ev_tout (pc := 108) 5 (tgt := 185) rfl (by decide) (lt_s (p := fun j => ¬ x4_ = nI j) (lt_s (p := fun j => ¬ x4_ = nI j) (lt_s (p := fun j => ¬ x4_ = nI j) (lt_s (p := fun j => ¬ x4_ = nI j) (lt_s (p := fun j => ¬ x4_ = nI j) lt_0 c17) c18) c19) c20) c21) dX9_steers_108 (by decide) ?_
                  refine ev_iload_4 (pc := 185) dX9_steers_185 ?_
                  refine ev_sipush (pc := 187) (v := 1000) dX9_steers_187 (by decide) ?_
                  obtain ⟨x24, hx24, h⟩ := ev_letE h
                  have hJ1 : ev_E G K_X9_steers B_X9_steers (0, 0) 214 [some (vr 0 (i0)), none, none, none, some (vi (x4_)), none, none, none] [vi (x24)] (ev_emb m16) Q := by
                    refine ev_istore_7 (pc := 214) dX9_steers_214 (by decide) rfl ?_
                    refine ev_iload_7 (pc := 216) dX9_steers_216 ?_
                    refine ev_ifc_eq (pc := 218) (tgt := 241) dX9_steers_218 (by decide) (fun c25 => ?_) (fun c25 => ?_)
                    · replace h := ev_ifp h c25
                      refine ev_ldc2 (pc := 241) (v := (-100000)) kl_X9_250 dX9_steers_241 ?_
                      exact ev_lret (pc := 244) dX9_steers_244 rfl (hR _ _ h)
                    · replace h := ev_ifn h c25
                      refine ev_aload_0 (pc := 221) dX9_steers_221 ?_
                      refine gt_X9_34 (pc := 222) rfl dX9_steers_222 ?_
                      refine gt_X9_136 (pc := 225) rfl dX9_steers_225 ?_
                      refine ev_iload_4 (pc := 228) dX9_steers_228 ?_
                      refine ev_sipush (pc := 230) (v := 1000) dX9_steers_230 (by decide) ?_
                      refine ev_isub (pc := 233) dX9_steers_233 ?_
                      refine cl1_X9_113 (pc := 234) rfl dX9_steers_234 (by decide) (Nat.le_of_ble_eq_true rfl) (c_X9_at (r := 18) rfl (by decide)) ?_
                      refine ev_i2l (pc := 237) dX9_steers_237 ?_
                      refine ev_goto (pc := 238) (tgt := 244) dX9_steers_238 (by decide) ?_
                      exact ev_lret (pc := 244) dX9_steers_244 rfl (hR _ _ h)
                  refine ev_icc_lt (pc := 190) (tgt := 213) dX9_steers_190 (by decide) (fun c22 => ?_) (fun c22 => ?_)
                  · refine ev_iconst (pc := 213) (v := 0) dX9_steers_213 rfl ?_
                    replace hx24 := (hx24.trans (if_pos c22))
                    subst hx24
                    exact hJ1
                  · refine ev_iload_4 (pc := 193) dX9_steers_193 ?_
                    refine ev_sipush (pc := 195) (v := 1000) dX9_steers_195 (by decide) ?_
                    refine ev_isub (pc := 198) dX9_steers_198 ?_
                    refine ev_aload_0 (pc := 199) dX9_steers_199 ?_
                    refine gt_X9_34 (pc := 200) rfl dX9_steers_200 ?_
                    refine gt_X9_268 (pc := 203) rfl dX9_steers_203 ?_
                    refine ev_icc_gt (pc := 206) (tgt := 213) dX9_steers_206 (by decide) (fun c23 => ?_) (fun c23 => ?_)
                    · refine ev_iconst (pc := 213) (v := 0) dX9_steers_213 rfl ?_
                      replace hx24 := ((hx24.trans (if_neg c22)).trans (if_pos c23))
                      subst hx24
                      exact hJ1
                    · refine ev_iconst (pc := 209) (v := 1) dX9_steers_209 rfl ?_
                      refine ev_goto (pc := 210) (tgt := 214) dX9_steers_210 (by decide) ?_
                      replace hx24 := ((hx24.trans (if_neg c22)).trans (if_neg c23))
                      subst hx24
                      exact hJ1
      · replace h := ev_ifn h c6
        refine ev_ldc2 (pc := 39) (v := (-100000)) kl_X9_250 dX9_steers_39 ?_
        exact ev_lret (pc := 42) dX9_steers_42 rfl (hR _ _ h)
theorem c_X9_steers {G : ev_G} {mF : ev_m} {i0 : Nat} {x1_ : Int32} {x2_ : Int32} {x3_ : Int32} {x4_ : Int32} {r : Int64 × ev_m} (h : f_X9_steers mF i0 x1_ x2_ x3_ x4_ = some r) : ev_CF G K_X9_steers B_X9_steers [vr 0 (i0), vi (x1_), vi (x2_), vi (x3_), vi (x4_)] mF (some (vl (r.1))) r.2 :=
  ev_Ct_of rfl rfl (Nat.le_of_ble_eq_true rfl) (e_X9_steers (R := some r) (fun x0 m0 q => by cases q; exact ⟨rfl, rfl⟩) (fun q => by cases q) h)
set_option maxRecDepth 20000 in
set_option maxHeartbeats 4000000 in
theorem e_X9_sailChanged {G : ev_G} {Q : Option ev_V → ev_M → Prop} {R : Option (ev_m)} {mF : ev_m} (hR : ∀ m0 : ev_m, (some (m0)) = R → Q none (ev_emb m0)) (hN : none ≠ R) {i0 : Nat} {o1_ : Option Nat} {o2_ : Option Nat} {o3_ : Option Nat} {x4_ : Int32} {x5_ : Int32} (h : f_X9_sailChanged mF i0 o1_ o2_ o3_ x4_ x5_ = R) : ev_E G K_X9_sailChanged B_X9_sailChanged (0, 0) 0 [some (vr 0 (i0)), some (vo 3 (o1_)), some (vo 4 (o2_)), some (vo 4 (o3_)), some (vi (x4_)), some (vi (x5_))] [] (ev_emb mF) Q := by
  unfold f_X9_sailChanged at h
  refine ev_aload_0 (pc := 0) dX9_sailChanged_0 ?_
  refine gt_X9_34 (pc := 1) rfl dX9_sailChanged_1 ?_
  refine ev_aload_1 (pc := 4) dX9_sailChanged_4 ?_
  refine ev_iconst (pc := 5) (v := 0) dX9_sailChanged_5 rfl ?_
  obtain ⟨m1, hm1, h⟩ := ev_letE h
  refine cl0_X9_252 (pc := 6) (fr := 1) (lo := 22) (m' := m1) rfl dX9_sailChanged_6 (by decide) (Nat.le_of_ble_eq_true rfl) (by rw [hm1]; exact c_X8_begin mF 0 o1_ 0) ?_
  refine ev_aload_0 (pc := 9) dX9_sailChanged_9 ?_
  refine gt_X9_34 (pc := 10) rfl dX9_sailChanged_10 ?_
  refine ev_aload_2 (pc := 13) dX9_sailChanged_13 ?_
  refine ev_iload_4 (pc := 14) dX9_sailChanged_14 ?_
  obtain ⟨m2, hm2, h⟩ := ev_bindE hN h
  refine cl0_X9_255 (pc := 16) rfl dX9_sailChanged_16 (by decide) (Nat.le_of_ble_eq_true rfl) (c_X8_steer hm2) ?_
  refine ev_aload_0 (pc := 19) dX9_sailChanged_19 ?_
  refine gt_X9_34 (pc := 20) rfl dX9_sailChanged_20 ?_
  refine ev_aload_3 (pc := 23) dX9_sailChanged_23 ?_
  refine ev_iload_5 (pc := 24) dX9_sailChanged_24 ?_
  refine ev_iload_4 (pc := 26) dX9_sailChanged_26 ?_
  refine ev_isub (pc := 28) dX9_sailChanged_28 ?_
  obtain ⟨m3, hm3, h⟩ := ev_bindE hN h
  refine cl0_X9_255 (pc := 29) rfl dX9_sailChanged_29 (by decide) (Nat.le_of_ble_eq_true rfl) (c_X8_steer hm3) ?_
  exact ev_vret (pc := 32) dX9_sailChanged_32 rfl (hR _ h)
theorem c_X9_sailChanged {G : ev_G} {mF : ev_m} {i0 : Nat} {o1_ : Option Nat} {o2_ : Option Nat} {o3_ : Option Nat} {x4_ : Int32} {x5_ : Int32} {r : ev_m} (h : f_X9_sailChanged mF i0 o1_ o2_ o3_ x4_ x5_ = some r) : ev_CF G K_X9_sailChanged B_X9_sailChanged [vr 0 (i0), vo 3 (o1_), vo 4 (o2_), vo 4 (o3_), vi (x4_), vi (x5_)] mF none r :=
  ev_Ct_of rfl rfl (Nat.le_of_ble_eq_true rfl) (e_X9_sailChanged (R := some r) (fun m0 q => by cases q; exact ⟨rfl, rfl⟩) (fun q => by cases q) h)
set_option maxRecDepth 20000 in
set_option maxHeartbeats 4000000 in
theorem e_jn_X9_change_113_66 {G : ev_G} {Q : Option ev_V → ev_M → Prop} {R : Option (Int32 × ev_m)} (hR : ∀ (x0 : Int32) (m0 : ev_m), (some ((x0, m0))) = R → Q (some (vi x0)) (ev_emb m0)) (hN : none ≠ R) {m24 : ev_m} {i8 : Nat} {x9 : Int32} {i10 : Nat} {i11 : Nat} {i12 : Nat} {x21 : Int32} {y22 : Int64} {x23 : Int32} {kb : Int32 → Int64 → Int32 → ev_m → Option (Int32 × ev_m)} {kx : Int32 → ev_m → Option (Int32 × ev_m)}  (h : jn_X9_change_113_66 m24 i8 x9 i10 i11 i12 x21 y22 x23 kb kx = R) (hkb : ∀ (x13' : Int32) (y14' : Int64) (x15' : Int32) (m16' : ev_m), kb x13' y14' x15' m16' = R → ev_E G K_X9_change B_X9_change (0, 0) 66 [some (vr 0 (i8)), none, none, none, some (vi (x9)), some (vr 3 (i10)), some (vr 4 (i11)), some (vr 4 (i12)), some (vi (x13')), some (vl (y14')), none, some (vi (x15'))] [] (ev_emb m16') Q) (hkx : ∀ (x13' : Int32) (m16' : ev_m), kx x13' m16' = R → ev_E G K_X9_change B_X9_change (0, 0) 119 [none, none, none, none, none, none, none, none, some (vi (x13')), none, none, none] [] (ev_emb m16') Q) : ev_E G K_X9_change B_X9_change (0, 0) 113 [some (vr 0 (i8)), none, none, none, some (vi (x9)), some (vr 3 (i10)), some (vr 4 (i11)), some (vr 4 (i12)), some (vi (x21)), some (vl (y22)), none, some (vi (x23))] [] (ev_emb m24) Q := by
  unfold jn_X9_change_113_66 at h
  refine ev_iinc_11 (pc := 113) (y := x23 + 1) dX9_change_113 rfl (by decide) rfl ?_
  refine ev_goto (pc := 116) (tgt := 66) dX9_change_116 (by decide) ?_
  exact hkb _ _ _ _  h
set_option maxRecDepth 20000 in
set_option maxHeartbeats 4000000 in
theorem e_lp_X9_change_66 {G : ev_G} {Q : Option ev_V → ev_M → Prop} {R : Option (Int32 × ev_m)} (hR : ∀ (x0 : Int32) (m0 : ev_m), (some ((x0, m0))) = R → Q (some (vi x0)) (ev_emb m0)) (hN : none ≠ R) {i8 : Nat} {x9 : Int32} {i10 : Nat} {i11 : Nat} {i12 : Nat} : ∀ (f : Nat) (x13 : Int32) (y14 : Int64) (x15 : Int32) (m16 : ev_m) (kx : Int32 → ev_m → Option (Int32 × ev_m)) (h : lp_X9_change_66 i8 x9 i10 i11 i12 f x13 y14 x15 m16 kx = R) (hk : ∀ (x13' : Int32) (m16' : ev_m), kx x13' m16' = R → ev_E G K_X9_change B_X9_change (0, 0) 119 [none, none, none, none, none, none, none, none, some (vi (x13')), none, none, none] [] (ev_emb m16') Q), ev_E G K_X9_change B_X9_change (0, 0) 66 [some (vr 0 (i8)), none, none, none, some (vi (x9)), some (vr 3 (i10)), some (vr 4 (i11)), some (vr 4 (i12)), some (vi (x13)), some (vl (y14)), none, some (vi (x15))] [] (ev_emb m16) Q := by
  intro f
  induction f with
  | zero => intro x13 y14 x15 m16 kx h hk; rw [lp_X9_change_66] at h; exact absurd h hN
  | succ f ih =>
    intro x13 y14 x15 m16 kx h hk
    rw [lp_X9_change_66] at h
    refine ev_iload_11 (pc := 66) dX9_change_66 ?_
    refine ev_iload_4 (pc := 68) dX9_change_68 ?_
    refine ev_icc_gt (pc := 70) (tgt := 119) dX9_change_70 (by decide) (fun c17 => ?_) (fun c17 => ?_)
    · replace h := ev_ifp h c17
      refine ev_E.forget (L' := [none, none, none, none, none, none, none, none, some (vi (x13)), none, none, none]) ⟨rfl, trivial⟩ ?_
      exact hk _ _  h
    · replace h := ev_ifn h c17
      refine ev_aload_0 (pc := 73) dX9_change_73 ?_
      refine ev_aload_5 (pc := 74) dX9_change_74 ?_
      refine ev_aload_6 (pc := 76) dX9_change_76 ?_
      refine ev_aload_7 (pc := 78) dX9_change_78 ?_
      refine ev_iload_11 (pc := 80) dX9_change_80 ?_
      refine ev_iload_4 (pc := 82) dX9_change_82 ?_
      obtain ⟨m18, hm18, h⟩ := ev_bindE hN h
      refine cl0_X9_271 (pc := 84) rfl dX9_change_84 (by decide) (Nat.le_of_ble_eq_true rfl) (c_X9_sailChanged hm18) ?_
      refine ev_aload_0 (pc := 87) dX9_change_87 ?_
      refine gt_X9_34 (pc := 88) rfl dX9_change_88 ?_
      obtain ⟨x19, hx19, h⟩ := ev_bindE hN h
      refine cl1_X9_259 (pc := 91) rfl dX9_change_91 (by decide) (Nat.le_of_ble_eq_true rfl) (c_X8_cost hx19) ?_
      refine ev_lload_9 (pc := 94) dX9_change_94 ?_
      refine ev_lcc_ge (pc := 96) (tgt := 113) dX9_change_96 dX9_change_97 (by decide) (fun c20 => ?_) (fun c20 => ?_)
      · replace h := ev_ifn h c20
        exact e_jn_X9_change_113_66 hR hN h (fun _ _ _ _ h => ih _ _ _ _ kx h hk) hk
      · replace h := ev_ifp h c20
        refine ev_aload_0 (pc := 100) dX9_change_100 ?_
        refine gt_X9_34 (pc := 101) rfl dX9_change_101 ?_
        obtain ⟨x25, hx25, h⟩ := ev_bindE hN h
        refine cl1_X9_259 (pc := 104) rfl dX9_change_104 (by decide) (Nat.le_of_ble_eq_true rfl) (c_X8_cost hx25) ?_
        refine ev_lstore_9 (pc := 107) dX9_change_107 (by decide) rfl ?_
        refine ev_iload_11 (pc := 109) dX9_change_109 ?_
        refine ev_istore_8 (pc := 111) dX9_change_111 (by decide) rfl ?_
        exact e_jn_X9_change_113_66 hR hN h (fun _ _ _ _ h => ih _ _ _ _ kx h hk) hk
set_option maxRecDepth 20000 in
set_option maxHeartbeats 4000000 in
theorem e_X9_change {G : ev_G} {Q : Option ev_V → ev_M → Prop} {R : Option (Int32 × ev_m)} {mF : ev_m} (hR : ∀ (x0 : Int32) (m0 : ev_m), (some ((x0, m0))) = R → Q (some (vi x0)) (ev_emb m0)) (hN : none ≠ R) {i0 : Nat} {x1_ : Int32} {x2_ : Int32} {x3_ : Int32} {x4_ : Int32} (h : f_X9_change mF i0 x1_ x2_ x3_ x4_ = R) : ev_E G K_X9_change B_X9_change (0, 0) 0 [some (vr 0 (i0)), some (vi (x1_)), some (vi (x2_)), some (vi (x3_)), some (vi (x4_)), none, none, none, none, none, none, none] [] (ev_emb mF) Q := by
  unfold f_X9_change at h
  refine ev_aload_0 (pc := 0) dX9_change_0 ?_
  refine gt_X9_10 (pc := 1) rfl dX9_change_1 ?_
  refine ev_iload_1 (pc := 4) dX9_change_4 ?_
  obtain ⟨x1, hx1, h⟩ := ev_bindE hN h
  refine cl1_X9_86 (pc := 5) rfl dX9_change_5 (by decide) (Nat.le_of_ble_eq_true rfl) (c_X0_shipAt hx1) ?_
  refine ev_astore_5 (pc := 8) dX9_change_8 (by decide) rfl ?_
  refine ev_aload_0 (pc := 10) dX9_change_10 ?_
  refine gt_X9_10 (pc := 11) rfl dX9_change_11 ?_
  refine ev_iload_2 (pc := 14) dX9_change_14 ?_
  obtain ⟨x2, hx2, h⟩ := ev_bindE hN h
  refine cl1_X9_95 (pc := 15) rfl dX9_change_15 (by decide) (Nat.le_of_ble_eq_true rfl) (c_X0_handAt hx2) ?_
  refine ev_astore_6 (pc := 18) dX9_change_18 (by decide) rfl ?_
  refine ev_aload_0 (pc := 20) dX9_change_20 ?_
  refine gt_X9_10 (pc := 21) rfl dX9_change_21 ?_
  refine ev_iload_3 (pc := 24) dX9_change_24 ?_
  obtain ⟨x3, hx3, h⟩ := ev_bindE hN h
  refine cl1_X9_95 (pc := 25) rfl dX9_change_25 (by decide) (Nat.le_of_ble_eq_true rfl) (c_X0_handAt hx3) ?_
  refine ev_astore_7 (pc := 28) dX9_change_28 (by decide) rfl ?_
  refine ev_aload_5 (pc := 30) dX9_change_30 ?_
  rcases x1 with _ | j4
  · replace h := ev_onN h
    show ev_E G K_X9_change B_X9_change (0, 0) 32 [some (vr 0 (i0)), some (vi (x1_)), some (vi (x2_)), some (vi (x3_)), some (vi (x4_)), some (vn), some (vo 4 (x2)), some (vo 4 (x3)), none, none, none, none] [vn] (ev_emb mF) Q
    refine ev_ifnull_n (pc := 32) (tgt := 53) dX9_change_32 (by decide) ?_
    refine ev_iconst (pc := 53) (v := (-1)) dX9_change_53 rfl ?_
    exact ev_iret (pc := 54) dX9_change_54 rfl rfl (hR _ _ h)
  · replace h := ev_onS h
    show ev_E G K_X9_change B_X9_change (0, 0) 32 [some (vr 0 (i0)), some (vi (x1_)), some (vi (x2_)), some (vi (x3_)), some (vi (x4_)), some (vr 3 (j4)), some (vo 4 (x2)), some (vo 4 (x3)), none, none, none, none] [vr 3 (j4)] (ev_emb mF) Q
    refine ev_ifnull_r (pc := 32) dX9_change_32 ?_
    refine ev_aload_6 (pc := 35) dX9_change_35 ?_
    rcases x2 with _ | j5
    · replace h := ev_onN h
      show ev_E G K_X9_change B_X9_change (0, 0) 37 [some (vr 0 (i0)), some (vi (x1_)), some (vi (x2_)), some (vi (x3_)), some (vi (x4_)), some (vr 3 (j4)), some (vn), some (vo 4 (x3)), none, none, none, none] [vn] (ev_emb mF) Q
      refine ev_ifnull_n (pc := 37) (tgt := 53) dX9_change_37 (by decide) ?_
      refine ev_iconst (pc := 53) (v := (-1)) dX9_change_53 rfl ?_
      exact ev_iret (pc := 54) dX9_change_54 rfl rfl (hR _ _ h)
    · replace h := ev_onS h
      show ev_E G K_X9_change B_X9_change (0, 0) 37 [some (vr 0 (i0)), some (vi (x1_)), some (vi (x2_)), some (vi (x3_)), some (vi (x4_)), some (vr 3 (j4)), some (vr 4 (j5)), some (vo 4 (x3)), none, none, none, none] [vr 4 (j5)] (ev_emb mF) Q
      refine ev_ifnull_r (pc := 37) dX9_change_37 ?_
      refine ev_aload_7 (pc := 40) dX9_change_40 ?_
      rcases x3 with _ | j6
      · replace h := ev_onN h
        show ev_E G K_X9_change B_X9_change (0, 0) 42 [some (vr 0 (i0)), some (vi (x1_)), some (vi (x2_)), some (vi (x3_)), some (vi (x4_)), some (vr 3 (j4)), some (vr 4 (j5)), some (vn), none, none, none, none] [vn] (ev_emb mF) Q
        refine ev_ifnull_n (pc := 42) (tgt := 53) dX9_change_42 (by decide) ?_
        refine ev_iconst (pc := 53) (v := (-1)) dX9_change_53 rfl ?_
        exact ev_iret (pc := 54) dX9_change_54 rfl rfl (hR _ _ h)
      · replace h := ev_onS h
        show ev_E G K_X9_change B_X9_change (0, 0) 42 [some (vr 0 (i0)), some (vi (x1_)), some (vi (x2_)), some (vi (x3_)), some (vi (x4_)), some (vr 3 (j4)), some (vr 4 (j5)), some (vr 4 (j6)), none, none, none, none] [vr 4 (j6)] (ev_emb mF) Q
        refine ev_ifnull_r (pc := 42) dX9_change_42 ?_
        refine ev_iload_4 (pc := 45) dX9_change_45 ?_
        refine cl1_X9_177 (pc := 47) rfl dX9_change_47 (by decide) (Nat.le_of_ble_eq_true rfl) (c_X9_isTrial mF x4_) ?_
        refine ev_ifb_ne (pc := 50) (tgt := 55) dX9_change_50 (by decide) (fun c7 => ?_) (fun c7 => ?_)
        · replace h := ev_ifp h c7
          refine ev_iconst (pc := 55) (v := (-1)) dX9_change_55 rfl ?_
          refine ev_istore_8 (pc := 56) dX9_change_56 (by decide) rfl ?_
          refine ev_ldc2 (pc := 58) (v := 9223372036854775807) kl_X9_165 dX9_change_58 ?_
          refine ev_lstore_9 (pc := 61) dX9_change_61 (by decide) rfl ?_
          refine ev_iconst (pc := 63) (v := 0) dX9_change_63 rfl ?_
          refine ev_istore_11 (pc := 64) dX9_change_64 (by decide) rfl ?_
          refine ev_E.forget (L' := [some (vr 0 (i0)), none, none, none, some (vi (x4_)), some (vr 3 (j4)), some (vr 4 (j5)), some (vr 4 (j6)), some (vi ((-1))), some (vl (9223372036854775807)), none, some (vi (0))]) ⟨rfl, ⟨rfl, ⟨rfl, ⟨rfl, ⟨rfl, ⟨rfl, ⟨rfl, ⟨rfl, trivial⟩⟩⟩⟩⟩⟩⟩⟩ ?_
          refine e_lp_X9_change_66 hR hN 4000 _ _ _ _ _ h (fun x26 m27 h => ?_)
          refine ev_iload_8 (pc := 119) dX9_change_119 ?_
          exact ev_iret (pc := 121) dX9_change_121 rfl rfl (hR _ _ h)
        · replace h := ev_ifn h c7
          refine ev_iconst (pc := 53) (v := (-1)) dX9_change_53 rfl ?_
          exact ev_iret (pc := 54) dX9_change_54 rfl rfl (hR _ _ h)
theorem c_X9_change {G : ev_G} {mF : ev_m} {i0 : Nat} {x1_ : Int32} {x2_ : Int32} {x3_ : Int32} {x4_ : Int32} {r : Int32 × ev_m} (h : f_X9_change mF i0 x1_ x2_ x3_ x4_ = some r) : ev_CF G K_X9_change B_X9_change [vr 0 (i0), vi (x1_), vi (x2_), vi (x3_), vi (x4_)] mF (some (vi (r.1))) r.2 :=
  ev_Ct_of rfl rfl (Nat.le_of_ble_eq_true rfl) (e_X9_change (R := some r) (fun x0 m0 q => by cases q; exact ⟨rfl, rfl⟩) (fun q => by cases q) h)
set_option maxRecDepth 20000 in
set_option maxHeartbeats 4000000 in
theorem e_J6_bitCount_0f7a4 {G : ev_G} {Q : Option ev_V → ev_M → Prop} {R : Int32} {mF : ev_m} (hR : ∀ x0 : Int32, x0 = R → Q (some (vi x0)) (ev_emb mF)) {x0_ : Int32} (h : s_J6_bitCount_0f7a4 mF x0_ = R) : ev_E G K_J6_bitCount_0f7a4 B_J6_bitCount_0f7a4 (0, 0) 0 [some (vi (x0_))] [] (ev_emb mF) Q := by
  unfold s_J6_bitCount_0f7a4 at h
  refine ev_iload_0 (pc := 0) dJ6_bitCount_0f7a4_0 ?_
  refine ev_iload_0 (pc := 1) dJ6_bitCount_0f7a4_1 ?_
  refine ev_iconst (pc := 2) (v := 1) dJ6_bitCount_0f7a4_2 rfl ?_
  refine ev_iushr (pc := 3) dJ6_bitCount_0f7a4_3 ?_
  refine ev_ldcw (pc := 4) (v := 1431655765) kc_J6_265 dJ6_bitCount_0f7a4_4 ?_
  refine ev_iand (pc := 7) dJ6_bitCount_0f7a4_7 ?_
  refine ev_isub (pc := 8) dJ6_bitCount_0f7a4_8 ?_
  obtain ⟨x1, hx1, h⟩ := ev_letE h
  refine ev_topi (pc := 9) hx1 ?_
  refine ev_istore_0 (pc := 9) dJ6_bitCount_0f7a4_9 (by decide) rfl ?_
  refine ev_iload_0 (pc := 10) dJ6_bitCount_0f7a4_10 ?_
  refine ev_ldcw (pc := 11) (v := 858993459) kc_J6_266 dJ6_bitCount_0f7a4_11 ?_
  refine ev_iand (pc := 14) dJ6_bitCount_0f7a4_14 ?_
  refine ev_iload_0 (pc := 15) dJ6_bitCount_0f7a4_15 ?_
  refine ev_iconst (pc := 16) (v := 2) dJ6_bitCount_0f7a4_16 rfl ?_
  refine ev_iushr (pc := 17) dJ6_bitCount_0f7a4_17 ?_
  refine ev_ldcw (pc := 18) (v := 858993459) kc_J6_266 dJ6_bitCount_0f7a4_18 ?_
  refine ev_iand (pc := 21) dJ6_bitCount_0f7a4_21 ?_
  refine ev_iadd (pc := 22) dJ6_bitCount_0f7a4_22 ?_
  obtain ⟨x2, hx2, h⟩ := ev_letE h
  refine ev_topi (pc := 23) hx2 ?_
  refine ev_istore_0 (pc := 23) dJ6_bitCount_0f7a4_23 (by decide) rfl ?_
  refine ev_iload_0 (pc := 24) dJ6_bitCount_0f7a4_24 ?_
  refine ev_iload_0 (pc := 25) dJ6_bitCount_0f7a4_25 ?_
  refine ev_iconst (pc := 26) (v := 4) dJ6_bitCount_0f7a4_26 rfl ?_
  refine ev_iushr (pc := 27) dJ6_bitCount_0f7a4_27 ?_
  refine ev_iadd (pc := 28) dJ6_bitCount_0f7a4_28 ?_
  refine ev_ldcw (pc := 29) (v := 252645135) kc_J6_267 dJ6_bitCount_0f7a4_29 ?_
  refine ev_iand (pc := 32) dJ6_bitCount_0f7a4_32 ?_
  obtain ⟨x3, hx3, h⟩ := ev_letE h
  refine ev_topi (pc := 33) hx3 ?_
  refine ev_istore_0 (pc := 33) dJ6_bitCount_0f7a4_33 (by decide) rfl ?_
  refine ev_iload_0 (pc := 34) dJ6_bitCount_0f7a4_34 ?_
  refine ev_iload_0 (pc := 35) dJ6_bitCount_0f7a4_35 ?_
  refine ev_bipush (pc := 36) (v := 8) dJ6_bitCount_0f7a4_36 (by decide) ?_
  refine ev_iushr (pc := 38) dJ6_bitCount_0f7a4_38 ?_
  refine ev_iadd (pc := 39) dJ6_bitCount_0f7a4_39 ?_
  obtain ⟨x4, hx4, h⟩ := ev_letE h
  refine ev_topi (pc := 40) hx4 ?_
  refine ev_istore_0 (pc := 40) dJ6_bitCount_0f7a4_40 (by decide) rfl ?_
  refine ev_iload_0 (pc := 41) dJ6_bitCount_0f7a4_41 ?_
  refine ev_iload_0 (pc := 42) dJ6_bitCount_0f7a4_42 ?_
  refine ev_bipush (pc := 43) (v := 16) dJ6_bitCount_0f7a4_43 (by decide) ?_
  refine ev_iushr (pc := 45) dJ6_bitCount_0f7a4_45 ?_
  refine ev_iadd (pc := 46) dJ6_bitCount_0f7a4_46 ?_
  obtain ⟨x5, hx5, h⟩ := ev_letE h
  refine ev_topi (pc := 47) hx5 ?_
  refine ev_istore_0 (pc := 47) dJ6_bitCount_0f7a4_47 (by decide) rfl ?_
  refine ev_iload_0 (pc := 48) dJ6_bitCount_0f7a4_48 ?_
  refine ev_bipush (pc := 49) (v := 63) dJ6_bitCount_0f7a4_49 (by decide) ?_
  refine ev_iand (pc := 51) dJ6_bitCount_0f7a4_51 ?_
  exact ev_iret (pc := 52) dJ6_bitCount_0f7a4_52 rfl rfl (hR _ h)
theorem c_J6_bitCount_0f7a4 {G : ev_G} (mF : ev_m) (x0_ : Int32) : ev_CF G K_J6_bitCount_0f7a4 B_J6_bitCount_0f7a4 [vi (x0_)] mF (some (vi (s_J6_bitCount_0f7a4 mF x0_))) mF :=
  ev_Ct_of rfl rfl (Nat.le_of_ble_eq_true rfl) (e_J6_bitCount_0f7a4 (R := s_J6_bitCount_0f7a4 mF x0_) (fun x0 q => ⟨by rw [← q], rfl⟩) rfl)
set_option maxRecDepth 20000 in
set_option maxHeartbeats 4000000 in
theorem e_X9_handIn {G : ev_G} {Q : Option ev_V → ev_M → Prop} {R : Int32} {mF : ev_m} (hR : ∀ x0 : Int32, x0 = R → Q (some (vi x0)) (ev_emb mF)) {x0_ : Int32} {x1_ : Int32} {x2_ : Int32} (h : s_X9_handIn mF x0_ x1_ x2_ = R) : ev_E G K_X9_handIn B_X9_handIn (0, 0) 0 [some (vi (x0_)), some (vi (x1_)), some (vi (x2_))] [] (ev_emb mF) Q := by
  unfold s_X9_handIn at h
  refine ev_iload_0 (pc := 0) dX9_handIn_0 ?_
  refine ev_iconst (pc := 1) (v := 2) dX9_handIn_1 rfl ?_
  refine ev_iload_1 (pc := 2) dX9_handIn_2 ?_
  refine ev_iconst (pc := 3) (v := 1) dX9_handIn_3 rfl ?_
  refine ev_isub (pc := 4) dX9_handIn_4 ?_
  refine ev_iload_2 (pc := 5) dX9_handIn_5 ?_
  refine ev_isub (pc := 6) dX9_handIn_6 ?_
  refine ev_imul (pc := 7) dX9_handIn_7 ?_
  refine ev_iushr (pc := 8) dX9_handIn_8 ?_
  refine ev_iconst (pc := 9) (v := 3) dX9_handIn_9 rfl ?_
  refine ev_iand (pc := 10) dX9_handIn_10 ?_
  exact ev_iret (pc := 11) dX9_handIn_11 rfl rfl (hR _ h)
theorem c_X9_handIn {G : ev_G} (mF : ev_m) (x0_ : Int32) (x1_ : Int32) (x2_ : Int32) : ev_CF G K_X9_handIn B_X9_handIn [vi (x0_), vi (x1_), vi (x2_)] mF (some (vi (s_X9_handIn mF x0_ x1_ x2_))) mF :=
  ev_Ct_of rfl rfl (Nat.le_of_ble_eq_true rfl) (e_X9_handIn (R := s_X9_handIn mF x0_ x1_ x2_) (fun x0 q => ⟨by rw [← q], rfl⟩) rfl)
set_option maxRecDepth 20000 in
set_option maxHeartbeats 4000000 in
theorem e_lp_X9_handsOf_4 {G : ev_G} {Q : Option ev_V → ev_M → Prop} {mF : ev_m} {R : Option (Int32)} (hR : ∀ x0 : Int32, (some (x0)) = R → Q (some (vi x0)) (ev_emb mF)) (hN : none ≠ R) {x1 : Int32} {x2 : Int32} : ∀ (f : Nat) (x3 : Int32) (x4 : Int32) (kx : Int32 → Option (Int32)) (h : lp_X9_handsOf_4 mF x1 x2 f x3 x4 kx = R) (hk : ∀ (x3' : Int32), kx x3' = R → ev_E G K_X9_handsOf B_X9_handsOf (0, 0) 26 [none, none, some (vi (x3')), none] [] (ev_emb mF) Q), ev_E G K_X9_handsOf B_X9_handsOf (0, 0) 4 [some (vi (x1)), some (vi (x2)), some (vi (x3)), some (vi (x4))] [] (ev_emb mF) Q := by
  intro f
  induction f with
  | zero => intro x3 x4 kx h hk; rw [lp_X9_handsOf_4] at h; exact absurd h hN
  | succ f ih =>
    intro x3 x4 kx h hk
    rw [lp_X9_handsOf_4] at h
    refine ev_iload_3 (pc := 4) dX9_handsOf_4 ?_
    refine ev_iload_1 (pc := 5) dX9_handsOf_5 ?_
    refine ev_icc_ge (pc := 6) (tgt := 26) dX9_handsOf_6 (by decide) (fun c5 => ?_) (fun c5 => ?_)
    · replace h := ev_ifn h c5
      refine ev_E.forget (L' := [none, none, some (vi (x3)), none]) ⟨rfl, trivial⟩ ?_
      exact hk _  h
    · replace h := ev_ifp h c5
      refine ev_iload_2 (pc := 9) dX9_handsOf_9 ?_
      refine ev_iconst (pc := 10) (v := 1) dX9_handsOf_10 rfl ?_
      refine ev_iload_0 (pc := 11) dX9_handsOf_11 ?_
      refine ev_iload_1 (pc := 12) dX9_handsOf_12 ?_
      refine ev_iload_3 (pc := 13) dX9_handsOf_13 ?_
      refine cl1_X9_289 (pc := 14) rfl dX9_handsOf_14 (by decide) (Nat.le_of_ble_eq_true rfl) (c_X9_handIn mF x1 x2 x4) ?_
      refine ev_ishl (pc := 17) dX9_handsOf_17 ?_
      refine ev_ior (pc := 18) dX9_handsOf_18 ?_
      obtain ⟨x6, hx6, h⟩ := ev_letE h
      refine ev_topi (pc := 19) hx6 ?_
      refine ev_istore_2 (pc := 19) dX9_handsOf_19 (by decide) rfl ?_
      refine ev_iinc_3 (pc := 20) (y := x4 + 1) dX9_handsOf_20 rfl (by decide) rfl ?_
      refine ev_goto (pc := 23) (tgt := 4) dX9_handsOf_23 (by decide) ?_
      exact ih _ _ kx h hk
set_option maxRecDepth 20000 in
set_option maxHeartbeats 4000000 in
theorem e_X9_handsOf {G : ev_G} {Q : Option ev_V → ev_M → Prop} {R : Option (Int32)} {mF : ev_m} (hR : ∀ x0 : Int32, (some (x0)) = R → Q (some (vi x0)) (ev_emb mF)) (hN : none ≠ R) {x0_ : Int32} {x1_ : Int32} (h : f_X9_handsOf mF x0_ x1_ = R) : ev_E G K_X9_handsOf B_X9_handsOf (0, 0) 0 [some (vi (x0_)), some (vi (x1_)), none, none] [] (ev_emb mF) Q := by
  unfold f_X9_handsOf at h
  refine ev_iconst (pc := 0) (v := 0) dX9_handsOf_0 rfl ?_
  refine ev_istore_2 (pc := 1) dX9_handsOf_1 (by decide) rfl ?_
  refine ev_iconst (pc := 2) (v := 0) dX9_handsOf_2 rfl ?_
  refine ev_istore_3 (pc := 3) dX9_handsOf_3 (by decide) rfl ?_
  refine e_lp_X9_handsOf_4 hR hN 4000 _ _ _ h (fun x7 h => ?_)
  refine ev_iload_2 (pc := 26) dX9_handsOf_26 ?_
  exact ev_iret (pc := 27) dX9_handsOf_27 rfl rfl (hR _ h)
theorem c_X9_handsOf {G : ev_G} {mF : ev_m} {x0_ : Int32} {x1_ : Int32} {r : Int32} (h : f_X9_handsOf mF x0_ x1_ = some r) : ev_CF G K_X9_handsOf B_X9_handsOf [vi (x0_), vi (x1_)] mF (some (vi (r))) mF :=
  ev_Ct_of rfl rfl (Nat.le_of_ble_eq_true rfl) (e_X9_handsOf (R := some r) (fun x0 q => by cases q; exact ⟨rfl, rfl⟩) (fun q => by cases q) h)
set_option maxRecDepth 20000 in
set_option maxHeartbeats 4000000 in
theorem e_lp_X9_costInTurns_27 {G : ev_G} {Q : Option ev_V → ev_M → Prop} {R : Option (Int64 × ev_m)} (hR : ∀ (x0 : Int64) (m0 : ev_m), (some ((x0, m0))) = R → Q (some (vl x0)) (ev_emb m0)) (hN : none ≠ R) {i4 : Nat} {x5 : Int32} {x6 : Int32} {x7 : Int32} {x8 : Int32} : ∀ (f : Nat) (x9 : Int32) (m10 : ev_m) (kx : ev_m → Option (Int64 × ev_m)) (h : lp_X9_costInTurns_27 i4 x5 x6 x7 x8 f x9 m10 kx = R) (hk : ∀ (m10' : ev_m), kx m10' = R → ev_E G K_X9_costInTurns B_X9_costInTurns (0, 0) 85 [some (vr 0 (i4)), none, none, none, none, none, none, none] [] (ev_emb m10') Q), ev_E G K_X9_costInTurns B_X9_costInTurns (0, 0) 27 [some (vr 0 (i4)), none, some (vi (x5)), some (vi (x6)), some (vi (x7)), some (vi (x8)), some (vi (x9)), none] [] (ev_emb m10) Q := by
  intro f
  induction f with
  | zero => intro x9 m10 kx h hk; rw [lp_X9_costInTurns_27] at h; exact absurd h hN
  | succ f ih =>
    intro x9 m10 kx h hk
    rw [lp_X9_costInTurns_27] at h
    refine ev_iload_6 (pc := 27) dX9_costInTurns_27 ?_
    refine ev_iload_3 (pc := 29) dX9_costInTurns_29 ?_
    refine ev_icc_ge (pc := 30) (tgt := 85) dX9_costInTurns_30 (by decide) (fun c11 => ?_) (fun c11 => ?_)
    · replace h := ev_ifn h c11
      refine ev_E.forget (L' := [some (vr 0 (i4)), none, none, none, none, none, none, none]) ⟨rfl, trivial⟩ ?_
      exact hk _  h
    · replace h := ev_ifp h c11
      refine ev_iload_6 (pc := 33) dX9_costInTurns_33 ?_
      refine ev_iload_3 (pc := 35) dX9_costInTurns_35 ?_
      refine ev_iconst (pc := 36) (v := 1) dX9_costInTurns_36 rfl ?_
      refine ev_isub (pc := 37) dX9_costInTurns_37 ?_
      obtain ⟨x13, hx13, h⟩ := ev_letE h
      have hJ1 : ev_E G K_X9_costInTurns B_X9_costInTurns (0, 0) 54 [some (vr 0 (i4)), none, some (vi (x5)), some (vi (x6)), some (vi (x7)), some (vi (x8)), some (vi (x9)), none] [vi (x13)] (ev_emb m10) Q := by
        refine ev_istore_7 (pc := 54) dX9_costInTurns_54 (by decide) rfl ?_
        refine ev_aload_0 (pc := 56) dX9_costInTurns_56 ?_
        refine gt_X9_34 (pc := 57) rfl dX9_costInTurns_57 ?_
        refine ev_aload_0 (pc := 60) dX9_costInTurns_60 ?_
        refine gt_X9_10 (pc := 61) rfl dX9_costInTurns_61 ?_
        refine ev_iload_2 (pc := 64) dX9_costInTurns_64 ?_
        refine ev_iload_3 (pc := 65) dX9_costInTurns_65 ?_
        refine ev_iload_6 (pc := 66) dX9_costInTurns_66 ?_
        refine cl1_X9_289 (pc := 68) rfl dX9_costInTurns_68 (by decide) (Nat.le_of_ble_eq_true rfl) (c_X9_handIn m10 x5 x6 x9) ?_
        obtain ⟨x14, hx14, h⟩ := ev_bindE hN h
        refine cl1_X9_95 (pc := 71) rfl dX9_costInTurns_71 (by decide) (Nat.le_of_ble_eq_true rfl) (c_X0_handAt hx14) ?_
        refine ev_iload_7 (pc := 74) dX9_costInTurns_74 ?_
        obtain ⟨m15, hm15, h⟩ := ev_bindE hN h
        refine cl0_X9_255 (pc := 76) rfl dX9_costInTurns_76 (by decide) (Nat.le_of_ble_eq_true rfl) (c_X8_steer hm15) ?_
        refine ev_iinc_6 (pc := 79) (y := x9 + 1) dX9_costInTurns_79 rfl (by decide) rfl ?_
        refine ev_goto (pc := 82) (tgt := 27) dX9_costInTurns_82 (by decide) ?_
        refine ev_E.forget (L' := [some (vr 0 (i4)), none, some (vi (x5)), some (vi (x6)), some (vi (x7)), some (vi (x8)), some (vi (x9 + 1)), none]) ⟨rfl, ⟨rfl, ⟨rfl, ⟨rfl, ⟨rfl, ⟨rfl, trivial⟩⟩⟩⟩⟩⟩ ?_
        exact ih _ _ kx h hk
      refine ev_icc_ne (pc := 38) (tgt := 52) dX9_costInTurns_38 (by decide) (fun c12 => ?_) (fun c12 => ?_)
      · refine ev_iload_5 (pc := 52) dX9_costInTurns_52 ?_
        replace hx13 := (hx13.trans (if_neg c12))
        subst hx13
        exact hJ1
      · refine ev_iload_4 (pc := 41) dX9_costInTurns_41 ?_
        refine ev_iload_5 (pc := 43) dX9_costInTurns_43 ?_
        refine ev_iload_6 (pc := 45) dX9_costInTurns_45 ?_
        refine ev_imul (pc := 47) dX9_costInTurns_47 ?_
        refine ev_isub (pc := 48) dX9_costInTurns_48 ?_
        refine ev_goto (pc := 49) (tgt := 54) dX9_costInTurns_49 (by decide) ?_
        replace hx13 := (hx13.trans (if_pos c12))
        subst hx13
        exact hJ1
set_option maxRecDepth 20000 in
set_option maxHeartbeats 4000000 in
theorem e_X9_costInTurns {G : ev_G} {Q : Option ev_V → ev_M → Prop} {R : Option (Int64 × ev_m)} {mF : ev_m} (hR : ∀ (x0 : Int64) (m0 : ev_m), (some ((x0, m0))) = R → Q (some (vl x0)) (ev_emb m0)) (hN : none ≠ R) {i0 : Nat} {o1_ : Option Nat} {x2_ : Int32} {x3_ : Int32} {x4_ : Int32} (h : f_X9_costInTurns mF i0 o1_ x2_ x3_ x4_ = R) : ev_E G K_X9_costInTurns B_X9_costInTurns (0, 0) 0 [some (vr 0 (i0)), some (vo 3 (o1_)), some (vi (x2_)), some (vi (x3_)), some (vi (x4_)), none, none, none] [] (ev_emb mF) Q := by
  unfold f_X9_costInTurns at h
  refine ev_iload_3 (pc := 0) dX9_costInTurns_0 ?_
  refine ev_iconst (pc := 1) (v := 1) dX9_costInTurns_1 rfl ?_
  refine ev_icc_ge (pc := 2) (tgt := 9) dX9_costInTurns_2 (by decide) (fun c1 => ?_) (fun c1 => ?_)
  · replace h := ev_ifn h c1
    refine ev_iload_4 (pc := 9) dX9_costInTurns_9 ?_
    refine ev_iload_3 (pc := 11) dX9_costInTurns_11 ?_
    obtain ⟨x2, hx2, h⟩ := ev_bindE hN h
    refine ev_idiv1 (pc := 12) hx2 dX9_costInTurns_12 ?_
    refine ev_istore_5 (pc := 13) dX9_costInTurns_13 (by decide) rfl ?_
    refine ev_aload_0 (pc := 15) dX9_costInTurns_15 ?_
    refine gt_X9_34 (pc := 16) rfl dX9_costInTurns_16 ?_
    refine ev_aload_1 (pc := 19) dX9_costInTurns_19 ?_
    refine ev_iconst (pc := 20) (v := 0) dX9_costInTurns_20 rfl ?_
    obtain ⟨m3, hm3, h⟩ := ev_letE h
    refine cl0_X9_252 (pc := 21) (fr := 1) (lo := 22) (m' := m3) rfl dX9_costInTurns_21 (by decide) (Nat.le_of_ble_eq_true rfl) (by rw [hm3]; exact c_X8_begin mF 0 o1_ 0) ?_
    refine ev_iconst (pc := 24) (v := 0) dX9_costInTurns_24 rfl ?_
    refine ev_istore_6 (pc := 25) dX9_costInTurns_25 (by decide) rfl ?_
    refine ev_E.forget (L' := [some (vr 0 (i0)), none, some (vi (x2_)), some (vi (x3_)), some (vi (x4_)), some (vi (x2)), some (vi (0)), none]) ⟨rfl, ⟨rfl, ⟨rfl, ⟨rfl, ⟨rfl, ⟨rfl, trivial⟩⟩⟩⟩⟩⟩ ?_
    refine e_lp_X9_costInTurns_27 hR hN 4000 _ _ _ h (fun m16 h => ?_)
    refine ev_aload_0 (pc := 85) dX9_costInTurns_85 ?_
    refine gt_X9_34 (pc := 86) rfl dX9_costInTurns_86 ?_
    obtain ⟨x17, hx17, h⟩ := ev_bindE hN h
    refine cl1_X9_259 (pc := 89) rfl dX9_costInTurns_89 (by decide) (Nat.le_of_ble_eq_true rfl) (c_X8_cost hx17) ?_
    exact ev_lret (pc := 92) dX9_costInTurns_92 rfl (hR _ _ h)
  · replace h := ev_ifp h c1
    refine ev_ldc2 (pc := 5) (v := 9223372036854775807) kl_X9_165 dX9_costInTurns_5 ?_
    exact ev_lret (pc := 8) dX9_costInTurns_8 rfl (hR _ _ h)
theorem c_X9_costInTurns {G : ev_G} {mF : ev_m} {i0 : Nat} {o1_ : Option Nat} {x2_ : Int32} {x3_ : Int32} {x4_ : Int32} {r : Int64 × ev_m} (h : f_X9_costInTurns mF i0 o1_ x2_ x3_ x4_ = some r) : ev_CF G K_X9_costInTurns B_X9_costInTurns [vr 0 (i0), vo 3 (o1_), vi (x2_), vi (x3_), vi (x4_)] mF (some (vl (r.1))) r.2 :=
  ev_Ct_of rfl rfl (Nat.le_of_ble_eq_true rfl) (e_X9_costInTurns (R := some r) (fun x0 m0 q => by cases q; exact ⟨rfl, rfl⟩) (fun q => by cases q) h)
set_option maxRecDepth 20000 in
set_option maxHeartbeats 4000000 in
theorem e_jn_X9_order_139_88 {G : ev_G} {Q : Option ev_V → ev_M → Prop} {R : Option (Int32 × ev_m)} (hR : ∀ (x0 : Int32) (m0 : ev_m), (some ((x0, m0))) = R → Q (some (vi x0)) (ev_emb m0)) (hN : none ≠ R) {m28 : ev_m} {i12 : Nat} {x13 : Int32} {x14 : Int32} {x15 : Int32} {i16 : Nat} {x17 : Int32} {x25 : Int32} {y26 : Int64} {x27 : Int32} {kb : Int32 → Int64 → Int32 → ev_m → Option (Int32 × ev_m)} {kx : Int32 → ev_m → Option (Int32 × ev_m)}  (h : jn_X9_order_139_88 m28 i12 x13 x14 x15 i16 x17 x25 y26 x27 kb kx = R) (hkb : ∀ (x18' : Int32) (y19' : Int64) (x20' : Int32) (m21' : ev_m), kb x18' y19' x20' m21' = R → ev_E G K_X9_order B_X9_order (0, 0) 88 [some (vr 0 (i12)), none, some (vi (x13)), some (vi (x14)), some (vi (x15)), some (vr 3 (i16)), some (vi (x17)), none, some (vi (x18')), some (vl (y19')), none, some (vi (x20')), none, none] [] (ev_emb m21') Q) (hkx : ∀ (x18' : Int32) (m21' : ev_m), kx x18' m21' = R → ev_E G K_X9_order B_X9_order (0, 0) 145 [none, none, none, none, some (vi (x15)), none, some (vi (x17)), none, some (vi (x18')), none, none, none, none, none] [] (ev_emb m21') Q) : ev_E G K_X9_order B_X9_order (0, 0) 139 [some (vr 0 (i12)), none, some (vi (x13)), some (vi (x14)), some (vi (x15)), some (vr 3 (i16)), some (vi (x17)), none, some (vi (x25)), some (vl (y26)), none, some (vi (x27)), none, none] [] (ev_emb m28) Q := by
  unfold jn_X9_order_139_88 at h
  refine ev_iinc_11 (pc := 139) (y := x27 + 1) dX9_order_139 rfl (by decide) rfl ?_
  refine ev_goto (pc := 142) (tgt := 88) dX9_order_142 (by decide) ?_
  exact hkb _ _ _ _  h
set_option maxRecDepth 20000 in
set_option maxHeartbeats 4000000 in
theorem e_lp_X9_order_88 {G : ev_G} {Q : Option ev_V → ev_M → Prop} {R : Option (Int32 × ev_m)} (hR : ∀ (x0 : Int32) (m0 : ev_m), (some ((x0, m0))) = R → Q (some (vi x0)) (ev_emb m0)) (hN : none ≠ R) {i12 : Nat} {x13 : Int32} {x14 : Int32} {x15 : Int32} {i16 : Nat} {x17 : Int32} : ∀ (f : Nat) (x18 : Int32) (y19 : Int64) (x20 : Int32) (m21 : ev_m) (kx : Int32 → ev_m → Option (Int32 × ev_m)) (h : lp_X9_order_88 i12 x13 x14 x15 i16 x17 f x18 y19 x20 m21 kx = R) (hk : ∀ (x18' : Int32) (m21' : ev_m), kx x18' m21' = R → ev_E G K_X9_order B_X9_order (0, 0) 145 [none, none, none, none, some (vi (x15)), none, some (vi (x17)), none, some (vi (x18')), none, none, none, none, none] [] (ev_emb m21') Q), ev_E G K_X9_order B_X9_order (0, 0) 88 [some (vr 0 (i12)), none, some (vi (x13)), some (vi (x14)), some (vi (x15)), some (vr 3 (i16)), some (vi (x17)), none, some (vi (x18)), some (vl (y19)), none, some (vi (x20)), none, none] [] (ev_emb m21) Q := by
  intro f
  induction f with
  | zero => intro x18 y19 x20 m21 kx h hk; rw [lp_X9_order_88] at h; exact absurd h hN
  | succ f ih =>
    intro x18 y19 x20 m21 kx h hk
    rw [lp_X9_order_88] at h
    refine ev_iload_11 (pc := 88) dX9_order_88 ?_
    refine ev_iconst (pc := 90) (v := 1) dX9_order_90 rfl ?_
    refine ev_iconst (pc := 91) (v := 2) dX9_order_91 rfl ?_
    refine ev_iload_6 (pc := 92) dX9_order_92 ?_
    refine ev_imul (pc := 94) dX9_order_94 ?_
    refine ev_ishl (pc := 95) dX9_order_95 ?_
    refine ev_icc_ge (pc := 96) (tgt := 145) dX9_order_96 (by decide) (fun c22 => ?_) (fun c22 => ?_)
    · replace h := ev_ifn h c22
      refine ev_E.forget (L' := [none, none, none, none, some (vi (x15)), none, some (vi (x17)), none, some (vi (x18)), none, none, none, none, none]) ⟨rfl, ⟨rfl, ⟨rfl, trivial⟩⟩⟩ ?_
      exact hk _ _  h
    · replace h := ev_ifp h c22
      refine ev_iload_11 (pc := 99) dX9_order_99 ?_
      refine ev_iload_6 (pc := 101) dX9_order_101 ?_
      obtain ⟨x23, hx23, h⟩ := ev_bindE hN h
      refine cl1_X9_282 (pc := 103) rfl dX9_order_103 (by decide) (Nat.le_of_ble_eq_true rfl) (c_X9_handsOf hx23) ?_
      refine ev_iload_2 (pc := 106) dX9_order_106 ?_
      refine ev_icc_ne (pc := 107) (tgt := 139) dX9_order_107 (by decide) (fun c24 => ?_) (fun c24 => ?_)
      · replace h := ev_ifn h c24
        exact e_jn_X9_order_139_88 hR hN h (fun _ _ _ _ h => ih _ _ _ _ kx h hk) hk
      · replace h := ev_ifp h c24
        refine ev_aload_0 (pc := 110) dX9_order_110 ?_
        refine ev_aload_5 (pc := 111) dX9_order_111 ?_
        refine ev_iload_11 (pc := 113) dX9_order_113 ?_
        refine ev_iload_6 (pc := 115) dX9_order_115 ?_
        refine ev_iload_3 (pc := 117) dX9_order_117 ?_
        obtain ⟨p29, hp29, h⟩ := ev_bindE hN h
        refine cl1_X9_285 (pc := 118) rfl dX9_order_118 (by decide) (Nat.le_of_ble_eq_true rfl) (c_X9_costInTurns hp29) ?_
        obtain ⟨y30, hy30, h⟩ := ev_letE h
        refine ev_topl (pc := 121) hy30 ?_
        refine ev_lstore_12 (pc := 121) dX9_order_121 (by decide) rfl ?_
        refine ev_lload_12 (pc := 123) dX9_order_123 ?_
        refine ev_lload_9 (pc := 125) dX9_order_125 ?_
        obtain ⟨x32, hx32, h⟩ := ev_letE h
        obtain ⟨y33, hy33, h⟩ := ev_letE h
        have hJ1 : ev_E G K_X9_order B_X9_order (0, 0) 139 [some (vr 0 (i12)), none, some (vi (x13)), some (vi (x14)), some (vi (x15)), some (vr 3 (i16)), some (vi (x17)), none, some (vi (x32)), some (vl (y33)), none, some (vi (x20)), some (vl (y30)), none] [] (ev_emb p29.2) Q := by
          refine ev_iinc_11 (pc := 139) (y := x20 + 1) dX9_order_139 rfl (by decide) rfl ?_
          refine ev_goto (pc := 142) (tgt := 88) dX9_order_142 (by decide) ?_
          refine ev_E.forget (L' := [some (vr 0 (i12)), none, some (vi (x13)), some (vi (x14)), some (vi (x15)), some (vr 3 (i16)), some (vi (x17)), none, some (vi (x32)), some (vl (y33)), none, some (vi (x20 + 1)), none, none]) ⟨rfl, ⟨rfl, ⟨rfl, ⟨rfl, ⟨rfl, ⟨rfl, ⟨rfl, ⟨rfl, ⟨rfl, trivial⟩⟩⟩⟩⟩⟩⟩⟩⟩ ?_
          exact ih _ _ _ _ kx h hk
        refine ev_lcc_ge (pc := 127) (tgt := 139) dX9_order_127 dX9_order_128 (by decide) (fun c31 => ?_) (fun c31 => ?_)
        · replace hx32 := (hx32.trans (if_neg c31))
          replace hy33 := (hy33.trans (if_neg c31))
          subst hx32
          subst hy33
          exact hJ1
        · refine ev_lload_12 (pc := 131) dX9_order_131 ?_
          refine ev_lstore_9 (pc := 133) dX9_order_133 (by decide) rfl ?_
          refine ev_iload_11 (pc := 135) dX9_order_135 ?_
          refine ev_istore_8 (pc := 137) dX9_order_137 (by decide) rfl ?_
          replace hx32 := (hx32.trans (if_pos c31))
          replace hy33 := (hy33.trans (if_pos c31))
          subst hx32
          subst hy33
          exact hJ1
set_option maxRecDepth 20000 in
set_option maxHeartbeats 4000000 in
theorem e_X9_order {G : ev_G} {Q : Option ev_V → ev_M → Prop} {R : Option (Int32 × ev_m)} {mF : ev_m} (hR : ∀ (x0 : Int32) (m0 : ev_m), (some ((x0, m0))) = R → Q (some (vi x0)) (ev_emb m0)) (hN : none ≠ R) {i0 : Nat} {x1_ : Int32} {x2_ : Int32} {x3_ : Int32} {x4_ : Int32} (h : f_X9_order mF i0 x1_ x2_ x3_ x4_ = R) : ev_E G K_X9_order B_X9_order (0, 0) 0 [some (vr 0 (i0)), some (vi (x1_)), some (vi (x2_)), some (vi (x3_)), some (vi (x4_)), none, none, none, none, none, none, none, none, none] [] (ev_emb mF) Q := by
  unfold f_X9_order at h
  refine ev_aload_0 (pc := 0) dX9_order_0 ?_
  refine gt_X9_10 (pc := 1) rfl dX9_order_1 ?_
  refine ev_iload_1 (pc := 4) dX9_order_4 ?_
  obtain ⟨x1, hx1, h⟩ := ev_bindE hN h
  refine cl1_X9_86 (pc := 5) rfl dX9_order_5 (by decide) (Nat.le_of_ble_eq_true rfl) (c_X0_shipAt hx1) ?_
  refine ev_astore_5 (pc := 8) dX9_order_8 (by decide) rfl ?_
  refine ev_iload_2 (pc := 10) dX9_order_10 ?_
  refine cl1_X9_275 (pc := 11) rfl dX9_order_11 (by decide) (Nat.le_of_ble_eq_true rfl) (c_J6_bitCount_0f7a4 mF x2_) ?_
  obtain ⟨x2, hx2, h⟩ := ev_letE h
  refine ev_topi (pc := 14) hx2 ?_
  refine ev_istore_6 (pc := 14) dX9_order_14 (by decide) rfl ?_
  refine ev_iload_2 (pc := 16) dX9_order_16 ?_
  obtain ⟨x5, hx5, h⟩ := ev_letE h
  have hJ2 : ev_E G K_X9_order B_X9_order (0, 0) 38 [some (vr 0 (i0)), some (vi (x1_)), some (vi (x2_)), some (vi (x3_)), some (vi (x4_)), some (vo 3 (x1)), some (vi (x2)), none, none, none, none, none, none, none] [vi (x5)] (ev_emb mF) Q := by
    refine ev_istore_7 (pc := 38) dX9_order_38 (by decide) rfl ?_
    refine ev_aload_5 (pc := 40) dX9_order_40 ?_
    rcases x1 with _ | j6
    · replace h := ev_onN h
      show ev_E G K_X9_order B_X9_order (0, 0) 42 [some (vr 0 (i0)), some (vi (x1_)), some (vi (x2_)), some (vi (x3_)), some (vi (x4_)), some (vn), some (vi (x2)), some (vi (x5)), none, none, none, none, none, none] [vn] (ev_emb mF) Q
      refine ev_ifnull_n (pc := 42) (tgt := 75) dX9_order_42 (by decide) ?_
      refine ev_iconst (pc := 75) (v := (-1)) dX9_order_75 rfl ?_
      exact ev_iret (pc := 76) dX9_order_76 rfl rfl (hR _ _ h)
    · replace h := ev_onS h
      show ev_E G K_X9_order B_X9_order (0, 0) 42 [some (vr 0 (i0)), some (vi (x1_)), some (vi (x2_)), some (vi (x3_)), some (vi (x4_)), some (vr 3 (j6)), some (vi (x2)), some (vi (x5)), none, none, none, none, none, none] [vr 3 (j6)] (ev_emb mF) Q
      refine ev_ifnull_r (pc := 42) dX9_order_42 ?_
      refine ev_iload_7 (pc := 45) dX9_order_45 ?_
      refine ev_ifc_eq (pc := 47) (tgt := 75) dX9_order_47 (by decide) (fun c7 => ?_) (fun c7 => ?_)
      · replace h := ev_ifp h c7
        refine ev_iconst (pc := 75) (v := (-1)) dX9_order_75 rfl ?_
        exact ev_iret (pc := 76) dX9_order_76 rfl rfl (hR _ _ h)
      · replace h := ev_ifn h c7
        refine ev_iload_3 (pc := 50) dX9_order_50 ?_
        refine cl1_X9_177 (pc := 51) rfl dX9_order_51 (by decide) (Nat.le_of_ble_eq_true rfl) (c_X9_isTrial mF x3_) ?_
        refine ev_ifb_eq (pc := 54) (tgt := 75) dX9_order_54 (by decide) (fun c8 => ?_) (fun c8 => ?_)
        · replace h := ev_ifn h c8
          refine ev_iconst (pc := 75) (v := (-1)) dX9_order_75 rfl ?_
          exact ev_iret (pc := 76) dX9_order_76 rfl rfl (hR _ _ h)
        · replace h := ev_ifp h c8
          refine ev_iload_3 (pc := 57) dX9_order_57 ?_
          refine ev_iload_6 (pc := 58) dX9_order_58 ?_
          refine ev_icc_lt (pc := 60) (tgt := 75) dX9_order_60 (by decide) (fun c9 => ?_) (fun c9 => ?_)
          · replace h := ev_ifp h c9
            refine ev_iconst (pc := 75) (v := (-1)) dX9_order_75 rfl ?_
            exact ev_iret (pc := 76) dX9_order_76 rfl rfl (hR _ _ h)
          · replace h := ev_ifn h c9
            refine ev_iload_4 (pc := 63) dX9_order_63 ?_
            refine ev_ifc_lt (pc := 65) (tgt := 75) dX9_order_65 (by decide) (fun c10 => ?_) (fun c10 => ?_)
            · replace h := ev_ifp h c10
              refine ev_iconst (pc := 75) (v := (-1)) dX9_order_75 rfl ?_
              exact ev_iret (pc := 76) dX9_order_76 rfl rfl (hR _ _ h)
            · replace h := ev_ifn h c10
              refine ev_iload_4 (pc := 68) dX9_order_68 ?_
              refine ev_iload_6 (pc := 70) dX9_order_70 ?_
              refine ev_icc_lt (pc := 72) (tgt := 77) dX9_order_72 (by decide) (fun c11 => ?_) (fun c11 => ?_)
              · replace h := ev_ifp h c11
                refine ev_iconst (pc := 77) (v := (-1)) dX9_order_77 rfl ?_
                refine ev_istore_8 (pc := 78) dX9_order_78 (by decide) rfl ?_
                refine ev_ldc2 (pc := 80) (v := 9223372036854775807) kl_X9_165 dX9_order_80 ?_
                refine ev_lstore_9 (pc := 83) dX9_order_83 (by decide) rfl ?_
                refine ev_iconst (pc := 85) (v := 0) dX9_order_85 rfl ?_
                refine ev_istore_11 (pc := 86) dX9_order_86 (by decide) rfl ?_
                refine ev_E.forget (L' := [some (vr 0 (i0)), none, some (vi (x2_)), some (vi (x3_)), some (vi (x4_)), some (vr 3 (j6)), some (vi (x2)), none, some (vi ((-1))), some (vl (9223372036854775807)), none, some (vi (0)), none, none]) ⟨rfl, ⟨rfl, ⟨rfl, ⟨rfl, ⟨rfl, ⟨rfl, ⟨rfl, ⟨rfl, ⟨rfl, trivial⟩⟩⟩⟩⟩⟩⟩⟩⟩ ?_
                refine e_lp_X9_order_88 hR hN 4000 _ _ _ _ _ h (fun x34 m35 h => ?_)
                refine ev_iload_8 (pc := 145) dX9_order_145 ?_
                refine ev_iconst (pc := 147) (v := (-1)) dX9_order_147 rfl ?_
                refine ev_icc_ne (pc := 148) (tgt := 155) dX9_order_148 (by decide) (fun c36 => ?_) (fun c36 => ?_)
                · replace h := ev_ifn h c36
                  refine ev_iload_8 (pc := 155) dX9_order_155 ?_
                  refine ev_iload_6 (pc := 157) dX9_order_157 ?_
                  refine ev_iload_4 (pc := 159) dX9_order_159 ?_
                  refine cl1_X9_289 (pc := 161) rfl dX9_order_161 (by decide) (Nat.le_of_ble_eq_true rfl) (c_X9_handIn m35 x34 x2 x4_) ?_
                  exact ev_iret (pc := 164) dX9_order_164 rfl rfl (hR _ _ h)
                · replace h := ev_ifp h c36
                  refine ev_iconst (pc := 151) (v := (-1)) dX9_order_151 rfl ?_
                  refine ev_goto (pc := 152) (tgt := 164) dX9_order_152 (by decide) ?_
                  exact ev_iret (pc := 164) dX9_order_164 rfl rfl (hR _ _ h)
              · replace h := ev_ifn h c11
                refine ev_iconst (pc := 75) (v := (-1)) dX9_order_75 rfl ?_
                exact ev_iret (pc := 76) dX9_order_76 rfl rfl (hR _ _ h)
  refine ev_ifc_le (pc := 17) (tgt := 37) dX9_order_17 (by decide) (fun c3 => ?_) (fun c3 => ?_)
  · refine ev_iconst (pc := 37) (v := 0) dX9_order_37 rfl ?_
    replace hx5 := (hx5.trans (if_neg c3))
    subst hx5
    exact hJ2
  · refine ev_iload_2 (pc := 20) dX9_order_20 ?_
    refine ev_iconst (pc := 21) (v := 1) dX9_order_21 rfl ?_
    refine ev_aload_0 (pc := 22) dX9_order_22 ?_
    refine gt_X9_10 (pc := 23) rfl dX9_order_23 ?_
    refine gt_X9_280 (pc := 26) rfl dX9_order_26 ?_
    refine ev_ishl (pc := 29) dX9_order_29 ?_
    refine ev_icc_ge (pc := 30) (tgt := 37) dX9_order_30 (by decide) (fun c4 => ?_) (fun c4 => ?_)
    · refine ev_iconst (pc := 37) (v := 0) dX9_order_37 rfl ?_
      replace hx5 := ((hx5.trans (if_pos c3)).trans (if_neg c4))
      subst hx5
      exact hJ2
    · refine ev_iconst (pc := 33) (v := 1) dX9_order_33 rfl ?_
      refine ev_goto (pc := 34) (tgt := 38) dX9_order_34 (by decide) ?_
      replace hx5 := ((hx5.trans (if_pos c3)).trans (if_pos c4))
      subst hx5
      exact hJ2
theorem c_X9_order {G : ev_G} {mF : ev_m} {i0 : Nat} {x1_ : Int32} {x2_ : Int32} {x3_ : Int32} {x4_ : Int32} {r : Int32 × ev_m} (h : f_X9_order mF i0 x1_ x2_ x3_ x4_ = some r) : ev_CF G K_X9_order B_X9_order [vr 0 (i0), vi (x1_), vi (x2_), vi (x3_), vi (x4_)] mF (some (vi (r.1))) r.2 :=
  ev_Ct_of rfl rfl (Nat.le_of_ble_eq_true rfl) (e_X9_order (R := some r) (fun x0 m0 q => by cases q; exact ⟨rfl, rfl⟩) (fun q => by cases q) h)
set_option maxRecDepth 20000 in
set_option maxHeartbeats 4000000 in
theorem e_X9_both {G : ev_G} {Q : Option ev_V → ev_M → Prop} {R : Option (Int64 × ev_m)} {mF : ev_m} (hR : ∀ (x0 : Int64) (m0 : ev_m), (some ((x0, m0))) = R → Q (some (vl x0)) (ev_emb m0)) (hN : none ≠ R) {i0 : Nat} {x1_ : Int32} {x2_ : Int32} {x3_ : Int32} {x4_ : Int32} {x5_ : Int32} (h : f_X9_both mF i0 x1_ x2_ x3_ x4_ x5_ = R) : ev_E G K_X9_both B_X9_both (0, 0) 0 [some (vr 0 (i0)), some (vi (x1_)), some (vi (x2_)), some (vi (x3_)), some (vi (x4_)), some (vi (x5_)), none, none, none] [] (ev_emb mF) Q := by
  unfold f_X9_both at h
  refine ev_aload_0 (pc := 0) dX9_both_0 ?_
  refine gt_X9_10 (pc := 1) rfl dX9_both_1 ?_
  refine ev_iload_1 (pc := 4) dX9_both_4 ?_
  obtain ⟨x1, hx1, h⟩ := ev_bindE hN h
  refine cl1_X9_86 (pc := 5) rfl dX9_both_5 (by decide) (Nat.le_of_ble_eq_true rfl) (c_X0_shipAt hx1) ?_
  refine ev_astore_6 (pc := 8) dX9_both_8 (by decide) rfl ?_
  refine ev_aload_0 (pc := 10) dX9_both_10 ?_
  refine gt_X9_10 (pc := 11) rfl dX9_both_11 ?_
  refine ev_iload_2 (pc := 14) dX9_both_14 ?_
  obtain ⟨x2, hx2, h⟩ := ev_bindE hN h
  refine cl1_X9_95 (pc := 15) rfl dX9_both_15 (by decide) (Nat.le_of_ble_eq_true rfl) (c_X0_handAt hx2) ?_
  refine ev_astore_7 (pc := 18) dX9_both_18 (by decide) rfl ?_
  refine ev_aload_0 (pc := 20) dX9_both_20 ?_
  refine gt_X9_10 (pc := 21) rfl dX9_both_21 ?_
  refine ev_iload_3 (pc := 24) dX9_both_24 ?_
  obtain ⟨x3, hx3, h⟩ := ev_bindE hN h
  refine cl1_X9_95 (pc := 25) rfl dX9_both_25 (by decide) (Nat.le_of_ble_eq_true rfl) (c_X0_handAt hx3) ?_
  refine ev_astore_8 (pc := 28) dX9_both_28 (by decide) rfl ?_
  refine ev_aload_6 (pc := 30) dX9_both_30 ?_
  rcases x1 with _ | j4
  · replace h := ev_onN h
    show ev_E G K_X9_both B_X9_both (0, 0) 32 [some (vr 0 (i0)), some (vi (x1_)), some (vi (x2_)), some (vi (x3_)), some (vi (x4_)), some (vi (x5_)), some (vn), some (vo 4 (x2)), some (vo 4 (x3))] [vn] (ev_emb mF) Q
    refine ev_ifnull_n (pc := 32) (tgt := 53) dX9_both_32 (by decide) ?_
    refine ev_ldc2 (pc := 53) (v := (-1)) kl_X9_159 dX9_both_53 ?_
    exact ev_lret (pc := 56) dX9_both_56 rfl (hR _ _ h)
  · replace h := ev_onS h
    show ev_E G K_X9_both B_X9_both (0, 0) 32 [some (vr 0 (i0)), some (vi (x1_)), some (vi (x2_)), some (vi (x3_)), some (vi (x4_)), some (vi (x5_)), some (vr 3 (j4)), some (vo 4 (x2)), some (vo 4 (x3))] [vr 3 (j4)] (ev_emb mF) Q
    refine ev_ifnull_r (pc := 32) dX9_both_32 ?_
    refine ev_aload_7 (pc := 35) dX9_both_35 ?_
    rcases x2 with _ | j5
    · replace h := ev_onN h
      show ev_E G K_X9_both B_X9_both (0, 0) 37 [some (vr 0 (i0)), some (vi (x1_)), some (vi (x2_)), some (vi (x3_)), some (vi (x4_)), some (vi (x5_)), some (vr 3 (j4)), some (vn), some (vo 4 (x3))] [vn] (ev_emb mF) Q
      refine ev_ifnull_n (pc := 37) (tgt := 53) dX9_both_37 (by decide) ?_
      refine ev_ldc2 (pc := 53) (v := (-1)) kl_X9_159 dX9_both_53 ?_
      exact ev_lret (pc := 56) dX9_both_56 rfl (hR _ _ h)
    · replace h := ev_onS h
      show ev_E G K_X9_both B_X9_both (0, 0) 37 [some (vr 0 (i0)), some (vi (x1_)), some (vi (x2_)), some (vi (x3_)), some (vi (x4_)), some (vi (x5_)), some (vr 3 (j4)), some (vr 4 (j5)), some (vo 4 (x3))] [vr 4 (j5)] (ev_emb mF) Q
      refine ev_ifnull_r (pc := 37) dX9_both_37 ?_
      refine ev_aload_8 (pc := 40) dX9_both_40 ?_
      rcases x3 with _ | j6
      · replace h := ev_onN h
        show ev_E G K_X9_both B_X9_both (0, 0) 42 [some (vr 0 (i0)), some (vi (x1_)), some (vi (x2_)), some (vi (x3_)), some (vi (x4_)), some (vi (x5_)), some (vr 3 (j4)), some (vr 4 (j5)), some (vn)] [vn] (ev_emb mF) Q
        refine ev_ifnull_n (pc := 42) (tgt := 53) dX9_both_42 (by decide) ?_
        refine ev_ldc2 (pc := 53) (v := (-1)) kl_X9_159 dX9_both_53 ?_
        exact ev_lret (pc := 56) dX9_both_56 rfl (hR _ _ h)
      · replace h := ev_onS h
        show ev_E G K_X9_both B_X9_both (0, 0) 42 [some (vr 0 (i0)), some (vi (x1_)), some (vi (x2_)), some (vi (x3_)), some (vi (x4_)), some (vi (x5_)), some (vr 3 (j4)), some (vr 4 (j5)), some (vr 4 (j6))] [vr 4 (j6)] (ev_emb mF) Q
        refine ev_ifnull_r (pc := 42) dX9_both_42 ?_
        refine ev_iload_4 (pc := 45) dX9_both_45 ?_
        refine cl1_X9_177 (pc := 47) rfl dX9_both_47 (by decide) (Nat.le_of_ble_eq_true rfl) (c_X9_isTrial mF x4_) ?_
        refine ev_ifb_ne (pc := 50) (tgt := 57) dX9_both_50 (by decide) (fun c7 => ?_) (fun c7 => ?_)
        · replace h := ev_ifp h c7
          refine ev_aload_0 (pc := 57) dX9_both_57 ?_
          refine gt_X9_34 (pc := 58) rfl dX9_both_58 ?_
          refine ev_aload_6 (pc := 61) dX9_both_61 ?_
          refine ev_iconst (pc := 63) (v := 0) dX9_both_63 rfl ?_
          obtain ⟨m8, hm8, h⟩ := ev_letE h
          refine cl0_X9_252 (pc := 64) (fr := 1) (lo := 22) (m' := m8) rfl dX9_both_64 (by decide) (Nat.le_of_ble_eq_true rfl) (by rw [hm8]; exact c_X8_begin mF 0 (some j4) 0) ?_
          refine ev_aload_0 (pc := 67) dX9_both_67 ?_
          refine gt_X9_34 (pc := 68) rfl dX9_both_68 ?_
          refine ev_aload_7 (pc := 71) dX9_both_71 ?_
          refine ev_aload_8 (pc := 73) dX9_both_73 ?_
          refine ev_iload_4 (pc := 75) dX9_both_75 ?_
          obtain ⟨m9, hm9, h⟩ := ev_bindE hN h
          refine cl0_X9_292 (pc := 77) rfl dX9_both_77 (by decide) (Nat.le_of_ble_eq_true rfl) (c_X8_steerTogether hm9) ?_
          refine ev_iload_5 (pc := 80) dX9_both_80 ?_
          refine ev_ifc_eq (pc := 82) (tgt := 95) dX9_both_82 (by decide) (fun c10 => ?_) (fun c10 => ?_)
          · replace h := ev_ifp h c10
            refine ev_aload_0 (pc := 95) dX9_both_95 ?_
            refine gt_X9_34 (pc := 96) rfl dX9_both_96 ?_
            obtain ⟨x11, hx11, h⟩ := ev_bindE hN h
            refine cl1_X9_259 (pc := 99) rfl dX9_both_99 (by decide) (Nat.le_of_ble_eq_true rfl) (c_X8_cost hx11) ?_
            exact ev_lret (pc := 102) dX9_both_102 rfl (hR _ _ h)
          · replace h := ev_ifn h c10
            refine ev_aload_0 (pc := 85) dX9_both_85 ?_
            refine gt_X9_34 (pc := 86) rfl dX9_both_86 ?_
            obtain ⟨x12, hx12, h⟩ := ev_bindE hN h
            refine cl1_X9_193 (pc := 89) rfl dX9_both_89 (by decide) (Nat.le_of_ble_eq_true rfl) (c_X8_widest hx12) ?_
            refine ev_goto (pc := 92) (tgt := 102) dX9_both_92 (by decide) ?_
            exact ev_lret (pc := 102) dX9_both_102 rfl (hR _ _ h)
        · replace h := ev_ifn h c7
          refine ev_ldc2 (pc := 53) (v := (-1)) kl_X9_159 dX9_both_53 ?_
          exact ev_lret (pc := 56) dX9_both_56 rfl (hR _ _ h)
theorem c_X9_both {G : ev_G} {mF : ev_m} {i0 : Nat} {x1_ : Int32} {x2_ : Int32} {x3_ : Int32} {x4_ : Int32} {x5_ : Int32} {r : Int64 × ev_m} (h : f_X9_both mF i0 x1_ x2_ x3_ x4_ x5_ = some r) : ev_CF G K_X9_both B_X9_both [vr 0 (i0), vi (x1_), vi (x2_), vi (x3_), vi (x4_), vi (x5_)] mF (some (vl (r.1))) r.2 :=
  ev_Ct_of rfl rfl (Nat.le_of_ble_eq_true rfl) (e_X9_both (R := some r) (fun x0 m0 q => by cases q; exact ⟨rfl, rfl⟩) (fun q => by cases q) h)
set_option maxRecDepth 20000 in
set_option maxHeartbeats 4000000 in
theorem e_X9_apart {G : ev_G} {Q : Option ev_V → ev_M → Prop} {R : Option (Int32 × ev_m)} {mF : ev_m} (hR : ∀ (x0 : Int32) (m0 : ev_m), (some ((x0, m0))) = R → Q (some (vi x0)) (ev_emb m0)) (hN : none ≠ R) {i0 : Nat} {x1_ : Int32} {x2_ : Int32} {x3_ : Int32} {x4_ : Int32} (h : f_X9_apart mF i0 x1_ x2_ x3_ x4_ = R) : ev_E G K_X9_apart B_X9_apart (0, 0) 0 [some (vr 0 (i0)), some (vi (x1_)), some (vi (x2_)), some (vi (x3_)), some (vi (x4_)), none] [] (ev_emb mF) Q := by
  unfold f_X9_apart at h
  refine ev_aload_0 (pc := 0) dX9_apart_0 ?_
  refine gt_X9_10 (pc := 1) rfl dX9_apart_1 ?_
  refine ev_iload_3 (pc := 4) dX9_apart_4 ?_
  obtain ⟨x1, hx1, h⟩ := ev_bindE hN h
  refine cl1_X9_100 (pc := 5) rfl dX9_apart_5 (by decide) (Nat.le_of_ble_eq_true rfl) (c_X0_paperAt hx1) ?_
  refine ev_astore_5 (pc := 8) dX9_apart_8 (by decide) rfl ?_
  refine ev_aload_5 (pc := 10) dX9_apart_10 ?_
  rcases x1 with _ | j2
  · replace h := ev_onN h
    show ev_E G K_X9_apart B_X9_apart (0, 0) 12 [some (vr 0 (i0)), some (vi (x1_)), some (vi (x2_)), some (vi (x3_)), some (vi (x4_)), some (vn)] [vn] (ev_emb mF) Q
    refine ev_ifnull_n (pc := 12) (tgt := 29) dX9_apart_12 (by decide) ?_
    refine ev_iconst (pc := 29) (v := (-1)) dX9_apart_29 rfl ?_
    exact ev_iret (pc := 30) dX9_apart_30 rfl rfl (hR _ _ h)
  · replace h := ev_onS h
    show ev_E G K_X9_apart B_X9_apart (0, 0) 12 [some (vr 0 (i0)), some (vi (x1_)), some (vi (x2_)), some (vi (x3_)), some (vi (x4_)), some (vr 5 (j2))] [vr 5 (j2)] (ev_emb mF) Q
    refine ev_ifnull_r (pc := 12) dX9_apart_12 ?_
    refine ev_aload_0 (pc := 15) dX9_apart_15 ?_
    refine ev_iload_1 (pc := 16) dX9_apart_16 ?_
    refine ev_iload_2 (pc := 17) dX9_apart_17 ?_
    refine ev_aload_5 (pc := 18) dX9_apart_18 ?_
    refine gt_X9_104 (pc := 20) rfl dX9_apart_20 ?_
    obtain ⟨p3, hp3, h⟩ := ev_bindE hN h
    refine cl1_X9_155 (pc := 23) rfl dX9_apart_23 (by decide) (Nat.le_of_ble_eq_true rfl) (c_X9_ready hp3) ?_
    refine ev_ifb_ne (pc := 26) (tgt := 31) dX9_apart_26 (by decide) (fun c4 => ?_) (fun c4 => ?_)
    · replace h := ev_ifp h c4
      refine ev_aload_0 (pc := 31) dX9_apart_31 ?_
      refine gt_X9_34 (pc := 32) rfl dX9_apart_32 ?_
      refine ev_aload_0 (pc := 35) dX9_apart_35 ?_
      refine gt_X9_41 (pc := 36) rfl dX9_apart_36 ?_
      refine ev_aload_0 (pc := 39) dX9_apart_39 ?_
      refine gt_X9_48 (pc := 40) rfl dX9_apart_40 ?_
      refine ev_iconst (pc := 43) (v := 0) dX9_apart_43 rfl ?_
      refine ev_aload_5 (pc := 44) dX9_apart_44 ?_
      refine gt_X9_104 (pc := 46) rfl dX9_apart_46 ?_
      obtain ⟨m5, hm5, h⟩ := ev_bindE hN h
      refine cl0_X9_189 (pc := 49) rfl dX9_apart_49 (by decide) (Nat.le_of_ble_eq_true rfl) (c_X8_sail hm5) ?_
      refine ev_iload_4 (pc := 52) dX9_apart_52 ?_
      refine ev_ifc_eq (pc := 54) (tgt := 69) dX9_apart_54 (by decide) (fun c6 => ?_) (fun c6 => ?_)
      · replace h := ev_ifp h c6
        refine ev_aload_0 (pc := 69) dX9_apart_69 ?_
        refine gt_X9_34 (pc := 70) rfl dX9_apart_70 ?_
        refine ev_aload_5 (pc := 73) dX9_apart_73 ?_
        obtain ⟨x7, hx7, h⟩ := ev_bindE hN h
        refine cl1_X9_300 (pc := 75) rfl dX9_apart_75 (by decide) (Nat.le_of_ble_eq_true rfl) (c_X8_apartFrom hx7) ?_
        exact ev_iret (pc := 78) dX9_apart_78 rfl rfl (hR _ _ h)
      · replace h := ev_ifn h c6
        refine ev_aload_0 (pc := 57) dX9_apart_57 ?_
        refine gt_X9_34 (pc := 58) rfl dX9_apart_58 ?_
        refine ev_aload_5 (pc := 61) dX9_apart_61 ?_
        obtain ⟨x8, hx8, h⟩ := ev_bindE hN h
        refine cl1_X9_296 (pc := 63) rfl dX9_apart_63 (by decide) (Nat.le_of_ble_eq_true rfl) (c_X8_alikeTo hx8) ?_
        refine ev_goto (pc := 66) (tgt := 78) dX9_apart_66 (by decide) ?_
        exact ev_iret (pc := 78) dX9_apart_78 rfl rfl (hR _ _ h)
    · replace h := ev_ifn h c4
      refine ev_iconst (pc := 29) (v := (-1)) dX9_apart_29 rfl ?_
      exact ev_iret (pc := 30) dX9_apart_30 rfl rfl (hR _ _ h)
theorem c_X9_apart {G : ev_G} {mF : ev_m} {i0 : Nat} {x1_ : Int32} {x2_ : Int32} {x3_ : Int32} {x4_ : Int32} {r : Int32 × ev_m} (h : f_X9_apart mF i0 x1_ x2_ x3_ x4_ = some r) : ev_CF G K_X9_apart B_X9_apart [vr 0 (i0), vi (x1_), vi (x2_), vi (x3_), vi (x4_)] mF (some (vi (r.1))) r.2 :=
  ev_Ct_of rfl rfl (Nat.le_of_ble_eq_true rfl) (e_X9_apart (R := some r) (fun x0 m0 q => by cases q; exact ⟨rfl, rfl⟩) (fun q => by cases q) h)
set_option maxRecDepth 20000 in
set_option maxHeartbeats 4000000 in
theorem e_jn_X9_whose_74_26 {G : ev_G} {Q : Option ev_V → ev_M → Prop} {R : Option (Int32 × ev_m)} (hR : ∀ (x0 : Int32) (m0 : ev_m), (some ((x0, m0))) = R → Q (some (vi x0)) (ev_emb m0)) (hN : none ≠ R) {m16 : ev_m} {i3 : Nat} {x4 : Int32} {i5 : Nat} {x13 : Int32} {x14 : Int32} {x15 : Int32} {kb : Int32 → Int32 → Int32 → ev_m → Option (Int32 × ev_m)} {kx : Int32 → ev_m → Option (Int32 × ev_m)}  (h : jn_X9_whose_74_26 m16 i3 x4 i5 x13 x14 x15 kb kx = R) (hkb : ∀ (x6' : Int32) (x7' : Int32) (x8' : Int32) (m9' : ev_m), kb x6' x7' x8' m9' = R → ev_E G K_X9_whose B_X9_whose (0, 0) 26 [some (vr 0 (i3)), some (vi (x4)), none, some (vr 5 (i5)), some (vi (x6')), some (vi (x7')), some (vi (x8')), none] [] (ev_emb m9') Q) (hkx : ∀ (x6' : Int32) (m9' : ev_m), kx x6' m9' = R → ev_E G K_X9_whose B_X9_whose (0, 0) 80 [none, none, none, none, some (vi (x6')), none, none, none] [] (ev_emb m9') Q) : ev_E G K_X9_whose B_X9_whose (0, 0) 74 [some (vr 0 (i3)), some (vi (x4)), none, some (vr 5 (i5)), some (vi (x13)), some (vi (x14)), some (vi (x15)), none] [] (ev_emb m16) Q := by
  unfold jn_X9_whose_74_26 at h
  refine ev_iinc_6 (pc := 74) (y := x15 + 1) dX9_whose_74 rfl (by decide) rfl ?_
  refine ev_goto (pc := 77) (tgt := 26) dX9_whose_77 (by decide) ?_
  exact hkb _ _ _ _  h
set_option maxRecDepth 20000 in
set_option maxHeartbeats 4000000 in
theorem e_lp_X9_whose_26 {G : ev_G} {Q : Option ev_V → ev_M → Prop} {R : Option (Int32 × ev_m)} (hR : ∀ (x0 : Int32) (m0 : ev_m), (some ((x0, m0))) = R → Q (some (vi x0)) (ev_emb m0)) (hN : none ≠ R) {i3 : Nat} {x4 : Int32} {i5 : Nat} : ∀ (f : Nat) (x6 : Int32) (x7 : Int32) (x8 : Int32) (m9 : ev_m) (kx : Int32 → ev_m → Option (Int32 × ev_m)) (h : lp_X9_whose_26 i3 x4 i5 f x6 x7 x8 m9 kx = R) (hk : ∀ (x6' : Int32) (m9' : ev_m), kx x6' m9' = R → ev_E G K_X9_whose B_X9_whose (0, 0) 80 [none, none, none, none, some (vi (x6')), none, none, none] [] (ev_emb m9') Q), ev_E G K_X9_whose B_X9_whose (0, 0) 26 [some (vr 0 (i3)), some (vi (x4)), none, some (vr 5 (i5)), some (vi (x6)), some (vi (x7)), some (vi (x8)), none] [] (ev_emb m9) Q := by
  intro f
  induction f with
  | zero => intro x6 x7 x8 m9 kx h hk; rw [lp_X9_whose_26] at h; exact absurd h hN
  | succ f ih =>
    intro x6 x7 x8 m9 kx h hk
    rw [lp_X9_whose_26] at h
    refine ev_iload_6 (pc := 26) dX9_whose_26 ?_
    refine ev_aload_0 (pc := 28) dX9_whose_28 ?_
    refine gt_X9_10 (pc := 29) rfl dX9_whose_29 ?_
    refine gt_X9_280 (pc := 32) rfl dX9_whose_32 ?_
    refine ev_icc_ge (pc := 35) (tgt := 80) dX9_whose_35 (by decide) (fun c10 => ?_) (fun c10 => ?_)
    · replace h := ev_ifn h c10
      refine ev_E.forget (L' := [none, none, none, none, some (vi (x6)), none, none, none]) ⟨rfl, trivial⟩ ?_
      exact hk _ _  h
    · replace h := ev_ifp h c10
      refine ev_aload_0 (pc := 38) dX9_whose_38 ?_
      refine ev_iload_1 (pc := 39) dX9_whose_39 ?_
      refine ev_iload_6 (pc := 40) dX9_whose_40 ?_
      refine ev_aload_3 (pc := 42) dX9_whose_42 ?_
      refine gt_X9_104 (pc := 43) rfl dX9_whose_43 ?_
      obtain ⟨p11, hp11, h⟩ := ev_bindE hN h
      refine cl1_X9_155 (pc := 46) rfl dX9_whose_46 (by decide) (Nat.le_of_ble_eq_true rfl) (c_X9_ready hp11) ?_
      refine ev_ifb_eq (pc := 49) (tgt := 74) dX9_whose_49 (by decide) (fun c12 => ?_) (fun c12 => ?_)
      · replace h := ev_ifn h c12
        exact e_jn_X9_whose_74_26 hR hN h (fun _ _ _ _ h => ih _ _ _ _ kx h hk) hk
      · replace h := ev_ifp h c12
        refine ev_aload_0 (pc := 52) dX9_whose_52 ?_
        refine ev_aload_3 (pc := 53) dX9_whose_53 ?_
        obtain ⟨p17, hp17, h⟩ := ev_bindE hN h
        refine cl1_X9_304 (pc := 54) rfl dX9_whose_54 (by decide) (Nat.le_of_ble_eq_true rfl) (c_X9_trialApart hp17) ?_
        obtain ⟨x18, hx18, h⟩ := ev_letE h
        refine ev_topi (pc := 57) hx18 ?_
        refine ev_istore_7 (pc := 57) dX9_whose_57 (by decide) rfl ?_
        refine ev_iload_7 (pc := 59) dX9_whose_59 ?_
        refine ev_iload_5 (pc := 61) dX9_whose_61 ?_
        obtain ⟨x20, hx20, h⟩ := ev_letE h
        obtain ⟨x21, hx21, h⟩ := ev_letE h
        have hJ1 : ev_E G K_X9_whose B_X9_whose (0, 0) 74 [some (vr 0 (i3)), some (vi (x4)), none, some (vr 5 (i5)), some (vi (x20)), some (vi (x21)), some (vi (x8)), some (vi (x18))] [] (ev_emb p17.2) Q := by
          refine ev_iinc_6 (pc := 74) (y := x8 + 1) dX9_whose_74 rfl (by decide) rfl ?_
          refine ev_goto (pc := 77) (tgt := 26) dX9_whose_77 (by decide) ?_
          refine ev_E.forget (L' := [some (vr 0 (i3)), some (vi (x4)), none, some (vr 5 (i5)), some (vi (x20)), some (vi (x21)), some (vi (x8 + 1)), none]) ⟨rfl, ⟨rfl, ⟨rfl, ⟨rfl, ⟨rfl, ⟨rfl, trivial⟩⟩⟩⟩⟩⟩ ?_
          exact ih _ _ _ _ kx h hk
        refine ev_icc_ge (pc := 63) (tgt := 74) dX9_whose_63 (by decide) (fun c19 => ?_) (fun c19 => ?_)
        · replace hx20 := (hx20.trans (if_neg c19))
          replace hx21 := (hx21.trans (if_neg c19))
          subst hx20
          subst hx21
          exact hJ1
        · refine ev_iload_7 (pc := 66) dX9_whose_66 ?_
          refine ev_istore_5 (pc := 68) dX9_whose_68 (by decide) rfl ?_
          refine ev_iload_6 (pc := 70) dX9_whose_70 ?_
          refine ev_istore_4 (pc := 72) dX9_whose_72 (by decide) rfl ?_
          replace hx20 := (hx20.trans (if_pos c19))
          replace hx21 := (hx21.trans (if_pos c19))
          subst hx20
          subst hx21
          exact hJ1
set_option maxRecDepth 20000 in
set_option maxHeartbeats 4000000 in
theorem e_X9_whose {G : ev_G} {Q : Option ev_V → ev_M → Prop} {R : Option (Int32 × ev_m)} {mF : ev_m} (hR : ∀ (x0 : Int32) (m0 : ev_m), (some ((x0, m0))) = R → Q (some (vi x0)) (ev_emb m0)) (hN : none ≠ R) {i0 : Nat} {x1_ : Int32} {x2_ : Int32} (h : f_X9_whose mF i0 x1_ x2_ = R) : ev_E G K_X9_whose B_X9_whose (0, 0) 0 [some (vr 0 (i0)), some (vi (x1_)), some (vi (x2_)), none, none, none, none, none] [] (ev_emb mF) Q := by
  unfold f_X9_whose at h
  refine ev_aload_0 (pc := 0) dX9_whose_0 ?_
  refine gt_X9_10 (pc := 1) rfl dX9_whose_1 ?_
  refine ev_iload_2 (pc := 4) dX9_whose_4 ?_
  obtain ⟨x1, hx1, h⟩ := ev_bindE hN h
  refine cl1_X9_100 (pc := 5) rfl dX9_whose_5 (by decide) (Nat.le_of_ble_eq_true rfl) (c_X0_paperAt hx1) ?_
  refine ev_astore_3 (pc := 8) dX9_whose_8 (by decide) rfl ?_
  refine ev_aload_3 (pc := 9) dX9_whose_9 ?_
  rcases x1 with _ | j2
  · replace h := ev_onN h
    show ev_E G K_X9_whose B_X9_whose (0, 0) 10 [some (vr 0 (i0)), some (vi (x1_)), some (vi (x2_)), some (vn), none, none, none, none] [vn] (ev_emb mF) Q
    refine ev_ifnonnull_n (pc := 10) dX9_whose_10 ?_
    refine ev_iconst (pc := 13) (v := (-1)) dX9_whose_13 rfl ?_
    exact ev_iret (pc := 14) dX9_whose_14 rfl rfl (hR _ _ h)
  · replace h := ev_onS h
    show ev_E G K_X9_whose B_X9_whose (0, 0) 10 [some (vr 0 (i0)), some (vi (x1_)), some (vi (x2_)), some (vr 5 (j2)), none, none, none, none] [vr 5 (j2)] (ev_emb mF) Q
    refine ev_ifnonnull_r (pc := 10) (tgt := 15) dX9_whose_10 (by decide) ?_
    refine ev_iconst (pc := 15) (v := (-1)) dX9_whose_15 rfl ?_
    refine ev_istore_4 (pc := 16) dX9_whose_16 (by decide) rfl ?_
    refine ev_ldcw (pc := 18) (v := 2147483647) kc_X9_303 dX9_whose_18 ?_
    refine ev_istore_5 (pc := 21) dX9_whose_21 (by decide) rfl ?_
    refine ev_iconst (pc := 23) (v := 0) dX9_whose_23 rfl ?_
    refine ev_istore_6 (pc := 24) dX9_whose_24 (by decide) rfl ?_
    refine ev_E.forget (L' := [some (vr 0 (i0)), some (vi (x1_)), none, some (vr 5 (j2)), some (vi ((-1))), some (vi (2147483647)), some (vi (0)), none]) ⟨rfl, ⟨rfl, ⟨rfl, ⟨rfl, ⟨rfl, ⟨rfl, trivial⟩⟩⟩⟩⟩⟩ ?_
    refine e_lp_X9_whose_26 hR hN 4000 _ _ _ _ _ h (fun x22 m23 h => ?_)
    refine ev_iload_4 (pc := 80) dX9_whose_80 ?_
    exact ev_iret (pc := 82) dX9_whose_82 rfl rfl (hR _ _ h)
theorem c_X9_whose {G : ev_G} {mF : ev_m} {i0 : Nat} {x1_ : Int32} {x2_ : Int32} {r : Int32 × ev_m} (h : f_X9_whose mF i0 x1_ x2_ = some r) : ev_CF G K_X9_whose B_X9_whose [vr 0 (i0), vi (x1_), vi (x2_)] mF (some (vi (r.1))) r.2 :=
  ev_Ct_of rfl rfl (Nat.le_of_ble_eq_true rfl) (e_X9_whose (R := some r) (fun x0 m0 q => by cases q; exact ⟨rfl, rfl⟩) (fun q => by cases q) h)
