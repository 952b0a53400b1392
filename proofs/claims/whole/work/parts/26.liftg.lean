/-! lifted methods -/
set_option maxRecDepth 20000 in
set_option maxHeartbeats 4000000 in
theorem e_lp_X9_tells_42 {G : ev_G} {Q : Option ev_V → ev_M → Prop} {R : Option (Int32 × ev_m)} (hR : ∀ (x0 : Int32) (m0 : ev_m), (some ((x0, m0))) = R → Q (some (vi x0)) (ev_emb m0)) (hN : none ≠ R) {i5 : Nat} {i6 : Nat} : ∀ (f : Nat) (x7 : Int32) (x8 : Int32) (x9 : Int32) (m10 : ev_m) (kx : Int32 → ev_m → Option (Int32 × ev_m)) (h : lp_X9_tells_42 i5 i6 f x7 x8 x9 m10 kx = R) (hk : ∀ (x7' : Int32) (m10' : ev_m), kx x7' m10' = R → ev_E G K_X9_tells B_X9_tells (0, 0) 88 [none, none, none, none, none, some (vi (x7')), none, none, none] [] (ev_emb m10') Q), ev_E G K_X9_tells B_X9_tells (0, 0) 42 [some (vr 0 (i5)), none, none, none, some (vr 5 (i6)), some (vi (x7)), some (vi (x8)), some (vi (x9)), none] [] (ev_emb m10) Q := by
  intro f
  induction f with
  | zero => intro x7 x8 x9 m10 kx h hk; rw [lp_X9_tells_42] at h; exact absurd h hN
  | succ f ih =>
    intro x7 x8 x9 m10 kx h hk
    rw [lp_X9_tells_42] at h
    refine ev_iload_7 (pc := 42) dX9_tells_42 ?_
    refine ev_bipush (pc := 44) (v := 99) dX9_tells_44 (by decide) ?_
    refine ev_icc_gt (pc := 46) (tgt := 88) dX9_tells_46 (by decide) (fun c11 => ?_) (fun c11 => ?_)
    · replace h := ev_ifp h c11
      refine ev_E.forget (L' := [none, none, none, none, none, some (vi (x7)), none, none, none]) ⟨rfl, trivial⟩ ?_
      exact hk _ _  h
    · replace h := ev_ifn h c11
      refine ev_aload_0 (pc := 49) dX9_tells_49 ?_
      refine gt_X9_41 (pc := 50) rfl dX9_tells_50 ?_
      refine ev_iconst (pc := 53) (v := 0) dX9_tells_53 rfl ?_
      refine ev_iload_7 (pc := 54) dX9_tells_54 ?_
      obtain ⟨m12, hm12, h⟩ := ev_letE h
      refine cl0_X9_185 (pc := 56) (fr := 0) (lo := 0) (m' := m12) rfl dX9_tells_56 (by decide) (Nat.le_of_ble_eq_true rfl) (by rw [hm12]; exact c_X5_write m10 8 0 x9) ?_
      refine ev_aload_0 (pc := 59) dX9_tells_59 ?_
      refine ev_aload_4 (pc := 60) dX9_tells_60 ?_
      obtain ⟨p13, hp13, h⟩ := ev_bindE hN h
      refine cl1_X9_304 (pc := 62) rfl dX9_tells_62 (by decide) (Nat.le_of_ble_eq_true rfl) (c_X9_trialApart hp13) ?_
      obtain ⟨x14, hx14, h⟩ := ev_letE h
      refine ev_topi (pc := 65) hx14 ?_
      refine ev_istore_8 (pc := 65) dX9_tells_65 (by decide) rfl ?_
      refine ev_iload_8 (pc := 67) dX9_tells_67 ?_
      refine ev_iload_6 (pc := 69) dX9_tells_69 ?_
      obtain ⟨x16, hx16, h⟩ := ev_letE h
      obtain ⟨x17, hx17, h⟩ := ev_letE h
      have hJ1 : ev_E G K_X9_tells B_X9_tells (0, 0) 82 [some (vr 0 (i5)), none, none, none, some (vr 5 (i6)), some (vi (x16)), some (vi (x17)), some (vi (x9)), some (vi (x14))] [] (ev_emb p13.2) Q := by
        refine ev_iinc_7 (pc := 82) (y := x9 + 1) dX9_tells_82 rfl (by decide) rfl ?_
        refine ev_goto (pc := 85) (tgt := 42) dX9_tells_85 (by decide) ?_
        refine ev_E.forget (L' := [some (vr 0 (i5)), none, none, none, some (vr 5 (i6)), some (vi (x16)), some (vi (x17)), some (vi (x9 + 1)), none]) ⟨rfl, ⟨rfl, ⟨rfl, ⟨rfl, ⟨rfl, trivial⟩⟩⟩⟩⟩ ?_
        exact ih _ _ _ _ kx h hk
      refine ev_icc_ge (pc := 71) (tgt := 82) dX9_tells_71 (by decide) (fun c15 => ?_) (fun c15 => ?_)
      · replace hx16 := (hx16.trans (if_neg c15))
        replace hx17 := (hx17.trans (if_neg c15))
        subst hx16
        subst hx17
        exact hJ1
      · refine ev_iload_8 (pc := 74) dX9_tells_74 ?_
        refine ev_istore_6 (pc := 76) dX9_tells_76 (by decide) rfl ?_
        refine ev_iload_7 (pc := 78) dX9_tells_78 ?_
        refine ev_istore_5 (pc := 80) dX9_tells_80 (by decide) rfl ?_
        replace hx16 := (hx16.trans (if_pos c15))
        replace hx17 := (hx17.trans (if_pos c15))
        subst hx16
        subst hx17
        exact hJ1
set_option maxRecDepth 20000 in
set_option maxHeartbeats 4000000 in
theorem e_X9_tells {G : ev_G} {Q : Option ev_V → ev_M → Prop} {R : Option (Int32 × ev_m)} {mF : ev_m} (hR : ∀ (x0 : Int32) (m0 : ev_m), (some ((x0, m0))) = R → Q (some (vi x0)) (ev_emb m0)) (hN : none ≠ R) {i0 : Nat} {x1_ : Int32} {x2_ : Int32} {x3_ : Int32} (h : f_X9_tells mF i0 x1_ x2_ x3_ = R) : ev_E G K_X9_tells B_X9_tells (0, 0) 0 [some (vr 0 (i0)), some (vi (x1_)), some (vi (x2_)), some (vi (x3_)), none, none, none, none, none] [] (ev_emb mF) Q := by
  unfold f_X9_tells at h
  refine ev_aload_0 (pc := 0) dX9_tells_0 ?_
  refine gt_X9_10 (pc := 1) rfl dX9_tells_1 ?_
  refine ev_iload_3 (pc := 4) dX9_tells_4 ?_
  obtain ⟨x1, hx1, h⟩ := ev_bindE hN h
  refine cl1_X9_100 (pc := 5) rfl dX9_tells_5 (by decide) (Nat.le_of_ble_eq_true rfl) (c_X0_paperAt hx1) ?_
  refine ev_astore_4 (pc := 8) dX9_tells_8 (by decide) rfl ?_
  refine ev_aload_4 (pc := 10) dX9_tells_10 ?_
  rcases x1 with _ | j2
  · replace h := ev_onN h
    show ev_E G K_X9_tells B_X9_tells (0, 0) 12 [some (vr 0 (i0)), some (vi (x1_)), some (vi (x2_)), some (vi (x3_)), some (vn), none, none, none, none] [vn] (ev_emb mF) Q
    refine ev_ifnull_n (pc := 12) (tgt := 29) dX9_tells_12 (by decide) ?_
    refine ev_iconst (pc := 29) (v := (-1)) dX9_tells_29 rfl ?_
    exact ev_iret (pc := 30) dX9_tells_30 rfl rfl (hR _ _ h)
  · replace h := ev_onS h
    show ev_E G K_X9_tells B_X9_tells (0, 0) 12 [some (vr 0 (i0)), some (vi (x1_)), some (vi (x2_)), some (vi (x3_)), some (vr 5 (j2)), none, none, none, none] [vr 5 (j2)] (ev_emb mF) Q
    refine ev_ifnull_r (pc := 12) dX9_tells_12 ?_
    refine ev_aload_0 (pc := 15) dX9_tells_15 ?_
    refine ev_iload_1 (pc := 16) dX9_tells_16 ?_
    refine ev_iload_2 (pc := 17) dX9_tells_17 ?_
    refine ev_aload_4 (pc := 18) dX9_tells_18 ?_
    refine gt_X9_104 (pc := 20) rfl dX9_tells_20 ?_
    obtain ⟨p3, hp3, h⟩ := ev_bindE hN h
    refine cl1_X9_155 (pc := 23) rfl dX9_tells_23 (by decide) (Nat.le_of_ble_eq_true rfl) (c_X9_ready hp3) ?_
    refine ev_ifb_ne (pc := 26) (tgt := 31) dX9_tells_26 (by decide) (fun c4 => ?_) (fun c4 => ?_)
    · replace h := ev_ifp h c4
      refine ev_iconst (pc := 31) (v := (-1)) dX9_tells_31 rfl ?_
      refine ev_istore_5 (pc := 32) dX9_tells_32 (by decide) rfl ?_
      refine ev_ldcw (pc := 34) (v := 2147483647) kc_X9_303 dX9_tells_34 ?_
      refine ev_istore_6 (pc := 37) dX9_tells_37 (by decide) rfl ?_
      refine ev_iconst (pc := 39) (v := 0) dX9_tells_39 rfl ?_
      refine ev_istore_7 (pc := 40) dX9_tells_40 (by decide) rfl ?_
      refine ev_E.forget (L' := [some (vr 0 (i0)), none, none, none, some (vr 5 (j2)), some (vi ((-1))), some (vi (2147483647)), some (vi (0)), none]) ⟨rfl, ⟨rfl, ⟨rfl, ⟨rfl, ⟨rfl, trivial⟩⟩⟩⟩⟩ ?_
      refine e_lp_X9_tells_42 hR hN 4000 _ _ _ _ _ h (fun x18 m19 h => ?_)
      refine ev_iload_5 (pc := 88) dX9_tells_88 ?_
      exact ev_iret (pc := 90) dX9_tells_90 rfl rfl (hR _ _ h)
    · replace h := ev_ifn h c4
      refine ev_iconst (pc := 29) (v := (-1)) dX9_tells_29 rfl ?_
      exact ev_iret (pc := 30) dX9_tells_30 rfl rfl (hR _ _ h)
theorem c_X9_tells {G : ev_G} {mF : ev_m} {i0 : Nat} {x1_ : Int32} {x2_ : Int32} {x3_ : Int32} {r : Int32 × ev_m} (h : f_X9_tells mF i0 x1_ x2_ x3_ = some r) : ev_CF G K_X9_tells B_X9_tells [vr 0 (i0), vi (x1_), vi (x2_), vi (x3_)] mF (some (vi (r.1))) r.2 :=
  ev_Ct_of rfl rfl (Nat.le_of_ble_eq_true rfl) (e_X9_tells (R := some r) (fun x0 m0 q => by cases q; exact ⟨rfl, rfl⟩) (fun q => by cases q) h)
set_option maxRecDepth 20000 in
set_option maxHeartbeats 4000000 in
theorem e_lp_X9_slipped_42 {G : ev_G} {Q : Option ev_V → ev_M → Prop} {R : Option (Int64 × ev_m)} (hR : ∀ (x0 : Int64) (m0 : ev_m), (some ((x0, m0))) = R → Q (some (vl x0)) (ev_emb m0)) (hN : none ≠ R) {i5 : Nat} {x6 : Int32} {x7 : Int32} {x8 : Int32} {x9 : Int32} : ∀ (f : Nat) (x10 : Int32) (y11 : Int64) (y12 : Int64) (x13 : Int32) (m14 : ev_m) (kx : Int32 → Int64 → ev_m → Option (Int64 × ev_m)) (h : lp_X9_slipped_42 i5 x6 x7 x8 x9 f x10 y11 y12 x13 m14 kx = R) (hk : ∀ (x10' : Int32) (y12' : Int64) (m14' : ev_m), kx x10' y12' m14' = R → ev_E G K_X9_slipped B_X9_slipped (0, 0) 110 [none, none, none, none, none, none, some (vi (x9)), some (vi (x10')), none, none, some (vl (y12')), none, none, none, none] [] (ev_emb m14') Q), ev_E G K_X9_slipped B_X9_slipped (0, 0) 42 [some (vr 0 (i5)), none, none, some (vi (x6)), some (vi (x7)), some (vi (x8)), some (vi (x9)), some (vi (x10)), some (vl (y11)), none, some (vl (y12)), none, some (vi (x13)), none, none] [] (ev_emb m14) Q := by
  intro f
  induction f with
  | zero => intro x10 y11 y12 x13 m14 kx h hk; rw [lp_X9_slipped_42] at h; exact absurd h hN
  | succ f ih =>
    intro x10 y11 y12 x13 m14 kx h hk
    rw [lp_X9_slipped_42] at h
    refine ev_iload_12 (pc := 42) dX9_slipped_42 ?_
    refine ev_iload_4 (pc := 44) dX9_slipped_44 ?_
    refine ev_icc_ge (pc := 46) (tgt := 110) dX9_slipped_46 (by decide) (fun c15 => ?_) (fun c15 => ?_)
    · replace h := ev_ifn h c15
      refine ev_E.forget (L' := [none, none, none, none, none, none, some (vi (x9)), some (vi (x10)), none, none, some (vl (y12)), none, none, none, none]) ⟨rfl, ⟨rfl, ⟨rfl, trivial⟩⟩⟩ ?_
      exact hk _ _ _  h
    · replace h := ev_ifp h c15
      refine ev_aload_0 (pc := 49) dX9_slipped_49 ?_
      refine gt_X9_34 (pc := 50) rfl dX9_slipped_50 ?_
      refine ev_aload_0 (pc := 53) dX9_slipped_53 ?_
      refine gt_X9_41 (pc := 54) rfl dX9_slipped_54 ?_
      refine ev_aload_0 (pc := 57) dX9_slipped_57 ?_
      refine gt_X9_48 (pc := 58) rfl dX9_slipped_58 ?_
      refine ev_iload_3 (pc := 61) dX9_slipped_61 ?_
      refine ev_iload_12 (pc := 62) dX9_slipped_62 ?_
      refine ev_iadd (pc := 64) dX9_slipped_64 ?_
      refine ev_iload_5 (pc := 65) dX9_slipped_65 ?_
      obtain ⟨m16, hm16, h⟩ := ev_bindE hN h
      refine cl0_X9_189 (pc := 67) rfl dX9_slipped_67 (by decide) (Nat.le_of_ble_eq_true rfl) (c_X8_sail hm16) ?_
      refine ev_aload_0 (pc := 70) dX9_slipped_70 ?_
      refine gt_X9_34 (pc := 71) rfl dX9_slipped_71 ?_
      obtain ⟨x17, hx17, h⟩ := ev_bindE hN h
      refine cl1_X9_259 (pc := 74) rfl dX9_slipped_74 (by decide) (Nat.le_of_ble_eq_true rfl) (c_X8_cost hx17) ?_
      refine ev_lstore_13 (pc := 77) dX9_slipped_77 (by decide) rfl ?_
      refine ev_lload_10 (pc := 79) dX9_slipped_79 ?_
      refine ev_lload_13 (pc := 81) dX9_slipped_81 ?_
      refine ev_ladd (pc := 83) dX9_slipped_83 ?_
      obtain ⟨y18, hy18, h⟩ := ev_letE h
      refine ev_topl (pc := 84) hy18 ?_
      refine ev_lstore_10 (pc := 84) dX9_slipped_84 (by decide) rfl ?_
      refine ev_lload_13 (pc := 86) dX9_slipped_86 ?_
      refine ev_lload_8 (pc := 88) dX9_slipped_88 ?_
      obtain ⟨x20, hx20, h⟩ := ev_letE h
      obtain ⟨y21, hy21, h⟩ := ev_letE h
      have hJ1 : ev_E G K_X9_slipped B_X9_slipped (0, 0) 104 [some (vr 0 (i5)), none, none, some (vi (x6)), some (vi (x7)), some (vi (x8)), some (vi (x9)), some (vi (x20)), some (vl (y21)), none, some (vl (y18)), none, some (vi (x13)), some (vl (x17)), none] [] (ev_emb m16) Q := by
        refine ev_iinc_12 (pc := 104) (y := x13 + 1) dX9_slipped_104 rfl (by decide) rfl ?_
        refine ev_goto (pc := 107) (tgt := 42) dX9_slipped_107 (by decide) ?_
        refine ev_E.forget (L' := [some (vr 0 (i5)), none, none, some (vi (x6)), some (vi (x7)), some (vi (x8)), some (vi (x9)), some (vi (x20)), some (vl (y21)), none, some (vl (y18)), none, some (vi (x13 + 1)), none, none]) ⟨rfl, ⟨rfl, ⟨rfl, ⟨rfl, ⟨rfl, ⟨rfl, ⟨rfl, ⟨rfl, ⟨rfl, trivial⟩⟩⟩⟩⟩⟩⟩⟩⟩ ?_
        exact ih _ _ _ _ _ kx h hk
      refine ev_lcc_ge (pc := 90) (tgt := 104) dX9_slipped_90 dX9_slipped_91 (by decide) (fun c19 => ?_) (fun c19 => ?_)
      · replace hx20 := (hx20.trans (if_neg c19))
        replace hy21 := (hy21.trans (if_neg c19))
        subst hx20
        subst hy21
        exact hJ1
      · refine ev_lload_13 (pc := 94) dX9_slipped_94 ?_
        refine ev_lstore_8 (pc := 96) dX9_slipped_96 (by decide) rfl ?_
        refine ev_iload_3 (pc := 98) dX9_slipped_98 ?_
        refine ev_iload_12 (pc := 99) dX9_slipped_99 ?_
        refine ev_iadd (pc := 101) dX9_slipped_101 ?_
        refine ev_istore_7 (pc := 102) dX9_slipped_102 (by decide) rfl ?_
        replace hx20 := (hx20.trans (if_pos c19))
        replace hy21 := (hy21.trans (if_pos c19))
        subst hx20
        subst hy21
        exact hJ1
set_option maxRecDepth 20000 in
set_option maxHeartbeats 4000000 in
theorem e_X9_slipped {G : ev_G} {Q : Option ev_V → ev_M → Prop} {R : Option (Int64 × ev_m)} {mF : ev_m} (hR : ∀ (x0 : Int64) (m0 : ev_m), (some ((x0, m0))) = R → Q (some (vl x0)) (ev_emb m0)) (hN : none ≠ R) {i0 : Nat} {x1_ : Int32} {x2_ : Int32} {x3_ : Int32} {x4_ : Int32} {x5_ : Int32} {x6_ : Int32} (h : f_X9_slipped mF i0 x1_ x2_ x3_ x4_ x5_ x6_ = R) : ev_E G K_X9_slipped B_X9_slipped (0, 0) 0 [some (vr 0 (i0)), some (vi (x1_)), some (vi (x2_)), some (vi (x3_)), some (vi (x4_)), some (vi (x5_)), some (vi (x6_)), none, none, none, none, none, none, none, none] [] (ev_emb mF) Q := by
  unfold f_X9_slipped at h
  refine ev_aload_0 (pc := 0) dX9_slipped_0 ?_
  refine ev_iload_1 (pc := 1) dX9_slipped_1 ?_
  refine ev_iload_2 (pc := 2) dX9_slipped_2 ?_
  refine ev_iload_5 (pc := 3) dX9_slipped_3 ?_
  obtain ⟨p1, hp1, h⟩ := ev_bindE hN h
  refine cl1_X9_155 (pc := 5) rfl dX9_slipped_5 (by decide) (Nat.le_of_ble_eq_true rfl) (c_X9_ready hp1) ?_
  refine ev_ifb_eq (pc := 8) (tgt := 24) dX9_slipped_8 (by decide) (fun c2 => ?_) (fun c2 => ?_)
  · replace h := ev_ifn h c2
    refine ev_ldc2 (pc := 24) (v := (-100000)) kl_X9_250 dX9_slipped_24 ?_
    exact ev_lret (pc := 27) dX9_slipped_27 rfl (hR _ _ h)
  · replace h := ev_ifp h c2
    refine ev_iload_4 (pc := 11) dX9_slipped_11 ?_
    refine ev_iconst (pc := 13) (v := 1) dX9_slipped_13 rfl ?_
    refine ev_icc_lt (pc := 14) (tgt := 24) dX9_slipped_14 (by decide) (fun c3 => ?_) (fun c3 => ?_)
    · replace h := ev_ifp h c3
      refine ev_ldc2 (pc := 24) (v := (-100000)) kl_X9_250 dX9_slipped_24 ?_
      exact ev_lret (pc := 27) dX9_slipped_27 rfl (hR _ _ h)
    · replace h := ev_ifn h c3
      refine ev_iload_4 (pc := 17) dX9_slipped_17 ?_
      refine ev_bipush (pc := 19) (v := 20) dX9_slipped_19 (by decide) ?_
      refine ev_icc_le (pc := 21) (tgt := 28) dX9_slipped_21 (by decide) (fun c4 => ?_) (fun c4 => ?_)
      · replace h := ev_ifn h c4
        refine ev_iload_3 (pc := 28) dX9_slipped_28 ?_
        refine ev_istore_7 (pc := 29) dX9_slipped_29 (by decide) rfl ?_
        refine ev_ldc2 (pc := 31) (v := 9223372036854775807) kl_X9_165 dX9_slipped_31 ?_
        refine ev_lstore_8 (pc := 34) dX9_slipped_34 (by decide) rfl ?_
        refine ev_lconst (pc := 36) (v := 0) dX9_slipped_36 rfl ?_
        refine ev_lstore_10 (pc := 37) dX9_slipped_37 (by decide) rfl ?_
        refine ev_iconst (pc := 39) (v := 0) dX9_slipped_39 rfl ?_
        refine ev_istore_12 (pc := 40) dX9_slipped_40 (by decide) rfl ?_
        refine ev_E.forget (L' := [some (vr 0 (i0)), none, none, some (vi (x3_)), some (vi (x4_)), some (vi (x5_)), some (vi (x6_)), some (vi (x3_)), some (vl (9223372036854775807)), none, some (vl (0)), none, some (vi (0)), none, none]) ⟨rfl, ⟨rfl, ⟨rfl, ⟨rfl, ⟨rfl, ⟨rfl, ⟨rfl, ⟨rfl, ⟨rfl, trivial⟩⟩⟩⟩⟩⟩⟩⟩⟩ ?_
        refine e_lp_X9_slipped_42 hR hN 4000 _ _ _ _ _ _ h (fun x22 y23 m24 h => ?_)
        refine ev_iload_6 (pc := 110) dX9_slipped_110 ?_
        refine ev_ifc_eq (pc := 112) (tgt := 121) dX9_slipped_112 (by decide) (fun c25 => ?_) (fun c25 => ?_)
        · replace h := ev_ifp h c25
          refine ev_lload_10 (pc := 121) dX9_slipped_121 ?_
          exact ev_lret (pc := 123) dX9_slipped_123 rfl (hR _ _ h)
        · replace h := ev_ifn h c25
          refine ev_iload_7 (pc := 115) dX9_slipped_115 ?_
          refine ev_i2l (pc := 117) dX9_slipped_117 ?_
          refine ev_goto (pc := 118) (tgt := 123) dX9_slipped_118 (by decide) ?_
          exact ev_lret (pc := 123) dX9_slipped_123 rfl (hR _ _ h)
      · replace h := ev_ifp h c4
        refine ev_ldc2 (pc := 24) (v := (-100000)) kl_X9_250 dX9_slipped_24 ?_
        exact ev_lret (pc := 27) dX9_slipped_27 rfl (hR _ _ h)
theorem c_X9_slipped {G : ev_G} {mF : ev_m} {i0 : Nat} {x1_ : Int32} {x2_ : Int32} {x3_ : Int32} {x4_ : Int32} {x5_ : Int32} {x6_ : Int32} {r : Int64 × ev_m} (h : f_X9_slipped mF i0 x1_ x2_ x3_ x4_ x5_ x6_ = some r) : ev_CF G K_X9_slipped B_X9_slipped [vr 0 (i0), vi (x1_), vi (x2_), vi (x3_), vi (x4_), vi (x5_), vi (x6_)] mF (some (vl (r.1))) r.2 :=
  ev_Ct_of rfl rfl (Nat.le_of_ble_eq_true rfl) (e_X9_slipped (R := some r) (fun x0 m0 q => by cases q; exact ⟨rfl, rfl⟩) (fun q => by cases q) h)
set_option maxRecDepth 20000 in
set_option maxHeartbeats 4000000 in
theorem e_lp_X9_lead_17 {G : ev_G} {Q : Option ev_V → ev_M → Prop} {R : Option (Int32 × ev_m)} (hR : ∀ (x0 : Int32) (m0 : ev_m), (some ((x0, m0))) = R → Q (some (vi x0)) (ev_emb m0)) (hN : none ≠ R) {i3 : Nat} {x4 : Int32} : ∀ (f : Nat) (x5 : Int32) (m6 : ev_m) (kx : ev_m → Option (Int32 × ev_m)) (h : lp_X9_lead_17 i3 x4 f x5 m6 kx = R) (hk : ∀ (m6' : ev_m), kx m6' = R → ev_E G K_X9_lead B_X9_lead (0, 0) 44 [none, none, none, none, none, none] [] (ev_emb m6') Q), ev_E G K_X9_lead B_X9_lead (0, 0) 17 [some (vr 0 (i3)), none, none, some (vi (x4)), none, some (vi (x5))] [] (ev_emb m6) Q := by
  intro f
  induction f with
  | zero => intro x5 m6 kx h hk; rw [lp_X9_lead_17] at h; exact absurd h hN
  | succ f ih =>
    intro x5 m6 kx h hk
    rw [lp_X9_lead_17] at h
    refine ev_iload_5 (pc := 17) dX9_lead_17 ?_
    refine ev_bipush (pc := 19) (v := 99) dX9_lead_19 (by decide) ?_
    refine ev_icc_gt (pc := 21) (tgt := 44) dX9_lead_21 (by decide) (fun c7 => ?_) (fun c7 => ?_)
    · replace h := ev_ifp h c7
      refine ev_E.forget (L' := [none, none, none, none, none, none]) trivial ?_
      exact hk _  h
    · replace h := ev_ifn h c7
      refine ev_aload_0 (pc := 24) dX9_lead_24 ?_
      refine ev_iconst (pc := 25) (v := 1) dX9_lead_25 rfl ?_
      refine ev_iload_5 (pc := 26) dX9_lead_26 ?_
      refine ev_iload_3 (pc := 28) dX9_lead_28 ?_
      obtain ⟨p8, hp8, h⟩ := ev_bindE hN h
      refine cl1_X9_174 (pc := 29) rfl dX9_lead_29 (by decide) (Nat.le_of_ble_eq_true rfl) (c_X9_growsWith hp8) ?_
      refine ev_ifb_ne (pc := 32) (tgt := 38) dX9_lead_32 (by decide) (fun c9 => ?_) (fun c9 => ?_)
      · replace h := ev_ifp h c9
        refine ev_iinc_5 (pc := 38) (y := x5 + 1) dX9_lead_38 rfl (by decide) rfl ?_
        refine ev_goto (pc := 41) (tgt := 17) dX9_lead_41 (by decide) ?_
        exact ih _ _ kx h hk
      · replace h := ev_ifn h c9
        refine ev_iload_5 (pc := 35) dX9_lead_35 ?_
        exact ev_iret (pc := 37) dX9_lead_37 rfl rfl (hR _ _ h)
set_option maxRecDepth 20000 in
set_option maxHeartbeats 4000000 in
theorem e_X9_lead {G : ev_G} {Q : Option ev_V → ev_M → Prop} {R : Option (Int32 × ev_m)} {mF : ev_m} (hR : ∀ (x0 : Int32) (m0 : ev_m), (some ((x0, m0))) = R → Q (some (vi x0)) (ev_emb m0)) (hN : none ≠ R) {i0 : Nat} {x1_ : Int32} {x2_ : Int32} {x3_ : Int32} {x4_ : Int32} (h : f_X9_lead mF i0 x1_ x2_ x3_ x4_ = R) : ev_E G K_X9_lead B_X9_lead (0, 0) 0 [some (vr 0 (i0)), some (vi (x1_)), some (vi (x2_)), some (vi (x3_)), some (vi (x4_)), none] [] (ev_emb mF) Q := by
  unfold f_X9_lead at h
  refine ev_aload_0 (pc := 0) dX9_lead_0 ?_
  refine ev_iload_1 (pc := 1) dX9_lead_1 ?_
  refine ev_iload_2 (pc := 2) dX9_lead_2 ?_
  refine ev_iload_3 (pc := 3) dX9_lead_3 ?_
  refine ev_iload_4 (pc := 4) dX9_lead_4 ?_
  obtain ⟨p1, hp1, h⟩ := ev_bindE hN h
  refine cl1_X9_171 (pc := 6) rfl dX9_lead_6 (by decide) (Nat.le_of_ble_eq_true rfl) (c_X9_lagged hp1) ?_
  refine ev_ifb_ne (pc := 9) (tgt := 14) dX9_lead_9 (by decide) (fun c2 => ?_) (fun c2 => ?_)
  · replace h := ev_ifp h c2
    refine ev_iconst (pc := 14) (v := 0) dX9_lead_14 rfl ?_
    refine ev_istore_5 (pc := 15) dX9_lead_15 (by decide) rfl ?_
    refine ev_E.forget (L' := [some (vr 0 (i0)), none, none, some (vi (x3_)), none, some (vi (0))]) ⟨rfl, ⟨rfl, ⟨rfl, trivial⟩⟩⟩ ?_
    refine e_lp_X9_lead_17 hR hN 4000 _ _ _ h (fun m10 h => ?_)
    refine ev_iconst (pc := 44) (v := (-1)) dX9_lead_44 rfl ?_
    exact ev_iret (pc := 45) dX9_lead_45 rfl rfl (hR _ _ h)
  · replace h := ev_ifn h c2
    refine ev_iconst (pc := 12) (v := (-1)) dX9_lead_12 rfl ?_
    exact ev_iret (pc := 13) dX9_lead_13 rfl rfl (hR _ _ h)
theorem c_X9_lead {G : ev_G} {mF : ev_m} {i0 : Nat} {x1_ : Int32} {x2_ : Int32} {x3_ : Int32} {x4_ : Int32} {r : Int32 × ev_m} (h : f_X9_lead mF i0 x1_ x2_ x3_ x4_ = some r) : ev_CF G K_X9_lead B_X9_lead [vr 0 (i0), vi (x1_), vi (x2_), vi (x3_), vi (x4_)] mF (some (vi (r.1))) r.2 :=
  ev_Ct_of rfl rfl (Nat.le_of_ble_eq_true rfl) (e_X9_lead (R := some r) (fun x0 m0 q => by cases q; exact ⟨rfl, rfl⟩) (fun q => by cases q) h)
set_option maxRecDepth 20000 in
set_option maxHeartbeats 4000000 in
theorem e_lp_X9_deadest_3 {G : ev_G} {Q : Option ev_V → ev_M → Prop} {R : Option (Int32 × ev_m)} (hR : ∀ (x0 : Int32) (m0 : ev_m), (some ((x0, m0))) = R → Q (some (vi x0)) (ev_emb m0)) (hN : none ≠ R) {i1 : Nat} {x2 : Int32} {x3 : Int32} : ∀ (f : Nat) (x4 : Int32) (m5 : ev_m) (kx : ev_m → Option (Int32 × ev_m)) (h : lp_X9_deadest_3 i1 x2 x3 f x4 m5 kx = R) (hk : ∀ (m5' : ev_m), kx m5' = R → ev_E G K_X9_deadest B_X9_deadest (0, 0) 35 [none, none, none, none] [] (ev_emb m5') Q), ev_E G K_X9_deadest B_X9_deadest (0, 0) 3 [some (vr 0 (i1)), some (vi (x2)), some (vi (x3)), some (vi (x4))] [] (ev_emb m5) Q := by
  intro f
  induction f with
  | zero => intro x4 m5 kx h hk; rw [lp_X9_deadest_3] at h; exact absurd h hN
  | succ f ih =>
    intro x4 m5 kx h hk
    rw [lp_X9_deadest_3] at h
    refine ev_iload_3 (pc := 3) dX9_deadest_3 ?_
    refine ev_ifc_lt (pc := 4) (tgt := 35) dX9_deadest_4 (by decide) (fun c6 => ?_) (fun c6 => ?_)
    · replace h := ev_ifp h c6
      refine ev_E.forget (L' := [none, none, none, none]) trivial ?_
      exact hk _  h
    · replace h := ev_ifn h c6
      refine ev_aload_0 (pc := 7) dX9_deadest_7 ?_
      refine gt_X9_48 (pc := 8) rfl dX9_deadest_8 ?_
      refine ev_iconst (pc := 11) (v := 3) dX9_deadest_11 rfl ?_
      refine ev_iload_3 (pc := 12) dX9_deadest_12 ?_
      obtain ⟨m7, hm7, h⟩ := ev_letE h
      refine cl0_X9_329 (pc := 13) (fr := 0) (lo := 0) (m' := m7) rfl dX9_deadest_13 (by decide) (Nat.le_of_ble_eq_true rfl) (by rw [hm7]; exact c_X1_write m5 16 3 x4) ?_
      refine ev_aload_0 (pc := 16) dX9_deadest_16 ?_
      refine ev_iload_1 (pc := 17) dX9_deadest_17 ?_
      obtain ⟨p8, hp8, h⟩ := ev_bindE hN h
      refine cl1_X9_201 (pc := 18) rfl dX9_deadest_18 (by decide) (Nat.le_of_ble_eq_true rfl) (c_X9_trialWidest hp8) ?_
      refine ev_iload_2 (pc := 21) dX9_deadest_21 ?_
      refine ev_i2l (pc := 22) dX9_deadest_22 ?_
      refine ev_lcc_gt (pc := 23) (tgt := 29) dX9_deadest_23 dX9_deadest_24 (by decide) (fun c9 => ?_) (fun c9 => ?_)
      · replace h := ev_ifp h c9
        refine ev_iinc_3 (pc := 29) (y := x4 + (-1)) dX9_deadest_29 rfl (by decide) rfl ?_
        refine ev_goto (pc := 32) (tgt := 3) dX9_deadest_32 (by decide) ?_
        exact ih _ _ kx h hk
      · replace h := ev_ifn h c9
        refine ev_iload_3 (pc := 27) dX9_deadest_27 ?_
        exact ev_iret (pc := 28) dX9_deadest_28 rfl rfl (hR _ _ h)
set_option maxRecDepth 20000 in
set_option maxHeartbeats 4000000 in
theorem e_X9_deadest {G : ev_G} {Q : Option ev_V → ev_M → Prop} {R : Option (Int32 × ev_m)} {mF : ev_m} (hR : ∀ (x0 : Int32) (m0 : ev_m), (some ((x0, m0))) = R → Q (some (vi x0)) (ev_emb m0)) (hN : none ≠ R) {i0 : Nat} {x1_ : Int32} {x2_ : Int32} (h : f_X9_deadest mF i0 x1_ x2_ = R) : ev_E G K_X9_deadest B_X9_deadest (0, 0) 0 [some (vr 0 (i0)), some (vi (x1_)), some (vi (x2_)), none] [] (ev_emb mF) Q := by
  unfold f_X9_deadest at h
  refine ev_bipush (pc := 0) (v := 99) dX9_deadest_0 (by decide) ?_
  refine ev_istore_3 (pc := 2) dX9_deadest_2 (by decide) rfl ?_
  refine e_lp_X9_deadest_3 hR hN 4000 _ _ _ h (fun m10 h => ?_)
  refine ev_iconst (pc := 35) (v := (-1)) dX9_deadest_35 rfl ?_
  exact ev_iret (pc := 36) dX9_deadest_36 rfl rfl (hR _ _ h)
theorem c_X9_deadest {G : ev_G} {mF : ev_m} {i0 : Nat} {x1_ : Int32} {x2_ : Int32} {r : Int32 × ev_m} (h : f_X9_deadest mF i0 x1_ x2_ = some r) : ev_CF G K_X9_deadest B_X9_deadest [vr 0 (i0), vi (x1_), vi (x2_)] mF (some (vi (r.1))) r.2 :=
  ev_Ct_of rfl rfl (Nat.le_of_ble_eq_true rfl) (e_X9_deadest (R := some r) (fun x0 m0 q => by cases q; exact ⟨rfl, rfl⟩) (fun q => by cases q) h)
set_option maxRecDepth 20000 in
set_option maxHeartbeats 4000000 in
theorem e_lp_X9_leastGear_3 {G : ev_G} {Q : Option ev_V → ev_M → Prop} {R : Option (Int32 × ev_m)} (hR : ∀ (x0 : Int32) (m0 : ev_m), (some ((x0, m0))) = R → Q (some (vi x0)) (ev_emb m0)) (hN : none ≠ R) {i1 : Nat} {x2 : Int32} {x3 : Int32} {x4 : Int32} : ∀ (f : Nat) (x5 : Int32) (m6 : ev_m) (kx : ev_m → Option (Int32 × ev_m)) (h : lp_X9_leastGear_3 i1 x2 x3 x4 f x5 m6 kx = R) (hk : ∀ (m6' : ev_m), kx m6' = R → ev_E G K_X9_leastGear B_X9_leastGear (0, 0) 40 [none, none, none, none, none] [] (ev_emb m6') Q), ev_E G K_X9_leastGear B_X9_leastGear (0, 0) 3 [some (vr 0 (i1)), some (vi (x2)), some (vi (x3)), some (vi (x4)), some (vi (x5))] [] (ev_emb m6) Q := by
  intro f
  induction f with
  | zero => intro x5 m6 kx h hk; rw [lp_X9_leastGear_3] at h; exact absurd h hN
  | succ f ih =>
    intro x5 m6 kx h hk
    rw [lp_X9_leastGear_3] at h
    refine ev_iload_4 (pc := 3) dX9_leastGear_3 ?_
    refine ev_bipush (pc := 5) (v := 35) dX9_leastGear_5 (by decide) ?_
    refine ev_icc_gt (pc := 7) (tgt := 40) dX9_leastGear_7 (by decide) (fun c7 => ?_) (fun c7 => ?_)
    · replace h := ev_ifp h c7
      refine ev_E.forget (L' := [none, none, none, none, none]) trivial ?_
      exact hk _  h
    · replace h := ev_ifn h c7
      refine ev_aload_0 (pc := 10) dX9_leastGear_10 ?_
      refine gt_X9_41 (pc := 11) rfl dX9_leastGear_11 ?_
      refine ev_iload_1 (pc := 14) dX9_leastGear_14 ?_
      refine ev_iload_4 (pc := 15) dX9_leastGear_15 ?_
      obtain ⟨m8, hm8, h⟩ := ev_letE h
      refine cl0_X9_185 (pc := 17) (fr := 0) (lo := 0) (m' := m8) rfl dX9_leastGear_17 (by decide) (Nat.le_of_ble_eq_true rfl) (by rw [hm8]; exact c_X5_write m6 8 x2 x5) ?_
      refine ev_aload_0 (pc := 20) dX9_leastGear_20 ?_
      refine ev_iload_2 (pc := 21) dX9_leastGear_21 ?_
      obtain ⟨p9, hp9, h⟩ := ev_bindE hN h
      refine cl1_X9_201 (pc := 22) rfl dX9_leastGear_22 (by decide) (Nat.le_of_ble_eq_true rfl) (c_X9_trialWidest hp9) ?_
      refine ev_iload_3 (pc := 25) dX9_leastGear_25 ?_
      refine ev_i2l (pc := 26) dX9_leastGear_26 ?_
      refine ev_lcc_gt (pc := 27) (tgt := 34) dX9_leastGear_27 dX9_leastGear_28 (by decide) (fun c10 => ?_) (fun c10 => ?_)
      · replace h := ev_ifp h c10
        refine ev_iinc_4 (pc := 34) (y := x5 + 1) dX9_leastGear_34 rfl (by decide) rfl ?_
        refine ev_goto (pc := 37) (tgt := 3) dX9_leastGear_37 (by decide) ?_
        exact ih _ _ kx h hk
      · replace h := ev_ifn h c10
        refine ev_iload_4 (pc := 31) dX9_leastGear_31 ?_
        exact ev_iret (pc := 33) dX9_leastGear_33 rfl rfl (hR _ _ h)
set_option maxRecDepth 20000 in
set_option maxHeartbeats 4000000 in
theorem e_X9_leastGear {G : ev_G} {Q : Option ev_V → ev_M → Prop} {R : Option (Int32 × ev_m)} {mF : ev_m} (hR : ∀ (x0 : Int32) (m0 : ev_m), (some ((x0, m0))) = R → Q (some (vi x0)) (ev_emb m0)) (hN : none ≠ R) {i0 : Nat} {x1_ : Int32} {x2_ : Int32} {x3_ : Int32} (h : f_X9_leastGear mF i0 x1_ x2_ x3_ = R) : ev_E G K_X9_leastGear B_X9_leastGear (0, 0) 0 [some (vr 0 (i0)), some (vi (x1_)), some (vi (x2_)), some (vi (x3_)), none] [] (ev_emb mF) Q := by
  unfold f_X9_leastGear at h
  refine ev_iconst (pc := 0) (v := 1) dX9_leastGear_0 rfl ?_
  refine ev_istore_4 (pc := 1) dX9_leastGear_1 (by decide) rfl ?_
  refine e_lp_X9_leastGear_3 hR hN 4000 _ _ _ h (fun m11 h => ?_)
  refine ev_iconst (pc := 40) (v := (-1)) dX9_leastGear_40 rfl ?_
  exact ev_iret (pc := 41) dX9_leastGear_41 rfl rfl (hR _ _ h)
theorem c_X9_leastGear {G : ev_G} {mF : ev_m} {i0 : Nat} {x1_ : Int32} {x2_ : Int32} {x3_ : Int32} {r : Int32 × ev_m} (h : f_X9_leastGear mF i0 x1_ x2_ x3_ = some r) : ev_CF G K_X9_leastGear B_X9_leastGear [vr 0 (i0), vi (x1_), vi (x2_), vi (x3_)] mF (some (vi (r.1))) r.2 :=
  ev_Ct_of rfl rfl (Nat.le_of_ble_eq_true rfl) (e_X9_leastGear (R := some r) (fun x0 m0 q => by cases q; exact ⟨rfl, rfl⟩) (fun q => by cases q) h)
set_option maxRecDepth 20000 in
set_option maxHeartbeats 4000000 in
theorem e_X9_bound {G : ev_G} {Q : Option ev_V → ev_M → Prop} {R : Option (Int32 × ev_m)} {mF : ev_m} (hR : ∀ (x0 : Int32) (m0 : ev_m), (some ((x0, m0))) = R → Q (some (vi x0)) (ev_emb m0)) (hN : none ≠ R) {i0 : Nat} {x1_ : Int32} {x2_ : Int32} {x3_ : Int32} {x4_ : Int32} {x5_ : Int32} (h : f_X9_bound mF i0 x1_ x2_ x3_ x4_ x5_ = R) : ev_E G K_X9_bound B_X9_bound (0, 0) 0 [some (vr 0 (i0)), some (vi (x1_)), some (vi (x2_)), some (vi (x3_)), some (vi (x4_)), some (vi (x5_))] [] (ev_emb mF) Q := by
  unfold f_X9_bound at h
  refine ev_aload_0 (pc := 0) dX9_bound_0 ?_
  refine ev_iload_1 (pc := 1) dX9_bound_1 ?_
  refine ev_iload_2 (pc := 2) dX9_bound_2 ?_
  refine ev_iload_3 (pc := 3) dX9_bound_3 ?_
  obtain ⟨p1, hp1, h⟩ := ev_bindE hN h
  refine cl1_X9_155 (pc := 4) rfl dX9_bound_4 (by decide) (Nat.le_of_ble_eq_true rfl) (c_X9_ready hp1) ?_
  refine ev_ifb_eq (pc := 7) (tgt := 15) dX9_bound_7 (by decide) (fun c2 => ?_) (fun c2 => ?_)
  · replace h := ev_ifn h c2
    refine ev_iconst (pc := 15) (v := (-1)) dX9_bound_15 rfl ?_
    exact ev_iret (pc := 16) dX9_bound_16 rfl rfl (hR _ _ h)
  · replace h := ev_ifp h c2
    refine ev_iload_4 (pc := 10) dX9_bound_10 ?_
    refine ev_ifc_ge (pc := 12) (tgt := 17) dX9_bound_12 (by decide) (fun c3 => ?_) (fun c3 => ?_)
    · replace h := ev_ifn h c3
      refine ev_iload_5 (pc := 17) dX9_bound_17 ?_
      by_cases c4 : x5_ = 0
      · replace h := ev_ifp h c4
        refine ev_tin (pc := 19) 0 (tgt := 44) c4 (by decide) dX9_bound_19 rfl (by decide) ?_
        refine ev_aload_0 (pc := 44) dX9_bound_44 ?_
        refine ev_iload_3 (pc := 45) dX9_bound_45 ?_
        refine ev_iload_4 (pc := 46) dX9_bound_46 ?_
        obtain ⟨p9, hp9, h⟩ := ev_bindE hN h
        refine cl1_X9_307 (pc := 48) rfl dX9_bound_48 (by decide) (Nat.le_of_ble_eq_true rfl) (c_X9_deadest hp9) ?_
        exact ev_iret (pc := 51) dX9_bound_51 rfl rfl (hR _ _ h)
      · replace h := ev_ifn h c4
        by_cases c5 : x5_ = 1
        · replace h := ev_ifp h c5
          refine ev_tin (pc := 19) 1 (tgt := 52) c5 (by decide) dX9_bound_19 rfl (by decide) ?_
          refine ev_aload_0 (pc := 52) dX9_bound_52 ?_
          refine ev_iconst (pc := 53) (v := 3) dX9_bound_53 rfl ?_
          refine ev_iload_3 (pc := 54) dX9_bound_54 ?_
          refine ev_iload_4 (pc := 55) dX9_bound_55 ?_
          obtain ⟨p8, hp8, h⟩ := ev_bindE hN h
          refine cl1_X9_310 (pc := 57) rfl dX9_bound_57 (by decide) (Nat.le_of_ble_eq_true rfl) (c_X9_leastGear hp8) ?_
          exact ev_iret (pc := 60) dX9_bound_60 rfl rfl (hR _ _ h)
        · replace h := ev_ifn h c5
          by_cases c6 : x5_ = 2
          · replace h := ev_ifp h c6
            refine ev_tin (pc := 19) 2 (tgt := 61) c6 (by decide) dX9_bound_19 rfl (by decide) ?_
            refine ev_aload_0 (pc := 61) dX9_bound_61 ?_
            refine ev_iconst (pc := 62) (v := 4) dX9_bound_62 rfl ?_
            refine ev_iload_3 (pc := 63) dX9_bound_63 ?_
            refine ev_iload_4 (pc := 64) dX9_bound_64 ?_
            obtain ⟨p7, hp7, h⟩ := ev_bindE hN h
            refine cl1_X9_310 (pc := 66) rfl dX9_bound_66 (by decide) (Nat.le_of_ble_eq_true rfl) (c_X9_leastGear hp7) ?_
            exact ev_iret (pc := 69) dX9_bound_69 rfl rfl (hR _ _ h)
          · replace h := ev_ifn h c6
            refine ev_tout (pc := 19) 3 (tgt := 70) rfl (by decide) (lt_s (p := fun j => ¬ x5_ = nI j) (lt_s (p := fun j => ¬ x5_ = nI j) (lt_s (p := fun j => ¬ x5_ = nI j) lt_0 c4) c5) c6) dX9_bound_19 (by decide) ?_
            refine ev_iconst (pc := 70) (v := (-1)) dX9_bound_70 rfl ?_
            exact ev_iret (pc := 71) dX9_bound_71 rfl rfl (hR _ _ h)
    · replace h := ev_ifp h c3
      refine ev_iconst (pc := 15) (v := (-1)) dX9_bound_15 rfl ?_
      exact ev_iret (pc := 16) dX9_bound_16 rfl rfl (hR _ _ h)
theorem c_X9_bound {G : ev_G} {mF : ev_m} {i0 : Nat} {x1_ : Int32} {x2_ : Int32} {x3_ : Int32} {x4_ : Int32} {x5_ : Int32} {r : Int32 × ev_m} (h : f_X9_bound mF i0 x1_ x2_ x3_ x4_ x5_ = some r) : ev_CF G K_X9_bound B_X9_bound [vr 0 (i0), vi (x1_), vi (x2_), vi (x3_), vi (x4_), vi (x5_)] mF (some (vi (r.1))) r.2 :=
  ev_Ct_of rfl rfl (Nat.le_of_ble_eq_true rfl) (e_X9_bound (R := some r) (fun x0 m0 q => by cases q; exact ⟨rfl, rfl⟩) (fun q => by cases q) h)
set_option maxRecDepth 20000 in
set_option maxHeartbeats 4000000 in
theorem e_X9_first {G : ev_G} {Q : Option ev_V → ev_M → Prop} {R : Option (Int32 × ev_m)} {mF : ev_m} (hR : ∀ (x0 : Int32) (m0 : ev_m), (some ((x0, m0))) = R → Q (some (vi x0)) (ev_emb m0)) (hN : none ≠ R) {i0 : Nat} {x1_ : Int32} {x2_ : Int32} {x3_ : Int32} {x4_ : Int32} (h : f_X9_first mF i0 x1_ x2_ x3_ x4_ = R) : ev_E G K_X9_first B_X9_first (0, 0) 0 [some (vr 0 (i0)), some (vi (x1_)), some (vi (x2_)), some (vi (x3_)), some (vi (x4_))] [] (ev_emb mF) Q := by
  unfold f_X9_first at h
  refine ev_aload_0 (pc := 0) dX9_first_0 ?_
  refine ev_iload_1 (pc := 1) dX9_first_1 ?_
  refine ev_iload_2 (pc := 2) dX9_first_2 ?_
  refine ev_iload_3 (pc := 3) dX9_first_3 ?_
  obtain ⟨p1, hp1, h⟩ := ev_bindE hN h
  refine cl1_X9_155 (pc := 4) rfl dX9_first_4 (by decide) (Nat.le_of_ble_eq_true rfl) (c_X9_ready hp1) ?_
  refine ev_ifb_ne (pc := 7) (tgt := 12) dX9_first_7 (by decide) (fun c2 => ?_) (fun c2 => ?_)
  · replace h := ev_ifp h c2
    refine ev_aload_0 (pc := 12) dX9_first_12 ?_
    refine gt_X9_34 (pc := 13) rfl dX9_first_13 ?_
    refine ev_aload_0 (pc := 16) dX9_first_16 ?_
    refine gt_X9_41 (pc := 17) rfl dX9_first_17 ?_
    refine ev_aload_0 (pc := 20) dX9_first_20 ?_
    refine gt_X9_48 (pc := 21) rfl dX9_first_21 ?_
    refine ev_iconst (pc := 24) (v := 0) dX9_first_24 rfl ?_
    refine ev_iload_3 (pc := 25) dX9_first_25 ?_
    obtain ⟨m3, hm3, h⟩ := ev_bindE hN h
    refine cl0_X9_189 (pc := 26) rfl dX9_first_26 (by decide) (Nat.le_of_ble_eq_true rfl) (c_X8_sail hm3) ?_
    refine ev_iload_4 (pc := 29) dX9_first_29 ?_
    by_cases c4 : x4_ = 0
    · replace h := ev_ifp h c4
      refine ev_tin (pc := 31) 0 (tgt := 56) c4 (by decide) dX9_first_31 rfl (by decide) ?_
      refine ev_aload_0 (pc := 56) dX9_first_56 ?_
      refine gt_X9_34 (pc := 57) rfl dX9_first_57 ?_
      refine ev_sipush (pc := 60) (v := 8999) dX9_first_60 (by decide) ?_
      obtain ⟨x9, hx9, h⟩ := ev_bindE hN h
      refine cl1_X9_226 (pc := 63) rfl dX9_first_63 (by decide) (Nat.le_of_ble_eq_true rfl) (c_X8_earliestBeyond hx9) ?_
      exact ev_iret (pc := 66) dX9_first_66 rfl rfl (hR _ _ h)
    · replace h := ev_ifn h c4
      by_cases c5 : x4_ = 1
      · replace h := ev_ifp h c5
        refine ev_tin (pc := 31) 1 (tgt := 67) c5 (by decide) dX9_first_31 rfl (by decide) ?_
        refine ev_aload_0 (pc := 67) dX9_first_67 ?_
        refine gt_X9_34 (pc := 68) rfl dX9_first_68 ?_
        obtain ⟨x8, hx8, h⟩ := ev_bindE hN h
        refine cl1_X9_313 (pc := 71) rfl dX9_first_71 (by decide) (Nat.le_of_ble_eq_true rfl) (c_X8_dearest hx8) ?_
        exact ev_iret (pc := 74) dX9_first_74 rfl rfl (hR _ _ h)
      · replace h := ev_ifn h c5
        by_cases c6 : x4_ = 2
        · replace h := ev_ifp h c6
          refine ev_tin (pc := 31) 2 (tgt := 75) c6 (by decide) dX9_first_31 rfl (by decide) ?_
          refine ev_aload_0 (pc := 75) dX9_first_75 ?_
          refine gt_X9_34 (pc := 76) rfl dX9_first_76 ?_
          obtain ⟨x7, hx7, h⟩ := ev_bindE hN h
          refine cl1_X9_317 (pc := 79) rfl dX9_first_79 (by decide) (Nat.le_of_ble_eq_true rfl) (c_X8_halfway hx7) ?_
          exact ev_iret (pc := 82) dX9_first_82 rfl rfl (hR _ _ h)
        · replace h := ev_ifn h c6
          refine ev_tout (pc := 31) 3 (tgt := 83) rfl (by decide) (lt_s (p := fun j => ¬ x4_ = nI j) (lt_s (p := fun j => ¬ x4_ = nI j) (lt_s (p := fun j => ¬ x4_ = nI j) lt_0 c4) c5) c6) dX9_first_31 (by decide) ?_
          refine ev_iconst (pc := 83) (v := (-1)) dX9_first_83 rfl ?_
          exact ev_iret (pc := 84) dX9_first_84 rfl rfl (hR _ _ h)
  · replace h := ev_ifn h c2
    refine ev_iconst (pc := 10) (v := (-1)) dX9_first_10 rfl ?_
    exact ev_iret (pc := 11) dX9_first_11 rfl rfl (hR _ _ h)
theorem c_X9_first {G : ev_G} {mF : ev_m} {i0 : Nat} {x1_ : Int32} {x2_ : Int32} {x3_ : Int32} {x4_ : Int32} {r : Int32 × ev_m} (h : f_X9_first mF i0 x1_ x2_ x3_ x4_ = some r) : ev_CF G K_X9_first B_X9_first [vr 0 (i0), vi (x1_), vi (x2_), vi (x3_), vi (x4_)] mF (some (vi (r.1))) r.2 :=
  ev_Ct_of rfl rfl (Nat.le_of_ble_eq_true rfl) (e_X9_first (R := some r) (fun x0 m0 q => by cases q; exact ⟨rfl, rfl⟩) (fun q => by cases q) h)
set_option maxRecDepth 20000 in
set_option maxHeartbeats 4000000 in
theorem e_X9_better {G : ev_G} {Q : Option ev_V → ev_M → Prop} {R : Option (Int32 × ev_m)} {mF : ev_m} (hR : ∀ (x0 : Int32) (m0 : ev_m), (some ((x0, m0))) = R → Q (some (vi x0)) (ev_emb m0)) (hN : none ≠ R) {i0 : Nat} {x1_ : Int32} {x2_ : Int32} {x3_ : Int32} {x4_ : Int32} (h : f_X9_better mF i0 x1_ x2_ x3_ x4_ = R) : ev_E G K_X9_better B_X9_better (0, 0) 0 [some (vr 0 (i0)), some (vi (x1_)), some (vi (x2_)), some (vi (x3_)), some (vi (x4_)), none, none, none, none] [] (ev_emb mF) Q := by
  unfold f_X9_better at h
  refine ev_aload_0 (pc := 0) dX9_better_0 ?_
  refine ev_iload_1 (pc := 1) dX9_better_1 ?_
  refine ev_iload_2 (pc := 2) dX9_better_2 ?_
  refine ev_iload_4 (pc := 3) dX9_better_3 ?_
  obtain ⟨p1, hp1, h⟩ := ev_bindE hN h
  refine cl1_X9_155 (pc := 5) rfl dX9_better_5 (by decide) (Nat.le_of_ble_eq_true rfl) (c_X9_ready hp1) ?_
  refine ev_ifb_ne (pc := 8) (tgt := 13) dX9_better_8 (by decide) (fun c2 => ?_) (fun c2 => ?_)
  · replace h := ev_ifp h c2
    refine ev_aload_0 (pc := 13) dX9_better_13 ?_
    refine ev_iload_4 (pc := 14) dX9_better_14 ?_
    obtain ⟨p3, hp3, h⟩ := ev_bindE hN h
    refine cl1_X9_216 (pc := 16) rfl dX9_better_16 (by decide) (Nat.le_of_ble_eq_true rfl) (c_X9_trialCost hp3) ?_
    obtain ⟨y4, hy4, h⟩ := ev_letE h
    refine ev_topl (pc := 19) hy4 ?_
    refine ev_lstore_5 (pc := 19) dX9_better_19 (by decide) rfl ?_
    refine ev_aload_0 (pc := 21) dX9_better_21 ?_
    refine ev_iload_1 (pc := 22) dX9_better_22 ?_
    refine ev_iload_3 (pc := 23) dX9_better_23 ?_
    refine ev_iload_4 (pc := 24) dX9_better_24 ?_
    obtain ⟨p5, hp5, h⟩ := ev_bindE hN h
    refine cl1_X9_155 (pc := 26) rfl dX9_better_26 (by decide) (Nat.le_of_ble_eq_true rfl) (c_X9_ready hp5) ?_
    refine ev_ifb_ne (pc := 29) (tgt := 34) dX9_better_29 (by decide) (fun c6 => ?_) (fun c6 => ?_)
    · replace h := ev_ifp h c6
      refine ev_aload_0 (pc := 34) dX9_better_34 ?_
      refine ev_iload_4 (pc := 35) dX9_better_35 ?_
      obtain ⟨p7, hp7, h⟩ := ev_bindE hN h
      refine cl1_X9_216 (pc := 37) rfl dX9_better_37 (by decide) (Nat.le_of_ble_eq_true rfl) (c_X9_trialCost hp7) ?_
      obtain ⟨y8, hy8, h⟩ := ev_letE h
      refine ev_topl (pc := 40) hy8 ?_
      refine ev_lstore_7 (pc := 40) dX9_better_40 (by decide) rfl ?_
      refine ev_lload_5 (pc := 42) dX9_better_42 ?_
      refine ev_lload_7 (pc := 44) dX9_better_44 ?_
      refine ev_lcc_ge (pc := 46) (tgt := 54) dX9_better_46 dX9_better_47 (by decide) (fun c9 => ?_) (fun c9 => ?_)
      · replace h := ev_ifn h c9
        refine ev_lload_5 (pc := 54) dX9_better_54 ?_
        refine ev_lload_7 (pc := 56) dX9_better_56 ?_
        refine ev_lcc_le (pc := 58) (tgt := 66) dX9_better_58 dX9_better_59 (by decide) (fun c10 => ?_) (fun c10 => ?_)
        · replace h := ev_ifn h c10
          refine ev_iconst (pc := 66) (v := 2) dX9_better_66 rfl ?_
          exact ev_iret (pc := 67) dX9_better_67 rfl rfl (hR _ _ h)
        · replace h := ev_ifp h c10
          refine ev_iconst (pc := 62) (v := 1) dX9_better_62 rfl ?_
          refine ev_goto (pc := 63) (tgt := 67) dX9_better_63 (by decide) ?_
          exact ev_iret (pc := 67) dX9_better_67 rfl rfl (hR _ _ h)
      · replace h := ev_ifp h c9
        refine ev_iconst (pc := 50) (v := 0) dX9_better_50 rfl ?_
        refine ev_goto (pc := 51) (tgt := 67) dX9_better_51 (by decide) ?_
        exact ev_iret (pc := 67) dX9_better_67 rfl rfl (hR _ _ h)
    · replace h := ev_ifn h c6
      refine ev_iconst (pc := 32) (v := (-1)) dX9_better_32 rfl ?_
      exact ev_iret (pc := 33) dX9_better_33 rfl rfl (hR _ _ h)
  · replace h := ev_ifn h c2
    refine ev_iconst (pc := 11) (v := (-1)) dX9_better_11 rfl ?_
    exact ev_iret (pc := 12) dX9_better_12 rfl rfl (hR _ _ h)
theorem c_X9_better {G : ev_G} {mF : ev_m} {i0 : Nat} {x1_ : Int32} {x2_ : Int32} {x3_ : Int32} {x4_ : Int32} {r : Int32 × ev_m} (h : f_X9_better mF i0 x1_ x2_ x3_ x4_ = some r) : ev_CF G K_X9_better B_X9_better [vr 0 (i0), vi (x1_), vi (x2_), vi (x3_), vi (x4_)] mF (some (vi (r.1))) r.2 :=
  ev_Ct_of rfl rfl (Nat.le_of_ble_eq_true rfl) (e_X9_better (R := some r) (fun x0 m0 q => by cases q; exact ⟨rfl, rfl⟩) (fun q => by cases q) h)
set_option maxRecDepth 20000 in
set_option maxHeartbeats 4000000 in
theorem e_X9_reads {G : ev_G} {Q : Option ev_V → ev_M → Prop} {R : Option (Int32 × ev_m)} {mF : ev_m} (hR : ∀ (x0 : Int32) (m0 : ev_m), (some ((x0, m0))) = R → Q (some (vi x0)) (ev_emb m0)) (hN : none ≠ R) {i0 : Nat} {x1_ : Int32} {x2_ : Int32} {x3_ : Int32} {x4_ : Int32} {x5_ : Int32} {x6_ : Int32} (h : f_X9_reads mF i0 x1_ x2_ x3_ x4_ x5_ x6_ = R) : ev_E G K_X9_reads B_X9_reads (0, 0) 0 [some (vr 0 (i0)), some (vi (x1_)), some (vi (x2_)), some (vi (x3_)), some (vi (x4_)), some (vi (x5_)), some (vi (x6_)), none] [] (ev_emb mF) Q := by
  unfold f_X9_reads at h
  refine ev_aload_0 (pc := 0) dX9_reads_0 ?_
  refine gt_X9_10 (pc := 1) rfl dX9_reads_1 ?_
  refine ev_iload_3 (pc := 4) dX9_reads_4 ?_
  obtain ⟨x1, hx1, h⟩ := ev_bindE hN h
  refine cl1_X9_100 (pc := 5) rfl dX9_reads_5 (by decide) (Nat.le_of_ble_eq_true rfl) (c_X0_paperAt hx1) ?_
  refine ev_astore_7 (pc := 8) dX9_reads_8 (by decide) rfl ?_
  refine ev_aload_7 (pc := 10) dX9_reads_10 ?_
  rcases x1 with _ | j2
  · replace h := ev_onN h
    show ev_E G K_X9_reads B_X9_reads (0, 0) 12 [some (vr 0 (i0)), some (vi (x1_)), some (vi (x2_)), some (vi (x3_)), some (vi (x4_)), some (vi (x5_)), some (vi (x6_)), some (vn)] [vn] (ev_emb mF) Q
    refine ev_ifnull_n (pc := 12) (tgt := 29) dX9_reads_12 (by decide) ?_
    refine ev_iconst (pc := 29) (v := (-1)) dX9_reads_29 rfl ?_
    exact ev_iret (pc := 30) dX9_reads_30 rfl rfl (hR _ _ h)
  · replace h := ev_onS h
    show ev_E G K_X9_reads B_X9_reads (0, 0) 12 [some (vr 0 (i0)), some (vi (x1_)), some (vi (x2_)), some (vi (x3_)), some (vi (x4_)), some (vi (x5_)), some (vi (x6_)), some (vr 5 (j2))] [vr 5 (j2)] (ev_emb mF) Q
    refine ev_ifnull_r (pc := 12) dX9_reads_12 ?_
    refine ev_aload_0 (pc := 15) dX9_reads_15 ?_
    refine ev_iload_1 (pc := 16) dX9_reads_16 ?_
    refine ev_iload_2 (pc := 17) dX9_reads_17 ?_
    refine ev_aload_7 (pc := 18) dX9_reads_18 ?_
    refine gt_X9_104 (pc := 20) rfl dX9_reads_20 ?_
    obtain ⟨p3, hp3, h⟩ := ev_bindE hN h
    refine cl1_X9_155 (pc := 23) rfl dX9_reads_23 (by decide) (Nat.le_of_ble_eq_true rfl) (c_X9_ready hp3) ?_
    refine ev_ifb_ne (pc := 26) (tgt := 31) dX9_reads_26 (by decide) (fun c4 => ?_) (fun c4 => ?_)
    · replace h := ev_ifp h c4
      refine ev_aload_0 (pc := 31) dX9_reads_31 ?_
      refine ev_aload_7 (pc := 32) dX9_reads_32 ?_
      refine ev_aload_7 (pc := 34) dX9_reads_34 ?_
      refine gt_X9_104 (pc := 36) rfl dX9_reads_36 ?_
      refine ev_iload_4 (pc := 39) dX9_reads_39 ?_
      refine ev_iload_5 (pc := 41) dX9_reads_41 ?_
      refine ev_iload_6 (pc := 43) dX9_reads_43 ?_
      obtain ⟨p5, hp5, h⟩ := ev_bindE hN h
      refine cl1_X9_161 (pc := 45) rfl dX9_reads_45 (by decide) (Nat.le_of_ble_eq_true rfl) (c_X9_leastRule hp5) ?_
      refine ev_l2i (pc := 48) dX9_reads_48 ?_
      exact ev_iret (pc := 49) dX9_reads_49 rfl rfl (hR _ _ h)
    · replace h := ev_ifn h c4
      refine ev_iconst (pc := 29) (v := (-1)) dX9_reads_29 rfl ?_
      exact ev_iret (pc := 30) dX9_reads_30 rfl rfl (hR _ _ h)
theorem c_X9_reads {G : ev_G} {mF : ev_m} {i0 : Nat} {x1_ : Int32} {x2_ : Int32} {x3_ : Int32} {x4_ : Int32} {x5_ : Int32} {x6_ : Int32} {r : Int32 × ev_m} (h : f_X9_reads mF i0 x1_ x2_ x3_ x4_ x5_ x6_ = some r) : ev_CF G K_X9_reads B_X9_reads [vr 0 (i0), vi (x1_), vi (x2_), vi (x3_), vi (x4_), vi (x5_), vi (x6_)] mF (some (vi (r.1))) r.2 :=
  ev_Ct_of rfl rfl (Nat.le_of_ble_eq_true rfl) (e_X9_reads (R := some r) (fun x0 m0 q => by cases q; exact ⟨rfl, rfl⟩) (fun q => by cases q) h)
set_option maxRecDepth 20000 in
set_option maxHeartbeats 4000000 in
theorem e_lp_X9_parted_74 {G : ev_G} {Q : Option ev_V → ev_M → Prop} {R : Option (Int32 × ev_m)} (hR : ∀ (x0 : Int32) (m0 : ev_m), (some ((x0, m0))) = R → Q (some (vi x0)) (ev_emb m0)) (hN : none ≠ R) {i9 : Nat} {i10 : Nat} {i11 : Nat} {i12 : Nat} {i13 : Nat} : ∀ (f : Nat) (x14 : Int32) (x15 : Int32) (x16 : Int32) (m17 : ev_m) (kx : Int32 → ev_m → Option (Int32 × ev_m)) (h : lp_X9_parted_74 i9 i10 i11 i12 i13 f x14 x15 x16 m17 kx = R) (hk : ∀ (x14' : Int32) (m17' : ev_m), kx x14' m17' = R → ev_E G K_X9_parted B_X9_parted (0, 0) 133 [none, none, none, none, none, none, none, none, none, some (vi (x14')), none, none, none] [] (ev_emb m17') Q), ev_E G K_X9_parted B_X9_parted (0, 0) 74 [some (vr 0 (i9)), none, none, none, none, some (vr 3 (i10)), some (vr 4 (i11)), some (vr 4 (i12)), some (vr 5 (i13)), some (vi (x14)), some (vi (x15)), some (vi (x16)), none] [] (ev_emb m17) Q := by
  intro f
  induction f with
  | zero => intro x14 x15 x16 m17 kx h hk; rw [lp_X9_parted_74] at h; exact absurd h hN
  | succ f ih =>
    intro x14 x15 x16 m17 kx h hk
    rw [lp_X9_parted_74] at h
    refine ev_iload_11 (pc := 74) dX9_parted_74 ?_
    refine ev_aload_8 (pc := 76) dX9_parted_76 ?_
    refine gt_X9_104 (pc := 78) rfl dX9_parted_78 ?_
    refine ev_icc_gt (pc := 81) (tgt := 133) dX9_parted_81 (by decide) (fun c18 => ?_) (fun c18 => ?_)
    · replace h := ev_ifp h c18
      refine ev_E.forget (L' := [none, none, none, none, none, none, none, none, none, some (vi (x14)), none, none, none]) ⟨rfl, trivial⟩ ?_
      exact hk _ _  h
    · replace h := ev_ifn h c18
      refine ev_aload_0 (pc := 84) dX9_parted_84 ?_
      refine ev_aload_5 (pc := 85) dX9_parted_85 ?_
      refine ev_aload_6 (pc := 87) dX9_parted_87 ?_
      refine ev_aload_7 (pc := 89) dX9_parted_89 ?_
      refine ev_iload_11 (pc := 91) dX9_parted_91 ?_
      refine ev_aload_8 (pc := 93) dX9_parted_93 ?_
      refine gt_X9_104 (pc := 95) rfl dX9_parted_95 ?_
      obtain ⟨m19, hm19, h⟩ := ev_bindE hN h
      refine cl0_X9_271 (pc := 98) rfl dX9_parted_98 (by decide) (Nat.le_of_ble_eq_true rfl) (c_X9_sailChanged hm19) ?_
      refine ev_aload_0 (pc := 101) dX9_parted_101 ?_
      refine gt_X9_34 (pc := 102) rfl dX9_parted_102 ?_
      refine ev_aload_8 (pc := 105) dX9_parted_105 ?_
      obtain ⟨x20, hx20, h⟩ := ev_bindE hN h
      refine cl1_X9_300 (pc := 107) rfl dX9_parted_107 (by decide) (Nat.le_of_ble_eq_true rfl) (c_X8_apartFrom hx20) ?_
      refine ev_istore_12 (pc := 110) dX9_parted_110 (by decide) rfl ?_
      refine ev_iload_12 (pc := 112) dX9_parted_112 ?_
      refine ev_iload_10 (pc := 114) dX9_parted_114 ?_
      obtain ⟨x22, hx22, h⟩ := ev_letE h
      obtain ⟨x23, hx23, h⟩ := ev_letE h
      have hJ1 : ev_E G K_X9_parted B_X9_parted (0, 0) 127 [some (vr 0 (i9)), none, none, none, none, some (vr 3 (i10)), some (vr 4 (i11)), some (vr 4 (i12)), some (vr 5 (i13)), some (vi (x22)), some (vi (x23)), some (vi (x16)), some (vi (x20))] [] (ev_emb m19) Q := by
        refine ev_iinc_11 (pc := 127) (y := x16 + 1) dX9_parted_127 rfl (by decide) rfl ?_
        refine ev_goto (pc := 130) (tgt := 74) dX9_parted_130 (by decide) ?_
        refine ev_E.forget (L' := [some (vr 0 (i9)), none, none, none, none, some (vr 3 (i10)), some (vr 4 (i11)), some (vr 4 (i12)), some (vr 5 (i13)), some (vi (x22)), some (vi (x23)), some (vi (x16 + 1)), none]) ⟨rfl, ⟨rfl, ⟨rfl, ⟨rfl, ⟨rfl, ⟨rfl, ⟨rfl, ⟨rfl, trivial⟩⟩⟩⟩⟩⟩⟩⟩ ?_
        exact ih _ _ _ _ kx h hk
      refine ev_icc_ge (pc := 116) (tgt := 127) dX9_parted_116 (by decide) (fun c21 => ?_) (fun c21 => ?_)
      · replace hx22 := (hx22.trans (if_neg c21))
        replace hx23 := (hx23.trans (if_neg c21))
        subst hx22
        subst hx23
        exact hJ1
      · refine ev_iload_12 (pc := 119) dX9_parted_119 ?_
        refine ev_istore_10 (pc := 121) dX9_parted_121 (by decide) rfl ?_
        refine ev_iload_11 (pc := 123) dX9_parted_123 ?_
        refine ev_istore_9 (pc := 125) dX9_parted_125 (by decide) rfl ?_
        replace hx22 := (hx22.trans (if_pos c21))
        replace hx23 := (hx23.trans (if_pos c21))
        subst hx22
        subst hx23
        exact hJ1
set_option maxRecDepth 20000 in
set_option maxHeartbeats 4000000 in
theorem e_X9_parted {G : ev_G} {Q : Option ev_V → ev_M → Prop} {R : Option (Int32 × ev_m)} {mF : ev_m} (hR : ∀ (x0 : Int32) (m0 : ev_m), (some ((x0, m0))) = R → Q (some (vi x0)) (ev_emb m0)) (hN : none ≠ R) {i0 : Nat} {x1_ : Int32} {x2_ : Int32} {x3_ : Int32} {x4_ : Int32} (h : f_X9_parted mF i0 x1_ x2_ x3_ x4_ = R) : ev_E G K_X9_parted B_X9_parted (0, 0) 0 [some (vr 0 (i0)), some (vi (x1_)), some (vi (x2_)), some (vi (x3_)), some (vi (x4_)), none, none, none, none, none, none, none, none] [] (ev_emb mF) Q := by
  unfold f_X9_parted at h
  refine ev_aload_0 (pc := 0) dX9_parted_0 ?_
  refine gt_X9_10 (pc := 1) rfl dX9_parted_1 ?_
  refine ev_iload_1 (pc := 4) dX9_parted_4 ?_
  obtain ⟨x1, hx1, h⟩ := ev_bindE hN h
  refine cl1_X9_86 (pc := 5) rfl dX9_parted_5 (by decide) (Nat.le_of_ble_eq_true rfl) (c_X0_shipAt hx1) ?_
  refine ev_astore_5 (pc := 8) dX9_parted_8 (by decide) rfl ?_
  refine ev_aload_0 (pc := 10) dX9_parted_10 ?_
  refine gt_X9_10 (pc := 11) rfl dX9_parted_11 ?_
  refine ev_iload_2 (pc := 14) dX9_parted_14 ?_
  obtain ⟨x2, hx2, h⟩ := ev_bindE hN h
  refine cl1_X9_95 (pc := 15) rfl dX9_parted_15 (by decide) (Nat.le_of_ble_eq_true rfl) (c_X0_handAt hx2) ?_
  refine ev_astore_6 (pc := 18) dX9_parted_18 (by decide) rfl ?_
  refine ev_aload_0 (pc := 20) dX9_parted_20 ?_
  refine gt_X9_10 (pc := 21) rfl dX9_parted_21 ?_
  refine ev_iload_3 (pc := 24) dX9_parted_24 ?_
  obtain ⟨x3, hx3, h⟩ := ev_bindE hN h
  refine cl1_X9_95 (pc := 25) rfl dX9_parted_25 (by decide) (Nat.le_of_ble_eq_true rfl) (c_X0_handAt hx3) ?_
  refine ev_astore_7 (pc := 28) dX9_parted_28 (by decide) rfl ?_
  refine ev_aload_0 (pc := 30) dX9_parted_30 ?_
  refine gt_X9_10 (pc := 31) rfl dX9_parted_31 ?_
  refine ev_iload_4 (pc := 34) dX9_parted_34 ?_
  obtain ⟨x4, hx4, h⟩ := ev_bindE hN h
  refine cl1_X9_100 (pc := 36) rfl dX9_parted_36 (by decide) (Nat.le_of_ble_eq_true rfl) (c_X0_paperAt hx4) ?_
  refine ev_astore_8 (pc := 39) dX9_parted_39 (by decide) rfl ?_
  refine ev_aload_5 (pc := 41) dX9_parted_41 ?_
  rcases x1 with _ | j5
  · replace h := ev_onN h
    show ev_E G K_X9_parted B_X9_parted (0, 0) 43 [some (vr 0 (i0)), some (vi (x1_)), some (vi (x2_)), some (vi (x3_)), some (vi (x4_)), some (vn), some (vo 4 (x2)), some (vo 4 (x3)), some (vo 5 (x4)), none, none, none, none] [vn] (ev_emb mF) Q
    refine ev_ifnull_n (pc := 43) (tgt := 61) dX9_parted_43 (by decide) ?_
    refine ev_iconst (pc := 61) (v := (-1)) dX9_parted_61 rfl ?_
    exact ev_iret (pc := 62) dX9_parted_62 rfl rfl (hR _ _ h)
  · replace h := ev_onS h
    show ev_E G K_X9_parted B_X9_parted (0, 0) 43 [some (vr 0 (i0)), some (vi (x1_)), some (vi (x2_)), some (vi (x3_)), some (vi (x4_)), some (vr 3 (j5)), some (vo 4 (x2)), some (vo 4 (x3)), some (vo 5 (x4)), none, none, none, none] [vr 3 (j5)] (ev_emb mF) Q
    refine ev_ifnull_r (pc := 43) dX9_parted_43 ?_
    refine ev_aload_6 (pc := 46) dX9_parted_46 ?_
    rcases x2 with _ | j6
    · replace h := ev_onN h
      show ev_E G K_X9_parted B_X9_parted (0, 0) 48 [some (vr 0 (i0)), some (vi (x1_)), some (vi (x2_)), some (vi (x3_)), some (vi (x4_)), some (vr 3 (j5)), some (vn), some (vo 4 (x3)), some (vo 5 (x4)), none, none, none, none] [vn] (ev_emb mF) Q
      refine ev_ifnull_n (pc := 48) (tgt := 61) dX9_parted_48 (by decide) ?_
      refine ev_iconst (pc := 61) (v := (-1)) dX9_parted_61 rfl ?_
      exact ev_iret (pc := 62) dX9_parted_62 rfl rfl (hR _ _ h)
    · replace h := ev_onS h
      show ev_E G K_X9_parted B_X9_parted (0, 0) 48 [some (vr 0 (i0)), some (vi (x1_)), some (vi (x2_)), some (vi (x3_)), some (vi (x4_)), some (vr 3 (j5)), some (vr 4 (j6)), some (vo 4 (x3)), some (vo 5 (x4)), none, none, none, none] [vr 4 (j6)] (ev_emb mF) Q
      refine ev_ifnull_r (pc := 48) dX9_parted_48 ?_
      refine ev_aload_7 (pc := 51) dX9_parted_51 ?_
      rcases x3 with _ | j7
      · replace h := ev_onN h
        show ev_E G K_X9_parted B_X9_parted (0, 0) 53 [some (vr 0 (i0)), some (vi (x1_)), some (vi (x2_)), some (vi (x3_)), some (vi (x4_)), some (vr 3 (j5)), some (vr 4 (j6)), some (vn), some (vo 5 (x4)), none, none, none, none] [vn] (ev_emb mF) Q
        refine ev_ifnull_n (pc := 53) (tgt := 61) dX9_parted_53 (by decide) ?_
        refine ev_iconst (pc := 61) (v := (-1)) dX9_parted_61 rfl ?_
        exact ev_iret (pc := 62) dX9_parted_62 rfl rfl (hR _ _ h)
      · replace h := ev_onS h
        show ev_E G K_X9_parted B_X9_parted (0, 0) 53 [some (vr 0 (i0)), some (vi (x1_)), some (vi (x2_)), some (vi (x3_)), some (vi (x4_)), some (vr 3 (j5)), some (vr 4 (j6)), some (vr 4 (j7)), some (vo 5 (x4)), none, none, none, none] [vr 4 (j7)] (ev_emb mF) Q
        refine ev_ifnull_r (pc := 53) dX9_parted_53 ?_
        refine ev_aload_8 (pc := 56) dX9_parted_56 ?_
        rcases x4 with _ | j8
        · replace h := ev_onN h
          show ev_E G K_X9_parted B_X9_parted (0, 0) 58 [some (vr 0 (i0)), some (vi (x1_)), some (vi (x2_)), some (vi (x3_)), some (vi (x4_)), some (vr 3 (j5)), some (vr 4 (j6)), some (vr 4 (j7)), some (vn), none, none, none, none] [vn] (ev_emb mF) Q
          refine ev_ifnonnull_n (pc := 58) dX9_parted_58 ?_
          refine ev_iconst (pc := 61) (v := (-1)) dX9_parted_61 rfl ?_
          exact ev_iret (pc := 62) dX9_parted_62 rfl rfl (hR _ _ h)
        · replace h := ev_onS h
          show ev_E G K_X9_parted B_X9_parted (0, 0) 58 [some (vr 0 (i0)), some (vi (x1_)), some (vi (x2_)), some (vi (x3_)), some (vi (x4_)), some (vr 3 (j5)), some (vr 4 (j6)), some (vr 4 (j7)), some (vr 5 (j8)), none, none, none, none] [vr 5 (j8)] (ev_emb mF) Q
          refine ev_ifnonnull_r (pc := 58) (tgt := 63) dX9_parted_58 (by decide) ?_
          refine ev_iconst (pc := 63) (v := (-1)) dX9_parted_63 rfl ?_
          refine ev_istore_9 (pc := 64) dX9_parted_64 (by decide) rfl ?_
          refine ev_ldcw (pc := 66) (v := 2147483647) kc_X9_303 dX9_parted_66 ?_
          refine ev_istore_10 (pc := 69) dX9_parted_69 (by decide) rfl ?_
          refine ev_iconst (pc := 71) (v := 0) dX9_parted_71 rfl ?_
          refine ev_istore_11 (pc := 72) dX9_parted_72 (by decide) rfl ?_
          refine ev_E.forget (L' := [some (vr 0 (i0)), none, none, none, none, some (vr 3 (j5)), some (vr 4 (j6)), some (vr 4 (j7)), some (vr 5 (j8)), some (vi ((-1))), some (vi (2147483647)), some (vi (0)), none]) ⟨rfl, ⟨rfl, ⟨rfl, ⟨rfl, ⟨rfl, ⟨rfl, ⟨rfl, ⟨rfl, trivial⟩⟩⟩⟩⟩⟩⟩⟩ ?_
          refine e_lp_X9_parted_74 hR hN 4000 _ _ _ _ _ h (fun x24 m25 h => ?_)
          refine ev_iload_9 (pc := 133) dX9_parted_133 ?_
          exact ev_iret (pc := 135) dX9_parted_135 rfl rfl (hR _ _ h)
theorem c_X9_parted {G : ev_G} {mF : ev_m} {i0 : Nat} {x1_ : Int32} {x2_ : Int32} {x3_ : Int32} {x4_ : Int32} {r : Int32 × ev_m} (h : f_X9_parted mF i0 x1_ x2_ x3_ x4_ = some r) : ev_CF G K_X9_parted B_X9_parted [vr 0 (i0), vi (x1_), vi (x2_), vi (x3_), vi (x4_)] mF (some (vi (r.1))) r.2 :=
  ev_Ct_of rfl rfl (Nat.le_of_ble_eq_true rfl) (e_X9_parted (R := some r) (fun x0 m0 q => by cases q; exact ⟨rfl, rfl⟩) (fun q => by cases q) h)
set_option maxRecDepth 20000 in
set_option maxHeartbeats 4000000 in
theorem e_X9_count {G : ev_G} {Q : Option ev_V → ev_M → Prop} {R : Int32} {mF : ev_m} (hR : ∀ x0 : Int32, x0 = R → Q (some (vi x0)) (ev_emb mF)) {i0 : Nat} {x1_ : Int32} (h : s_X9_count mF i0 x1_ = R) : ev_E G K_X9_count B_X9_count (0, 0) 0 [some (vr 0 (i0)), some (vi (x1_))] [] (ev_emb mF) Q := by
  unfold s_X9_count at h
  refine ev_aload_0 (pc := 0) dX9_count_0 ?_
  refine gt_X9_10 (pc := 1) rfl dX9_count_1 ?_
  refine ev_iload_1 (pc := 4) dX9_count_4 ?_
  refine cl1_X9_320 (pc := 5) rfl dX9_count_5 (by decide) (Nat.le_of_ble_eq_true rfl) (c_X0_countOf mF 0 x1_) ?_
  exact ev_iret (pc := 8) dX9_count_8 rfl rfl (hR _ h)
theorem c_X9_count {G : ev_G} (mF : ev_m) (i0 : Nat) (x1_ : Int32) : ev_CF G K_X9_count B_X9_count [vr 0 (i0), vi (x1_)] mF (some (vi (s_X9_count mF i0 x1_))) mF :=
  ev_Ct_of rfl rfl (Nat.le_of_ble_eq_true rfl) (e_X9_count (R := s_X9_count mF i0 x1_) (fun x0 q => ⟨by rw [← q], rfl⟩) rfl)
set_option maxRecDepth 20000 in
set_option maxHeartbeats 4000000 in
theorem e_X9_image {G : ev_G} {Q : Option ev_V → ev_M → Prop} {R : Option (Bool × ev_m)} {mF : ev_m} (hR : ∀ (x0 : Bool) (m0 : ev_m), (some ((x0, m0))) = R → Q (some (vi (bi x0))) (ev_emb m0)) (hN : none ≠ R) {i0 : Nat} {x1_ : Int32} (h : f_X9_image mF i0 x1_ = R) : ev_E G K_X9_image B_X9_image (0, 0) 0 [some (vr 0 (i0)), some (vi (x1_))] [] (ev_emb mF) Q := by
  unfold f_X9_image at h
  refine ev_iload_1 (pc := 0) dX9_image_0 ?_
  refine ev_ifc_lt (pc := 1) (tgt := 18) dX9_image_1 (by decide) (fun c1 => ?_) (fun c1 => ?_)
  · replace h := ev_ifp h c1
    refine ev_iconst (pc := 18) (v := 0) dX9_image_18 rfl ?_
    exact ev_iret (pc := 19) dX9_image_19 rfl rfl (hR _ _ h)
  · replace h := ev_ifn h c1
    refine ev_iload_1 (pc := 4) dX9_image_4 ?_
    refine ev_iconst (pc := 5) (v := 3) dX9_image_5 rfl ?_
    refine ev_icc_ge (pc := 6) (tgt := 18) dX9_image_6 (by decide) (fun c2 => ?_) (fun c2 => ?_)
    · replace h := ev_ifn h c2
      refine ev_iconst (pc := 18) (v := 0) dX9_image_18 rfl ?_
      exact ev_iret (pc := 19) dX9_image_19 rfl rfl (hR _ _ h)
    · replace h := ev_ifp h c2
      refine ev_aload_0 (pc := 9) dX9_image_9 ?_
      refine gt_X9_16 (pc := 10) rfl dX9_image_10 ?_
      refine ev_iload_1 (pc := 13) dX9_image_13 ?_
      obtain ⟨j3, hj3, h⟩ := ev_bindE hN h
      refine ev_aald1 (pc := 14) rfl (by decide) (by decide) rfl (fun _ => rfl) hj3 dX9_image_14 ?_
      refine ev_ifnonnull_r (pc := 15) (tgt := 20) dX9_image_15 (by decide) ?_
      refine ev_aload_0 (pc := 20) dX9_image_20 ?_
      refine gt_X9_16 (pc := 21) rfl dX9_image_21 ?_
      refine ev_iload_1 (pc := 24) dX9_image_24 ?_
      obtain ⟨j4, hj4, h⟩ := ev_bindE hN h
      refine ev_aald1 (pc := 25) rfl (by decide) (by decide) rfl (fun _ => rfl) hj4 dX9_image_25 ?_
      refine ev_aload_0 (pc := 26) dX9_image_26 ?_
      refine gt_X9_10 (pc := 27) rfl dX9_image_27 ?_
      obtain ⟨m5, hm5, h⟩ := ev_bindE hN h
      refine cl0_X9_323 (pc := 30) rfl dX9_image_30 (by decide) (Nat.le_of_ble_eq_true rfl) (c_X0_copy hm5) ?_
      refine ev_aload_0 (pc := 33) dX9_image_33 ?_
      refine gt_X9_20 (pc := 34) rfl dX9_image_34 ?_
      refine ev_iload_1 (pc := 37) dX9_image_37 ?_
      refine ev_iconst (pc := 38) (v := 1) dX9_image_38 rfl ?_
      obtain ⟨m6, hm6, h⟩ := ev_bindE hN h
      refine ev_zast1 (pc := 39) rfl (by decide) (by decide) rfl hm6 dX9_image_39 ?_
      refine ev_iconst (pc := 40) (v := 1) dX9_image_40 rfl ?_
      exact ev_iret (pc := 41) dX9_image_41 rfl rfl (hR _ _ h)
theorem c_X9_image {G : ev_G} {mF : ev_m} {i0 : Nat} {x1_ : Int32} {r : Bool × ev_m} (h : f_X9_image mF i0 x1_ = some r) : ev_CF G K_X9_image B_X9_image [vr 0 (i0), vi (x1_)] mF (some (vi (bi (r.1)))) r.2 :=
  ev_Ct_of rfl rfl (Nat.le_of_ble_eq_true rfl) (e_X9_image (R := some r) (fun x0 m0 q => by cases q; exact ⟨rfl, rfl⟩) (fun q => by cases q) h)
set_option maxRecDepth 20000 in
set_option maxHeartbeats 4000000 in
theorem e_X9_again {G : ev_G} {Q : Option ev_V → ev_M → Prop} {R : Option (Bool × ev_m)} {mF : ev_m} (hR : ∀ (x0 : Bool) (m0 : ev_m), (some ((x0, m0))) = R → Q (some (vi (bi x0))) (ev_emb m0)) (hN : none ≠ R) {i0 : Nat} {x1_ : Int32} (h : f_X9_again mF i0 x1_ = R) : ev_E G K_X9_again B_X9_again (0, 0) 0 [some (vr 0 (i0)), some (vi (x1_))] [] (ev_emb mF) Q := by
  unfold f_X9_again at h
  refine ev_iload_1 (pc := 0) dX9_again_0 ?_
  refine ev_ifc_lt (pc := 1) (tgt := 18) dX9_again_1 (by decide) (fun c1 => ?_) (fun c1 => ?_)
  · replace h := ev_ifp h c1
    refine ev_iconst (pc := 18) (v := 0) dX9_again_18 rfl ?_
    exact ev_iret (pc := 19) dX9_again_19 rfl rfl (hR _ _ h)
  · replace h := ev_ifn h c1
    refine ev_iload_1 (pc := 4) dX9_again_4 ?_
    refine ev_iconst (pc := 5) (v := 3) dX9_again_5 rfl ?_
    refine ev_icc_ge (pc := 6) (tgt := 18) dX9_again_6 (by decide) (fun c2 => ?_) (fun c2 => ?_)
    · replace h := ev_ifn h c2
      refine ev_iconst (pc := 18) (v := 0) dX9_again_18 rfl ?_
      exact ev_iret (pc := 19) dX9_again_19 rfl rfl (hR _ _ h)
    · replace h := ev_ifp h c2
      refine ev_aload_0 (pc := 9) dX9_again_9 ?_
      refine gt_X9_20 (pc := 10) rfl dX9_again_10 ?_
      refine ev_iload_1 (pc := 13) dX9_again_13 ?_
      obtain ⟨x3, hx3, h⟩ := ev_bindE hN h
      refine ev_zald1 (pc := 14) rfl (by decide) (by decide) rfl hx3 dX9_again_14 ?_
      refine ev_ifc_ne (pc := 15) (tgt := 20) dX9_again_15 (by decide) (fun c4 => ?_) (fun c4 => ?_)
      · replace h := ev_ifn h c4
        refine ev_aload_0 (pc := 20) dX9_again_20 ?_
        refine gt_X9_10 (pc := 21) rfl dX9_again_21 ?_
        refine ev_aload_0 (pc := 24) dX9_again_24 ?_
        refine gt_X9_16 (pc := 25) rfl dX9_again_25 ?_
        refine ev_iload_1 (pc := 28) dX9_again_28 ?_
        obtain ⟨j5, hj5, h⟩ := ev_bindE hN h
        refine ev_aald1 (pc := 29) rfl (by decide) (by decide) rfl (fun _ => rfl) hj5 dX9_again_29 ?_
        obtain ⟨m6, hm6, h⟩ := ev_bindE hN h
        refine cl0_X9_323 (pc := 30) rfl dX9_again_30 (by decide) (Nat.le_of_ble_eq_true rfl) (c_X0_copy hm6) ?_
        refine ev_iconst (pc := 33) (v := 1) dX9_again_33 rfl ?_
        exact ev_iret (pc := 34) dX9_again_34 rfl rfl (hR _ _ h)
      · replace h := ev_ifp h c4
        refine ev_iconst (pc := 18) (v := 0) dX9_again_18 rfl ?_
        exact ev_iret (pc := 19) dX9_again_19 rfl rfl (hR _ _ h)
theorem c_X9_again {G : ev_G} {mF : ev_m} {i0 : Nat} {x1_ : Int32} {r : Bool × ev_m} (h : f_X9_again mF i0 x1_ = some r) : ev_CF G K_X9_again B_X9_again [vr 0 (i0), vi (x1_)] mF (some (vi (bi (r.1)))) r.2 :=
  ev_Ct_of rfl rfl (Nat.le_of_ble_eq_true rfl) (e_X9_again (R := some r) (fun x0 m0 q => by cases q; exact ⟨rfl, rfl⟩) (fun q => by cases q) h)
set_option maxRecDepth 20000 in
set_option maxHeartbeats 4000000 in
theorem e_X10_in {G : ev_G} {Q : Option ev_V → ev_M → Prop} {R : Bool} {mF : ev_m} (hR : ∀ x0 : Bool, x0 = R → Q (some (vi (bi x0))) (ev_emb mF)) {x0_ : Int32} {x1_ : Int32} {x2_ : Int32} (h : s_X10_in mF x0_ x1_ x2_ = R) : ev_E G K_X10_in B_X10_in (0, 0) 0 [some (vi (x0_)), some (vi (x1_)), some (vi (x2_))] [] (ev_emb mF) Q := by
  unfold s_X10_in at h
  refine ev_iload_0 (pc := 0) dX10_in_0 ?_
  refine ev_iload_1 (pc := 1) dX10_in_1 ?_
  refine ev_icc_lt (pc := 2) (tgt := 14) dX10_in_2 (by decide) (fun c1 => ?_) (fun c1 => ?_)
  · replace h := ev_ifp h c1
    refine ev_iconst (pc := 14) (v := 0) dX10_in_14 rfl ?_
    exact ev_iret (pc := 15) dX10_in_15 rfl rfl (hR _ h)
  · replace h := ev_ifn h c1
    refine ev_iload_0 (pc := 5) dX10_in_5 ?_
    refine ev_iload_2 (pc := 6) dX10_in_6 ?_
    refine ev_icc_gt (pc := 7) (tgt := 14) dX10_in_7 (by decide) (fun c2 => ?_) (fun c2 => ?_)
    · replace h := ev_ifp h c2
      refine ev_iconst (pc := 14) (v := 0) dX10_in_14 rfl ?_
      exact ev_iret (pc := 15) dX10_in_15 rfl rfl (hR _ h)
    · replace h := ev_ifn h c2
      refine ev_iconst (pc := 10) (v := 1) dX10_in_10 rfl ?_
      refine ev_goto (pc := 11) (tgt := 15) dX10_in_11 (by decide) ?_
      exact ev_iret (pc := 15) dX10_in_15 rfl rfl (hR _ h)
theorem c_X10_in {G : ev_G} (mF : ev_m) (x0_ : Int32) (x1_ : Int32) (x2_ : Int32) : ev_CF G K_X10_in B_X10_in [vi (x0_), vi (x1_), vi (x2_)] mF (some (vi (bi (s_X10_in mF x0_ x1_ x2_)))) mF :=
  ev_Ct_of rfl rfl (Nat.le_of_ble_eq_true rfl) (e_X10_in (R := s_X10_in mF x0_ x1_ x2_) (fun x0 q => ⟨by rw [← q], rfl⟩) rfl)
set_option maxRecDepth 20000 in
set_option maxHeartbeats 4000000 in
theorem e_X10_has {G : ev_G} {Q : Option ev_V → ev_M → Prop} {R : Bool} {mF : ev_m} (hR : ∀ x0 : Bool, x0 = R → Q (some (vi (bi x0))) (ev_emb mF)) {x0_ : Int32} {x1_ : Int32} (h : s_X10_has mF x0_ x1_ = R) : ev_E G K_X10_has B_X10_has (0, 0) 0 [some (vi (x0_)), some (vi (x1_))] [] (ev_emb mF) Q := by
  unfold s_X10_has at h
  refine ev_iload_0 (pc := 0) dX10_has_0 ?_
  refine ev_iload_1 (pc := 1) dX10_has_1 ?_
  refine ev_ishr (pc := 2) dX10_has_2 ?_
  refine ev_iconst (pc := 3) (v := 1) dX10_has_3 rfl ?_
  refine ev_iand (pc := 4) dX10_has_4 ?_
  refine ev_iconst (pc := 5) (v := 1) dX10_has_5 rfl ?_
  refine ev_icc_ne (pc := 6) (tgt := 13) dX10_has_6 (by decide) (fun c1 => ?_) (fun c1 => ?_)
  · replace h := ev_ifn h c1
    refine ev_iconst (pc := 13) (v := 0) dX10_has_13 rfl ?_
    exact ev_iret (pc := 14) dX10_has_14 rfl rfl (hR _ h)
  · replace h := ev_ifp h c1
    refine ev_iconst (pc := 9) (v := 1) dX10_has_9 rfl ?_
    refine ev_goto (pc := 10) (tgt := 14) dX10_has_10 (by decide) ?_
    exact ev_iret (pc := 14) dX10_has_14 rfl rfl (hR _ h)
theorem c_X10_has {G : ev_G} (mF : ev_m) (x0_ : Int32) (x1_ : Int32) : ev_CF G K_X10_has B_X10_has [vi (x0_), vi (x1_)] mF (some (vi (bi (s_X10_has mF x0_ x1_)))) mF :=
  ev_Ct_of rfl rfl (Nat.le_of_ble_eq_true rfl) (e_X10_has (R := s_X10_has mF x0_ x1_) (fun x0 q => ⟨by rw [← q], rfl⟩) rfl)
set_option maxRecDepth 20000 in
set_option maxHeartbeats 4000000 in
theorem e_X10_plain {G : ev_G} {Q : Option ev_V → ev_M → Prop} {R : Int32} {mF : ev_m} (hR : ∀ x0 : Int32, x0 = R → Q (some (vi x0)) (ev_emb mF)) {x0_ : Int32} (h : s_X10_plain mF x0_ = R) : ev_E G K_X10_plain B_X10_plain (0, 0) 0 [some (vi (x0_))] [] (ev_emb mF) Q := by
  unfold s_X10_plain at h
  refine ev_iload_0 (pc := 0) dX10_plain_0 ?_
  refine ev_ifc_ge (pc := 1) (tgt := 9) dX10_plain_1 (by decide) (fun c1 => ?_) (fun c1 => ?_)
  · replace h := ev_ifn h c1
    refine ev_iload_0 (pc := 9) dX10_plain_9 ?_
    exact ev_iret (pc := 10) dX10_plain_10 rfl rfl (hR _ h)
  · replace h := ev_ifp h c1
    refine ev_iload_0 (pc := 4) dX10_plain_4 ?_
    refine ev_ineg (pc := 5) dX10_plain_5 ?_
    refine ev_goto (pc := 6) (tgt := 10) dX10_plain_6 (by decide) ?_
    exact ev_iret (pc := 10) dX10_plain_10 rfl rfl (hR _ h)
theorem c_X10_plain {G : ev_G} (mF : ev_m) (x0_ : Int32) : ev_CF G K_X10_plain B_X10_plain [vi (x0_)] mF (some (vi (s_X10_plain mF x0_))) mF :=
  ev_Ct_of rfl rfl (Nat.le_of_ble_eq_true rfl) (e_X10_plain (R := s_X10_plain mF x0_) (fun x0 q => ⟨by rw [← q], rfl⟩) rfl)
set_option maxRecDepth 20000 in
set_option maxHeartbeats 4000000 in
theorem e_X10_within {G : ev_G} {Q : Option ev_V → ev_M → Prop} {R : Int32} {mF : ev_m} (hR : ∀ x0 : Int32, x0 = R → Q (some (vi x0)) (ev_emb mF)) {x0_ : Int32} {x1_ : Int32} (h : s_X10_within mF x0_ x1_ = R) : ev_E G K_X10_within B_X10_within (0, 0) 0 [some (vi (x0_)), some (vi (x1_))] [] (ev_emb mF) Q := by
  unfold s_X10_within at h
  refine ev_iload_0 (pc := 0) dX10_within_0 ?_
  refine ev_iload_1 (pc := 1) dX10_within_1 ?_
  refine ev_icc_le (pc := 2) (tgt := 9) dX10_within_2 (by decide) (fun c1 => ?_) (fun c1 => ?_)
  · replace h := ev_ifn h c1
    refine ev_iload_0 (pc := 9) dX10_within_9 ?_
    refine ev_iload_1 (pc := 10) dX10_within_10 ?_
    refine ev_ineg (pc := 11) dX10_within_11 ?_
    refine ev_icc_ge (pc := 12) (tgt := 20) dX10_within_12 (by decide) (fun c2 => ?_) (fun c2 => ?_)
    · replace h := ev_ifn h c2
      refine ev_iload_0 (pc := 20) dX10_within_20 ?_
      exact ev_iret (pc := 21) dX10_within_21 rfl rfl (hR _ h)
    · replace h := ev_ifp h c2
      refine ev_iload_1 (pc := 15) dX10_within_15 ?_
      refine ev_ineg (pc := 16) dX10_within_16 ?_
      refine ev_goto (pc := 17) (tgt := 21) dX10_within_17 (by decide) ?_
      exact ev_iret (pc := 21) dX10_within_21 rfl rfl (hR _ h)
  · replace h := ev_ifp h c1
    refine ev_iload_1 (pc := 5) dX10_within_5 ?_
    refine ev_goto (pc := 6) (tgt := 21) dX10_within_6 (by decide) ?_
    exact ev_iret (pc := 21) dX10_within_21 rfl rfl (hR _ h)
theorem c_X10_within {G : ev_G} (mF : ev_m) (x0_ : Int32) (x1_ : Int32) : ev_CF G K_X10_within B_X10_within [vi (x0_), vi (x1_)] mF (some (vi (s_X10_within mF x0_ x1_))) mF :=
  ev_Ct_of rfl rfl (Nat.le_of_ble_eq_true rfl) (e_X10_within (R := s_X10_within mF x0_ x1_) (fun x0 q => ⟨by rw [← q], rfl⟩) rfl)
set_option maxRecDepth 20000 in
set_option maxHeartbeats 4000000 in
theorem e_lp_X10_copyAll_2 {G : ev_G} {Q : Option ev_V → ev_M → Prop} {R : Option (ev_m)} (hR : ∀ m0 : ev_m, (some (m0)) = R → Q none (ev_emb m0)) (hN : none ≠ R) {i1 : Nat} {x2 : Int32} {x3 : Int32} : ∀ (f : Nat) (x4 : Int32) (m5 : ev_m) (kx : ev_m → Option (ev_m)) (h : lp_X10_copyAll_2 i1 x2 x3 f x4 m5 kx = R) (hk : ∀ (m5' : ev_m), kx m5' = R → ev_E G K_X10_copyAll B_X10_copyAll (0, 0) 39 [some (vr 10 (i1)), some (vi (x2)), some (vi (x3)), none] [] (ev_emb m5') Q), ev_E G K_X10_copyAll B_X10_copyAll (0, 0) 2 [some (vr 10 (i1)), some (vi (x2)), some (vi (x3)), some (vi (x4))] [] (ev_emb m5) Q := by
  intro f
  induction f with
  | zero => intro x4 m5 kx h hk; rw [lp_X10_copyAll_2] at h; exact absurd h hN
  | succ f ih =>
    intro x4 m5 kx h hk
    rw [lp_X10_copyAll_2] at h
    refine ev_iload_3 (pc := 2) dX10_copyAll_2 ?_
    refine ev_sipush (pc := 3) (v := 600) dX10_copyAll_3 (by decide) ?_
    refine ev_icc_ge (pc := 6) (tgt := 39) dX10_copyAll_6 (by decide) (fun c6 => ?_) (fun c6 => ?_)
    · replace h := ev_ifn h c6
      refine ev_E.forget (L' := [some (vr 10 (i1)), some (vi (x2)), some (vi (x3)), none]) ⟨rfl, ⟨rfl, ⟨rfl, trivial⟩⟩⟩ ?_
      exact hk _  h
    · replace h := ev_ifp h c6
      refine ev_aload_0 (pc := 9) dX10_copyAll_9 ?_
      refine gt_X10_7 (pc := 10) rfl dX10_copyAll_10 ?_
      refine ev_sipush (pc := 13) (v := 600) dX10_copyAll_13 (by decide) ?_
      refine ev_iload_2 (pc := 16) dX10_copyAll_16 ?_
      refine ev_imul (pc := 17) dX10_copyAll_17 ?_
      refine ev_iload_3 (pc := 18) dX10_copyAll_18 ?_
      refine ev_iadd (pc := 19) dX10_copyAll_19 ?_
      refine ev_aload_0 (pc := 20) dX10_copyAll_20 ?_
      refine gt_X10_7 (pc := 21) rfl dX10_copyAll_21 ?_
      refine ev_sipush (pc := 24) (v := 600) dX10_copyAll_24 (by decide) ?_
      refine ev_iload_1 (pc := 27) dX10_copyAll_27 ?_
      refine ev_imul (pc := 28) dX10_copyAll_28 ?_
      refine ev_iload_3 (pc := 29) dX10_copyAll_29 ?_
      refine ev_iadd (pc := 30) dX10_copyAll_30 ?_
      obtain ⟨x7, hx7, h⟩ := ev_bindE hN h
      refine ev_bald1 (pc := 31) rfl (by decide) (by decide) rfl hx7 dX10_copyAll_31 ?_
      obtain ⟨m8, hm8, h⟩ := ev_bindE hN h
      refine ev_bast1 (pc := 32) rfl (by decide) (by decide) rfl hm8 dX10_copyAll_32 ?_
      refine ev_iinc_3 (pc := 33) (y := x4 + 1) dX10_copyAll_33 rfl (by decide) rfl ?_
      refine ev_goto (pc := 36) (tgt := 2) dX10_copyAll_36 (by decide) ?_
      exact ih _ _ kx h hk
set_option maxRecDepth 20000 in
set_option maxHeartbeats 4000000 in
theorem e_X10_copyAll {G : ev_G} {Q : Option ev_V → ev_M → Prop} {R : Option (ev_m)} {mF : ev_m} (hR : ∀ m0 : ev_m, (some (m0)) = R → Q none (ev_emb m0)) (hN : none ≠ R) {i0 : Nat} {x1_ : Int32} {x2_ : Int32} (h : f_X10_copyAll mF i0 x1_ x2_ = R) : ev_E G K_X10_copyAll B_X10_copyAll (0, 0) 0 [some (vr 10 (i0)), some (vi (x1_)), some (vi (x2_)), none] [] (ev_emb mF) Q := by
  unfold f_X10_copyAll at h
  refine ev_iconst (pc := 0) (v := 0) dX10_copyAll_0 rfl ?_
  refine ev_istore_3 (pc := 1) dX10_copyAll_1 (by decide) rfl ?_
  refine e_lp_X10_copyAll_2 hR hN 4000 _ _ _ h (fun m9 h => ?_)
  refine ev_aload_0 (pc := 39) dX10_copyAll_39 ?_
  refine gt_X10_13 (pc := 40) rfl dX10_copyAll_40 ?_
  refine ev_iconst (pc := 43) (v := 1) dX10_copyAll_43 rfl ?_
  refine ev_iload_1 (pc := 44) dX10_copyAll_44 ?_
  refine ev_iload_2 (pc := 45) dX10_copyAll_45 ?_
  obtain ⟨m10, hm10, h⟩ := ev_bindE hN h
  refine cl0_X10_85 (pc := 46) rfl dX10_copyAll_46 (by decide) (Nat.le_of_ble_eq_true rfl) (c_X10_copyRow (r := 31) rfl (by decide) (by decide) rfl hm10) ?_
  refine ev_aload_0 (pc := 49) dX10_copyAll_49 ?_
  refine gt_X10_17 (pc := 50) rfl dX10_copyAll_50 ?_
  refine ev_iconst (pc := 53) (v := 1) dX10_copyAll_53 rfl ?_
  refine ev_iload_1 (pc := 54) dX10_copyAll_54 ?_
  refine ev_iload_2 (pc := 55) dX10_copyAll_55 ?_
  obtain ⟨m11, hm11, h⟩ := ev_bindE hN h
  refine cl0_X10_85 (pc := 56) rfl dX10_copyAll_56 (by decide) (Nat.le_of_ble_eq_true rfl) (c_X10_copyRow (r := 32) rfl (by decide) (by decide) rfl hm11) ?_
  refine ev_aload_0 (pc := 59) dX10_copyAll_59 ?_
  refine gt_X10_20 (pc := 60) rfl dX10_copyAll_60 ?_
  refine ev_iconst (pc := 63) (v := 1) dX10_copyAll_63 rfl ?_
  refine ev_iload_1 (pc := 64) dX10_copyAll_64 ?_
  refine ev_iload_2 (pc := 65) dX10_copyAll_65 ?_
  obtain ⟨m12, hm12, h⟩ := ev_bindE hN h
  refine cl0_X10_85 (pc := 66) rfl dX10_copyAll_66 (by decide) (Nat.le_of_ble_eq_true rfl) (c_X10_copyRow (r := 33) rfl (by decide) (by decide) rfl hm12) ?_
  refine ev_aload_0 (pc := 69) dX10_copyAll_69 ?_
  refine gt_X10_23 (pc := 70) rfl dX10_copyAll_70 ?_
  refine ev_iconst (pc := 73) (v := 4) dX10_copyAll_73 rfl ?_
  refine ev_iload_1 (pc := 74) dX10_copyAll_74 ?_
  refine ev_iload_2 (pc := 75) dX10_copyAll_75 ?_
  obtain ⟨m13, hm13, h⟩ := ev_bindE hN h
  refine cl0_X10_85 (pc := 76) rfl dX10_copyAll_76 (by decide) (Nat.le_of_ble_eq_true rfl) (c_X10_copyRow (r := 34) rfl (by decide) (by decide) rfl hm13) ?_
  refine ev_aload_0 (pc := 79) dX10_copyAll_79 ?_
  refine gt_X10_26 (pc := 80) rfl dX10_copyAll_80 ?_
  refine ev_bipush (pc := 83) (v := 46) dX10_copyAll_83 (by decide) ?_
  refine ev_iload_1 (pc := 85) dX10_copyAll_85 ?_
  refine ev_iload_2 (pc := 86) dX10_copyAll_86 ?_
  obtain ⟨m14, hm14, h⟩ := ev_bindE hN h
  refine cl0_X10_85 (pc := 87) rfl dX10_copyAll_87 (by decide) (Nat.le_of_ble_eq_true rfl) (c_X10_copyRow (r := 35) rfl (by decide) (by decide) rfl hm14) ?_
  refine ev_aload_0 (pc := 90) dX10_copyAll_90 ?_
  refine gt_X10_29 (pc := 91) rfl dX10_copyAll_91 ?_
  refine ev_bipush (pc := 94) (v := 72) dX10_copyAll_94 (by decide) ?_
  refine ev_iload_1 (pc := 96) dX10_copyAll_96 ?_
  refine ev_iload_2 (pc := 97) dX10_copyAll_97 ?_
  obtain ⟨m15, hm15, h⟩ := ev_bindE hN h
  refine cl0_X10_85 (pc := 98) rfl dX10_copyAll_98 (by decide) (Nat.le_of_ble_eq_true rfl) (c_X10_copyRow (r := 36) rfl (by decide) (by decide) rfl hm15) ?_
  refine ev_aload_0 (pc := 101) dX10_copyAll_101 ?_
  refine gt_X10_32 (pc := 102) rfl dX10_copyAll_102 ?_
  refine ev_bipush (pc := 105) (v := 122) dX10_copyAll_105 (by decide) ?_
  refine ev_iload_1 (pc := 107) dX10_copyAll_107 ?_
  refine ev_iload_2 (pc := 108) dX10_copyAll_108 ?_
  obtain ⟨m16, hm16, h⟩ := ev_bindE hN h
  refine cl0_X10_85 (pc := 109) rfl dX10_copyAll_109 (by decide) (Nat.le_of_ble_eq_true rfl) (c_X10_copyRow (r := 37) rfl (by decide) (by decide) rfl hm16) ?_
  refine ev_aload_0 (pc := 112) dX10_copyAll_112 ?_
  refine gt_X10_35 (pc := 113) rfl dX10_copyAll_113 ?_
  refine ev_bipush (pc := 116) (v := 34) dX10_copyAll_116 (by decide) ?_
  refine ev_iload_1 (pc := 118) dX10_copyAll_118 ?_
  refine ev_iload_2 (pc := 119) dX10_copyAll_119 ?_
  obtain ⟨m17, hm17, h⟩ := ev_bindE hN h
  refine cl0_X10_85 (pc := 120) rfl dX10_copyAll_120 (by decide) (Nat.le_of_ble_eq_true rfl) (c_X10_copyRow (r := 38) rfl (by decide) (by decide) rfl hm17) ?_
  exact ev_vret (pc := 123) dX10_copyAll_123 rfl (hR _ h)
theorem c_X10_copyAll {G : ev_G} {mF : ev_m} {i0 : Nat} {x1_ : Int32} {x2_ : Int32} {r : ev_m} (h : f_X10_copyAll mF i0 x1_ x2_ = some r) : ev_CF G K_X10_copyAll B_X10_copyAll [vr 10 (i0), vi (x1_), vi (x2_)] mF none r :=
  ev_Ct_of rfl rfl (Nat.le_of_ble_eq_true rfl) (e_X10_copyAll (R := some r) (fun m0 q => by cases q; exact ⟨rfl, rfl⟩) (fun q => by cases q) h)
set_option maxRecDepth 20000 in
set_option maxHeartbeats 4000000 in
theorem e_X10_mostOf {G : ev_G} {Q : Option ev_V → ev_M → Prop} {R : Int32} {mF : ev_m} (hR : ∀ x0 : Int32, x0 = R → Q (some (vi x0)) (ev_emb mF)) {x0_ : Int32} (h : s_X10_mostOf mF x0_ = R) : ev_E G K_X10_mostOf B_X10_mostOf (0, 0) 0 [some (vi (x0_))] [] (ev_emb mF) Q := by
  unfold s_X10_mostOf at h
  refine ev_iload_0 (pc := 0) dX10_mostOf_0 ?_
  refine ev_iconst (pc := 1) (v := 1) dX10_mostOf_1 rfl ?_
  refine ev_icc_ne (pc := 2) (tgt := 9) dX10_mostOf_2 (by decide) (fun c1 => ?_) (fun c1 => ?_)
  · replace h := ev_ifn h c1
    refine ev_iconst (pc := 9) (v := 2) dX10_mostOf_9 rfl ?_
    exact ev_iret (pc := 10) dX10_mostOf_10 rfl rfl (hR _ h)
  · replace h := ev_ifp h c1
    refine ev_iconst (pc := 5) (v := 4) dX10_mostOf_5 rfl ?_
    refine ev_goto (pc := 6) (tgt := 10) dX10_mostOf_6 (by decide) ?_
    exact ev_iret (pc := 10) dX10_mostOf_10 rfl rfl (hR _ h)
theorem c_X10_mostOf {G : ev_G} (mF : ev_m) (x0_ : Int32) : ev_CF G K_X10_mostOf B_X10_mostOf [vi (x0_)] mF (some (vi (s_X10_mostOf mF x0_))) mF :=
  ev_Ct_of rfl rfl (Nat.le_of_ble_eq_true rfl) (e_X10_mostOf (R := s_X10_mostOf mF x0_) (fun x0 q => ⟨by rw [← q], rfl⟩) rfl)
set_option maxRecDepth 20000 in
set_option maxHeartbeats 4000000 in
theorem e_X10_is {G : ev_G} {Q : Option ev_V → ev_M → Prop} {R : Option (Bool)} {mF : ev_m} (hR : ∀ x0 : Bool, (some (x0)) = R → Q (some (vi (bi x0))) (ev_emb mF)) (hN : none ≠ R) {i0 : Nat} {x1_ : Int32} {x2_ : Int32} (h : f_X10_is mF i0 x1_ x2_ = R) : ev_E G K_X10_is B_X10_is (0, 0) 0 [some (vr 10 (i0)), some (vi (x1_)), some (vi (x2_))] [] (ev_emb mF) Q := by
  unfold f_X10_is at h
  refine ev_iload_2 (pc := 0) dX10_is_0 ?_
  refine ev_iconst (pc := 1) (v := 0) dX10_is_1 rfl ?_
  refine ev_aload_0 (pc := 2) dX10_is_2 ?_
  refine gt_X10_23 (pc := 3) rfl dX10_is_3 ?_
  refine ev_iload_1 (pc := 6) dX10_is_6 ?_
  obtain ⟨x1, hx1, h⟩ := ev_bindE hN h
  refine ev_iald1 (pc := 7) rfl (by decide) rfl hx1 dX10_is_7 ?_
  refine ev_iconst (pc := 8) (v := 1) dX10_is_8 rfl ?_
  refine ev_isub (pc := 9) dX10_is_9 ?_
  refine cl1_X10_89 (pc := 10) rfl dX10_is_10 (by decide) (Nat.le_of_ble_eq_true rfl) (c_X10_in mF x2_ 0 (x1 - 1)) ?_
  exact ev_iret (pc := 13) dX10_is_13 rfl (ev_nb _) (hR _ h)
theorem c_X10_is {G : ev_G} {mF : ev_m} {i0 : Nat} {x1_ : Int32} {x2_ : Int32} {r : Bool} (h : f_X10_is mF i0 x1_ x2_ = some r) : ev_CF G K_X10_is B_X10_is [vr 10 (i0), vi (x1_), vi (x2_)] mF (some (vi (bi (r)))) mF :=
  ev_Ct_of rfl rfl (Nat.le_of_ble_eq_true rfl) (e_X10_is (R := some r) (fun x0 q => by cases q; exact ⟨rfl, rfl⟩) (fun q => by cases q) h)
set_option maxRecDepth 20000 in
set_option maxHeartbeats 4000000 in
theorem e_lp_X10_four_3 {G : ev_G} {Q : Option ev_V → ev_M → Prop} {R : Option (ev_m)} (hR : ∀ m0 : ev_m, (some (m0)) = R → Q none (ev_emb m0)) (hN : none ≠ R) {i1 : Nat} {x2 : Int32} : ∀ (f : Nat) (x3 : Int32) (m4 : ev_m) (kx : ev_m → Option (ev_m)) (h : lp_X10_four_3 i1 x2 f x3 m4 kx = R) (hk : ∀ (m4' : ev_m), kx m4' = R → ev_E G K_X10_four B_X10_four (0, 0) 38 [none, none, none] [] (ev_emb m4') Q), ev_E G K_X10_four B_X10_four (0, 0) 3 [some (vr 10 (i1)), some (vi (x2)), some (vi (x3))] [] (ev_emb m4) Q := by
  intro f
  induction f with
  | zero => intro x3 m4 kx h hk; rw [lp_X10_four_3] at h; exact absurd h hN
  | succ f ih =>
    intro x3 m4 kx h hk
    rw [lp_X10_four_3] at h
    refine ev_iload_2 (pc := 3) dX10_four_3 ?_
    refine ev_ifc_lt (pc := 4) (tgt := 38) dX10_four_4 (by decide) (fun c5 => ?_) (fun c5 => ?_)
    · replace h := ev_ifp h c5
      refine ev_E.forget (L' := [none, none, none]) trivial ?_
      exact hk _  h
    · replace h := ev_ifn h c5
      refine ev_aload_0 (pc := 7) dX10_four_7 ?_
      refine gt_X10_7 (pc := 8) rfl dX10_four_8 ?_
      refine ev_aload_0 (pc := 11) dX10_four_11 ?_
      refine gt_X10_13 (pc := 12) rfl dX10_four_12 ?_
      refine ev_iconst (pc := 15) (v := 0) dX10_four_15 rfl ?_
      refine ev_ialdS (pc := 16) (j := 0) rfl (by decide) (by decide) (vp_in_iff.mpr (by decide)) dX10_four_16 ?_
      refine ev_iload_1 (pc := 17) dX10_four_17 ?_
      refine ev_iload_2 (pc := 18) dX10_four_18 ?_
      refine ev_ishr (pc := 19) dX10_four_19 ?_
      refine ev_i2b (pc := 20) dX10_four_20 ?_
      obtain ⟨m6, hm6, h⟩ := ev_bindE hN h
      refine ev_bast1 (pc := 21) rfl (by decide) (by decide) rfl hm6 dX10_four_21 ?_
      refine ev_aload_0 (pc := 22) dX10_four_22 ?_
      refine gt_X10_13 (pc := 23) rfl dX10_four_23 ?_
      refine ev_iconst (pc := 26) (v := 0) dX10_four_26 rfl ?_
      refine ev_dup2_ri (pc := 27) dX10_four_27 ?_
      refine ev_ialdS (pc := 28) (j := 0) rfl (by decide) (by decide) (vp_in_iff.mpr (by decide)) dX10_four_28 ?_
      refine ev_iconst (pc := 29) (v := 1) dX10_four_29 rfl ?_
      refine ev_iadd (pc := 30) dX10_four_30 ?_
      obtain ⟨m7, hm7, h⟩ := ev_letE h
      refine ev_iastS (pc := 31) (j := 0) rfl (by decide) (by decide) (by decide) (vp_in_iff.mpr (by decide)) dX10_four_31 ?_
      refine ev_mem (pc := 32) hm7 ?_
      refine ev_iinc_2 (pc := 32) (y := x3 + (-8)) dX10_four_32 rfl (by decide) rfl ?_
      refine ev_goto (pc := 35) (tgt := 3) dX10_four_35 (by decide) ?_
      exact ih _ _ kx h hk
set_option maxRecDepth 20000 in
set_option maxHeartbeats 4000000 in
theorem e_X10_four {G : ev_G} {Q : Option ev_V → ev_M → Prop} {R : Option (ev_m)} {mF : ev_m} (hR : ∀ m0 : ev_m, (some (m0)) = R → Q none (ev_emb m0)) (hN : none ≠ R) {i0 : Nat} {x1_ : Int32} (h : f_X10_four mF i0 x1_ = R) : ev_E G K_X10_four B_X10_four (0, 0) 0 [some (vr 10 (i0)), some (vi (x1_)), none] [] (ev_emb mF) Q := by
  unfold f_X10_four at h
  refine ev_bipush (pc := 0) (v := 24) dX10_four_0 (by decide) ?_
  refine ev_istore_2 (pc := 2) dX10_four_2 (by decide) rfl ?_
  refine e_lp_X10_four_3 hR hN 4000 _ _ _ h (fun m8 h => ?_)
  exact ev_vret (pc := 38) dX10_four_38 rfl (hR _ h)
theorem c_X10_four {G : ev_G} {mF : ev_m} {i0 : Nat} {x1_ : Int32} {r : ev_m} (h : f_X10_four mF i0 x1_ = some r) : ev_CF G K_X10_four B_X10_four [vr 10 (i0), vi (x1_)] mF none r :=
  ev_Ct_of rfl rfl (Nat.le_of_ble_eq_true rfl) (e_X10_four (R := some r) (fun m0 q => by cases q; exact ⟨rfl, rfl⟩) (fun q => by cases q) h)
set_option maxRecDepth 20000 in
set_option maxHeartbeats 4000000 in
theorem e_X10_feed {G : ev_G} {Q : Option ev_V → ev_M → Prop} {R : Option (Int32 × ev_m)} {mF : ev_m} (hR : ∀ (x0 : Int32) (m0 : ev_m), (some ((x0, m0))) = R → Q (some (vi x0)) (ev_emb m0)) (hN : none ≠ R) {i0 : Nat} {x1_ : Int32} {x2_ : Int32} {x3_ : Int32} {x4_ : Int32} {x5_ : Int32} (h : f_X10_feed mF i0 x1_ x2_ x3_ x4_ x5_ = R) : ev_E G K_X10_feed B_X10_feed (0, 0) 0 [some (vr 10 (i0)), some (vi (x1_)), some (vi (x2_)), some (vi (x3_)), some (vi (x4_)), some (vi (x5_))] [] (ev_emb mF) Q := by
  unfold f_X10_feed at h
  refine ev_aload_0 (pc := 0) dX10_feed_0 ?_
  refine ev_iconst (pc := 1) (v := 0) dX10_feed_1 rfl ?_
  obtain ⟨m1, hm1, h⟩ := ev_letE h
  refine pt_X10_81 (pc := 2) rfl dX10_feed_2 ?_
  refine ev_mem (pc := 5) hm1 ?_
  refine ev_aload_0 (pc := 5) dX10_feed_5 ?_
  refine gt_X10_13 (pc := 6) rfl dX10_feed_6 ?_
  refine ev_iconst (pc := 9) (v := 0) dX10_feed_9 rfl ?_
  refine ev_ialdS (pc := 10) (j := 0) rfl (by decide) (by decide) (vp_in_iff.mpr (by decide)) dX10_feed_10 ?_
  refine ev_bipush (pc := 11) (v := 20) dX10_feed_11 (by decide) ?_
  refine ev_iadd (pc := 13) dX10_feed_13 ?_
  refine ev_sipush (pc := 14) (v := 600) dX10_feed_14 (by decide) ?_
  refine ev_icc_le (pc := 17) (tgt := 22) dX10_feed_17 (by decide) (fun c2 => ?_) (fun c2 => ?_)
  · replace h := ev_ifn h c2
    refine ev_aload_0 (pc := 22) dX10_feed_22 ?_
    refine ev_iload_1 (pc := 23) dX10_feed_23 ?_
    obtain ⟨m3, hm3, h⟩ := ev_bindE hN h
    refine cl0_X10_93 (pc := 24) rfl dX10_feed_24 (by decide) (Nat.le_of_ble_eq_true rfl) (c_X10_four hm3) ?_
    refine ev_aload_0 (pc := 27) dX10_feed_27 ?_
    refine ev_iload_2 (pc := 28) dX10_feed_28 ?_
    obtain ⟨m4, hm4, h⟩ := ev_bindE hN h
    refine cl0_X10_93 (pc := 29) rfl dX10_feed_29 (by decide) (Nat.le_of_ble_eq_true rfl) (c_X10_four hm4) ?_
    refine ev_aload_0 (pc := 32) dX10_feed_32 ?_
    refine ev_iload_3 (pc := 33) dX10_feed_33 ?_
    obtain ⟨m5, hm5, h⟩ := ev_bindE hN h
    refine cl0_X10_93 (pc := 34) rfl dX10_feed_34 (by decide) (Nat.le_of_ble_eq_true rfl) (c_X10_four hm5) ?_
    refine ev_aload_0 (pc := 37) dX10_feed_37 ?_
    refine ev_iload_4 (pc := 38) dX10_feed_38 ?_
    obtain ⟨m6, hm6, h⟩ := ev_bindE hN h
    refine cl0_X10_93 (pc := 40) rfl dX10_feed_40 (by decide) (Nat.le_of_ble_eq_true rfl) (c_X10_four hm6) ?_
    refine ev_aload_0 (pc := 43) dX10_feed_43 ?_
    refine ev_iload_5 (pc := 44) dX10_feed_44 ?_
    obtain ⟨m7, hm7, h⟩ := ev_bindE hN h
    refine cl0_X10_93 (pc := 46) rfl dX10_feed_46 (by decide) (Nat.le_of_ble_eq_true rfl) (c_X10_four hm7) ?_
    refine ev_aload_0 (pc := 49) dX10_feed_49 ?_
    refine gt_X10_13 (pc := 50) rfl dX10_feed_50 ?_
    refine ev_iconst (pc := 53) (v := 0) dX10_feed_53 rfl ?_
    refine ev_ialdS (pc := 54) (j := 0) rfl (by decide) (by decide) (vp_in_iff.mpr (by decide)) dX10_feed_54 ?_
    exact ev_iret (pc := 55) dX10_feed_55 rfl rfl (hR _ _ h)
  · replace h := ev_ifp h c2
    refine ev_iconst (pc := 20) (v := (-1)) dX10_feed_20 rfl ?_
    exact ev_iret (pc := 21) dX10_feed_21 rfl rfl (hR _ _ h)
theorem c_X10_feed {G : ev_G} {mF : ev_m} {i0 : Nat} {x1_ : Int32} {x2_ : Int32} {x3_ : Int32} {x4_ : Int32} {x5_ : Int32} {r : Int32 × ev_m} (h : f_X10_feed mF i0 x1_ x2_ x3_ x4_ x5_ = some r) : ev_CF G K_X10_feed B_X10_feed [vr 10 (i0), vi (x1_), vi (x2_), vi (x3_), vi (x4_), vi (x5_)] mF (some (vi (r.1))) r.2 :=
  ev_Ct_of rfl rfl (Nat.le_of_ble_eq_true rfl) (e_X10_feed (R := some r) (fun x0 m0 q => by cases q; exact ⟨rfl, rfl⟩) (fun q => by cases q) h)
set_option maxRecDepth 20000 in
set_option maxHeartbeats 4000000 in
theorem e_X10_end {G : ev_G} {Q : Option ev_V → ev_M → Prop} {R : Int32 × ev_m} {mF : ev_m} (hR : ∀ (x0 : Int32) (m0 : ev_m), (x0, m0) = R → Q (some (vi x0)) (ev_emb m0)) {i0 : Nat} {x1_ : Int32} (h : s_X10_end mF i0 x1_ = R) : ev_E G K_X10_end B_X10_end (0, 0) 0 [some (vr 10 (i0)), some (vi (x1_))] [] (ev_emb mF) Q := by
  unfold s_X10_end at h
  refine ev_aload_0 (pc := 0) dX10_end_0 ?_
  refine ev_iconst (pc := 1) (v := 0) dX10_end_1 rfl ?_
  obtain ⟨m1, hm1, h⟩ := ev_letE h
  refine pt_X10_81 (pc := 2) rfl dX10_end_2 ?_
  refine ev_mem (pc := 5) hm1 ?_
  refine ev_iload_1 (pc := 5) dX10_end_5 ?_
  refine ev_iconst (pc := 6) (v := 0) dX10_end_6 rfl ?_
  refine ev_aload_0 (pc := 7) dX10_end_7 ?_
  refine gt_X10_13 (pc := 8) rfl dX10_end_8 ?_
  refine ev_iconst (pc := 11) (v := 0) dX10_end_11 rfl ?_
  refine ev_ialdS (pc := 12) (j := 0) rfl (by decide) (by decide) (vp_in_iff.mpr (by decide)) dX10_end_12 ?_
  refine cl1_X10_89 (pc := 13) rfl dX10_end_13 (by decide) (Nat.le_of_ble_eq_true rfl) (c_X10_in m1 x1_ 0 (m1.1 31 0 0)) ?_
  refine ev_ifb_ne (pc := 16) (tgt := 21) dX10_end_16 (by decide) (fun c2 => ?_) (fun c2 => ?_)
  · replace h := ev_ifp h c2
    refine ev_aload_0 (pc := 21) dX10_end_21 ?_
    refine gt_X10_13 (pc := 22) rfl dX10_end_22 ?_
    refine ev_iconst (pc := 25) (v := 0) dX10_end_25 rfl ?_
    refine ev_iload_1 (pc := 26) dX10_end_26 ?_
    obtain ⟨m3, hm3, h⟩ := ev_letE h
    refine ev_iastS (pc := 27) (j := 0) rfl (by decide) (by decide) (by decide) (vp_in_iff.mpr (by decide)) dX10_end_27 ?_
    refine ev_mem (pc := 28) hm3 ?_
    refine ev_iload_1 (pc := 28) dX10_end_28 ?_
    exact ev_iret (pc := 29) dX10_end_29 rfl rfl (hR _ _ h)
  · replace h := ev_ifn h c2
    refine ev_iconst (pc := 19) (v := (-1)) dX10_end_19 rfl ?_
    exact ev_iret (pc := 20) dX10_end_20 rfl rfl (hR _ _ h)
theorem c_X10_end {G : ev_G} (mF : ev_m) (i0 : Nat) (x1_ : Int32) : ev_CF G K_X10_end B_X10_end [vr 10 (i0), vi (x1_)] mF (some (vi ((s_X10_end mF i0 x1_).1))) (s_X10_end mF i0 x1_).2 :=
  ev_Ct_of rfl rfl (Nat.le_of_ble_eq_true rfl) (e_X10_end (R := s_X10_end mF i0 x1_) (fun x0 m0 q => ⟨by rw [← q], by rw [← q]⟩) rfl)
set_option maxRecDepth 20000 in
set_option maxHeartbeats 4000000 in
theorem e_X10_see {G : ev_G} {Q : Option ev_V → ev_M → Prop} {R : Option (Int32)} {mF : ev_m} (hR : ∀ x0 : Int32, (some (x0)) = R → Q (some (vi x0)) (ev_emb mF)) (hN : none ≠ R) {i0 : Nat} (h : f_X10_see mF i0 = R) : ev_E G K_X10_see B_X10_see (0, 0) 0 [some (vr 10 (i0))] [] (ev_emb mF) Q := by
  unfold f_X10_see at h
  refine ev_aload_0 (pc := 0) dX10_see_0 ?_
  refine gt_X10_97 (pc := 1) rfl dX10_see_1 ?_
  refine ev_aload_0 (pc := 4) dX10_see_4 ?_
  refine gt_X10_100 (pc := 5) rfl dX10_see_5 ?_
  refine ev_icc_ge (pc := 8) (tgt := 27) dX10_see_8 (by decide) (fun c1 => ?_) (fun c1 => ?_)
  · replace h := ev_ifn h c1
    refine ev_iconst (pc := 27) (v := (-1)) dX10_see_27 rfl ?_
    exact ev_iret (pc := 28) dX10_see_28 rfl rfl (hR _ h)
  · replace h := ev_ifp h c1
    refine ev_aload_0 (pc := 11) dX10_see_11 ?_
    refine gt_X10_7 (pc := 12) rfl dX10_see_12 ?_
    refine ev_aload_0 (pc := 15) dX10_see_15 ?_
    refine gt_X10_97 (pc := 16) rfl dX10_see_16 ?_
    obtain ⟨x2, hx2, h⟩ := ev_bindE hN h
    refine ev_bald1 (pc := 19) rfl (by decide) (by decide) rfl hx2 dX10_see_19 ?_
    refine ev_sipush (pc := 20) (v := 255) dX10_see_20 (by decide) ?_
    refine ev_iand (pc := 23) dX10_see_23 ?_
    refine ev_goto (pc := 24) (tgt := 28) dX10_see_24 (by decide) ?_
    exact ev_iret (pc := 28) dX10_see_28 rfl rfl (hR _ h)
theorem c_X10_see {G : ev_G} {mF : ev_m} {i0 : Nat} {r : Int32} (h : f_X10_see mF i0 = some r) : ev_CF G K_X10_see B_X10_see [vr 10 (i0)] mF (some (vi (r))) mF :=
  ev_Ct_of rfl rfl (Nat.le_of_ble_eq_true rfl) (e_X10_see (R := some r) (fun x0 q => by cases q; exact ⟨rfl, rfl⟩) (fun q => by cases q) h)
