/-! lifted methods -/
set_option maxRecDepth 20000 in
set_option maxHeartbeats 4000000 in
theorem e_jn_X1_hasStarAt_36_2 {G : ev_G} {Q : Option ev_V → ev_M → Prop} {mF : ev_m} {R : Option (Bool)} (hR : ∀ x0 : Bool, (some (x0)) = R → Q (some (vi (bi x0))) (ev_emb mF)) (hN : none ≠ R) {i1 : Nat} {x2 : Int32} {x6 : Int32} {kb : Int32 → Option (Bool)} {kx : Unit → Option (Bool)}  (h : jn_X1_hasStarAt_36_2 mF i1 x2 x6 kb kx = R) (hkb : ∀ (x3' : Int32), kb x3' = R → ev_E G K_X1_hasStarAt B_X1_hasStarAt (0, 0) 2 [some (vr 4 (i1)), some (vi (x2)), some (vi (x3'))] [] (ev_emb mF) Q) (hkx : ∀ (u0 : Unit), kx u0 = R → ev_E G K_X1_hasStarAt B_X1_hasStarAt (0, 0) 42 [none, none, none] [] (ev_emb mF) Q) : ev_E G K_X1_hasStarAt B_X1_hasStarAt (0, 0) 36 [some (vr 4 (i1)), some (vi (x2)), some (vi (x6))] [] (ev_emb mF) Q := by
  unfold jn_X1_hasStarAt_36_2 at h
  refine ev_iinc_2 (pc := 36) (y := x6 + 1) dX1_hasStarAt_36 rfl (by decide) rfl ?_
  refine ev_goto (pc := 39) (tgt := 2) dX1_hasStarAt_39 (by decide) ?_
  exact hkb _  h
set_option maxRecDepth 20000 in
set_option maxHeartbeats 4000000 in
theorem e_lp_X1_hasStarAt_2 {G : ev_G} {Q : Option ev_V → ev_M → Prop} {mF : ev_m} {R : Option (Bool)} (hR : ∀ x0 : Bool, (some (x0)) = R → Q (some (vi (bi x0))) (ev_emb mF)) (hN : none ≠ R) {i1 : Nat} {x2 : Int32} : ∀ (f : Nat) (x3 : Int32) (kx : Unit → Option (Bool)) (h : lp_X1_hasStarAt_2 mF i1 x2 f x3 kx = R) (hk : ∀ (u0 : Unit), kx u0 = R → ev_E G K_X1_hasStarAt B_X1_hasStarAt (0, 0) 42 [none, none, none] [] (ev_emb mF) Q), ev_E G K_X1_hasStarAt B_X1_hasStarAt (0, 0) 2 [some (vr 4 (i1)), some (vi (x2)), some (vi (x3))] [] (ev_emb mF) Q := by
  intro f
  induction f with
  | zero => intro x3 kx h hk; rw [lp_X1_hasStarAt_2] at h; exact absurd h hN
  | succ f ih =>
    intro x3 kx h hk
    rw [lp_X1_hasStarAt_2] at h
    refine ev_iload_2 (pc := 2) dX1_hasStarAt_2 ?_
    refine ev_aload_0 (pc := 3) dX1_hasStarAt_3 ?_
    refine gt_X1_26 (pc := 4) rfl dX1_hasStarAt_4 ?_
    refine ev_icc_ge (pc := 7) (tgt := 42) dX1_hasStarAt_7 (by decide) (fun c4 => ?_) (fun c4 => ?_)
    · replace h := ev_ifn h c4
      refine ev_E.forget (L' := [none, none, none]) trivial ?_
      exact hk _  h
    · replace h := ev_ifp h c4
      refine ev_iload_1 (pc := 10) dX1_hasStarAt_10 ?_
      refine ev_aload_0 (pc := 11) dX1_hasStarAt_11 ?_
      refine gt_X1_9 (pc := 12) rfl dX1_hasStarAt_12 ?_
      refine ev_iload_2 (pc := 15) dX1_hasStarAt_15 ?_
      refine cl1_X1_65 (pc := 16) rfl dX1_hasStarAt_16 (by decide) (Nat.le_of_ble_eq_true rfl) (c_X9_at (r := 13) rfl (by decide)) ?_
      refine ev_icc_lt (pc := 19) (tgt := 36) dX1_hasStarAt_19 (by decide) (fun c5 => ?_) (fun c5 => ?_)
      · replace h := ev_ifp h c5
        exact e_jn_X1_hasStarAt_36_2 hR hN h (fun _ h => ih _ kx h hk) hk
      · replace h := ev_ifn h c5
        refine ev_iload_1 (pc := 22) dX1_hasStarAt_22 ?_
        refine ev_aload_0 (pc := 23) dX1_hasStarAt_23 ?_
        refine gt_X1_15 (pc := 24) rfl dX1_hasStarAt_24 ?_
        refine ev_iload_2 (pc := 27) dX1_hasStarAt_27 ?_
        refine cl1_X1_65 (pc := 28) rfl dX1_hasStarAt_28 (by decide) (Nat.le_of_ble_eq_true rfl) (c_X9_at (r := 14) rfl (by decide)) ?_
        refine ev_icc_gt (pc := 31) (tgt := 36) dX1_hasStarAt_31 (by decide) (fun c7 => ?_) (fun c7 => ?_)
        · replace h := ev_ifp h c7
          exact e_jn_X1_hasStarAt_36_2 hR hN h (fun _ h => ih _ kx h hk) hk
        · replace h := ev_ifn h c7
          refine ev_iconst (pc := 34) (v := 1) dX1_hasStarAt_34 rfl ?_
          exact ev_iret (pc := 35) dX1_hasStarAt_35 rfl rfl (hR _ h)
set_option maxRecDepth 20000 in
set_option maxHeartbeats 4000000 in
theorem e_X1_hasStarAt {G : ev_G} {Q : Option ev_V → ev_M → Prop} {R : Option (Bool)} {mF : ev_m} (hR : ∀ x0 : Bool, (some (x0)) = R → Q (some (vi (bi x0))) (ev_emb mF)) (hN : none ≠ R) {i0 : Nat} {x1_ : Int32} (h : f_X1_hasStarAt mF i0 x1_ = R) : ev_E G K_X1_hasStarAt B_X1_hasStarAt (0, 0) 0 [some (vr 4 (i0)), some (vi (x1_)), none] [] (ev_emb mF) Q := by
  unfold f_X1_hasStarAt at h
  refine ev_iconst (pc := 0) (v := 0) dX1_hasStarAt_0 rfl ?_
  refine ev_istore_2 (pc := 1) dX1_hasStarAt_1 (by decide) rfl ?_
  refine e_lp_X1_hasStarAt_2 hR hN 4000 _ _ h (fun _ h => ?_)
  refine ev_iconst (pc := 42) (v := 0) dX1_hasStarAt_42 rfl ?_
  exact ev_iret (pc := 43) dX1_hasStarAt_43 rfl rfl (hR _ h)
theorem c_X1_hasStarAt {G : ev_G} {mF : ev_m} {i0 : Nat} {x1_ : Int32} {r : Bool} (h : f_X1_hasStarAt mF i0 x1_ = some r) : ev_CF G K_X1_hasStarAt B_X1_hasStarAt [vr 4 (i0), vi (x1_)] mF (some (vi (bi (r)))) mF :=
  ev_Ct_of rfl rfl (Nat.le_of_ble_eq_true rfl) (e_X1_hasStarAt (R := some r) (fun x0 q => by cases q; exact ⟨rfl, rfl⟩) (fun q => by cases q) h)
set_option maxRecDepth 20000 in
set_option maxHeartbeats 4000000 in
theorem e_X1_slowBy {G : ev_G} {Q : Option ev_V → ev_M → Prop} {R : Option (Int32)} {mF : ev_m} (hR : ∀ x0 : Int32, (some (x0)) = R → Q (some (vi x0)) (ev_emb mF)) (hN : none ≠ R) {i0 : Nat} {x1_ : Int32} (h : f_X1_slowBy mF i0 x1_ = R) : ev_E G K_X1_slowBy B_X1_slowBy (0, 0) 0 [some (vr 4 (i0)), some (vi (x1_))] [] (ev_emb mF) Q := by
  unfold f_X1_slowBy at h
  refine ev_aload_0 (pc := 0) dX1_slowBy_0 ?_
  refine gt_X1_52 (pc := 1) rfl dX1_slowBy_1 ?_
  refine ev_ifc_le (pc := 4) (tgt := 20) dX1_slowBy_4 (by decide) (fun c1 => ?_) (fun c1 => ?_)
  · replace h := ev_ifn h c1
    refine ev_iconst (pc := 20) (v := 0) dX1_slowBy_20 rfl ?_
    exact ev_iret (pc := 21) dX1_slowBy_21 rfl rfl (hR _ h)
  · replace h := ev_ifp h c1
    refine ev_iconst (pc := 7) (v := 5) dX1_slowBy_7 rfl ?_
    refine ev_iload_1 (pc := 8) dX1_slowBy_8 ?_
    refine ev_aload_0 (pc := 9) dX1_slowBy_9 ?_
    refine gt_X1_52 (pc := 10) rfl dX1_slowBy_10 ?_
    obtain ⟨x2, hx2, h⟩ := ev_bindE hN h
    refine ev_idiv1 (pc := 13) hx2 dX1_slowBy_13 ?_
    refine ev_mmin (pc := 14) mmin_X1_73 mmin_w (by decide) (Nat.le_of_ble_eq_true rfl) dX1_slowBy_14 ?_
    refine ev_goto (pc := 17) (tgt := 21) dX1_slowBy_17 (by decide) ?_
    exact ev_iret (pc := 21) dX1_slowBy_21 rfl rfl (hR _ h)
theorem c_X1_slowBy {G : ev_G} {mF : ev_m} {i0 : Nat} {x1_ : Int32} {r : Int32} (h : f_X1_slowBy mF i0 x1_ = some r) : ev_CF G K_X1_slowBy B_X1_slowBy [vr 4 (i0), vi (x1_)] mF (some (vi (r))) mF :=
  ev_Ct_of rfl rfl (Nat.le_of_ble_eq_true rfl) (e_X1_slowBy (R := some r) (fun x0 q => by cases q; exact ⟨rfl, rfl⟩) (fun q => by cases q) h)
set_option maxRecDepth 20000 in
set_option maxHeartbeats 4000000 in
theorem e_X1_pointed {G : ev_G} {Q : Option ev_V → ev_M → Prop} {R : Option (Int32)} {mF : ev_m} (hR : ∀ x0 : Int32, (some (x0)) = R → Q (some (vi x0)) (ev_emb mF)) (hN : none ≠ R) {i0 : Nat} {x1_ : Int32} (h : f_X1_pointed mF i0 x1_ = R) : ev_E G K_X1_pointed B_X1_pointed (0, 0) 0 [some (vr 4 (i0)), some (vi (x1_))] [] (ev_emb mF) Q := by
  unfold f_X1_pointed at h
  refine ev_aload_0 (pc := 0) dX1_pointed_0 ?_
  refine gt_X1_22 (pc := 1) rfl dX1_pointed_1 ?_
  refine ev_ifc_le (pc := 4) (tgt := 18) dX1_pointed_4 (by decide) (fun c1 => ?_) (fun c1 => ?_)
  · replace h := ev_ifn h c1
    refine ev_iload_1 (pc := 18) dX1_pointed_18 ?_
    exact ev_iret (pc := 19) dX1_pointed_19 rfl rfl (hR _ h)
  · replace h := ev_ifp h c1
    refine ev_iload_1 (pc := 7) dX1_pointed_7 ?_
    refine ev_iload_1 (pc := 8) dX1_pointed_8 ?_
    refine ev_aload_0 (pc := 9) dX1_pointed_9 ?_
    refine gt_X1_22 (pc := 10) rfl dX1_pointed_10 ?_
    obtain ⟨x2, hx2, h⟩ := ev_bindE hN h
    refine ev_irem1 (pc := 13) hx2 dX1_pointed_13 ?_
    refine ev_isub (pc := 14) dX1_pointed_14 ?_
    refine ev_goto (pc := 15) (tgt := 19) dX1_pointed_15 (by decide) ?_
    exact ev_iret (pc := 19) dX1_pointed_19 rfl rfl (hR _ h)
theorem c_X1_pointed {G : ev_G} {mF : ev_m} {i0 : Nat} {x1_ : Int32} {r : Int32} (h : f_X1_pointed mF i0 x1_ = some r) : ev_CF G K_X1_pointed B_X1_pointed [vr 4 (i0), vi (x1_)] mF (some (vi (r))) mF :=
  ev_Ct_of rfl rfl (Nat.le_of_ble_eq_true rfl) (e_X1_pointed (R := some r) (fun x0 q => by cases q; exact ⟨rfl, rfl⟩) (fun q => by cases q) h)
set_option maxRecDepth 20000 in
set_option maxHeartbeats 4000000 in
theorem e_jn_X1_ruled_56 {G : ev_G} {Q : Option ev_V → ev_M → Prop} {mF : ev_m} {R : Int32} (hR : ∀ x0 : Int32, x0 = R → Q (some (vi x0)) (ev_emb mF)) {i14 : Nat} {x15 : Int32} {x16 : Int32} {x17 : Int32} (h : jn_X1_ruled_56 mF i14 x15 x16 x17 = R) : ev_E G K_X1_ruled B_X1_ruled (0, 0) 56 [some (vr 4 (i14)), some (vi (x15)), some (vi (x16)), some (vi (x17)), none] [] (ev_emb mF) Q := by
  unfold jn_X1_ruled_56 at h
  refine ev_aload_0 (pc := 56) dX1_ruled_56 ?_
  refine gt_X1_37 (pc := 57) rfl dX1_ruled_57 ?_
  refine ev_ineg (pc := 60) dX1_ruled_60 ?_
  refine ev_iload_1 (pc := 61) dX1_ruled_61 ?_
  refine ev_imul (pc := 62) dX1_ruled_62 ?_
  refine ev_aload_0 (pc := 63) dX1_ruled_63 ?_
  refine gt_X1_40 (pc := 64) rfl dX1_ruled_64 ?_
  refine ev_iload_2 (pc := 67) dX1_ruled_67 ?_
  refine ev_imul (pc := 68) dX1_ruled_68 ?_
  refine ev_isub (pc := 69) dX1_ruled_69 ?_
  refine ev_aload_0 (pc := 70) dX1_ruled_70 ?_
  refine gt_X1_43 (pc := 71) rfl dX1_ruled_71 ?_
  refine ev_iload_3 (pc := 74) dX1_ruled_74 ?_
  refine ev_imul (pc := 75) dX1_ruled_75 ?_
  refine ev_bipush (pc := 76) (v := 100) dX1_ruled_76 (by decide) ?_
  refine ev_idiv (pc := 78) dX1_ruled_78 (by decide) ?_
  refine ev_isub (pc := 79) dX1_ruled_79 ?_
  refine ev_bipush (pc := 80) (v := 100) dX1_ruled_80 (by decide) ?_
  refine ev_idiv (pc := 82) dX1_ruled_82 (by decide) ?_
  exact ev_iret (pc := 83) dX1_ruled_83 rfl rfl (hR _ h)
set_option maxRecDepth 20000 in
set_option maxHeartbeats 4000000 in
theorem e_jn_X1_ruled_19 {G : ev_G} {Q : Option ev_V → ev_M → Prop} {mF : ev_m} {R : Int32} (hR : ∀ x0 : Int32, x0 = R → Q (some (vi x0)) (ev_emb mF)) {i2 : Nat} {x3 : Int32} {x4 : Int32} {x5 : Int32} (h : jn_X1_ruled_19 mF i2 x3 x4 x5 = R) : ev_E G K_X1_ruled B_X1_ruled (0, 0) 19 [some (vr 4 (i2)), some (vi (x3)), some (vi (x4)), some (vi (x5)), none] [] (ev_emb mF) Q := by
  unfold jn_X1_ruled_19 at h
  refine ev_iload_2 (pc := 19) dX1_ruled_19 ?_
  obtain ⟨x12, hx12, h⟩ := ev_letE h
  have hJ1 : ev_E G K_X1_ruled B_X1_ruled (0, 0) 40 [some (vr 4 (i2)), some (vi (x3)), some (vi (x4)), some (vi (x5)), none] [vi (x12)] (ev_emb mF) Q := by
    refine ev_istore_4 (pc := 40) dX1_ruled_40 (by decide) rfl ?_
    refine ev_aload_0 (pc := 42) dX1_ruled_42 ?_
    refine gt_X1_58 (pc := 43) rfl dX1_ruled_43 ?_
    refine ev_ifc_eq (pc := 46) (tgt := 56) dX1_ruled_46 (by decide) (fun c13 => ?_) (fun c13 => ?_)
    · replace h := ev_ifp h c13
      refine ev_E.forget (L' := [some (vr 4 (i2)), some (vi (x3)), some (vi (x4)), some (vi (x5)), none]) ⟨rfl, ⟨rfl, ⟨rfl, ⟨rfl, trivial⟩⟩⟩⟩ ?_
      exact e_jn_X1_ruled_56 hR h
    · replace h := ev_ifn h c13
      refine ev_iload_4 (pc := 49) dX1_ruled_49 ?_
      refine ev_ifc_eq (pc := 51) (tgt := 56) dX1_ruled_51 (by decide) (fun c18 => ?_) (fun c18 => ?_)
      · replace h := ev_ifp h c18
        refine ev_E.forget (L' := [some (vr 4 (i2)), some (vi (x3)), some (vi (x4)), some (vi (x5)), none]) ⟨rfl, ⟨rfl, ⟨rfl, ⟨rfl, trivial⟩⟩⟩⟩ ?_
        exact e_jn_X1_ruled_56 hR h
      · replace h := ev_ifn h c18
        refine ev_iconst (pc := 54) (v := 0) dX1_ruled_54 rfl ?_
        exact ev_iret (pc := 55) dX1_ruled_55 rfl rfl (hR _ h)
  refine ev_ifc_le (pc := 20) (tgt := 27) dX1_ruled_20 (by decide) (fun c6 => ?_) (fun c6 => ?_)
  · refine ev_iload_2 (pc := 27) dX1_ruled_27 ?_
    refine ev_ifc_ge (pc := 28) (tgt := 39) dX1_ruled_28 (by decide) (fun c7 => ?_) (fun c7 => ?_)
    · refine ev_iconst (pc := 39) (v := 0) dX1_ruled_39 rfl ?_
      replace hx12 := ((hx12.trans (if_neg c6)).trans (if_neg c7))
      subst hx12
      exact hJ1
    · refine ev_iload_1 (pc := 31) dX1_ruled_31 ?_
      refine ev_ifc_le (pc := 32) (tgt := 39) dX1_ruled_32 (by decide) (fun c8 => ?_) (fun c8 => ?_)
      · refine ev_iconst (pc := 39) (v := 0) dX1_ruled_39 rfl ?_
        replace hx12 := (((hx12.trans (if_neg c6)).trans (if_pos c7)).trans (if_neg c8))
        subst hx12
        exact hJ1
      · refine ev_iconst (pc := 35) (v := 1) dX1_ruled_35 rfl ?_
        refine ev_goto (pc := 36) (tgt := 40) dX1_ruled_36 (by decide) ?_
        replace hx12 := (((hx12.trans (if_neg c6)).trans (if_pos c7)).trans (if_pos c8))
        subst hx12
        exact hJ1
  · refine ev_iload_1 (pc := 23) dX1_ruled_23 ?_
    refine ev_ifc_lt (pc := 24) (tgt := 35) dX1_ruled_24 (by decide) (fun c9 => ?_) (fun c9 => ?_)
    · refine ev_iconst (pc := 35) (v := 1) dX1_ruled_35 rfl ?_
      refine ev_goto (pc := 36) (tgt := 40) dX1_ruled_36 (by decide) ?_
      replace hx12 := ((hx12.trans (if_pos c6)).trans (if_pos c9))
      subst hx12
      exact hJ1
    · refine ev_iload_2 (pc := 27) dX1_ruled_27 ?_
      refine ev_ifc_ge (pc := 28) (tgt := 39) dX1_ruled_28 (by decide) (fun c10 => ?_) (fun c10 => ?_)
      · refine ev_iconst (pc := 39) (v := 0) dX1_ruled_39 rfl ?_
        replace hx12 := (((hx12.trans (if_pos c6)).trans (if_neg c9)).trans (if_neg c10))
        subst hx12
        exact hJ1
      · refine ev_iload_1 (pc := 31) dX1_ruled_31 ?_
        refine ev_ifc_le (pc := 32) (tgt := 39) dX1_ruled_32 (by decide) (fun c11 => ?_) (fun c11 => ?_)
        · refine ev_iconst (pc := 39) (v := 0) dX1_ruled_39 rfl ?_
          replace hx12 := ((((hx12.trans (if_pos c6)).trans (if_neg c9)).trans (if_pos c10)).trans (if_neg c11))
          subst hx12
          exact hJ1
        · refine ev_iconst (pc := 35) (v := 1) dX1_ruled_35 rfl ?_
          refine ev_goto (pc := 36) (tgt := 40) dX1_ruled_36 (by decide) ?_
          replace hx12 := ((((hx12.trans (if_pos c6)).trans (if_neg c9)).trans (if_pos c10)).trans (if_pos c11))
          subst hx12
          exact hJ1
set_option maxRecDepth 20000 in
set_option maxHeartbeats 4000000 in
theorem e_X1_ruled {G : ev_G} {Q : Option ev_V → ev_M → Prop} {R : Int32} {mF : ev_m} (hR : ∀ x0 : Int32, x0 = R → Q (some (vi x0)) (ev_emb mF)) {i0 : Nat} {x1_ : Int32} {x2_ : Int32} {x3_ : Int32} (h : s_X1_ruled mF i0 x1_ x2_ x3_ = R) : ev_E G K_X1_ruled B_X1_ruled (0, 0) 0 [some (vr 4 (i0)), some (vi (x1_)), some (vi (x2_)), some (vi (x3_)), none] [] (ev_emb mF) Q := by
  unfold s_X1_ruled at h
  refine ev_iload_1 (pc := 0) dX1_ruled_0 ?_
  refine ev_aload_0 (pc := 1) dX1_ruled_1 ?_
  refine gt_X1_46 (pc := 2) rfl dX1_ruled_2 ?_
  refine ev_ineg (pc := 5) dX1_ruled_5 ?_
  refine ev_icc_lt (pc := 6) (tgt := 19) dX1_ruled_6 (by decide) (fun c1 => ?_) (fun c1 => ?_)
  · replace h := ev_ifp h c1
    exact e_jn_X1_ruled_19 hR h
  · replace h := ev_ifn h c1
    refine ev_iload_1 (pc := 9) dX1_ruled_9 ?_
    refine ev_aload_0 (pc := 10) dX1_ruled_10 ?_
    refine gt_X1_46 (pc := 11) rfl dX1_ruled_11 ?_
    refine ev_icc_gt (pc := 14) (tgt := 19) dX1_ruled_14 (by decide) (fun c19 => ?_) (fun c19 => ?_)
    · replace h := ev_ifp h c19
      exact e_jn_X1_ruled_19 hR h
    · replace h := ev_ifn h c19
      refine ev_iconst (pc := 17) (v := 0) dX1_ruled_17 rfl ?_
      exact ev_iret (pc := 18) dX1_ruled_18 rfl rfl (hR _ h)
theorem c_X1_ruled {G : ev_G} (mF : ev_m) (i0 : Nat) (x1_ : Int32) (x2_ : Int32) (x3_ : Int32) : ev_CF G K_X1_ruled B_X1_ruled [vr 4 (i0), vi (x1_), vi (x2_), vi (x3_)] mF (some (vi (s_X1_ruled mF i0 x1_ x2_ x3_))) mF :=
  ev_Ct_of rfl rfl (Nat.le_of_ble_eq_true rfl) (e_X1_ruled (R := s_X1_ruled mF i0 x1_ x2_ x3_) (fun x0 q => ⟨by rw [← q], rfl⟩) rfl)
set_option maxRecDepth 20000 in
set_option maxHeartbeats 4000000 in
theorem e_X2_relieve {G : ev_G} {Q : Option ev_V → ev_M → Prop} {R : ev_m} {mF : ev_m} (hR : ∀ m0 : ev_m, m0 = R → Q none (ev_emb m0)) {i0 : Nat} {o1_ : Option Nat} (h : s_X2_relieve mF i0 o1_ = R) : ev_E G K_X2_relieve B_X2_relieve (0, 0) 0 [some (vr 9 (i0)), some (vo 4 (o1_))] [] (ev_emb mF) Q := by
  unfold s_X2_relieve at h
  refine ev_aload_0 (pc := 0) dX2_relieve_0 ?_
  refine ev_aload_1 (pc := 1) dX2_relieve_1 ?_
  obtain ⟨m1, hm1, h⟩ := ev_letE h
  refine pt_X2_7 (pc := 2) rfl dX2_relieve_2 ?_
  refine ev_mem (pc := 5) hm1 ?_
  refine ev_aload_0 (pc := 5) dX2_relieve_5 ?_
  refine ev_iconst (pc := 6) (v := 0) dX2_relieve_6 rfl ?_
  obtain ⟨m2, hm2, h⟩ := ev_letE h
  refine pt_X2_13 (pc := 7) rfl dX2_relieve_7 ?_
  refine ev_mem (pc := 10) hm2 ?_
  refine ev_aload_0 (pc := 10) dX2_relieve_10 ?_
  refine ev_iconst (pc := 11) (v := 0) dX2_relieve_11 rfl ?_
  obtain ⟨m3, hm3, h⟩ := ev_letE h
  refine pt_X2_17 (pc := 12) rfl dX2_relieve_12 ?_
  refine ev_mem (pc := 15) hm3 ?_
  refine ev_aload_0 (pc := 15) dX2_relieve_15 ?_
  refine ev_iconst (pc := 16) (v := 0) dX2_relieve_16 rfl ?_
  obtain ⟨m4, hm4, h⟩ := ev_letE h
  refine pt_X2_20 (pc := 17) rfl dX2_relieve_17 ?_
  refine ev_mem (pc := 20) hm4 ?_
  exact ev_vret (pc := 20) dX2_relieve_20 rfl (hR _ h)
theorem c_X2_relieve {G : ev_G} (mF : ev_m) (i0 : Nat) (o1_ : Option Nat) : ev_CF G K_X2_relieve B_X2_relieve [vr 9 (i0), vo 4 (o1_)] mF none (s_X2_relieve mF i0 o1_) :=
  ev_Ct_of rfl rfl (Nat.le_of_ble_eq_true rfl) (e_X2_relieve (R := s_X2_relieve mF i0 o1_) (fun m0 q => ⟨rfl, by rw [← q]⟩) rfl)
set_option maxRecDepth 20000 in
set_option maxHeartbeats 4000000 in
theorem e_X8_headingAgo {G : ev_G} {Q : Option ev_V → ev_M → Prop} {R : Int32} {mF : ev_m} (hR : ∀ x0 : Int32, x0 = R → Q (some (vi x0)) (ev_emb mF)) {i0 : Nat} {x1_ : Int32} (h : s_X8_headingAgo mF i0 x1_ = R) : ev_E G K_X8_headingAgo B_X8_headingAgo (0, 0) 0 [some (vr 8 (i0)), some (vi (x1_))] [] (ev_emb mF) Q := by
  unfold s_X8_headingAgo at h
  refine ev_aload_0 (pc := 0) dX8_headingAgo_0 ?_
  refine gt_X8_9 (pc := 1) rfl dX8_headingAgo_1 ?_
  refine ev_iconst (pc := 4) (v := 0) dX8_headingAgo_4 rfl ?_
  refine ev_aload_0 (pc := 5) dX8_headingAgo_5 ?_
  refine gt_X8_50 (pc := 6) rfl dX8_headingAgo_6 ?_
  refine ev_iload_1 (pc := 9) dX8_headingAgo_9 ?_
  refine ev_isub (pc := 10) dX8_headingAgo_10 ?_
  refine ev_mmax (pc := 11) mmax_X8_111 mmax_w (by decide) (Nat.le_of_ble_eq_true rfl) dX8_headingAgo_11 ?_
  refine cl1_X8_77 (pc := 14) rfl dX8_headingAgo_14 (by decide) (Nat.le_of_ble_eq_true rfl) (c_X9_at (r := 18) rfl (by decide)) ?_
  exact ev_iret (pc := 17) dX8_headingAgo_17 rfl rfl (hR _ h)
theorem c_X8_headingAgo {G : ev_G} (mF : ev_m) (i0 : Nat) (x1_ : Int32) : ev_CF G K_X8_headingAgo B_X8_headingAgo [vr 8 (i0), vi (x1_)] mF (some (vi (s_X8_headingAgo mF i0 x1_))) mF :=
  ev_Ct_of rfl rfl (Nat.le_of_ble_eq_true rfl) (e_X8_headingAgo (R := s_X8_headingAgo mF i0 x1_) (fun x0 q => ⟨by rw [← q], rfl⟩) rfl)
set_option maxRecDepth 20000 in
set_option maxHeartbeats 4000000 in
theorem e_X9_within {G : ev_G} {Q : Option ev_V → ev_M → Prop} {R : Int32} {mF : ev_m} (hR : ∀ x0 : Int32, x0 = R → Q (some (vi x0)) (ev_emb mF)) {x0_ : Int32} {x1_ : Int32} (h : s_X9_within mF x0_ x1_ = R) : ev_E G K_X9_within B_X9_within (0, 0) 0 [some (vi (x0_)), some (vi (x1_))] [] (ev_emb mF) Q := by
  unfold s_X9_within at h
  refine ev_iload_1 (pc := 0) dX9_within_0 ?_
  refine ev_ineg (pc := 1) dX9_within_1 ?_
  refine ev_iload_1 (pc := 2) dX9_within_2 ?_
  refine ev_iload_0 (pc := 3) dX9_within_3 ?_
  refine ev_mmin (pc := 4) mmin_X9_334 mmin_w (by decide) (Nat.le_of_ble_eq_true rfl) dX9_within_4 ?_
  refine ev_mmax (pc := 7) mmax_X9_342 mmax_w (by decide) (Nat.le_of_ble_eq_true rfl) dX9_within_7 ?_
  exact ev_iret (pc := 10) dX9_within_10 rfl rfl (hR _ h)
theorem c_X9_within {G : ev_G} (mF : ev_m) (x0_ : Int32) (x1_ : Int32) : ev_CF G K_X9_within B_X9_within [vi (x0_), vi (x1_)] mF (some (vi (s_X9_within mF x0_ x1_))) mF :=
  ev_Ct_of rfl rfl (Nat.le_of_ble_eq_true rfl) (e_X9_within (R := s_X9_within mF x0_ x1_) (fun x0 q => ⟨by rw [← q], rfl⟩) rfl)
set_option maxRecDepth 20000 in
set_option maxHeartbeats 4000000 in
theorem e_X8_drawn {G : ev_G} {Q : Option ev_V → ev_M → Prop} {R : Int32 × ev_m} {mF : ev_m} (hR : ∀ (x0 : Int32) (m0 : ev_m), (x0, m0) = R → Q (some (vi x0)) (ev_emb m0)) {i0 : Nat} (h : s_X8_drawn mF i0 = R) : ev_E G K_X8_drawn B_X8_drawn (0, 0) 0 [some (vr 8 (i0))] [] (ev_emb mF) Q := by
  unfold s_X8_drawn at h
  refine ev_aload_0 (pc := 0) dX8_drawn_0 ?_
  refine ev_aload_0 (pc := 1) dX8_drawn_1 ?_
  refine gt_X8_46 (pc := 2) rfl dX8_drawn_2 ?_
  refine ev_ldc (pc := 5) (v := 1103515245) kc_X8_116 dX8_drawn_5 ?_
  refine ev_imul (pc := 7) dX8_drawn_7 ?_
  refine ev_sipush (pc := 8) (v := 12345) dX8_drawn_8 (by decide) ?_
  refine ev_iadd (pc := 11) dX8_drawn_11 ?_
  obtain ⟨m1, hm1, h⟩ := ev_letE h
  refine pt_X8_46 (pc := 12) rfl dX8_drawn_12 ?_
  refine ev_mem (pc := 15) hm1 ?_
  refine ev_aload_0 (pc := 15) dX8_drawn_15 ?_
  refine gt_X8_46 (pc := 16) rfl dX8_drawn_16 ?_
  refine ev_bipush (pc := 19) (v := 16) dX8_drawn_19 (by decide) ?_
  refine ev_iushr (pc := 21) dX8_drawn_21 ?_
  refine ev_bipush (pc := 22) (v := 100) dX8_drawn_22 (by decide) ?_
  refine ev_irem (pc := 24) dX8_drawn_24 (by decide) ?_
  exact ev_iret (pc := 25) dX8_drawn_25 rfl rfl (hR _ _ h)
theorem c_X8_drawn {G : ev_G} (mF : ev_m) (i0 : Nat) : ev_CF G K_X8_drawn B_X8_drawn [vr 8 (i0)] mF (some (vi ((s_X8_drawn mF i0).1))) (s_X8_drawn mF i0).2 :=
  ev_Ct_of rfl rfl (Nat.le_of_ble_eq_true rfl) (e_X8_drawn (R := s_X8_drawn mF i0) (fun x0 m0 q => ⟨by rw [← q], by rw [← q]⟩) rfl)
set_option maxRecDepth 20000 in
set_option maxHeartbeats 4000000 in
theorem e_X8_rudderNow {G : ev_G} {Q : Option ev_V → ev_M → Prop} {R : Int32} {mF : ev_m} (hR : ∀ x0 : Int32, x0 = R → Q (some (vi x0)) (ev_emb mF)) {i0 : Nat} (h : s_X8_rudderNow mF i0 = R) : ev_E G K_X8_rudderNow B_X8_rudderNow (0, 0) 0 [some (vr 8 (i0))] [] (ev_emb mF) Q := by
  unfold s_X8_rudderNow at h
  refine ev_aload_0 (pc := 0) dX8_rudderNow_0 ?_
  refine gt_X8_18 (pc := 1) rfl dX8_rudderNow_1 ?_
  refine ev_aload_0 (pc := 4) dX8_rudderNow_4 ?_
  refine gt_X8_50 (pc := 5) rfl dX8_rudderNow_5 ?_
  refine cl1_X8_77 (pc := 8) rfl dX8_rudderNow_8 (by decide) (Nat.le_of_ble_eq_true rfl) (c_X9_at (r := 20) rfl (by decide)) ?_
  exact ev_iret (pc := 11) dX8_rudderNow_11 rfl rfl (hR _ h)
theorem c_X8_rudderNow {G : ev_G} (mF : ev_m) (i0 : Nat) : ev_CF G K_X8_rudderNow B_X8_rudderNow [vr 8 (i0)] mF (some (vi (s_X8_rudderNow mF i0))) mF :=
  ev_Ct_of rfl rfl (Nat.le_of_ble_eq_true rfl) (e_X8_rudderNow (R := s_X8_rudderNow mF i0) (fun x0 q => ⟨by rw [← q], rfl⟩) rfl)
set_option maxRecDepth 20000 in
set_option maxHeartbeats 4000000 in
theorem e_jn_X2_wants_67 {G : ev_G} {Q : Option ev_V → ev_M → Prop} {R : Option (Int32 × ev_m)} (hR : ∀ (x0 : Int32) (m0 : ev_m), (some ((x0, m0))) = R → Q (some (vi x0)) (ev_emb m0)) (hN : none ≠ R) {m19 : ev_m} {i16 : Nat} {i17 : Nat} {x18 : Int32} (h : jn_X2_wants_67 m19 i16 i17 x18 = R) : ev_E G K_X2_wants B_X2_wants (0, 0) 67 [some (vr 9 (i16)), some (vr 8 (i17)), none, none, none, none] [vi (x18)] (ev_emb m19) Q := by
  unfold jn_X2_wants_67 at h
  refine ev_istore_2 (pc := 67) dX2_wants_67 (by decide) rfl ?_
  refine ev_aload_0 (pc := 68) dX2_wants_68 ?_
  refine gt_X2_7 (pc := 69) rfl dX2_wants_69 ?_
  obtain ⟨o20, ho20, h⟩ := ev_letE h
  refine ev_topo (pc := 72) ho20 ?_
  refine ev_aload_1 (pc := 72) dX2_wants_72 ?_
  refine ev_iload_2 (pc := 73) dX2_wants_73 ?_
  refine cl1_X2_44 (pc := 74) rfl dX2_wants_74 (by decide) (Nat.le_of_ble_eq_true rfl) (c_X8_headingAgo m19 i17 x18) ?_
  rcases o20 with _ | j21
  · exact absurd (ev_onN h) hN
  replace h := ev_onS h
  show ev_E G K_X2_wants B_X2_wants (0, 0) 77 [some (vr 9 (i16)), some (vr 8 (i17)), some (vi (x18)), none, none, none] [vi (s_X8_headingAgo m19 i17 x18), vr 4 (j21)] (ev_emb m19) Q
  obtain ⟨x22, hx22, h⟩ := ev_bindE hN h
  refine cl1_X2_47 (pc := 77) rfl dX2_wants_77 (by decide) (Nat.le_of_ble_eq_true rfl) (c_X1_pointed hx22) ?_
  refine ev_istore_3 (pc := 80) dX2_wants_80 (by decide) rfl ?_
  refine ev_aload_0 (pc := 81) dX2_wants_81 ?_
  refine gt_X2_13 (pc := 82) rfl dX2_wants_82 ?_
  refine ev_iconst (pc := 85) (v := 1) dX2_wants_85 rfl ?_
  obtain ⟨x24, hx24, h⟩ := ev_letE h
  have hJ2 : ev_E G K_X2_wants B_X2_wants (0, 0) 99 [some (vr 9 (i16)), some (vr 8 (i17)), some (vi (x18)), some (vi (x22)), none, none] [vi (x24)] (ev_emb m19) Q := by
    refine ev_istore_4 (pc := 99) dX2_wants_99 (by decide) rfl ?_
    refine ev_aload_0 (pc := 101) dX2_wants_101 ?_
    refine ev_aload_0 (pc := 102) dX2_wants_102 ?_
    refine gt_X2_17 (pc := 103) rfl dX2_wants_103 ?_
    refine ev_iload_3 (pc := 106) dX2_wants_106 ?_
    refine ev_iadd (pc := 107) dX2_wants_107 ?_
    refine ev_sipush (pc := 108) (v := 9999) dX2_wants_108 (by decide) ?_
    refine cl1_X2_50 (pc := 111) rfl dX2_wants_111 (by decide) (Nat.le_of_ble_eq_true rfl) (c_X9_within m19 ((m19.1 9 i16 2) + x22) 9999) ?_
    obtain ⟨m25, hm25, h⟩ := ev_letE h
    refine pt_X2_17 (pc := 114) rfl dX2_wants_114 ?_
    refine ev_mem (pc := 117) hm25 ?_
    refine ev_aload_0 (pc := 117) dX2_wants_117 ?_
    refine ev_iload_3 (pc := 118) dX2_wants_118 ?_
    obtain ⟨m26, hm26, h⟩ := ev_letE h
    refine pt_X2_20 (pc := 119) rfl dX2_wants_119 ?_
    refine ev_mem (pc := 122) hm26 ?_
    refine ev_aload_0 (pc := 122) dX2_wants_122 ?_
    refine gt_X2_7 (pc := 123) rfl dX2_wants_123 ?_
    obtain ⟨o27, ho27, h⟩ := ev_letE h
    refine ev_topo (pc := 126) ho27 ?_
    refine ev_iload_3 (pc := 126) dX2_wants_126 ?_
    refine ev_iload_4 (pc := 127) dX2_wants_127 ?_
    refine ev_aload_0 (pc := 129) dX2_wants_129 ?_
    refine gt_X2_17 (pc := 130) rfl dX2_wants_130 ?_
    rcases o27 with _ | j28
    · exact absurd (ev_onN h) hN
    replace h := ev_onS h
    show ev_E G K_X2_wants B_X2_wants (0, 0) 133 [some (vr 9 (i16)), some (vr 8 (i17)), some (vi (x18)), some (vi (x22)), some (vi (x24)), none] [vi (m26.1 9 i16 2), vi (x24), vi (x22), vr 4 (j28)] (ev_emb m26) Q
    refine cl1_X2_56 (pc := 133) rfl dX2_wants_133 (by decide) (Nat.le_of_ble_eq_true rfl) (c_X1_ruled m26 j28 x22 x24 (m26.1 9 i16 2)) ?_
    refine ev_aload_1 (pc := 136) dX2_wants_136 ?_
    refine gt_X2_23 (pc := 137) rfl dX2_wants_137 ?_
    obtain ⟨o29, ho29, h⟩ := ev_letE h
    refine ev_topo (pc := 140) ho29 ?_
    rcases o29 with _ | j30
    · exact absurd (ev_onN h) hN
    replace h := ev_onS h
    show ev_E G K_X2_wants B_X2_wants (0, 0) 140 [some (vr 9 (i16)), some (vr 8 (i17)), some (vi (x18)), some (vi (x22)), some (vi (x24)), none] [vr 3 (j30), vi (s_X1_ruled m26 j28 x22 x24 (m26.1 9 i16 2))] (ev_emb m26) Q
    refine gt_X2_60 (pc := 140) rfl dX2_wants_140 ?_
    refine cl1_X2_50 (pc := 143) rfl dX2_wants_143 (by decide) (Nat.le_of_ble_eq_true rfl) (c_X9_within m26 (s_X1_ruled m26 j28 x22 x24 (m26.1 9 i16 2)) (m26.1 3 j30 3)) ?_
    obtain ⟨x31, hx31, h⟩ := ev_letE h
    refine ev_topi (pc := 146) hx31 ?_
    refine ev_istore_5 (pc := 146) dX2_wants_146 (by decide) rfl ?_
    refine ev_aload_0 (pc := 148) dX2_wants_148 ?_
    refine gt_X2_13 (pc := 149) rfl dX2_wants_149 ?_
    refine ev_aload_0 (pc := 152) dX2_wants_152 ?_
    refine gt_X2_7 (pc := 153) rfl dX2_wants_153 ?_
    obtain ⟨o32, ho32, h⟩ := ev_letE h
    refine ev_topo (pc := 156) ho32 ?_
    rcases o32 with _ | j33
    · exact absurd (ev_onN h) hN
    replace h := ev_onS h
    show ev_E G K_X2_wants B_X2_wants (0, 0) 156 [some (vr 9 (i16)), some (vr 8 (i17)), some (vi (x18)), some (vi (x22)), some (vi (x24)), some (vi (x31))] [vr 4 (j33), vi (m26.1 9 i16 1)] (ev_emb m26) Q
    refine gt_X2_63 (pc := 156) rfl dX2_wants_156 ?_
    obtain ⟨x35, hx35, h⟩ := ev_letE h
    have hJ1 : ev_E G K_X2_wants B_X2_wants (0, 0) 167 [some (vr 9 (i16)), some (vr 8 (i17)), some (vi (x18)), some (vi (x22)), some (vi (x24)), some (vi (x35))] [] (ev_emb m26) Q := by
      refine ev_aload_0 (pc := 167) dX2_wants_167 ?_
      refine gt_X2_7 (pc := 168) rfl dX2_wants_168 ?_
      obtain ⟨o36, ho36, h⟩ := ev_letE h
      refine ev_topo (pc := 171) ho36 ?_
      rcases o36 with _ | j37
      · exact absurd (ev_onN h) hN
      replace h := ev_onS h
      show ev_E G K_X2_wants B_X2_wants (0, 0) 171 [some (vr 9 (i16)), some (vr 8 (i17)), some (vi (x18)), some (vi (x22)), some (vi (x24)), some (vi (x35))] [vr 4 (j37)] (ev_emb m26) Q
      refine gt_X2_66 (pc := 171) rfl dX2_wants_171 ?_
      refine ev_ifc_le (pc := 174) (tgt := 196) dX2_wants_174 (by decide) (fun c38 => ?_) (fun c38 => ?_)
      · replace h := ev_ifn h c38
        refine ev_iload_5 (pc := 196) dX2_wants_196 ?_
        exact ev_iret (pc := 198) dX2_wants_198 rfl rfl (hR _ _ h)
      · replace h := ev_ifp h c38
        refine ev_aload_1 (pc := 177) dX2_wants_177 ?_
        obtain ⟨p39, hp39, h⟩ := ev_letE h
        refine cl1_X2_69 (pc := 178) (fr := 0) (lo := 0) (m' := p39.2) (v := vi (p39.1)) rfl dX2_wants_178 (by decide) (Nat.le_of_ble_eq_true rfl) (by rw [hp39]; exact c_X8_drawn m26 i17) ?_
        refine ev_aload_0 (pc := 181) dX2_wants_181 ?_
        refine gt_X2_7 (pc := 182) rfl dX2_wants_182 ?_
        obtain ⟨o40, ho40, h⟩ := ev_letE h
        refine ev_topo (pc := 185) ho40 ?_
        rcases o40 with _ | j41
        · exact absurd (ev_onN h) hN
        replace h := ev_onS h
        show ev_E G K_X2_wants B_X2_wants (0, 0) 185 [some (vr 9 (i16)), some (vr 8 (i17)), some (vi (x18)), some (vi (x22)), some (vi (x24)), some (vi (x35))] [vr 4 (j41), vi (p39.1)] (ev_emb p39.2) Q
        refine gt_X2_66 (pc := 185) rfl dX2_wants_185 ?_
        refine ev_icc_ge (pc := 188) (tgt := 196) dX2_wants_188 (by decide) (fun c42 => ?_) (fun c42 => ?_)
        · replace h := ev_ifn h c42
          refine ev_iload_5 (pc := 196) dX2_wants_196 ?_
          exact ev_iret (pc := 198) dX2_wants_198 rfl rfl (hR _ _ h)
        · replace h := ev_ifp h c42
          refine ev_aload_1 (pc := 191) dX2_wants_191 ?_
          refine cl1_X2_73 (pc := 192) rfl dX2_wants_192 (by decide) (Nat.le_of_ble_eq_true rfl) (c_X8_rudderNow p39.2 i17) ?_
          exact ev_iret (pc := 195) dX2_wants_195 rfl rfl (hR _ _ h)
    refine ev_icc_gt (pc := 159) (tgt := 167) dX2_wants_159 (by decide) (fun c34 => ?_) (fun c34 => ?_)
    · replace hx35 := (hx35.trans (if_pos c34))
      subst hx35
      exact hJ1
    · refine ev_iload_5 (pc := 162) dX2_wants_162 ?_
      refine ev_ineg (pc := 164) dX2_wants_164 ?_
      refine ev_istore_5 (pc := 165) dX2_wants_165 (by decide) rfl ?_
      replace hx35 := (hx35.trans (if_neg c34))
      subst hx35
      exact hJ1
  refine ev_icc_ne (pc := 86) (tgt := 93) dX2_wants_86 (by decide) (fun c23 => ?_) (fun c23 => ?_)
  · refine ev_iload_3 (pc := 93) dX2_wants_93 ?_
    refine ev_aload_0 (pc := 94) dX2_wants_94 ?_
    refine gt_X2_20 (pc := 95) rfl dX2_wants_95 ?_
    refine ev_isub (pc := 98) dX2_wants_98 ?_
    replace hx24 := (hx24.trans (if_neg c23))
    subst hx24
    exact hJ2
  · refine ev_iconst (pc := 89) (v := 0) dX2_wants_89 rfl ?_
    refine ev_goto (pc := 90) (tgt := 99) dX2_wants_90 (by decide) ?_
    replace hx24 := (hx24.trans (if_pos c23))
    subst hx24
    exact hJ2
set_option maxRecDepth 20000 in
set_option maxHeartbeats 4000000 in
theorem e_X2_wants {G : ev_G} {Q : Option ev_V → ev_M → Prop} {R : Option (Int32 × ev_m)} {mF : ev_m} (hR : ∀ (x0 : Int32) (m0 : ev_m), (some ((x0, m0))) = R → Q (some (vi x0)) (ev_emb m0)) (hN : none ≠ R) {i0 : Nat} {o1_ : Option Nat} (h : f_X2_wants mF i0 o1_ = R) : ev_E G K_X2_wants B_X2_wants (0, 0) 0 [some (vr 9 (i0)), some (vo 8 (o1_)), none, none, none, none] [] (ev_emb mF) Q := by
  unfold f_X2_wants at h
  refine ev_aload_0 (pc := 0) dX2_wants_0 ?_
  refine gt_X2_7 (pc := 1) rfl dX2_wants_1 ?_
  obtain ⟨o1, ho1, h⟩ := ev_letE h
  refine ev_topo (pc := 4) ho1 ?_
  rcases o1 with _ | j2
  · replace h := ev_onN h
    show ev_E G K_X2_wants B_X2_wants (0, 0) 4 [some (vr 9 (i0)), some (vo 8 (o1_)), none, none, none, none] [vn] (ev_emb mF) Q
    refine ev_ifnull_n (pc := 4) (tgt := 18) dX2_wants_4 (by decide) ?_
    refine ev_iconst (pc := 18) (v := 0) dX2_wants_18 rfl ?_
    exact ev_iret (pc := 19) dX2_wants_19 rfl rfl (hR _ _ h)
  · replace h := ev_onS h
    show ev_E G K_X2_wants B_X2_wants (0, 0) 4 [some (vr 9 (i0)), some (vo 8 (o1_)), none, none, none, none] [vr 4 (j2)] (ev_emb mF) Q
    refine ev_ifnull_r (pc := 4) dX2_wants_4 ?_
    refine ev_aload_1 (pc := 7) dX2_wants_7 ?_
    rcases o1_ with _ | j3
    · replace h := ev_onN h
      show ev_E G K_X2_wants B_X2_wants (0, 0) 8 [some (vr 9 (i0)), some (vn), none, none, none, none] [vn] (ev_emb mF) Q
      refine ev_ifnull_n (pc := 8) (tgt := 18) dX2_wants_8 (by decide) ?_
      refine ev_iconst (pc := 18) (v := 0) dX2_wants_18 rfl ?_
      exact ev_iret (pc := 19) dX2_wants_19 rfl rfl (hR _ _ h)
    · replace h := ev_onS h
      show ev_E G K_X2_wants B_X2_wants (0, 0) 8 [some (vr 9 (i0)), some (vr 8 (j3)), none, none, none, none] [vr 8 (j3)] (ev_emb mF) Q
      refine ev_ifnull_r (pc := 8) dX2_wants_8 ?_
      refine ev_aload_1 (pc := 11) dX2_wants_11 ?_
      refine gt_X2_23 (pc := 12) rfl dX2_wants_12 ?_
      obtain ⟨o4, ho4, h⟩ := ev_letE h
      refine ev_topo (pc := 15) ho4 ?_
      rcases o4 with _ | j5
      · replace h := ev_onN h
        show ev_E G K_X2_wants B_X2_wants (0, 0) 15 [some (vr 9 (i0)), some (vr 8 (j3)), none, none, none, none] [vn] (ev_emb mF) Q
        refine ev_ifnonnull_n (pc := 15) dX2_wants_15 ?_
        refine ev_iconst (pc := 18) (v := 0) dX2_wants_18 rfl ?_
        exact ev_iret (pc := 19) dX2_wants_19 rfl rfl (hR _ _ h)
      · replace h := ev_onS h
        show ev_E G K_X2_wants B_X2_wants (0, 0) 15 [some (vr 9 (i0)), some (vr 8 (j3)), none, none, none, none] [vr 3 (j5)] (ev_emb mF) Q
        refine ev_ifnonnull_r (pc := 15) (tgt := 20) dX2_wants_15 (by decide) ?_
        refine ev_aload_0 (pc := 20) dX2_wants_20 ?_
        refine ev_dup_r (pc := 21) dX2_wants_21 ?_
        refine gt_X2_13 (pc := 22) rfl dX2_wants_22 ?_
        refine ev_iconst (pc := 25) (v := 1) dX2_wants_25 rfl ?_
        refine ev_iadd (pc := 26) dX2_wants_26 ?_
        obtain ⟨m6, hm6, h⟩ := ev_letE h
        refine pt_X2_13 (pc := 27) rfl dX2_wants_27 ?_
        refine ev_mem (pc := 30) hm6 ?_
        refine ev_aload_0 (pc := 30) dX2_wants_30 ?_
        refine gt_X2_7 (pc := 31) rfl dX2_wants_31 ?_
        obtain ⟨o7, ho7, h⟩ := ev_letE h
        refine ev_topo (pc := 34) ho7 ?_
        refine ev_aload_0 (pc := 34) dX2_wants_34 ?_
        refine gt_X2_13 (pc := 35) rfl dX2_wants_35 ?_
        rcases o7 with _ | j8
        · exact absurd (ev_onN h) hN
        replace h := ev_onS h
        show ev_E G K_X2_wants B_X2_wants (0, 0) 38 [some (vr 9 (i0)), some (vr 8 (j3)), none, none, none, none] [vi (m6.1 9 i0 1), vr 4 (j8)] (ev_emb m6) Q
        obtain ⟨x9, hx9, h⟩ := ev_bindE hN h
        refine cl1_X2_29 (pc := 38) rfl dX2_wants_38 (by decide) (Nat.le_of_ble_eq_true rfl) (c_X1_hasStarAt hx9) ?_
        refine ev_ifb_eq (pc := 41) (tgt := 48) dX2_wants_41 (by decide) (fun c10 => ?_) (fun c10 => ?_)
        · replace h := ev_ifn h c10
          refine ev_aload_1 (pc := 48) dX2_wants_48 ?_
          refine gt_X2_23 (pc := 49) rfl dX2_wants_49 ?_
          obtain ⟨o11, ho11, h⟩ := ev_letE h
          refine ev_topo (pc := 52) ho11 ?_
          rcases o11 with _ | j12
          · exact absurd (ev_onN h) hN
          replace h := ev_onS h
          show ev_E G K_X2_wants B_X2_wants (0, 0) 52 [some (vr 9 (i0)), some (vr 8 (j3)), none, none, none, none] [vr 3 (j12)] (ev_emb m6) Q
          refine gt_X2_35 (pc := 52) rfl dX2_wants_52 ?_
          refine ev_aload_0 (pc := 55) dX2_wants_55 ?_
          refine gt_X2_7 (pc := 56) rfl dX2_wants_56 ?_
          obtain ⟨o13, ho13, h⟩ := ev_letE h
          refine ev_topo (pc := 59) ho13 ?_
          refine ev_aload_0 (pc := 59) dX2_wants_59 ?_
          refine gt_X2_13 (pc := 60) rfl dX2_wants_60 ?_
          rcases o13 with _ | j14
          · exact absurd (ev_onN h) hN
          replace h := ev_onS h
          show ev_E G K_X2_wants B_X2_wants (0, 0) 63 [some (vr 9 (i0)), some (vr 8 (j3)), none, none, none, none] [vi (m6.1 9 i0 1), vr 4 (j14), vi (m6.1 3 j12 2)] (ev_emb m6) Q
          obtain ⟨x15, hx15, h⟩ := ev_bindE hN h
          refine cl1_X2_40 (pc := 63) rfl dX2_wants_63 (by decide) (Nat.le_of_ble_eq_true rfl) (c_X1_slowBy hx15) ?_
          refine ev_iadd (pc := 66) dX2_wants_66 ?_
          exact e_jn_X2_wants_67 hR hN h
        · replace h := ev_ifp h c10
          refine ev_iconst (pc := 44) (v := 0) dX2_wants_44 rfl ?_
          refine ev_goto (pc := 45) (tgt := 67) dX2_wants_45 (by decide) ?_
          exact e_jn_X2_wants_67 hR hN h
theorem c_X2_wants {G : ev_G} {mF : ev_m} {i0 : Nat} {o1_ : Option Nat} {r : Int32 × ev_m} (h : f_X2_wants mF i0 o1_ = some r) : ev_CF G K_X2_wants B_X2_wants [vr 9 (i0), vo 8 (o1_)] mF (some (vi (r.1))) r.2 :=
  ev_Ct_of rfl rfl (Nat.le_of_ble_eq_true rfl) (e_X2_wants (R := some r) (fun x0 m0 q => by cases q; exact ⟨rfl, rfl⟩) (fun q => by cases q) h)
set_option maxRecDepth 20000 in
set_option maxHeartbeats 4000000 in
theorem e_X3_clear {G : ev_G} {Q : Option ev_V → ev_M → Prop} {R : ev_m} {mF : ev_m} (hR : ∀ m0 : ev_m, m0 = R → Q none (ev_emb m0)) {i0 : Nat} (h : s_X3_clear mF i0 = R) : ev_E G K_X3_clear B_X3_clear (0, 0) 0 [some (vr 5 (i0))] [] (ev_emb mF) Q := by
  unfold s_X3_clear at h
  refine ev_aload_0 (pc := 0) dX3_clear_0 ?_
  refine ev_iconst (pc := 1) (v := 0) dX3_clear_1 rfl ?_
  obtain ⟨m1, hm1, h⟩ := ev_letE h
  refine pt_X3_15 (pc := 2) rfl dX3_clear_2 ?_
  refine ev_mem (pc := 5) hm1 ?_
  exact ev_vret (pc := 5) dX3_clear_5 rfl (hR _ h)
theorem c_X3_clear {G : ev_G} (mF : ev_m) (i0 : Nat) : ev_CF G K_X3_clear B_X3_clear [vr 5 (i0)] mF none (s_X3_clear mF i0) :=
  ev_Ct_of rfl rfl (Nat.le_of_ble_eq_true rfl) (e_X3_clear (R := s_X3_clear mF i0) (fun m0 q => ⟨rfl, by rw [← q]⟩) rfl)
set_option maxRecDepth 20000 in
set_option maxHeartbeats 4000000 in
theorem e_X3_addHeading {G : ev_G} {Q : Option ev_V → ev_M → Prop} {R : Bool × ev_m} {mF : ev_m} (hR : ∀ (x0 : Bool) (m0 : ev_m), (x0, m0) = R → Q (some (vi (bi x0))) (ev_emb m0)) {i0 : Nat} {x1_ : Int32} (h : s_X3_addHeading mF i0 x1_ = R) : ev_E G K_X3_addHeading B_X3_addHeading (0, 0) 0 [some (vr 5 (i0)), some (vi (x1_))] [] (ev_emb mF) Q := by
  unfold s_X3_addHeading at h
  refine ev_aload_0 (pc := 0) dX3_addHeading_0 ?_
  refine gt_X3_15 (pc := 1) rfl dX3_addHeading_1 ?_
  refine ev_bipush (pc := 4) (v := 60) dX3_addHeading_4 (by decide) ?_
  refine ev_icc_lt (pc := 6) (tgt := 11) dX3_addHeading_6 (by decide) (fun c1 => ?_) (fun c1 => ?_)
  · replace h := ev_ifp h c1
    refine ev_aload_0 (pc := 11) dX3_addHeading_11 ?_
    refine gt_X3_9 (pc := 12) rfl dX3_addHeading_12 ?_
    refine ev_aload_0 (pc := 15) dX3_addHeading_15 ?_
    refine gt_X3_15 (pc := 16) rfl dX3_addHeading_16 ?_
    refine ev_iload_1 (pc := 19) dX3_addHeading_19 ?_
    obtain ⟨m2, hm2, h⟩ := ev_letE h
    refine cl0_X3_23 (pc := 20) (fr := 0) (lo := 0) (m' := m2) rfl dX3_addHeading_20 (by decide) (Nat.le_of_ble_eq_true rfl) (by rw [hm2]; exact c_X9_put (r := 15) rfl (by decide) (by decide)) ?_
    refine ev_aload_0 (pc := 23) dX3_addHeading_23 ?_
    refine ev_dup_r (pc := 24) dX3_addHeading_24 ?_
    refine gt_X3_15 (pc := 25) rfl dX3_addHeading_25 ?_
    refine ev_iconst (pc := 28) (v := 1) dX3_addHeading_28 rfl ?_
    refine ev_iadd (pc := 29) dX3_addHeading_29 ?_
    obtain ⟨m3, hm3, h⟩ := ev_letE h
    refine pt_X3_15 (pc := 30) rfl dX3_addHeading_30 ?_
    refine ev_mem (pc := 33) hm3 ?_
    refine ev_iconst (pc := 33) (v := 1) dX3_addHeading_33 rfl ?_
    exact ev_iret (pc := 34) dX3_addHeading_34 rfl rfl (hR _ _ h)
  · replace h := ev_ifn h c1
    refine ev_iconst (pc := 9) (v := 0) dX3_addHeading_9 rfl ?_
    exact ev_iret (pc := 10) dX3_addHeading_10 rfl rfl (hR _ _ h)
theorem c_X3_addHeading {G : ev_G} (mF : ev_m) (i0 : Nat) (x1_ : Int32) : ev_CF G K_X3_addHeading B_X3_addHeading [vr 5 (i0), vi (x1_)] mF (some (vi (bi ((s_X3_addHeading mF i0 x1_).1)))) (s_X3_addHeading mF i0 x1_).2 :=
  ev_Ct_of rfl rfl (Nat.le_of_ble_eq_true rfl) (e_X3_addHeading (R := s_X3_addHeading mF i0 x1_) (fun x0 m0 q => ⟨by rw [← q], by rw [← q]⟩) rfl)
set_option maxRecDepth 20000 in
set_option maxHeartbeats 4000000 in
theorem e_X5_clear {G : ev_G} {Q : Option ev_V → ev_M → Prop} {R : ev_m} {mF : ev_m} (hR : ∀ m0 : ev_m, m0 = R → Q none (ev_emb m0)) {i0 : Nat} (h : s_X5_clear mF i0 = R) : ev_E G K_X5_clear B_X5_clear (0, 0) 0 [some (vr 3 (i0))] [] (ev_emb mF) Q := by
  unfold s_X5_clear at h
  refine ev_aload_0 (pc := 0) dX5_clear_0 ?_
  refine ev_iconst (pc := 1) (v := 5) dX5_clear_1 rfl ?_
  obtain ⟨m1, hm1, h⟩ := ev_letE h
  refine pt_X5_15 (pc := 2) rfl dX5_clear_2 ?_
  refine ev_mem (pc := 5) hm1 ?_
  refine ev_aload_0 (pc := 5) dX5_clear_5 ?_
  refine ev_bipush (pc := 6) (v := 10) dX5_clear_6 (by decide) ?_
  obtain ⟨m2, hm2, h⟩ := ev_letE h
  refine pt_X5_19 (pc := 8) rfl dX5_clear_8 ?_
  refine ev_mem (pc := 11) hm2 ?_
  refine ev_aload_0 (pc := 11) dX5_clear_11 ?_
  refine ev_iconst (pc := 12) (v := 0) dX5_clear_12 rfl ?_
  obtain ⟨m3, hm3, h⟩ := ev_letE h
  refine pt_X5_22 (pc := 13) rfl dX5_clear_13 ?_
  refine ev_mem (pc := 16) hm3 ?_
  refine ev_aload_0 (pc := 16) dX5_clear_16 ?_
  refine ev_bipush (pc := 17) (v := 35) dX5_clear_17 (by decide) ?_
  obtain ⟨m4, hm4, h⟩ := ev_letE h
  refine pt_X5_25 (pc := 19) rfl dX5_clear_19 ?_
  refine ev_mem (pc := 22) hm4 ?_
  refine ev_aload_0 (pc := 22) dX5_clear_22 ?_
  refine ev_bipush (pc := 23) (v := 35) dX5_clear_23 (by decide) ?_
  obtain ⟨m5, hm5, h⟩ := ev_letE h
  refine pt_X5_28 (pc := 25) rfl dX5_clear_25 ?_
  refine ev_mem (pc := 28) hm5 ?_
  refine ev_aload_0 (pc := 28) dX5_clear_28 ?_
  refine ev_iconst (pc := 29) (v := 0) dX5_clear_29 rfl ?_
  obtain ⟨m6, hm6, h⟩ := ev_letE h
  refine pt_X5_31 (pc := 30) rfl dX5_clear_30 ?_
  refine ev_mem (pc := 33) hm6 ?_
  refine ev_aload_0 (pc := 33) dX5_clear_33 ?_
  refine ev_iconst (pc := 34) (v := 0) dX5_clear_34 rfl ?_
  obtain ⟨m7, hm7, h⟩ := ev_letE h
  refine pt_X5_34 (pc := 35) rfl dX5_clear_35 ?_
  refine ev_mem (pc := 38) hm7 ?_
  refine ev_aload_0 (pc := 38) dX5_clear_38 ?_
  refine ev_iconst (pc := 39) (v := 0) dX5_clear_39 rfl ?_
  obtain ⟨m8, hm8, h⟩ := ev_letE h
  refine pt_X5_37 (pc := 40) rfl dX5_clear_40 ?_
  refine ev_mem (pc := 43) hm8 ?_
  refine ev_aload_0 (pc := 43) dX5_clear_43 ?_
  refine ev_iconst (pc := 44) (v := 0) dX5_clear_44 rfl ?_
  obtain ⟨m9, hm9, h⟩ := ev_letE h
  refine pt_X5_40 (pc := 45) rfl dX5_clear_45 ?_
  refine ev_mem (pc := 48) hm9 ?_
  refine ev_aload_0 (pc := 48) dX5_clear_48 ?_
  refine ev_iconst (pc := 49) (v := 0) dX5_clear_49 rfl ?_
  obtain ⟨m10, hm10, h⟩ := ev_letE h
  refine pt_X5_43 (pc := 50) rfl dX5_clear_50 ?_
  refine ev_mem (pc := 53) hm10 ?_
  refine ev_aload_0 (pc := 53) dX5_clear_53 ?_
  refine ev_iconst (pc := 54) (v := 1) dX5_clear_54 rfl ?_
  obtain ⟨m11, hm11, h⟩ := ev_letE h
  refine pt_X5_46 (pc := 55) rfl dX5_clear_55 ?_
  refine ev_mem (pc := 58) hm11 ?_
  refine ev_aload_0 (pc := 58) dX5_clear_58 ?_
  refine gt_X5_9 (pc := 59) rfl dX5_clear_59 ?_
  refine ev_iconst (pc := 62) (v := 0) dX5_clear_62 rfl ?_
  refine ev_iconst (pc := 63) (v := 0) dX5_clear_63 rfl ?_
  obtain ⟨m12, hm12, h⟩ := ev_letE h
  refine cl0_X5_49 (pc := 64) (fr := 0) (lo := 0) (m' := m12) rfl dX5_clear_64 (by decide) (Nat.le_of_ble_eq_true rfl) (by rw [hm12]; exact c_X9_put (r := 12) rfl (by decide) (by decide)) ?_
  exact ev_vret (pc := 67) dX5_clear_67 rfl (hR _ h)
theorem c_X5_clear {G : ev_G} (mF : ev_m) (i0 : Nat) : ev_CF G K_X5_clear B_X5_clear [vr 3 (i0)] mF none (s_X5_clear mF i0) :=
  ev_Ct_of rfl rfl (Nat.le_of_ble_eq_true rfl) (e_X5_clear (R := s_X5_clear mF i0) (fun m0 q => ⟨rfl, by rw [← q]⟩) rfl)
set_option maxRecDepth 20000 in
set_option maxHeartbeats 4000000 in
theorem e_X7_clear {G : ev_G} {Q : Option ev_V → ev_M → Prop} {R : ev_m} {mF : ev_m} (hR : ∀ m0 : ev_m, m0 = R → Q none (ev_emb m0)) {i0 : Nat} (h : s_X7_clear mF i0 = R) : ev_E G K_X7_clear B_X7_clear (0, 0) 0 [some (vr 6 (i0))] [] (ev_emb mF) Q := by
  unfold s_X7_clear at h
  refine ev_aload_0 (pc := 0) dX7_clear_0 ?_
  refine ev_iconst (pc := 1) (v := 0) dX7_clear_1 rfl ?_
  obtain ⟨m1, hm1, h⟩ := ev_letE h
  refine pt_X7_18 (pc := 2) rfl dX7_clear_2 ?_
  refine ev_mem (pc := 5) hm1 ?_
  exact ev_vret (pc := 5) dX7_clear_5 rfl (hR _ h)
theorem c_X7_clear {G : ev_G} (mF : ev_m) (i0 : Nat) : ev_CF G K_X7_clear B_X7_clear [vr 6 (i0)] mF none (s_X7_clear mF i0) :=
  ev_Ct_of rfl rfl (Nat.le_of_ble_eq_true rfl) (e_X7_clear (R := s_X7_clear mF i0) (fun m0 q => ⟨rfl, by rw [← q]⟩) rfl)
set_option maxRecDepth 20000 in
set_option maxHeartbeats 4000000 in
theorem e_X6_byteAt {G : ev_G} {Q : Option ev_V → ev_M → Prop} {R : Option (Int32)} {mF : ev_m} (hR : ∀ x0 : Int32, (some (x0)) = R → Q (some (vi x0)) (ev_emb mF)) (hN : none ≠ R) {i0 : Nat} {x1_ : Int32} (h : f_X6_byteAt mF i0 x1_ = R) : ev_E G K_X6_byteAt B_X6_byteAt (0, 0) 0 [some (vr 2 (i0)), some (vi (x1_))] [] (ev_emb mF) Q := by
  unfold f_X6_byteAt at h
  refine ev_iload_1 (pc := 0) dX6_byteAt_0 ?_
  refine ev_ifc_lt (pc := 1) (tgt := 34) dX6_byteAt_1 (by decide) (fun c1 => ?_) (fun c1 => ?_)
  · replace h := ev_ifp h c1
    refine ev_iconst (pc := 34) (v := (-1)) dX6_byteAt_34 rfl ?_
    exact ev_iret (pc := 35) dX6_byteAt_35 rfl rfl (hR _ h)
  · replace h := ev_ifn h c1
    refine ev_iload_1 (pc := 4) dX6_byteAt_4 ?_
    refine ev_aload_0 (pc := 5) dX6_byteAt_5 ?_
    refine gt_X6_19 (pc := 6) rfl dX6_byteAt_6 ?_
    refine ev_icc_ge (pc := 9) (tgt := 34) dX6_byteAt_9 (by decide) (fun c2 => ?_) (fun c2 => ?_)
    · replace h := ev_ifn h c2
      refine ev_iconst (pc := 34) (v := (-1)) dX6_byteAt_34 rfl ?_
      exact ev_iret (pc := 35) dX6_byteAt_35 rfl rfl (hR _ h)
    · replace h := ev_ifp h c2
      refine ev_iload_1 (pc := 12) dX6_byteAt_12 ?_
      refine ev_aload_0 (pc := 13) dX6_byteAt_13 ?_
      refine gt_X6_9 (pc := 14) rfl dX6_byteAt_14 ?_
      refine ev_alen1 (pc := 17) (y := 600) rfl (by decide) rfl dX6_byteAt_17 ?_
      refine ev_icc_ge (pc := 18) (tgt := 34) dX6_byteAt_18 (by decide) (fun c3 => ?_) (fun c3 => ?_)
      · replace h := ev_ifn h c3
        refine ev_iconst (pc := 34) (v := (-1)) dX6_byteAt_34 rfl ?_
        exact ev_iret (pc := 35) dX6_byteAt_35 rfl rfl (hR _ h)
      · replace h := ev_ifp h c3
        refine ev_aload_0 (pc := 21) dX6_byteAt_21 ?_
        refine gt_X6_9 (pc := 22) rfl dX6_byteAt_22 ?_
        refine ev_iload_1 (pc := 25) dX6_byteAt_25 ?_
        obtain ⟨x4, hx4, h⟩ := ev_bindE hN h
        refine ev_bald1 (pc := 26) rfl (by decide) (by decide) rfl hx4 dX6_byteAt_26 ?_
        refine ev_sipush (pc := 27) (v := 255) dX6_byteAt_27 (by decide) ?_
        refine ev_iand (pc := 30) dX6_byteAt_30 ?_
        refine ev_goto (pc := 31) (tgt := 35) dX6_byteAt_31 (by decide) ?_
        exact ev_iret (pc := 35) dX6_byteAt_35 rfl rfl (hR _ h)
theorem c_X6_byteAt {G : ev_G} {mF : ev_m} {i0 : Nat} {x1_ : Int32} {r : Int32} (h : f_X6_byteAt mF i0 x1_ = some r) : ev_CF G K_X6_byteAt B_X6_byteAt [vr 2 (i0), vi (x1_)] mF (some (vi (r))) mF :=
  ev_Ct_of rfl rfl (Nat.le_of_ble_eq_true rfl) (e_X6_byteAt (R := some r) (fun x0 q => by cases q; exact ⟨rfl, rfl⟩) (fun q => by cases q) h)
set_option maxRecDepth 20000 in
set_option maxHeartbeats 4000000 in
theorem e_jn_X4_kindOf_49 {G : ev_G} {Q : Option ev_V → ev_M → Prop} {mF : ev_m} {R : Int32} (hR : ∀ x0 : Int32, x0 = R → Q (some (vi x0)) (ev_emb mF)) {x7 : Int32} (h : jn_X4_kindOf_49 mF x7 = R) : ev_E G K_X4_kindOf B_X4_kindOf (0, 0) 49 [some (vi (x7))] [] (ev_emb mF) Q := by
  unfold jn_X4_kindOf_49 at h
  refine ev_iload_0 (pc := 49) dX4_kindOf_49 ?_
  refine ev_bipush (pc := 50) (v := 45) dX4_kindOf_50 (by decide) ?_
  refine ev_icc_ne (pc := 52) (tgt := 59) dX4_kindOf_52 (by decide) (fun c8 => ?_) (fun c8 => ?_)
  · replace h := ev_ifn h c8
    refine ev_iload_0 (pc := 59) dX4_kindOf_59 ?_
    refine ev_bipush (pc := 60) (v := 59) dX4_kindOf_60 (by decide) ?_
    refine ev_icc_ne (pc := 62) (tgt := 69) dX4_kindOf_62 (by decide) (fun c9 => ?_) (fun c9 => ?_)
    · replace h := ev_ifn h c9
      refine ev_bipush (pc := 69) (v := 6) dX4_kindOf_69 (by decide) ?_
      exact ev_iret (pc := 71) dX4_kindOf_71 rfl rfl (hR _ h)
    · replace h := ev_ifp h c9
      refine ev_iconst (pc := 65) (v := 4) dX4_kindOf_65 rfl ?_
      refine ev_goto (pc := 66) (tgt := 71) dX4_kindOf_66 (by decide) ?_
      exact ev_iret (pc := 71) dX4_kindOf_71 rfl rfl (hR _ h)
  · replace h := ev_ifp h c8
    refine ev_iconst (pc := 55) (v := 3) dX4_kindOf_55 rfl ?_
    refine ev_goto (pc := 56) (tgt := 71) dX4_kindOf_56 (by decide) ?_
    exact ev_iret (pc := 71) dX4_kindOf_71 rfl rfl (hR _ h)
set_option maxRecDepth 20000 in
set_option maxHeartbeats 4000000 in
theorem e_jn_X4_kindOf_35 {G : ev_G} {Q : Option ev_V → ev_M → Prop} {mF : ev_m} {R : Int32} (hR : ∀ x0 : Int32, x0 = R → Q (some (vi x0)) (ev_emb mF)) {x5 : Int32} (h : jn_X4_kindOf_35 mF x5 = R) : ev_E G K_X4_kindOf B_X4_kindOf (0, 0) 35 [some (vi (x5))] [] (ev_emb mF) Q := by
  unfold jn_X4_kindOf_35 at h
  refine ev_iload_0 (pc := 35) dX4_kindOf_35 ?_
  refine ev_bipush (pc := 36) (v := 48) dX4_kindOf_36 (by decide) ?_
  refine ev_icc_lt (pc := 38) (tgt := 49) dX4_kindOf_38 (by decide) (fun c6 => ?_) (fun c6 => ?_)
  · replace h := ev_ifp h c6
    exact e_jn_X4_kindOf_49 hR h
  · replace h := ev_ifn h c6
    refine ev_iload_0 (pc := 41) dX4_kindOf_41 ?_
    refine ev_bipush (pc := 42) (v := 57) dX4_kindOf_42 (by decide) ?_
    refine ev_icc_gt (pc := 44) (tgt := 49) dX4_kindOf_44 (by decide) (fun c10 => ?_) (fun c10 => ?_)
    · replace h := ev_ifp h c10
      exact e_jn_X4_kindOf_49 hR h
    · replace h := ev_ifn h c10
      refine ev_iconst (pc := 47) (v := 2) dX4_kindOf_47 rfl ?_
      exact ev_iret (pc := 48) dX4_kindOf_48 rfl rfl (hR _ h)
set_option maxRecDepth 20000 in
set_option maxHeartbeats 4000000 in
theorem e_X4_kindOf {G : ev_G} {Q : Option ev_V → ev_M → Prop} {R : Int32} {mF : ev_m} (hR : ∀ x0 : Int32, x0 = R → Q (some (vi x0)) (ev_emb mF)) {x0_ : Int32} (h : s_X4_kindOf mF x0_ = R) : ev_E G K_X4_kindOf B_X4_kindOf (0, 0) 0 [some (vi (x0_))] [] (ev_emb mF) Q := by
  unfold s_X4_kindOf at h
  refine ev_iload_0 (pc := 0) dX4_kindOf_0 ?_
  refine ev_iconst (pc := 1) (v := (-1)) dX4_kindOf_1 rfl ?_
  refine ev_icc_ne (pc := 2) (tgt := 7) dX4_kindOf_2 (by decide) (fun c1 => ?_) (fun c1 => ?_)
  · replace h := ev_ifn h c1
    refine ev_iload_0 (pc := 7) dX4_kindOf_7 ?_
    refine ev_bipush (pc := 8) (v := 10) dX4_kindOf_8 (by decide) ?_
    refine ev_icc_eq (pc := 10) (tgt := 19) dX4_kindOf_10 (by decide) (fun c2 => ?_) (fun c2 => ?_)
    · replace h := ev_ifp h c2
      refine ev_iconst (pc := 19) (v := 5) dX4_kindOf_19 rfl ?_
      exact ev_iret (pc := 20) dX4_kindOf_20 rfl rfl (hR _ h)
    · replace h := ev_ifn h c2
      refine ev_iload_0 (pc := 13) dX4_kindOf_13 ?_
      refine ev_bipush (pc := 14) (v := 32) dX4_kindOf_14 (by decide) ?_
      refine ev_icc_ne (pc := 16) (tgt := 21) dX4_kindOf_16 (by decide) (fun c3 => ?_) (fun c3 => ?_)
      · replace h := ev_ifn h c3
        refine ev_iload_0 (pc := 21) dX4_kindOf_21 ?_
        refine ev_bipush (pc := 22) (v := 97) dX4_kindOf_22 (by decide) ?_
        refine ev_icc_lt (pc := 24) (tgt := 35) dX4_kindOf_24 (by decide) (fun c4 => ?_) (fun c4 => ?_)
        · replace h := ev_ifp h c4
          exact e_jn_X4_kindOf_35 hR h
        · replace h := ev_ifn h c4
          refine ev_iload_0 (pc := 27) dX4_kindOf_27 ?_
          refine ev_bipush (pc := 28) (v := 122) dX4_kindOf_28 (by decide) ?_
          refine ev_icc_gt (pc := 30) (tgt := 35) dX4_kindOf_30 (by decide) (fun c11 => ?_) (fun c11 => ?_)
          · replace h := ev_ifp h c11
            exact e_jn_X4_kindOf_35 hR h
          · replace h := ev_ifn h c11
            refine ev_iconst (pc := 33) (v := 1) dX4_kindOf_33 rfl ?_
            exact ev_iret (pc := 34) dX4_kindOf_34 rfl rfl (hR _ h)
      · replace h := ev_ifp h c3
        refine ev_iconst (pc := 19) (v := 5) dX4_kindOf_19 rfl ?_
        exact ev_iret (pc := 20) dX4_kindOf_20 rfl rfl (hR _ h)
  · replace h := ev_ifp h c1
    refine ev_iconst (pc := 5) (v := 0) dX4_kindOf_5 rfl ?_
    exact ev_iret (pc := 6) dX4_kindOf_6 rfl rfl (hR _ h)
theorem c_X4_kindOf {G : ev_G} (mF : ev_m) (x0_ : Int32) : ev_CF G K_X4_kindOf B_X4_kindOf [vi (x0_)] mF (some (vi (s_X4_kindOf mF x0_))) mF :=
  ev_Ct_of rfl rfl (Nat.le_of_ble_eq_true rfl) (e_X4_kindOf (R := s_X4_kindOf mF x0_) (fun x0 q => ⟨by rw [← q], rfl⟩) rfl)
set_option maxRecDepth 20000 in
set_option maxHeartbeats 4000000 in
theorem e_lp_X4_next_111 {G : ev_G} {Q : Option ev_V → ev_M → Prop} {R : Option (ev_m)} (hR : ∀ m0 : ev_m, (some (m0)) = R → Q none (ev_emb m0)) (hN : none ≠ R) {i12 : Nat} {x13 : Int32} : ∀ (f : Nat) (m14 : ev_m) (kx : ev_m → Option (ev_m)) (h : lp_X4_next_111 i12 x13 f m14 kx = R) (hk : ∀ (m14' : ev_m), kx m14' = R → ev_E G K_X4_next B_X4_next (0, 0) 163 [some (vr 7 (i12)), none] [] (ev_emb m14') Q), ev_E G K_X4_next B_X4_next (0, 0) 111 [some (vr 7 (i12)), some (vi (x13))] [] (ev_emb m14) Q := by
  intro f
  induction f with
  | zero => intro m14 kx h hk; rw [lp_X4_next_111] at h; exact absurd h hN
  | succ f ih =>
    intro m14 kx h hk
    rw [lp_X4_next_111] at h
    refine ev_iload_1 (pc := 111) dX4_next_111 ?_
    refine ev_ifc_eq (pc := 112) (tgt := 163) dX4_next_112 (by decide) (fun c15 => ?_) (fun c15 => ?_)
    · replace h := ev_ifp h c15
      refine ev_E.forget (L' := [some (vr 7 (i12)), none]) ⟨rfl, trivial⟩ ?_
      exact hk _  h
    · replace h := ev_ifn h c15
      refine ev_aload_0 (pc := 115) dX4_next_115 ?_
      refine gt_X4_63 (pc := 116) rfl dX4_next_116 ?_
      refine ev_aload_0 (pc := 119) dX4_next_119 ?_
      refine gt_X4_42 (pc := 120) rfl dX4_next_120 ?_
      refine gt_X4_229 (pc := 123) rfl dX4_next_123 ?_
      refine ev_icc_ge (pc := 126) (tgt := 163) dX4_next_126 (by decide) (fun c16 => ?_) (fun c16 => ?_)
      · replace h := ev_ifn h c16
        refine ev_E.forget (L' := [some (vr 7 (i12)), none]) ⟨rfl, trivial⟩ ?_
        exact hk _  h
      · replace h := ev_ifp h c16
        refine ev_aload_0 (pc := 129) dX4_next_129 ?_
        refine gt_X4_42 (pc := 130) rfl dX4_next_130 ?_
        refine ev_aload_0 (pc := 133) dX4_next_133 ?_
        refine gt_X4_63 (pc := 134) rfl dX4_next_134 ?_
        obtain ⟨x17, hx17, h⟩ := ev_bindE hN h
        refine cl1_X4_180 (pc := 137) rfl dX4_next_137 (by decide) (Nat.le_of_ble_eq_true rfl) (c_X6_byteAt hx17) ?_
        refine cl1_X4_231 (pc := 140) rfl dX4_next_140 (by decide) (Nat.le_of_ble_eq_true rfl) (c_X4_kindOf m14 x17) ?_
        refine ev_aload_0 (pc := 143) dX4_next_143 ?_
        refine gt_X4_69 (pc := 144) rfl dX4_next_144 ?_
        refine ev_icc_ne (pc := 147) (tgt := 163) dX4_next_147 (by decide) (fun c18 => ?_) (fun c18 => ?_)
        · replace h := ev_ifn h c18
          refine ev_E.forget (L' := [some (vr 7 (i12)), none]) ⟨rfl, trivial⟩ ?_
          exact hk _  h
        · replace h := ev_ifp h c18
          refine ev_aload_0 (pc := 150) dX4_next_150 ?_
          refine ev_dup_r (pc := 151) dX4_next_151 ?_
          refine gt_X4_63 (pc := 152) rfl dX4_next_152 ?_
          refine ev_iconst (pc := 155) (v := 1) dX4_next_155 rfl ?_
          refine ev_iadd (pc := 156) dX4_next_156 ?_
          obtain ⟨m19, hm19, h⟩ := ev_letE h
          refine pt_X4_63 (pc := 157) rfl dX4_next_157 ?_
          refine ev_mem (pc := 160) hm19 ?_
          refine ev_goto (pc := 160) (tgt := 111) dX4_next_160 (by decide) ?_
          exact ih _ kx h hk
set_option maxRecDepth 20000 in
set_option maxHeartbeats 4000000 in
theorem e_jn_X4_next_163 {G : ev_G} {Q : Option ev_V → ev_M → Prop} {R : Option (ev_m)} (hR : ∀ m0 : ev_m, (some (m0)) = R → Q none (ev_emb m0)) (hN : none ≠ R) {m22 : ev_m} {i21 : Nat} (h : jn_X4_next_163 m22 i21 = R) : ev_E G K_X4_next B_X4_next (0, 0) 163 [some (vr 7 (i21)), none] [] (ev_emb m22) Q := by
  unfold jn_X4_next_163 at h
  refine ev_aload_0 (pc := 163) dX4_next_163 ?_
  refine gt_X4_69 (pc := 164) rfl dX4_next_164 ?_
  refine ev_iconst (pc := 167) (v := 2) dX4_next_167 rfl ?_
  refine ev_icc_ne (pc := 168) (tgt := 190) dX4_next_168 (by decide) (fun c23 => ?_) (fun c23 => ?_)
  · replace h := ev_ifn h c23
    exact ev_vret (pc := 190) dX4_next_190 rfl (hR _ h)
  · replace h := ev_ifp h c23
    refine ev_aload_0 (pc := 171) dX4_next_171 ?_
    refine gt_X4_63 (pc := 172) rfl dX4_next_172 ?_
    refine ev_aload_0 (pc := 175) dX4_next_175 ?_
    refine gt_X4_80 (pc := 176) rfl dX4_next_176 ?_
    refine ev_isub (pc := 179) dX4_next_179 ?_
    refine ev_iconst (pc := 180) (v := 4) dX4_next_180 rfl ?_
    refine ev_icc_le (pc := 181) (tgt := 190) dX4_next_181 (by decide) (fun c24 => ?_) (fun c24 => ?_)
    · replace h := ev_ifn h c24
      exact ev_vret (pc := 190) dX4_next_190 rfl (hR _ h)
    · replace h := ev_ifp h c24
      refine ev_aload_0 (pc := 184) dX4_next_184 ?_
      refine ev_bipush (pc := 185) (v := 6) dX4_next_185 (by decide) ?_
      obtain ⟨m25, hm25, h⟩ := ev_letE h
      refine pt_X4_69 (pc := 187) rfl dX4_next_187 ?_
      refine ev_mem (pc := 190) hm25 ?_
      exact ev_vret (pc := 190) dX4_next_190 rfl (hR _ h)
set_option maxRecDepth 20000 in
set_option maxHeartbeats 4000000 in
theorem e_jn_X4_next_45 {G : ev_G} {Q : Option ev_V → ev_M → Prop} {R : Option (ev_m)} (hR : ∀ m0 : ev_m, (some (m0)) = R → Q none (ev_emb m0)) (hN : none ≠ R) {m3 : ev_m} {i2 : Nat} (h : jn_X4_next_45 m3 i2 = R) : ev_E G K_X4_next B_X4_next (0, 0) 45 [some (vr 7 (i2)), none] [] (ev_emb m3) Q := by
  unfold jn_X4_next_45 at h
  refine ev_aload_0 (pc := 45) dX4_next_45 ?_
  refine ev_aload_0 (pc := 46) dX4_next_46 ?_
  refine gt_X4_63 (pc := 47) rfl dX4_next_47 ?_
  obtain ⟨m4, hm4, h⟩ := ev_letE h
  refine pt_X4_80 (pc := 50) rfl dX4_next_50 ?_
  refine ev_mem (pc := 53) hm4 ?_
  refine ev_aload_0 (pc := 53) dX4_next_53 ?_
  refine ev_aload_0 (pc := 54) dX4_next_54 ?_
  refine gt_X4_42 (pc := 55) rfl dX4_next_55 ?_
  refine ev_aload_0 (pc := 58) dX4_next_58 ?_
  refine gt_X4_80 (pc := 59) rfl dX4_next_59 ?_
  obtain ⟨x5, hx5, h⟩ := ev_bindE hN h
  refine cl1_X4_180 (pc := 62) rfl dX4_next_62 (by decide) (Nat.le_of_ble_eq_true rfl) (c_X6_byteAt hx5) ?_
  refine cl1_X4_231 (pc := 65) rfl dX4_next_65 (by decide) (Nat.le_of_ble_eq_true rfl) (c_X4_kindOf m4 x5) ?_
  obtain ⟨m6, hm6, h⟩ := ev_letE h
  refine pt_X4_69 (pc := 68) rfl dX4_next_68 ?_
  refine ev_mem (pc := 71) hm6 ?_
  refine ev_aload_0 (pc := 71) dX4_next_71 ?_
  refine gt_X4_69 (pc := 72) rfl dX4_next_72 ?_
  refine ev_ifc_ne (pc := 75) (tgt := 79) dX4_next_75 (by decide) (fun c7 => ?_) (fun c7 => ?_)
  · replace h := ev_ifn h c7
    refine ev_aload_0 (pc := 79) dX4_next_79 ?_
    refine gt_X4_69 (pc := 80) rfl dX4_next_80 ?_
    refine ev_iconst (pc := 83) (v := 1) dX4_next_83 rfl ?_
    obtain ⟨x10, hx10, h⟩ := ev_letE h
    have hJ1 : ev_E G K_X4_next B_X4_next (0, 0) 100 [some (vr 7 (i2)), none] [vi (x10)] (ev_emb m6) Q := by
      refine ev_istore_1 (pc := 100) dX4_next_100 (by decide) rfl ?_
      refine ev_aload_0 (pc := 101) dX4_next_101 ?_
      refine ev_dup_r (pc := 102) dX4_next_102 ?_
      refine gt_X4_63 (pc := 103) rfl dX4_next_103 ?_
      refine ev_iconst (pc := 106) (v := 1) dX4_next_106 rfl ?_
      refine ev_iadd (pc := 107) dX4_next_107 ?_
      obtain ⟨m11, hm11, h⟩ := ev_letE h
      refine pt_X4_63 (pc := 108) rfl dX4_next_108 ?_
      refine ev_mem (pc := 111) hm11 ?_
      refine e_lp_X4_next_111 hR hN 4000 _ _ h (fun m20 h => ?_)
      exact e_jn_X4_next_163 hR hN h
    refine ev_icc_eq (pc := 84) (tgt := 95) dX4_next_84 (by decide) (fun c8 => ?_) (fun c8 => ?_)
    · refine ev_iconst (pc := 95) (v := 1) dX4_next_95 rfl ?_
      refine ev_goto (pc := 96) (tgt := 100) dX4_next_96 (by decide) ?_
      replace hx10 := (hx10.trans (if_pos c8))
      subst hx10
      exact hJ1
    · refine ev_aload_0 (pc := 87) dX4_next_87 ?_
      refine gt_X4_69 (pc := 88) rfl dX4_next_88 ?_
      refine ev_iconst (pc := 91) (v := 2) dX4_next_91 rfl ?_
      refine ev_icc_ne (pc := 92) (tgt := 99) dX4_next_92 (by decide) (fun c9 => ?_) (fun c9 => ?_)
      · refine ev_iconst (pc := 99) (v := 0) dX4_next_99 rfl ?_
        replace hx10 := ((hx10.trans (if_neg c8)).trans (if_neg c9))
        subst hx10
        exact hJ1
      · refine ev_iconst (pc := 95) (v := 1) dX4_next_95 rfl ?_
        refine ev_goto (pc := 96) (tgt := 100) dX4_next_96 (by decide) ?_
        replace hx10 := ((hx10.trans (if_neg c8)).trans (if_pos c9))
        subst hx10
        exact hJ1
  · replace h := ev_ifp h c7
    exact ev_vret (pc := 78) dX4_next_78 rfl (hR _ h)
set_option maxRecDepth 20000 in
set_option maxHeartbeats 4000000 in
theorem e_lp_X4_next_0 {G : ev_G} {Q : Option ev_V → ev_M → Prop} {R : Option (ev_m)} (hR : ∀ m0 : ev_m, (some (m0)) = R → Q none (ev_emb m0)) (hN : none ≠ R) {i29 : Nat} : ∀ (f : Nat) (m30 : ev_m) (kx : ev_m → Option (ev_m)) (h : lp_X4_next_0 i29 f m30 kx = R) (hk : ∀ (m30' : ev_m), kx m30' = R → ev_E G K_X4_next B_X4_next (0, 0) 45 [some (vr 7 (i29)), none] [] (ev_emb m30') Q), ev_E G K_X4_next B_X4_next (0, 0) 0 [some (vr 7 (i29)), none] [] (ev_emb m30) Q := by
  intro f
  induction f with
  | zero => intro m30 kx h hk; rw [lp_X4_next_0] at h; exact absurd h hN
  | succ f ih =>
    intro m30 kx h hk
    rw [lp_X4_next_0] at h
    refine ev_aload_0 (pc := 0) dX4_next_0 ?_
    refine gt_X4_63 (pc := 1) rfl dX4_next_1 ?_
    refine ev_aload_0 (pc := 4) dX4_next_4 ?_
    refine gt_X4_42 (pc := 5) rfl dX4_next_5 ?_
    refine gt_X4_229 (pc := 8) rfl dX4_next_8 ?_
    refine ev_icc_ge (pc := 11) (tgt := 45) dX4_next_11 (by decide) (fun c31 => ?_) (fun c31 => ?_)
    · replace h := ev_ifn h c31
      exact hk _  h
    · replace h := ev_ifp h c31
      refine ev_aload_0 (pc := 14) dX4_next_14 ?_
      refine gt_X4_42 (pc := 15) rfl dX4_next_15 ?_
      refine ev_aload_0 (pc := 18) dX4_next_18 ?_
      refine gt_X4_63 (pc := 19) rfl dX4_next_19 ?_
      obtain ⟨x32, hx32, h⟩ := ev_bindE hN h
      refine cl1_X4_180 (pc := 22) rfl dX4_next_22 (by decide) (Nat.le_of_ble_eq_true rfl) (c_X6_byteAt hx32) ?_
      refine cl1_X4_231 (pc := 25) rfl dX4_next_25 (by decide) (Nat.le_of_ble_eq_true rfl) (c_X4_kindOf m30 x32) ?_
      refine ev_iconst (pc := 28) (v := 5) dX4_next_28 rfl ?_
      refine ev_icc_ne (pc := 29) (tgt := 45) dX4_next_29 (by decide) (fun c33 => ?_) (fun c33 => ?_)
      · replace h := ev_ifn h c33
        exact hk _  h
      · replace h := ev_ifp h c33
        refine ev_aload_0 (pc := 32) dX4_next_32 ?_
        refine ev_dup_r (pc := 33) dX4_next_33 ?_
        refine gt_X4_63 (pc := 34) rfl dX4_next_34 ?_
        refine ev_iconst (pc := 37) (v := 1) dX4_next_37 rfl ?_
        refine ev_iadd (pc := 38) dX4_next_38 ?_
        obtain ⟨m34, hm34, h⟩ := ev_letE h
        refine pt_X4_63 (pc := 39) rfl dX4_next_39 ?_
        refine ev_mem (pc := 42) hm34 ?_
        refine ev_goto (pc := 42) (tgt := 0) dX4_next_42 (by decide) ?_
        exact ih _ kx h hk
set_option maxRecDepth 20000 in
set_option maxHeartbeats 4000000 in
theorem e_X4_next {G : ev_G} {Q : Option ev_V → ev_M → Prop} {R : Option (ev_m)} {mF : ev_m} (hR : ∀ m0 : ev_m, (some (m0)) = R → Q none (ev_emb m0)) (hN : none ≠ R) {i0 : Nat} (h : f_X4_next mF i0 = R) : ev_E G K_X4_next B_X4_next (0, 0) 0 [some (vr 7 (i0)), none] [] (ev_emb mF) Q := by
  unfold f_X4_next at h
  refine ev_aload_0 (pc := 0) dX4_next_0 ?_
  refine gt_X4_63 (pc := 1) rfl dX4_next_1 ?_
  refine ev_aload_0 (pc := 4) dX4_next_4 ?_
  refine gt_X4_42 (pc := 5) rfl dX4_next_5 ?_
  refine gt_X4_229 (pc := 8) rfl dX4_next_8 ?_
  refine ev_icc_ge (pc := 11) (tgt := 45) dX4_next_11 (by decide) (fun c1 => ?_) (fun c1 => ?_)
  · replace h := ev_ifn h c1
    exact e_jn_X4_next_45 hR hN h
  · replace h := ev_ifp h c1
    refine ev_aload_0 (pc := 14) dX4_next_14 ?_
    refine gt_X4_42 (pc := 15) rfl dX4_next_15 ?_
    refine ev_aload_0 (pc := 18) dX4_next_18 ?_
    refine gt_X4_63 (pc := 19) rfl dX4_next_19 ?_
    obtain ⟨x26, hx26, h⟩ := ev_bindE hN h
    refine cl1_X4_180 (pc := 22) rfl dX4_next_22 (by decide) (Nat.le_of_ble_eq_true rfl) (c_X6_byteAt hx26) ?_
    refine cl1_X4_231 (pc := 25) rfl dX4_next_25 (by decide) (Nat.le_of_ble_eq_true rfl) (c_X4_kindOf mF x26) ?_
    refine ev_iconst (pc := 28) (v := 5) dX4_next_28 rfl ?_
    refine ev_icc_ne (pc := 29) (tgt := 45) dX4_next_29 (by decide) (fun c27 => ?_) (fun c27 => ?_)
    · replace h := ev_ifn h c27
      exact e_jn_X4_next_45 hR hN h
    · replace h := ev_ifp h c27
      refine ev_aload_0 (pc := 32) dX4_next_32 ?_
      refine ev_dup_r (pc := 33) dX4_next_33 ?_
      refine gt_X4_63 (pc := 34) rfl dX4_next_34 ?_
      refine ev_iconst (pc := 37) (v := 1) dX4_next_37 rfl ?_
      refine ev_iadd (pc := 38) dX4_next_38 ?_
      obtain ⟨m28, hm28, h⟩ := ev_letE h
      refine pt_X4_63 (pc := 39) rfl dX4_next_39 ?_
      refine ev_mem (pc := 42) hm28 ?_
      refine ev_goto (pc := 42) (tgt := 0) dX4_next_42 (by decide) ?_
      refine e_lp_X4_next_0 hR hN 4000 _ _ h (fun m35 h => ?_)
      exact e_jn_X4_next_45 hR hN h
theorem c_X4_next {G : ev_G} {mF : ev_m} {i0 : Nat} {r : ev_m} (h : f_X4_next mF i0 = some r) : ev_CF G K_X4_next B_X4_next [vr 7 (i0)] mF none r :=
  ev_Ct_of rfl rfl (Nat.le_of_ble_eq_true rfl) (e_X4_next (R := some r) (fun m0 q => by cases q; exact ⟨rfl, rfl⟩) (fun q => by cases q) h)
set_option maxRecDepth 20000 in
set_option maxHeartbeats 4000000 in
theorem e_lp_X4_isWord_24 {G : ev_G} {Q : Option ev_V → ev_M → Prop} {mF : ev_m} {R : Option (Bool)} (hR : ∀ x0 : Bool, (some (x0)) = R → Q (some (vi (bi x0))) (ev_emb mF)) (hN : none ≠ R) {i3 : Nat} {i4 : Nat} : ∀ (f : Nat) (x5 : Int32) (kx : Unit → Option (Bool)) (h : lp_X4_isWord_24 mF i3 i4 f x5 kx = R) (hk : ∀ (u0 : Unit), kx u0 = R → ev_E G K_X4_isWord B_X4_isWord (0, 0) 61 [none, none, none] [] (ev_emb mF) Q), ev_E G K_X4_isWord B_X4_isWord (0, 0) 24 [some (vr 7 (i3)), some (vr 65 (i4)), some (vi (x5))] [] (ev_emb mF) Q := by
  intro f
  induction f with
  | zero => intro x5 kx h hk; rw [lp_X4_isWord_24] at h; exact absurd h hN
  | succ f ih =>
    intro x5 kx h hk
    rw [lp_X4_isWord_24] at h
    refine ev_iload_2 (pc := 24) dX4_isWord_24 ?_
    refine ev_aload_1 (pc := 25) dX4_isWord_25 ?_
    obtain ⟨x6, hx6, h⟩ := ev_bindE hN h
    refine ev_slen (pc := 26) rfl hx6 (by decide) (Nat.le_of_ble_eq_true rfl) dX4_isWord_26 ?_
    refine ev_icc_ge (pc := 29) (tgt := 61) dX4_isWord_29 (by decide) (fun c7 => ?_) (fun c7 => ?_)
    · replace h := ev_ifn h c7
      refine ev_E.forget (L' := [none, none, none]) trivial ?_
      exact hk _  h
    · replace h := ev_ifp h c7
      refine ev_aload_0 (pc := 32) dX4_isWord_32 ?_
      refine gt_X4_42 (pc := 33) rfl dX4_isWord_33 ?_
      refine ev_aload_0 (pc := 36) dX4_isWord_36 ?_
      refine gt_X4_80 (pc := 37) rfl dX4_isWord_37 ?_
      refine ev_iload_2 (pc := 40) dX4_isWord_40 ?_
      refine ev_iadd (pc := 41) dX4_isWord_41 ?_
      obtain ⟨x8, hx8, h⟩ := ev_bindE hN h
      refine cl1_X4_180 (pc := 42) rfl dX4_isWord_42 (by decide) (Nat.le_of_ble_eq_true rfl) (c_X6_byteAt hx8) ?_
      refine ev_aload_1 (pc := 45) dX4_isWord_45 ?_
      refine ev_iload_2 (pc := 46) dX4_isWord_46 ?_
      obtain ⟨x9, hx9, h⟩ := ev_bindE hN h
      refine ev_schr (pc := 47) rfl hx9 (by decide) (Nat.le_of_ble_eq_true rfl) dX4_isWord_47 ?_
      refine ev_icc_eq (pc := 50) (tgt := 55) dX4_isWord_50 (by decide) (fun c10 => ?_) (fun c10 => ?_)
      · replace h := ev_ifp h c10
        refine ev_iinc_2 (pc := 55) (y := x5 + 1) dX4_isWord_55 rfl (by decide) rfl ?_
        refine ev_goto (pc := 58) (tgt := 24) dX4_isWord_58 (by decide) ?_
        exact ih _ kx h hk
      · replace h := ev_ifn h c10
        refine ev_iconst (pc := 53) (v := 0) dX4_isWord_53 rfl ?_
        exact ev_iret (pc := 54) dX4_isWord_54 rfl rfl (hR _ h)
set_option maxRecDepth 20000 in
set_option maxHeartbeats 4000000 in
theorem e_X4_isWord {G : ev_G} {Q : Option ev_V → ev_M → Prop} {R : Option (Bool)} {mF : ev_m} (hR : ∀ x0 : Bool, (some (x0)) = R → Q (some (vi (bi x0))) (ev_emb mF)) (hN : none ≠ R) {i0 : Nat} {s1_ : Nat} (h : f_X4_isWord mF i0 s1_ = R) : ev_E G K_X4_isWord B_X4_isWord (0, 0) 0 [some (vr 7 (i0)), some (vr 65 (s1_)), none] [] (ev_emb mF) Q := by
  unfold f_X4_isWord at h
  refine ev_aload_1 (pc := 0) dX4_isWord_0 ?_
  refine ev_ifnull_r (pc := 1) dX4_isWord_1 ?_
  refine ev_aload_0 (pc := 4) dX4_isWord_4 ?_
  refine gt_X4_63 (pc := 5) rfl dX4_isWord_5 ?_
  refine ev_aload_0 (pc := 8) dX4_isWord_8 ?_
  refine gt_X4_80 (pc := 9) rfl dX4_isWord_9 ?_
  refine ev_isub (pc := 12) dX4_isWord_12 ?_
  refine ev_aload_1 (pc := 13) dX4_isWord_13 ?_
  obtain ⟨x1, hx1, h⟩ := ev_bindE hN h
  refine ev_slen (pc := 14) rfl hx1 (by decide) (Nat.le_of_ble_eq_true rfl) dX4_isWord_14 ?_
  refine ev_icc_eq (pc := 17) (tgt := 22) dX4_isWord_17 (by decide) (fun c2 => ?_) (fun c2 => ?_)
  · replace h := ev_ifp h c2
    refine ev_iconst (pc := 22) (v := 0) dX4_isWord_22 rfl ?_
    refine ev_istore_2 (pc := 23) dX4_isWord_23 (by decide) rfl ?_
    refine e_lp_X4_isWord_24 hR hN 4000 _ _ h (fun _ h => ?_)
    refine ev_iconst (pc := 61) (v := 1) dX4_isWord_61 rfl ?_
    exact ev_iret (pc := 62) dX4_isWord_62 rfl rfl (hR _ h)
  · replace h := ev_ifn h c2
    refine ev_iconst (pc := 20) (v := 0) dX4_isWord_20 rfl ?_
    exact ev_iret (pc := 21) dX4_isWord_21 rfl rfl (hR _ h)
theorem c_X4_isWord {G : ev_G} {mF : ev_m} {i0 : Nat} {s1_ : Nat} {r : Bool} (h : f_X4_isWord mF i0 s1_ = some r) : ev_CF G K_X4_isWord B_X4_isWord [vr 7 (i0), vr 65 (s1_)] mF (some (vi (bi (r)))) mF :=
  ev_Ct_of rfl rfl (Nat.le_of_ble_eq_true rfl) (e_X4_isWord (R := some r) (fun x0 q => by cases q; exact ⟨rfl, rfl⟩) (fun q => by cases q) h)
set_option maxRecDepth 20000 in
set_option maxHeartbeats 4000000 in
theorem e_X4_goesOnWithNumber {G : ev_G} {Q : Option ev_V → ev_M → Prop} {R : Bool} {mF : ev_m} (hR : ∀ x0 : Bool, x0 = R → Q (some (vi (bi x0))) (ev_emb mF)) {i0 : Nat} (h : s_X4_goesOnWithNumber mF i0 = R) : ev_E G K_X4_goesOnWithNumber B_X4_goesOnWithNumber (0, 0) 0 [some (vr 7 (i0))] [] (ev_emb mF) Q := by
  unfold s_X4_goesOnWithNumber at h
  refine ev_aload_0 (pc := 0) dX4_goesOnWithNumber_0 ?_
  refine gt_X4_69 (pc := 1) rfl dX4_goesOnWithNumber_1 ?_
  refine ev_iconst (pc := 4) (v := 2) dX4_goesOnWithNumber_4 rfl ?_
  refine ev_icc_eq (pc := 5) (tgt := 16) dX4_goesOnWithNumber_5 (by decide) (fun c1 => ?_) (fun c1 => ?_)
  · replace h := ev_ifp h c1
    refine ev_iconst (pc := 16) (v := 1) dX4_goesOnWithNumber_16 rfl ?_
    refine ev_goto (pc := 17) (tgt := 21) dX4_goesOnWithNumber_17 (by decide) ?_
    exact ev_iret (pc := 21) dX4_goesOnWithNumber_21 rfl rfl (hR _ h)
  · replace h := ev_ifn h c1
    refine ev_aload_0 (pc := 8) dX4_goesOnWithNumber_8 ?_
    refine gt_X4_69 (pc := 9) rfl dX4_goesOnWithNumber_9 ?_
    refine ev_iconst (pc := 12) (v := 3) dX4_goesOnWithNumber_12 rfl ?_
    refine ev_icc_ne (pc := 13) (tgt := 20) dX4_goesOnWithNumber_13 (by decide) (fun c2 => ?_) (fun c2 => ?_)
    · replace h := ev_ifn h c2
      refine ev_iconst (pc := 20) (v := 0) dX4_goesOnWithNumber_20 rfl ?_
      exact ev_iret (pc := 21) dX4_goesOnWithNumber_21 rfl rfl (hR _ h)
    · replace h := ev_ifp h c2
      refine ev_iconst (pc := 16) (v := 1) dX4_goesOnWithNumber_16 rfl ?_
      refine ev_goto (pc := 17) (tgt := 21) dX4_goesOnWithNumber_17 (by decide) ?_
      exact ev_iret (pc := 21) dX4_goesOnWithNumber_21 rfl rfl (hR _ h)
theorem c_X4_goesOnWithNumber {G : ev_G} (mF : ev_m) (i0 : Nat) : ev_CF G K_X4_goesOnWithNumber B_X4_goesOnWithNumber [vr 7 (i0)] mF (some (vi (bi (s_X4_goesOnWithNumber mF i0)))) mF :=
  ev_Ct_of rfl rfl (Nat.le_of_ble_eq_true rfl) (e_X4_goesOnWithNumber (R := s_X4_goesOnWithNumber mF i0) (fun x0 q => ⟨by rw [← q], rfl⟩) rfl)
set_option maxRecDepth 20000 in
set_option maxHeartbeats 4000000 in
theorem e_jn_X4_note_41 {G : ev_G} {Q : Option ev_V → ev_M → Prop} {R : ev_m} (hR : ∀ m0 : ev_m, m0 = R → Q none (ev_emb m0)) {m9 : ev_m} {i6 : Nat} {x7 : Int32} {x8 : Int32} (h : jn_X4_note_41 m9 i6 x7 x8 = R) : ev_E G K_X4_note B_X4_note (0, 0) 41 [some (vr 7 (i6)), some (vi (x7)), some (vi (x8)), none] [] (ev_emb m9) Q := by
  unfold jn_X4_note_41 at h
  refine ev_aload_0 (pc := 41) dX4_note_41 ?_
  refine ev_iload_1 (pc := 42) dX4_note_42 ?_
  obtain ⟨m10, hm10, h⟩ := ev_letE h
  refine pt_X4_50 (pc := 43) rfl dX4_note_43 ?_
  refine ev_mem (pc := 46) hm10 ?_
  refine ev_aload_0 (pc := 46) dX4_note_46 ?_
  refine ev_iload_2 (pc := 47) dX4_note_47 ?_
  obtain ⟨m11, hm11, h⟩ := ev_letE h
  refine pt_X4_54 (pc := 48) rfl dX4_note_48 ?_
  refine ev_mem (pc := 51) hm11 ?_
  exact ev_vret (pc := 51) dX4_note_51 rfl (hR _ h)
set_option maxRecDepth 20000 in
set_option maxHeartbeats 4000000 in
theorem e_X4_note {G : ev_G} {Q : Option ev_V → ev_M → Prop} {R : ev_m} {mF : ev_m} (hR : ∀ m0 : ev_m, m0 = R → Q none (ev_emb m0)) {i0 : Nat} {x1_ : Int32} {x2_ : Int32} (h : s_X4_note mF i0 x1_ x2_ = R) : ev_E G K_X4_note B_X4_note (0, 0) 0 [some (vr 7 (i0)), some (vi (x1_)), some (vi (x2_)), none] [] (ev_emb mF) Q := by
  unfold s_X4_note at h
  refine ev_iload_2 (pc := 0) dX4_note_0 ?_
  refine ev_aload_0 (pc := 1) dX4_note_1 ?_
  refine gt_X4_54 (pc := 2) rfl dX4_note_2 ?_
  obtain ⟨x4, hx4, h⟩ := ev_letE h
  have hJ1 : ev_E G K_X4_note B_X4_note (0, 0) 29 [some (vr 7 (i0)), some (vi (x1_)), some (vi (x2_)), none] [vi (x4)] (ev_emb mF) Q := by
    refine ev_istore_3 (pc := 29) dX4_note_29 (by decide) rfl ?_
    refine ev_aload_0 (pc := 30) dX4_note_30 ?_
    refine gt_X4_50 (pc := 31) rfl dX4_note_31 ?_
    refine ev_ifc_eq (pc := 34) (tgt := 41) dX4_note_34 (by decide) (fun c5 => ?_) (fun c5 => ?_)
    · replace h := ev_ifp h c5
      refine ev_E.forget (L' := [some (vr 7 (i0)), some (vi (x1_)), some (vi (x2_)), none]) ⟨rfl, ⟨rfl, ⟨rfl, trivial⟩⟩⟩ ?_
      exact e_jn_X4_note_41 hR h
    · replace h := ev_ifn h c5
      refine ev_iload_3 (pc := 37) dX4_note_37 ?_
      refine ev_ifc_eq (pc := 38) (tgt := 51) dX4_note_38 (by decide) (fun c12 => ?_) (fun c12 => ?_)
      · replace h := ev_ifp h c12
        exact ev_vret (pc := 51) dX4_note_51 rfl (hR _ h)
      · replace h := ev_ifn h c12
        refine ev_E.forget (L' := [some (vr 7 (i0)), some (vi (x1_)), some (vi (x2_)), none]) ⟨rfl, ⟨rfl, ⟨rfl, trivial⟩⟩⟩ ?_
        exact e_jn_X4_note_41 hR h
  refine ev_icc_lt (pc := 5) (tgt := 24) dX4_note_5 (by decide) (fun c1 => ?_) (fun c1 => ?_)
  · refine ev_iconst (pc := 24) (v := 1) dX4_note_24 rfl ?_
    refine ev_goto (pc := 25) (tgt := 29) dX4_note_25 (by decide) ?_
    replace hx4 := (hx4.trans (if_pos c1))
    subst hx4
    exact hJ1
  · refine ev_iload_2 (pc := 8) dX4_note_8 ?_
    refine ev_aload_0 (pc := 9) dX4_note_9 ?_
    refine gt_X4_54 (pc := 10) rfl dX4_note_10 ?_
    refine ev_icc_ne (pc := 13) (tgt := 28) dX4_note_13 (by decide) (fun c2 => ?_) (fun c2 => ?_)
    · refine ev_iconst (pc := 28) (v := 0) dX4_note_28 rfl ?_
      replace hx4 := ((hx4.trans (if_neg c1)).trans (if_neg c2))
      subst hx4
      exact hJ1
    · refine ev_iload_1 (pc := 16) dX4_note_16 ?_
      refine ev_aload_0 (pc := 17) dX4_note_17 ?_
      refine gt_X4_50 (pc := 18) rfl dX4_note_18 ?_
      refine ev_icc_ge (pc := 21) (tgt := 28) dX4_note_21 (by decide) (fun c3 => ?_) (fun c3 => ?_)
      · refine ev_iconst (pc := 28) (v := 0) dX4_note_28 rfl ?_
        replace hx4 := (((hx4.trans (if_neg c1)).trans (if_pos c2)).trans (if_neg c3))
        subst hx4
        exact hJ1
      · refine ev_iconst (pc := 24) (v := 1) dX4_note_24 rfl ?_
        refine ev_goto (pc := 25) (tgt := 29) dX4_note_25 (by decide) ?_
        replace hx4 := (((hx4.trans (if_neg c1)).trans (if_pos c2)).trans (if_pos c3))
        subst hx4
        exact hJ1
theorem c_X4_note {G : ev_G} (mF : ev_m) (i0 : Nat) (x1_ : Int32) (x2_ : Int32) : ev_CF G K_X4_note B_X4_note [vr 7 (i0), vi (x1_), vi (x2_)] mF none (s_X4_note mF i0 x1_ x2_) :=
  ev_Ct_of rfl rfl (Nat.le_of_ble_eq_true rfl) (e_X4_note (R := s_X4_note mF i0 x1_ x2_) (fun m0 q => ⟨rfl, by rw [← q]⟩) rfl)
set_option maxRecDepth 20000 in
set_option maxHeartbeats 4000000 in
theorem e_lp_X4_takeNumber_55 {G : ev_G} {Q : Option ev_V → ev_M → Prop} {R : Option (Bool × ev_m)} (hR : ∀ (x0 : Bool) (m0 : ev_m), (some ((x0, m0))) = R → Q (some (vi (bi x0))) (ev_emb m0)) (hN : none ≠ R) {m19 : ev_m} {i13 : Nat} {x14 : Int32} {x15 : Int32} {x16 : Int32} : ∀ (f : Nat) (x17 : Int32) (x18 : Int32) (kx : Int32 → Option (Bool × ev_m)) (h : lp_X4_takeNumber_55 m19 i13 x14 x15 x16 f x17 x18 kx = R) (hk : ∀ (x17' : Int32), kx x17' = R → ev_E G K_X4_takeNumber B_X4_takeNumber (0, 0) 90 [some (vr 7 (i13)), none, some (vi (x14)), some (vi (x15)), some (vi (x16)), some (vi (x17')), none] [] (ev_emb m19) Q), ev_E G K_X4_takeNumber B_X4_takeNumber (0, 0) 55 [some (vr 7 (i13)), none, some (vi (x14)), some (vi (x15)), some (vi (x16)), some (vi (x17)), some (vi (x18))] [] (ev_emb m19) Q := by
  intro f
  induction f with
  | zero => intro x17 x18 kx h hk; rw [lp_X4_takeNumber_55] at h; exact absurd h hN
  | succ f ih =>
    intro x17 x18 kx h hk
    rw [lp_X4_takeNumber_55] at h
    refine ev_iload_6 (pc := 55) dX4_takeNumber_55 ?_
    refine ev_aload_0 (pc := 57) dX4_takeNumber_57 ?_
    refine gt_X4_63 (pc := 58) rfl dX4_takeNumber_58 ?_
    refine ev_icc_ge (pc := 61) (tgt := 90) dX4_takeNumber_61 (by decide) (fun c20 => ?_) (fun c20 => ?_)
    · replace h := ev_ifn h c20
      refine ev_E.forget (L' := [some (vr 7 (i13)), none, some (vi (x14)), some (vi (x15)), some (vi (x16)), some (vi (x17)), none]) ⟨rfl, ⟨rfl, ⟨rfl, ⟨rfl, ⟨rfl, trivial⟩⟩⟩⟩⟩ ?_
      exact hk _  h
    · replace h := ev_ifp h c20
      refine ev_bipush (pc := 64) (v := 10) dX4_takeNumber_64 (by decide) ?_
      refine ev_iload_5 (pc := 66) dX4_takeNumber_66 ?_
      refine ev_imul (pc := 68) dX4_takeNumber_68 ?_
      refine ev_aload_0 (pc := 69) dX4_takeNumber_69 ?_
      refine gt_X4_42 (pc := 70) rfl dX4_takeNumber_70 ?_
      refine ev_iload_6 (pc := 73) dX4_takeNumber_73 ?_
      obtain ⟨x21, hx21, h⟩ := ev_bindE hN h
      refine cl1_X4_180 (pc := 75) rfl dX4_takeNumber_75 (by decide) (Nat.le_of_ble_eq_true rfl) (c_X6_byteAt hx21) ?_
      refine ev_iadd (pc := 78) dX4_takeNumber_78 ?_
      refine ev_bipush (pc := 79) (v := 48) dX4_takeNumber_79 (by decide) ?_
      refine ev_isub (pc := 81) dX4_takeNumber_81 ?_
      obtain ⟨x22, hx22, h⟩ := ev_letE h
      refine ev_topi (pc := 82) hx22 ?_
      refine ev_istore_5 (pc := 82) dX4_takeNumber_82 (by decide) rfl ?_
      refine ev_iinc_6 (pc := 84) (y := x18 + 1) dX4_takeNumber_84 rfl (by decide) rfl ?_
      refine ev_goto (pc := 87) (tgt := 55) dX4_takeNumber_87 (by decide) ?_
      exact ih _ _ kx h hk
set_option maxRecDepth 20000 in
set_option maxHeartbeats 4000000 in
theorem e_jn_X4_takeNumber_132 {G : ev_G} {Q : Option ev_V → ev_M → Prop} {R : Option (Bool × ev_m)} (hR : ∀ (x0 : Bool) (m0 : ev_m), (some ((x0, m0))) = R → Q (some (vi (bi x0))) (ev_emb m0)) (hN : none ≠ R) {m32 : ev_m} {i31 : Nat} (h : jn_X4_takeNumber_132 m32 i31 = R) : ev_E G K_X4_takeNumber B_X4_takeNumber (0, 0) 132 [some (vr 7 (i31)), none, none, none, none, none, none] [] (ev_emb m32) Q := by
  unfold jn_X4_takeNumber_132 at h
  refine ev_aload_0 (pc := 132) dX4_takeNumber_132 ?_
  obtain ⟨m33, hm33, h⟩ := ev_bindE hN h
  refine cl0_X4_66 (pc := 133) rfl dX4_takeNumber_133 (by decide) (Nat.le_of_ble_eq_true rfl) (c_X4_next hm33) ?_
  refine ev_iconst (pc := 136) (v := 1) dX4_takeNumber_136 rfl ?_
  exact ev_iret (pc := 137) dX4_takeNumber_137 rfl rfl (hR _ _ h)
set_option maxRecDepth 20000 in
set_option maxHeartbeats 4000000 in
theorem e_jn_X4_takeNumber_123 {G : ev_G} {Q : Option ev_V → ev_M → Prop} {R : Option (Bool × ev_m)} (hR : ∀ (x0 : Bool) (m0 : ev_m), (some ((x0, m0))) = R → Q (some (vi (bi x0))) (ev_emb m0)) (hN : none ≠ R) {m29 : ev_m} {i28 : Nat} (h : jn_X4_takeNumber_123 m29 i28 = R) : ev_E G K_X4_takeNumber B_X4_takeNumber (0, 0) 123 [some (vr 7 (i28)), none, none, none, none, none, none] [] (ev_emb m29) Q := by
  unfold jn_X4_takeNumber_123 at h
  refine ev_aload_0 (pc := 123) dX4_takeNumber_123 ?_
  refine ev_iconst (pc := 124) (v := 2) dX4_takeNumber_124 rfl ?_
  refine ev_aload_0 (pc := 125) dX4_takeNumber_125 ?_
  refine gt_X4_80 (pc := 126) rfl dX4_takeNumber_126 ?_
  obtain ⟨m30, hm30, h⟩ := ev_letE h
  refine cl0_X4_86 (pc := 129) (fr := 0) (lo := 0) (m' := m30) rfl dX4_takeNumber_129 (by decide) (Nat.le_of_ble_eq_true rfl) (by rw [hm30]; exact c_X4_note m29 i28 2 (m29.1 7 i28 8)) ?_
  exact e_jn_X4_takeNumber_132 hR hN h
set_option maxRecDepth 20000 in
set_option maxHeartbeats 4000000 in
theorem e_jn_X4_takeNumber_36 {G : ev_G} {Q : Option ev_V → ev_M → Prop} {R : Option (Bool × ev_m)} (hR : ∀ (x0 : Bool) (m0 : ev_m), (some ((x0, m0))) = R → Q (some (vi (bi x0))) (ev_emb m0)) (hN : none ≠ R) {m10 : ev_m} {i6 : Nat} {x7 : Int32} {x8 : Int32} {x9 : Int32} (h : jn_X4_takeNumber_36 m10 i6 x7 x8 x9 = R) : ev_E G K_X4_takeNumber B_X4_takeNumber (0, 0) 36 [some (vr 7 (i6)), none, some (vi (x7)), some (vi (x8)), some (vi (x9)), none, none] [] (ev_emb m10) Q := by
  unfold jn_X4_takeNumber_36 at h
  refine ev_aload_0 (pc := 36) dX4_takeNumber_36 ?_
  refine gt_X4_69 (pc := 37) rfl dX4_takeNumber_37 ?_
  refine ev_iconst (pc := 40) (v := 2) dX4_takeNumber_40 rfl ?_
  refine ev_icc_eq (pc := 41) (tgt := 46) dX4_takeNumber_41 (by decide) (fun c11 => ?_) (fun c11 => ?_)
  · replace h := ev_ifp h c11
    refine ev_iconst (pc := 46) (v := 0) dX4_takeNumber_46 rfl ?_
    refine ev_istore_5 (pc := 47) dX4_takeNumber_47 (by decide) rfl ?_
    refine ev_aload_0 (pc := 49) dX4_takeNumber_49 ?_
    refine gt_X4_80 (pc := 50) rfl dX4_takeNumber_50 ?_
    obtain ⟨x12, hx12, h⟩ := ev_letE h
    refine ev_topi (pc := 53) hx12 ?_
    refine ev_istore_6 (pc := 53) dX4_takeNumber_53 (by decide) rfl ?_
    refine e_lp_X4_takeNumber_55 hR hN 4000 _ _ _ h (fun x23 h => ?_)
    refine ev_aload_0 (pc := 90) dX4_takeNumber_90 ?_
    refine ev_iload_4 (pc := 91) dX4_takeNumber_91 ?_
    obtain ⟨x25, hx25, h⟩ := ev_letE h
    have hJ1 : ev_E G K_X4_takeNumber B_X4_takeNumber (0, 0) 104 [some (vr 7 (i6)), none, some (vi (x7)), some (vi (x8)), some (vi (x9)), some (vi (x23)), none] [vi (x25), vr 7 (i6)] (ev_emb m10) Q := by
      obtain ⟨m26, hm26, h⟩ := ev_letE h
      refine pt_X4_142 (pc := 104) rfl dX4_takeNumber_104 ?_
      refine ev_mem (pc := 107) hm26 ?_
      refine ev_aload_0 (pc := 107) dX4_takeNumber_107 ?_
      refine gt_X4_142 (pc := 108) rfl dX4_takeNumber_108 ?_
      refine ev_iload_2 (pc := 111) dX4_takeNumber_111 ?_
      refine ev_icc_lt (pc := 112) (tgt := 123) dX4_takeNumber_112 (by decide) (fun c27 => ?_) (fun c27 => ?_)
      · replace h := ev_ifp h c27
        refine ev_E.forget (L' := [some (vr 7 (i6)), none, none, none, none, none, none]) ⟨rfl, trivial⟩ ?_
        exact e_jn_X4_takeNumber_123 hR hN h
      · replace h := ev_ifn h c27
        refine ev_aload_0 (pc := 115) dX4_takeNumber_115 ?_
        refine gt_X4_142 (pc := 116) rfl dX4_takeNumber_116 ?_
        refine ev_iload_3 (pc := 119) dX4_takeNumber_119 ?_
        refine ev_icc_le (pc := 120) (tgt := 132) dX4_takeNumber_120 (by decide) (fun c34 => ?_) (fun c34 => ?_)
        · replace h := ev_ifn h c34
          refine ev_E.forget (L' := [some (vr 7 (i6)), none, none, none, none, none, none]) ⟨rfl, trivial⟩ ?_
          exact e_jn_X4_takeNumber_132 hR hN h
        · replace h := ev_ifp h c34
          refine ev_E.forget (L' := [some (vr 7 (i6)), none, none, none, none, none, none]) ⟨rfl, trivial⟩ ?_
          exact e_jn_X4_takeNumber_123 hR hN h
    refine ev_ifc_eq (pc := 93) (tgt := 102) dX4_takeNumber_93 (by decide) (fun c24 => ?_) (fun c24 => ?_)
    · refine ev_iload_5 (pc := 102) dX4_takeNumber_102 ?_
      replace hx25 := (hx25.trans (if_pos c24))
      subst hx25
      exact hJ1
    · refine ev_iload_5 (pc := 96) dX4_takeNumber_96 ?_
      refine ev_ineg (pc := 98) dX4_takeNumber_98 ?_
      refine ev_goto (pc := 99) (tgt := 104) dX4_takeNumber_99 (by decide) ?_
      replace hx25 := (hx25.trans (if_neg c24))
      subst hx25
      exact hJ1
  · replace h := ev_ifn h c11
    refine ev_iconst (pc := 44) (v := 0) dX4_takeNumber_44 rfl ?_
    exact ev_iret (pc := 45) dX4_takeNumber_45 rfl rfl (hR _ _ h)
set_option maxRecDepth 20000 in
set_option maxHeartbeats 4000000 in
theorem e_X4_takeNumber {G : ev_G} {Q : Option ev_V → ev_M → Prop} {R : Option (Bool × ev_m)} {mF : ev_m} (hR : ∀ (x0 : Bool) (m0 : ev_m), (some ((x0, m0))) = R → Q (some (vi (bi x0))) (ev_emb m0)) (hN : none ≠ R) {i0 : Nat} {x1_ : Int32} {x2_ : Int32} {x3_ : Int32} (h : f_X4_takeNumber mF i0 x1_ x2_ x3_ = R) : ev_E G K_X4_takeNumber B_X4_takeNumber (0, 0) 0 [some (vr 7 (i0)), some (vi (x1_)), some (vi (x2_)), some (vi (x3_)), none, none, none] [] (ev_emb mF) Q := by
  unfold f_X4_takeNumber at h
  refine ev_aload_0 (pc := 0) dX4_takeNumber_0 ?_
  refine ev_aload_0 (pc := 1) dX4_takeNumber_1 ?_
  refine gt_X4_80 (pc := 2) rfl dX4_takeNumber_2 ?_
  obtain ⟨m1, hm1, h⟩ := ev_letE h
  refine pt_X4_157 (pc := 5) rfl dX4_takeNumber_5 ?_
  refine ev_mem (pc := 8) hm1 ?_
  refine ev_iload_1 (pc := 8) dX4_takeNumber_8 ?_
  obtain ⟨x4, hx4, h⟩ := ev_letE h
  have hJ2 : ev_E G K_X4_takeNumber B_X4_takeNumber (0, 0) 25 [some (vr 7 (i0)), some (vi (x1_)), some (vi (x2_)), some (vi (x3_)), none, none, none] [vi (x4)] (ev_emb m1) Q := by
    refine ev_istore_4 (pc := 25) dX4_takeNumber_25 (by decide) rfl ?_
    refine ev_iload_4 (pc := 27) dX4_takeNumber_27 ?_
    refine ev_ifc_eq (pc := 29) (tgt := 36) dX4_takeNumber_29 (by decide) (fun c5 => ?_) (fun c5 => ?_)
    · replace h := ev_ifp h c5
      refine ev_E.forget (L' := [some (vr 7 (i0)), none, some (vi (x2_)), some (vi (x3_)), some (vi (x4)), none, none]) ⟨rfl, ⟨rfl, ⟨rfl, ⟨rfl, trivial⟩⟩⟩⟩ ?_
      exact e_jn_X4_takeNumber_36 hR hN h
    · replace h := ev_ifn h c5
      refine ev_aload_0 (pc := 32) dX4_takeNumber_32 ?_
      obtain ⟨m35, hm35, h⟩ := ev_bindE hN h
      refine cl0_X4_66 (pc := 33) rfl dX4_takeNumber_33 (by decide) (Nat.le_of_ble_eq_true rfl) (c_X4_next hm35) ?_
      refine ev_E.forget (L' := [some (vr 7 (i0)), none, some (vi (x2_)), some (vi (x3_)), some (vi (x4)), none, none]) ⟨rfl, ⟨rfl, ⟨rfl, ⟨rfl, trivial⟩⟩⟩⟩ ?_
      exact e_jn_X4_takeNumber_36 hR hN h
  refine ev_ifc_eq (pc := 9) (tgt := 24) dX4_takeNumber_9 (by decide) (fun c2 => ?_) (fun c2 => ?_)
  · refine ev_iconst (pc := 24) (v := 0) dX4_takeNumber_24 rfl ?_
    replace hx4 := (hx4.trans (if_pos c2))
    subst hx4
    exact hJ2
  · refine ev_aload_0 (pc := 12) dX4_takeNumber_12 ?_
    refine gt_X4_69 (pc := 13) rfl dX4_takeNumber_13 ?_
    refine ev_iconst (pc := 16) (v := 3) dX4_takeNumber_16 rfl ?_
    refine ev_icc_ne (pc := 17) (tgt := 24) dX4_takeNumber_17 (by decide) (fun c3 => ?_) (fun c3 => ?_)
    · refine ev_iconst (pc := 24) (v := 0) dX4_takeNumber_24 rfl ?_
      replace hx4 := ((hx4.trans (if_neg c2)).trans (if_neg c3))
      subst hx4
      exact hJ2
    · refine ev_iconst (pc := 20) (v := 1) dX4_takeNumber_20 rfl ?_
      refine ev_goto (pc := 21) (tgt := 25) dX4_takeNumber_21 (by decide) ?_
      replace hx4 := ((hx4.trans (if_neg c2)).trans (if_pos c3))
      subst hx4
      exact hJ2
theorem c_X4_takeNumber {G : ev_G} {mF : ev_m} {i0 : Nat} {x1_ : Int32} {x2_ : Int32} {x3_ : Int32} {r : Bool × ev_m} (h : f_X4_takeNumber mF i0 x1_ x2_ x3_ = some r) : ev_CF G K_X4_takeNumber B_X4_takeNumber [vr 7 (i0), vi (x1_), vi (x2_), vi (x3_)] mF (some (vi (bi (r.1)))) r.2 :=
  ev_Ct_of rfl rfl (Nat.le_of_ble_eq_true rfl) (e_X4_takeNumber (R := some r) (fun x0 m0 q => by cases q; exact ⟨rfl, rfl⟩) (fun q => by cases q) h)
set_option maxRecDepth 20000 in
set_option maxHeartbeats 4000000 in
theorem e_X5_addSea {G : ev_G} {Q : Option ev_V → ev_M → Prop} {R : Bool × ev_m} {mF : ev_m} (hR : ∀ (x0 : Bool) (m0 : ev_m), (x0, m0) = R → Q (some (vi (bi x0))) (ev_emb m0)) {i0 : Nat} {x1_ : Int32} (h : s_X5_addSea mF i0 x1_ = R) : ev_E G K_X5_addSea B_X5_addSea (0, 0) 0 [some (vr 3 (i0)), some (vi (x1_))] [] (ev_emb mF) Q := by
  unfold s_X5_addSea at h
  refine ev_aload_0 (pc := 0) dX5_addSea_0 ?_
  refine gt_X5_46 (pc := 1) rfl dX5_addSea_1 ?_
  refine ev_bipush (pc := 4) (v := 12) dX5_addSea_4 (by decide) ?_
  refine ev_icc_lt (pc := 6) (tgt := 11) dX5_addSea_6 (by decide) (fun c1 => ?_) (fun c1 => ?_)
  · replace h := ev_ifp h c1
    refine ev_aload_0 (pc := 11) dX5_addSea_11 ?_
    refine gt_X5_9 (pc := 12) rfl dX5_addSea_12 ?_
    refine ev_aload_0 (pc := 15) dX5_addSea_15 ?_
    refine gt_X5_46 (pc := 16) rfl dX5_addSea_16 ?_
    refine ev_iload_1 (pc := 19) dX5_addSea_19 ?_
    obtain ⟨m2, hm2, h⟩ := ev_letE h
    refine cl0_X5_49 (pc := 20) (fr := 0) (lo := 0) (m' := m2) rfl dX5_addSea_20 (by decide) (Nat.le_of_ble_eq_true rfl) (by rw [hm2]; exact c_X9_put (r := 12) rfl (by decide) (by decide)) ?_
    refine ev_aload_0 (pc := 23) dX5_addSea_23 ?_
    refine ev_dup_r (pc := 24) dX5_addSea_24 ?_
    refine gt_X5_46 (pc := 25) rfl dX5_addSea_25 ?_
    refine ev_iconst (pc := 28) (v := 1) dX5_addSea_28 rfl ?_
    refine ev_iadd (pc := 29) dX5_addSea_29 ?_
    obtain ⟨m3, hm3, h⟩ := ev_letE h
    refine pt_X5_46 (pc := 30) rfl dX5_addSea_30 ?_
    refine ev_mem (pc := 33) hm3 ?_
    refine ev_iconst (pc := 33) (v := 1) dX5_addSea_33 rfl ?_
    exact ev_iret (pc := 34) dX5_addSea_34 rfl rfl (hR _ _ h)
  · replace h := ev_ifn h c1
    refine ev_iconst (pc := 9) (v := 0) dX5_addSea_9 rfl ?_
    exact ev_iret (pc := 10) dX5_addSea_10 rfl rfl (hR _ _ h)
theorem c_X5_addSea {G : ev_G} (mF : ev_m) (i0 : Nat) (x1_ : Int32) : ev_CF G K_X5_addSea B_X5_addSea [vr 3 (i0), vi (x1_)] mF (some (vi (bi ((s_X5_addSea mF i0 x1_).1)))) (s_X5_addSea mF i0 x1_).2 :=
  ev_Ct_of rfl rfl (Nat.le_of_ble_eq_true rfl) (e_X5_addSea (R := s_X5_addSea mF i0 x1_) (fun x0 m0 q => ⟨by rw [← q], by rw [← q]⟩) rfl)
set_option maxRecDepth 20000 in
set_option maxHeartbeats 4000000 in
theorem e_jn_X4_takeSeas_69_14 {G : ev_G} {Q : Option ev_V → ev_M → Prop} {R : Option (Bool × ev_m)} (hR : ∀ (x0 : Bool) (m0 : ev_m), (some ((x0, m0))) = R → Q (some (vi (bi x0))) (ev_emb m0)) (hN : none ≠ R) {m14 : ev_m} {i3 : Nat} {x13 : Int32} {kb : Int32 → ev_m → Option (Bool × ev_m)} {kx : ev_m → Option (Bool × ev_m)}  (h : jn_X4_takeSeas_69_14 m14 i3 x13 kb kx = R) (hkb : ∀ (x4' : Int32) (m5' : ev_m), kb x4' m5' = R → ev_E G K_X4_takeSeas B_X4_takeSeas (0, 0) 14 [some (vr 7 (i3)), some (vi (x4'))] [] (ev_emb m5') Q) (hkx : ∀ (m5' : ev_m), kx m5' = R → ev_E G K_X4_takeSeas B_X4_takeSeas (0, 0) 75 [none, none] [] (ev_emb m5') Q) : ev_E G K_X4_takeSeas B_X4_takeSeas (0, 0) 69 [some (vr 7 (i3)), some (vi (x13))] [] (ev_emb m14) Q := by
  unfold jn_X4_takeSeas_69_14 at h
  refine ev_iinc_1 (pc := 69) (y := x13 + 1) dX4_takeSeas_69 rfl (by decide) rfl ?_
  refine ev_goto (pc := 72) (tgt := 14) dX4_takeSeas_72 (by decide) ?_
  exact hkb _ _  h
set_option maxRecDepth 20000 in
set_option maxHeartbeats 4000000 in
theorem e_jn_X4_takeSeas_32_14 {G : ev_G} {Q : Option ev_V → ev_M → Prop} {R : Option (Bool × ev_m)} (hR : ∀ (x0 : Bool) (m0 : ev_m), (some ((x0, m0))) = R → Q (some (vi (bi x0))) (ev_emb m0)) (hN : none ≠ R) {m8 : ev_m} {i3 : Nat} {x7 : Int32} {kb : Int32 → ev_m → Option (Bool × ev_m)} {kx : ev_m → Option (Bool × ev_m)}  (h : jn_X4_takeSeas_32_14 m8 i3 x7 kb kx = R) (hkb : ∀ (x4' : Int32) (m5' : ev_m), kb x4' m5' = R → ev_E G K_X4_takeSeas B_X4_takeSeas (0, 0) 14 [some (vr 7 (i3)), some (vi (x4'))] [] (ev_emb m5') Q) (hkx : ∀ (m5' : ev_m), kx m5' = R → ev_E G K_X4_takeSeas B_X4_takeSeas (0, 0) 75 [none, none] [] (ev_emb m5') Q) : ev_E G K_X4_takeSeas B_X4_takeSeas (0, 0) 32 [some (vr 7 (i3)), some (vi (x7))] [] (ev_emb m8) Q := by
  unfold jn_X4_takeSeas_32_14 at h
  refine ev_aload_0 (pc := 32) dX4_takeSeas_32 ?_
  refine ev_iconst (pc := 33) (v := 1) dX4_takeSeas_33 rfl ?_
  refine ev_bipush (pc := 34) (v := (-99)) dX4_takeSeas_34 (by decide) ?_
  refine ev_bipush (pc := 36) (v := 99) dX4_takeSeas_36 (by decide) ?_
  obtain ⟨p9, hp9, h⟩ := ev_bindE hN h
  refine cl1_X4_138 (pc := 38) rfl dX4_takeSeas_38 (by decide) (Nat.le_of_ble_eq_true rfl) (c_X4_takeNumber hp9) ?_
  refine ev_ifb_ne (pc := 41) (tgt := 46) dX4_takeSeas_41 (by decide) (fun c10 => ?_) (fun c10 => ?_)
  · replace h := ev_ifp h c10
    refine ev_aload_0 (pc := 46) dX4_takeSeas_46 ?_
    refine gt_X4_12 (pc := 47) rfl dX4_takeSeas_47 ?_
    refine ev_aload_0 (pc := 50) dX4_takeSeas_50 ?_
    refine gt_X4_142 (pc := 51) rfl dX4_takeSeas_51 ?_
    obtain ⟨p11, hp11, h⟩ := ev_letE h
    refine cl1_X4_154 (pc := 54) (fr := 1) (lo := 22) (m' := p11.2) (v := vi (bi (p11.1))) rfl dX4_takeSeas_54 (by decide) (Nat.le_of_ble_eq_true rfl) (by rw [hp11]; exact c_X5_addSea p9.2 9 (p9.2.1 7 i3 10)) ?_
    refine ev_ifb_ne (pc := 57) (tgt := 69) dX4_takeSeas_57 (by decide) (fun c12 => ?_) (fun c12 => ?_)
    · replace h := ev_ifp h c12
      exact e_jn_X4_takeSeas_69_14 hR hN h hkb hkx
    · replace h := ev_ifn h c12
      refine ev_aload_0 (pc := 60) dX4_takeSeas_60 ?_
      refine ev_iconst (pc := 61) (v := 3) dX4_takeSeas_61 rfl ?_
      refine ev_aload_0 (pc := 62) dX4_takeSeas_62 ?_
      refine gt_X4_157 (pc := 63) rfl dX4_takeSeas_63 ?_
      obtain ⟨m15, hm15, h⟩ := ev_letE h
      refine cl0_X4_86 (pc := 66) (fr := 0) (lo := 0) (m' := m15) rfl dX4_takeSeas_66 (by decide) (Nat.le_of_ble_eq_true rfl) (by rw [hm15]; exact c_X4_note p11.2 i3 3 (p11.2.1 7 i3 11)) ?_
      exact e_jn_X4_takeSeas_69_14 hR hN h hkb hkx
  · replace h := ev_ifn h c10
    refine ev_iconst (pc := 44) (v := 0) dX4_takeSeas_44 rfl ?_
    exact ev_iret (pc := 45) dX4_takeSeas_45 rfl rfl (hR _ _ h)
set_option maxRecDepth 20000 in
set_option maxHeartbeats 4000000 in
theorem e_lp_X4_takeSeas_14 {G : ev_G} {Q : Option ev_V → ev_M → Prop} {R : Option (Bool × ev_m)} (hR : ∀ (x0 : Bool) (m0 : ev_m), (some ((x0, m0))) = R → Q (some (vi (bi x0))) (ev_emb m0)) (hN : none ≠ R) {i3 : Nat} : ∀ (f : Nat) (x4 : Int32) (m5 : ev_m) (kx : ev_m → Option (Bool × ev_m)) (h : lp_X4_takeSeas_14 i3 f x4 m5 kx = R) (hk : ∀ (m5' : ev_m), kx m5' = R → ev_E G K_X4_takeSeas B_X4_takeSeas (0, 0) 75 [none, none] [] (ev_emb m5') Q), ev_E G K_X4_takeSeas B_X4_takeSeas (0, 0) 14 [some (vr 7 (i3)), some (vi (x4))] [] (ev_emb m5) Q := by
  intro f
  induction f with
  | zero => intro x4 m5 kx h hk; rw [lp_X4_takeSeas_14] at h; exact absurd h hN
  | succ f ih =>
    intro x4 m5 kx h hk
    rw [lp_X4_takeSeas_14] at h
    refine ev_iload_1 (pc := 14) dX4_takeSeas_14 ?_
    refine ev_ifc_eq (pc := 15) (tgt := 32) dX4_takeSeas_15 (by decide) (fun c6 => ?_) (fun c6 => ?_)
    · replace h := ev_ifp h c6
      exact e_jn_X4_takeSeas_32_14 hR hN h (fun _ _ h => ih _ _ kx h hk) hk
    · replace h := ev_ifn h c6
      refine ev_iload_1 (pc := 18) dX4_takeSeas_18 ?_
      refine ev_sipush (pc := 19) (v := 600) dX4_takeSeas_19 (by decide) ?_
      refine ev_icc_gt (pc := 22) (tgt := 75) dX4_takeSeas_22 (by decide) (fun c16 => ?_) (fun c16 => ?_)
      · replace h := ev_ifp h c16
        refine ev_E.forget (L' := [none, none]) trivial ?_
        exact hk _  h
      · replace h := ev_ifn h c16
        refine ev_aload_0 (pc := 25) dX4_takeSeas_25 ?_
        refine cl1_X4_151 (pc := 26) rfl dX4_takeSeas_26 (by decide) (Nat.le_of_ble_eq_true rfl) (c_X4_goesOnWithNumber m5 i3) ?_
        refine ev_ifb_eq (pc := 29) (tgt := 75) dX4_takeSeas_29 (by decide) (fun c17 => ?_) (fun c17 => ?_)
        · replace h := ev_ifn h c17
          refine ev_E.forget (L' := [none, none]) trivial ?_
          exact hk _  h
        · replace h := ev_ifp h c17
          exact e_jn_X4_takeSeas_32_14 hR hN h (fun _ _ h => ih _ _ kx h hk) hk
set_option maxRecDepth 20000 in
set_option maxHeartbeats 4000000 in
theorem e_X4_takeSeas {G : ev_G} {Q : Option ev_V → ev_M → Prop} {R : Option (Bool × ev_m)} {mF : ev_m} (hR : ∀ (x0 : Bool) (m0 : ev_m), (some ((x0, m0))) = R → Q (some (vi (bi x0))) (ev_emb m0)) (hN : none ≠ R) {i0 : Nat} (h : f_X4_takeSeas mF i0 = R) : ev_E G K_X4_takeSeas B_X4_takeSeas (0, 0) 0 [some (vr 7 (i0)), none] [] (ev_emb mF) Q := by
  unfold f_X4_takeSeas at h
  refine ev_aload_0 (pc := 0) dX4_takeSeas_0 ?_
  refine gt_X4_12 (pc := 1) rfl dX4_takeSeas_1 ?_
  refine ev_iconst (pc := 4) (v := 0) dX4_takeSeas_4 rfl ?_
  obtain ⟨m1, hm1, h⟩ := ev_letE h
  refine pt_X4_148 (pc := 5) rfl dX4_takeSeas_5 ?_
  refine ev_mem (pc := 8) hm1 ?_
  refine ev_aload_0 (pc := 8) dX4_takeSeas_8 ?_
  obtain ⟨m2, hm2, h⟩ := ev_bindE hN h
  refine cl0_X4_66 (pc := 9) rfl dX4_takeSeas_9 (by decide) (Nat.le_of_ble_eq_true rfl) (c_X4_next hm2) ?_
  refine ev_iconst (pc := 12) (v := 0) dX4_takeSeas_12 rfl ?_
  refine ev_istore_1 (pc := 13) dX4_takeSeas_13 (by decide) rfl ?_
  refine e_lp_X4_takeSeas_14 hR hN 4000 _ _ _ h (fun m18 h => ?_)
  refine ev_iconst (pc := 75) (v := 1) dX4_takeSeas_75 rfl ?_
  exact ev_iret (pc := 76) dX4_takeSeas_76 rfl rfl (hR _ _ h)
theorem c_X4_takeSeas {G : ev_G} {mF : ev_m} {i0 : Nat} {r : Bool × ev_m} (h : f_X4_takeSeas mF i0 = some r) : ev_CF G K_X4_takeSeas B_X4_takeSeas [vr 7 (i0)] mF (some (vi (bi (r.1)))) r.2 :=
  ev_Ct_of rfl rfl (Nat.le_of_ble_eq_true rfl) (e_X4_takeSeas (R := some r) (fun x0 m0 q => by cases q; exact ⟨rfl, rfl⟩) (fun q => by cases q) h)
