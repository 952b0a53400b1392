/-! lifted methods -/
set_option maxRecDepth 20000 in
set_option maxHeartbeats 4000000 in
theorem e_X0_shipAt {G : ev_G} {Q : Option ev_V → ev_M → Prop} {R : Option (Option Nat)} {mF : ev_m} (hR : ∀ x0 : Option Nat, (some (x0)) = R → Q (some (vo 3 x0)) (ev_emb mF)) (hN : none ≠ R) {i0 : Nat} {x1_ : Int32} (h : f_X0_shipAt mF i0 x1_ = R) : ev_E G K_X0_shipAt B_X0_shipAt (0, 0) 0 [some (vr 1 (i0)), some (vi (x1_))] [] (ev_emb mF) Q := by
  unfold f_X0_shipAt at h
  refine ev_iload_1 (pc := 0) dX0_shipAt_0 ?_
  refine ev_ifc_lt (pc := 1) (tgt := 30) dX0_shipAt_1 (by decide) (fun c1 => ?_) (fun c1 => ?_)
  · replace h := ev_ifp h c1
    refine ev_null (pc := 30) dX0_shipAt_30 ?_
    exact ev_aret (pc := 31) (o := none) dX0_shipAt_31 rfl (hR _ h)
  · replace h := ev_ifn h c1
    refine ev_iload_1 (pc := 4) dX0_shipAt_4 ?_
    refine ev_aload_0 (pc := 5) dX0_shipAt_5 ?_
    refine gt_X0_50 (pc := 6) rfl dX0_shipAt_6 ?_
    refine ev_icc_ge (pc := 9) (tgt := 30) dX0_shipAt_9 (by decide) (fun c2 => ?_) (fun c2 => ?_)
    · replace h := ev_ifn h c2
      refine ev_null (pc := 30) dX0_shipAt_30 ?_
      exact ev_aret (pc := 31) (o := none) dX0_shipAt_31 rfl (hR _ h)
    · replace h := ev_ifp h c2
      refine ev_iload_1 (pc := 12) dX0_shipAt_12 ?_
      refine ev_aload_0 (pc := 13) dX0_shipAt_13 ?_
      refine gt_X0_24 (pc := 14) rfl dX0_shipAt_14 ?_
      refine ev_alen1 (pc := 17) (y := 2) rfl (by decide) rfl dX0_shipAt_17 ?_
      refine ev_icc_ge (pc := 18) (tgt := 30) dX0_shipAt_18 (by decide) (fun c3 => ?_) (fun c3 => ?_)
      · replace h := ev_ifn h c3
        refine ev_null (pc := 30) dX0_shipAt_30 ?_
        exact ev_aret (pc := 31) (o := none) dX0_shipAt_31 rfl (hR _ h)
      · replace h := ev_ifp h c3
        refine ev_aload_0 (pc := 21) dX0_shipAt_21 ?_
        refine gt_X0_24 (pc := 22) rfl dX0_shipAt_22 ?_
        refine ev_iload_1 (pc := 25) dX0_shipAt_25 ?_
        obtain ⟨j4, hj4, h⟩ := ev_bindE hN h
        refine ev_aald1 (pc := 26) rfl (by decide) (by decide) rfl (fun _ => rfl) hj4 dX0_shipAt_26 ?_
        refine ev_goto (pc := 27) (tgt := 31) dX0_shipAt_27 (by decide) ?_
        exact ev_aret (pc := 31) dX0_shipAt_31 rfl (hR _ h)
theorem c_X0_shipAt {G : ev_G} {mF : ev_m} {i0 : Nat} {x1_ : Int32} {r : Option Nat} (h : f_X0_shipAt mF i0 x1_ = some r) : ev_CF G K_X0_shipAt B_X0_shipAt [vr 1 (i0), vi (x1_)] mF (some (vo 3 (r))) mF :=
  ev_Ct_of rfl rfl (Nat.le_of_ble_eq_true rfl) (e_X0_shipAt (R := some r) (fun x0 q => by cases q; exact ⟨rfl, rfl⟩) (fun q => by cases q) h)
set_option maxRecDepth 20000 in
set_option maxHeartbeats 4000000 in
theorem e_X0_handAt {G : ev_G} {Q : Option ev_V → ev_M → Prop} {R : Option (Option Nat)} {mF : ev_m} (hR : ∀ x0 : Option Nat, (some (x0)) = R → Q (some (vo 4 x0)) (ev_emb mF)) (hN : none ≠ R) {i0 : Nat} {x1_ : Int32} (h : f_X0_handAt mF i0 x1_ = R) : ev_E G K_X0_handAt B_X0_handAt (0, 0) 0 [some (vr 1 (i0)), some (vi (x1_))] [] (ev_emb mF) Q := by
  unfold f_X0_handAt at h
  refine ev_iload_1 (pc := 0) dX0_handAt_0 ?_
  refine ev_ifc_lt (pc := 1) (tgt := 30) dX0_handAt_1 (by decide) (fun c1 => ?_) (fun c1 => ?_)
  · replace h := ev_ifp h c1
    refine ev_null (pc := 30) dX0_handAt_30 ?_
    exact ev_aret (pc := 31) (o := none) dX0_handAt_31 rfl (hR _ h)
  · replace h := ev_ifn h c1
    refine ev_iload_1 (pc := 4) dX0_handAt_4 ?_
    refine ev_aload_0 (pc := 5) dX0_handAt_5 ?_
    refine gt_X0_53 (pc := 6) rfl dX0_handAt_6 ?_
    refine ev_icc_ge (pc := 9) (tgt := 30) dX0_handAt_9 (by decide) (fun c2 => ?_) (fun c2 => ?_)
    · replace h := ev_ifn h c2
      refine ev_null (pc := 30) dX0_handAt_30 ?_
      exact ev_aret (pc := 31) (o := none) dX0_handAt_31 rfl (hR _ h)
    · replace h := ev_ifp h c2
      refine ev_iload_1 (pc := 12) dX0_handAt_12 ?_
      refine ev_aload_0 (pc := 13) dX0_handAt_13 ?_
      refine gt_X0_30 (pc := 14) rfl dX0_handAt_14 ?_
      refine ev_alen1 (pc := 17) (y := 4) rfl (by decide) rfl dX0_handAt_17 ?_
      refine ev_icc_ge (pc := 18) (tgt := 30) dX0_handAt_18 (by decide) (fun c3 => ?_) (fun c3 => ?_)
      · replace h := ev_ifn h c3
        refine ev_null (pc := 30) dX0_handAt_30 ?_
        exact ev_aret (pc := 31) (o := none) dX0_handAt_31 rfl (hR _ h)
      · replace h := ev_ifp h c3
        refine ev_aload_0 (pc := 21) dX0_handAt_21 ?_
        refine gt_X0_30 (pc := 22) rfl dX0_handAt_22 ?_
        refine ev_iload_1 (pc := 25) dX0_handAt_25 ?_
        obtain ⟨j4, hj4, h⟩ := ev_bindE hN h
        refine ev_aald1 (pc := 26) rfl (by decide) (by decide) rfl (fun _ => rfl) hj4 dX0_handAt_26 ?_
        refine ev_goto (pc := 27) (tgt := 31) dX0_handAt_27 (by decide) ?_
        exact ev_aret (pc := 31) dX0_handAt_31 rfl (hR _ h)
theorem c_X0_handAt {G : ev_G} {mF : ev_m} {i0 : Nat} {x1_ : Int32} {r : Option Nat} (h : f_X0_handAt mF i0 x1_ = some r) : ev_CF G K_X0_handAt B_X0_handAt [vr 1 (i0), vi (x1_)] mF (some (vo 4 (r))) mF :=
  ev_Ct_of rfl rfl (Nat.le_of_ble_eq_true rfl) (e_X0_handAt (R := some r) (fun x0 q => by cases q; exact ⟨rfl, rfl⟩) (fun q => by cases q) h)
set_option maxRecDepth 20000 in
set_option maxHeartbeats 4000000 in
theorem e_X0_paperAt {G : ev_G} {Q : Option ev_V → ev_M → Prop} {R : Option (Option Nat)} {mF : ev_m} (hR : ∀ x0 : Option Nat, (some (x0)) = R → Q (some (vo 5 x0)) (ev_emb mF)) (hN : none ≠ R) {i0 : Nat} {x1_ : Int32} (h : f_X0_paperAt mF i0 x1_ = R) : ev_E G K_X0_paperAt B_X0_paperAt (0, 0) 0 [some (vr 1 (i0)), some (vi (x1_))] [] (ev_emb mF) Q := by
  unfold f_X0_paperAt at h
  refine ev_iload_1 (pc := 0) dX0_paperAt_0 ?_
  refine ev_ifc_lt (pc := 1) (tgt := 30) dX0_paperAt_1 (by decide) (fun c1 => ?_) (fun c1 => ?_)
  · replace h := ev_ifp h c1
    refine ev_null (pc := 30) dX0_paperAt_30 ?_
    exact ev_aret (pc := 31) (o := none) dX0_paperAt_31 rfl (hR _ h)
  · replace h := ev_ifn h c1
    refine ev_iload_1 (pc := 4) dX0_paperAt_4 ?_
    refine ev_aload_0 (pc := 5) dX0_paperAt_5 ?_
    refine gt_X0_56 (pc := 6) rfl dX0_paperAt_6 ?_
    refine ev_icc_ge (pc := 9) (tgt := 30) dX0_paperAt_9 (by decide) (fun c2 => ?_) (fun c2 => ?_)
    · replace h := ev_ifn h c2
      refine ev_null (pc := 30) dX0_paperAt_30 ?_
      exact ev_aret (pc := 31) (o := none) dX0_paperAt_31 rfl (hR _ h)
    · replace h := ev_ifp h c2
      refine ev_iload_1 (pc := 12) dX0_paperAt_12 ?_
      refine ev_aload_0 (pc := 13) dX0_paperAt_13 ?_
      refine gt_X0_36 (pc := 14) rfl dX0_paperAt_14 ?_
      refine ev_alen1 (pc := 17) (y := 2) rfl (by decide) rfl dX0_paperAt_17 ?_
      refine ev_icc_ge (pc := 18) (tgt := 30) dX0_paperAt_18 (by decide) (fun c3 => ?_) (fun c3 => ?_)
      · replace h := ev_ifn h c3
        refine ev_null (pc := 30) dX0_paperAt_30 ?_
        exact ev_aret (pc := 31) (o := none) dX0_paperAt_31 rfl (hR _ h)
      · replace h := ev_ifp h c3
        refine ev_aload_0 (pc := 21) dX0_paperAt_21 ?_
        refine gt_X0_36 (pc := 22) rfl dX0_paperAt_22 ?_
        refine ev_iload_1 (pc := 25) dX0_paperAt_25 ?_
        obtain ⟨j4, hj4, h⟩ := ev_bindE hN h
        refine ev_aald1 (pc := 26) rfl (by decide) (by decide) rfl (fun _ => rfl) hj4 dX0_paperAt_26 ?_
        refine ev_goto (pc := 27) (tgt := 31) dX0_paperAt_27 (by decide) ?_
        exact ev_aret (pc := 31) dX0_paperAt_31 rfl (hR _ h)
theorem c_X0_paperAt {G : ev_G} {mF : ev_m} {i0 : Nat} {x1_ : Int32} {r : Option Nat} (h : f_X0_paperAt mF i0 x1_ = some r) : ev_CF G K_X0_paperAt B_X0_paperAt [vr 1 (i0), vi (x1_)] mF (some (vo 5 (r))) mF :=
  ev_Ct_of rfl rfl (Nat.le_of_ble_eq_true rfl) (e_X0_paperAt (R := some r) (fun x0 q => by cases q; exact ⟨rfl, rfl⟩) (fun q => by cases q) h)
set_option maxRecDepth 20000 in
set_option maxHeartbeats 4000000 in
theorem e_X0_watchAt {G : ev_G} {Q : Option ev_V → ev_M → Prop} {R : Option (Option Nat)} {mF : ev_m} (hR : ∀ x0 : Option Nat, (some (x0)) = R → Q (some (vo 6 x0)) (ev_emb mF)) (hN : none ≠ R) {i0 : Nat} {x1_ : Int32} (h : f_X0_watchAt mF i0 x1_ = R) : ev_E G K_X0_watchAt B_X0_watchAt (0, 0) 0 [some (vr 1 (i0)), some (vi (x1_))] [] (ev_emb mF) Q := by
  unfold f_X0_watchAt at h
  refine ev_iload_1 (pc := 0) dX0_watchAt_0 ?_
  refine ev_ifc_lt (pc := 1) (tgt := 30) dX0_watchAt_1 (by decide) (fun c1 => ?_) (fun c1 => ?_)
  · replace h := ev_ifp h c1
    refine ev_null (pc := 30) dX0_watchAt_30 ?_
    exact ev_aret (pc := 31) (o := none) dX0_watchAt_31 rfl (hR _ h)
  · replace h := ev_ifn h c1
    refine ev_iload_1 (pc := 4) dX0_watchAt_4 ?_
    refine ev_aload_0 (pc := 5) dX0_watchAt_5 ?_
    refine gt_X0_59 (pc := 6) rfl dX0_watchAt_6 ?_
    refine ev_icc_ge (pc := 9) (tgt := 30) dX0_watchAt_9 (by decide) (fun c2 => ?_) (fun c2 => ?_)
    · replace h := ev_ifn h c2
      refine ev_null (pc := 30) dX0_watchAt_30 ?_
      exact ev_aret (pc := 31) (o := none) dX0_watchAt_31 rfl (hR _ h)
    · replace h := ev_ifp h c2
      refine ev_iload_1 (pc := 12) dX0_watchAt_12 ?_
      refine ev_aload_0 (pc := 13) dX0_watchAt_13 ?_
      refine gt_X0_42 (pc := 14) rfl dX0_watchAt_14 ?_
      refine ev_alen1 (pc := 17) (y := 2) rfl (by decide) rfl dX0_watchAt_17 ?_
      refine ev_icc_ge (pc := 18) (tgt := 30) dX0_watchAt_18 (by decide) (fun c3 => ?_) (fun c3 => ?_)
      · replace h := ev_ifn h c3
        refine ev_null (pc := 30) dX0_watchAt_30 ?_
        exact ev_aret (pc := 31) (o := none) dX0_watchAt_31 rfl (hR _ h)
      · replace h := ev_ifp h c3
        refine ev_aload_0 (pc := 21) dX0_watchAt_21 ?_
        refine gt_X0_42 (pc := 22) rfl dX0_watchAt_22 ?_
        refine ev_iload_1 (pc := 25) dX0_watchAt_25 ?_
        obtain ⟨j4, hj4, h⟩ := ev_bindE hN h
        refine ev_aald1 (pc := 26) rfl (by decide) (by decide) rfl (fun _ => rfl) hj4 dX0_watchAt_26 ?_
        refine ev_goto (pc := 27) (tgt := 31) dX0_watchAt_27 (by decide) ?_
        exact ev_aret (pc := 31) dX0_watchAt_31 rfl (hR _ h)
theorem c_X0_watchAt {G : ev_G} {mF : ev_m} {i0 : Nat} {x1_ : Int32} {r : Option Nat} (h : f_X0_watchAt mF i0 x1_ = some r) : ev_CF G K_X0_watchAt B_X0_watchAt [vr 1 (i0), vi (x1_)] mF (some (vo 6 (r))) mF :=
  ev_Ct_of rfl rfl (Nat.le_of_ble_eq_true rfl) (e_X0_watchAt (R := some r) (fun x0 q => by cases q; exact ⟨rfl, rfl⟩) (fun q => by cases q) h)
set_option maxRecDepth 20000 in
set_option maxHeartbeats 4000000 in
theorem e_X0_countOf {G : ev_G} {Q : Option ev_V → ev_M → Prop} {R : Int32} {mF : ev_m} (hR : ∀ x0 : Int32, x0 = R → Q (some (vi x0)) (ev_emb mF)) {i0 : Nat} {x1_ : Int32} (h : s_X0_countOf mF i0 x1_ = R) : ev_E G K_X0_countOf B_X0_countOf (0, 0) 0 [some (vr 1 (i0)), some (vi (x1_))] [] (ev_emb mF) Q := by
  unfold s_X0_countOf at h
  refine ev_iload_1 (pc := 0) dX0_countOf_0 ?_
  by_cases c1 : x1_ = 0
  · replace h := ev_ifp h c1
    refine ev_tin (pc := 1) 0 (tgt := 32) c1 (by decide) dX0_countOf_1 rfl (by decide) ?_
    refine ev_aload_0 (pc := 32) dX0_countOf_32 ?_
    refine gt_X0_50 (pc := 33) rfl dX0_countOf_33 ?_
    exact ev_iret (pc := 36) dX0_countOf_36 rfl rfl (hR _ h)
  · replace h := ev_ifn h c1
    by_cases c2 : x1_ = 1
    · replace h := ev_ifp h c2
      refine ev_tin (pc := 1) 1 (tgt := 37) c2 (by decide) dX0_countOf_1 rfl (by decide) ?_
      refine ev_aload_0 (pc := 37) dX0_countOf_37 ?_
      refine gt_X0_53 (pc := 38) rfl dX0_countOf_38 ?_
      exact ev_iret (pc := 41) dX0_countOf_41 rfl rfl (hR _ h)
    · replace h := ev_ifn h c2
      by_cases c3 : x1_ = 2
      · replace h := ev_ifp h c3
        refine ev_tin (pc := 1) 2 (tgt := 42) c3 (by decide) dX0_countOf_1 rfl (by decide) ?_
        refine ev_aload_0 (pc := 42) dX0_countOf_42 ?_
        refine gt_X0_56 (pc := 43) rfl dX0_countOf_43 ?_
        exact ev_iret (pc := 46) dX0_countOf_46 rfl rfl (hR _ h)
      · replace h := ev_ifn h c3
        by_cases c4 : x1_ = 3
        · replace h := ev_ifp h c4
          refine ev_tin (pc := 1) 3 (tgt := 47) c4 (by decide) dX0_countOf_1 rfl (by decide) ?_
          refine ev_aload_0 (pc := 47) dX0_countOf_47 ?_
          refine gt_X0_59 (pc := 48) rfl dX0_countOf_48 ?_
          exact ev_iret (pc := 51) dX0_countOf_51 rfl rfl (hR _ h)
        · replace h := ev_ifn h c4
          refine ev_tout (pc := 1) 4 (tgt := 52) rfl (by decide) (lt_s (p := fun j => ¬ x1_ = nI j) (lt_s (p := fun j => ¬ x1_ = nI j) (lt_s (p := fun j => ¬ x1_ = nI j) (lt_s (p := fun j => ¬ x1_ = nI j) lt_0 c1) c2) c3) c4) dX0_countOf_1 (by decide) ?_
          refine ev_bipush (pc := 52) (v := (-2)) dX0_countOf_52 (by decide) ?_
          exact ev_iret (pc := 54) dX0_countOf_54 rfl rfl (hR _ h)
theorem c_X0_countOf {G : ev_G} (mF : ev_m) (i0 : Nat) (x1_ : Int32) : ev_CF G K_X0_countOf B_X0_countOf [vr 1 (i0), vi (x1_)] mF (some (vi (s_X0_countOf mF i0 x1_))) mF :=
  ev_Ct_of rfl rfl (Nat.le_of_ble_eq_true rfl) (e_X0_countOf (R := s_X0_countOf mF i0 x1_) (fun x0 q => ⟨by rw [← q], rfl⟩) rfl)
set_option maxRecDepth 20000 in
set_option maxHeartbeats 4000000 in
theorem e_X0_placeFor {G : ev_G} {Q : Option ev_V → ev_M → Prop} {R : Int32} {mF : ev_m} (hR : ∀ x0 : Int32, x0 = R → Q (some (vi x0)) (ev_emb mF)) {i0 : Nat} {x1_ : Int32} {x2_ : Int32} (h : s_X0_placeFor mF i0 x1_ x2_ = R) : ev_E G K_X0_placeFor B_X0_placeFor (0, 0) 0 [some (vr 1 (i0)), some (vi (x1_)), some (vi (x2_)), none, none] [] (ev_emb mF) Q := by
  unfold s_X0_placeFor at h
  refine ev_aload_0 (pc := 0) dX0_placeFor_0 ?_
  refine ev_iload_1 (pc := 1) dX0_placeFor_1 ?_
  refine cl1_X0_62 (pc := 2) rfl dX0_placeFor_2 (by decide) (Nat.le_of_ble_eq_true rfl) (c_X0_countOf mF i0 x1_) ?_
  obtain ⟨x1, hx1, h⟩ := ev_letE h
  refine ev_topi (pc := 5) hx1 ?_
  refine ev_istore_3 (pc := 5) dX0_placeFor_5 (by decide) rfl ?_
  refine ev_iload_1 (pc := 6) dX0_placeFor_6 ?_
  refine ev_iconst (pc := 7) (v := 1) dX0_placeFor_7 rfl ?_
  obtain ⟨x5, hx5, h⟩ := ev_letE h
  have hJ1 : ev_E G K_X0_placeFor B_X0_placeFor (0, 0) 33 [some (vr 1 (i0)), some (vi (x1_)), some (vi (x2_)), some (vi (x1)), none] [vi (x5)] (ev_emb mF) Q := by
    refine ev_istore_4 (pc := 33) dX0_placeFor_33 (by decide) rfl ?_
    refine ev_iload_3 (pc := 35) dX0_placeFor_35 ?_
    refine ev_ifc_ge (pc := 36) (tgt := 42) dX0_placeFor_36 (by decide) (fun c6 => ?_) (fun c6 => ?_)
    · replace h := ev_ifn h c6
      refine ev_iload_2 (pc := 42) dX0_placeFor_42 ?_
      refine ev_iconst (pc := 43) (v := (-1)) dX0_placeFor_43 rfl ?_
      refine ev_icc_ne (pc := 44) (tgt := 60) dX0_placeFor_44 (by decide) (fun c7 => ?_) (fun c7 => ?_)
      · replace h := ev_ifn h c7
        refine ev_iload_2 (pc := 60) dX0_placeFor_60 ?_
        refine ev_ifc_lt (pc := 61) (tgt := 73) dX0_placeFor_61 (by decide) (fun c8 => ?_) (fun c8 => ?_)
        · replace h := ev_ifp h c8
          refine ev_bipush (pc := 73) (v := (-2)) dX0_placeFor_73 (by decide) ?_
          exact ev_iret (pc := 75) dX0_placeFor_75 rfl rfl (hR _ h)
        · replace h := ev_ifn h c8
          refine ev_iload_2 (pc := 64) dX0_placeFor_64 ?_
          refine ev_iload_3 (pc := 65) dX0_placeFor_65 ?_
          refine ev_icc_ge (pc := 66) (tgt := 73) dX0_placeFor_66 (by decide) (fun c9 => ?_) (fun c9 => ?_)
          · replace h := ev_ifn h c9
            refine ev_bipush (pc := 73) (v := (-2)) dX0_placeFor_73 (by decide) ?_
            exact ev_iret (pc := 75) dX0_placeFor_75 rfl rfl (hR _ h)
          · replace h := ev_ifp h c9
            refine ev_iload_2 (pc := 69) dX0_placeFor_69 ?_
            refine ev_goto (pc := 70) (tgt := 75) dX0_placeFor_70 (by decide) ?_
            exact ev_iret (pc := 75) dX0_placeFor_75 rfl rfl (hR _ h)
      · replace h := ev_ifp h c7
        refine ev_iload_3 (pc := 47) dX0_placeFor_47 ?_
        refine ev_iload_4 (pc := 48) dX0_placeFor_48 ?_
        refine ev_icc_ge (pc := 50) (tgt := 57) dX0_placeFor_50 (by decide) (fun c10 => ?_) (fun c10 => ?_)
        · replace h := ev_ifn h c10
          refine ev_bipush (pc := 57) (v := (-2)) dX0_placeFor_57 (by decide) ?_
          exact ev_iret (pc := 59) dX0_placeFor_59 rfl rfl (hR _ h)
        · replace h := ev_ifp h c10
          refine ev_iload_3 (pc := 53) dX0_placeFor_53 ?_
          refine ev_goto (pc := 54) (tgt := 59) dX0_placeFor_54 (by decide) ?_
          exact ev_iret (pc := 59) dX0_placeFor_59 rfl rfl (hR _ h)
    · replace h := ev_ifp h c6
      refine ev_bipush (pc := 39) (v := (-2)) dX0_placeFor_39 (by decide) ?_
      exact ev_iret (pc := 41) dX0_placeFor_41 rfl rfl (hR _ h)
  refine ev_icc_ne (pc := 8) (tgt := 15) dX0_placeFor_8 (by decide) (fun c2 => ?_) (fun c2 => ?_)
  · refine ev_iload_1 (pc := 15) dX0_placeFor_15 ?_
    refine ev_ifc_ne (pc := 16) (tgt := 23) dX0_placeFor_16 (by decide) (fun c3 => ?_) (fun c3 => ?_)
    · refine ev_iload_1 (pc := 23) dX0_placeFor_23 ?_
      refine ev_iconst (pc := 24) (v := 2) dX0_placeFor_24 rfl ?_
      refine ev_icc_ne (pc := 25) (tgt := 32) dX0_placeFor_25 (by decide) (fun c4 => ?_) (fun c4 => ?_)
      · refine ev_iconst (pc := 32) (v := 2) dX0_placeFor_32 rfl ?_
        replace hx5 := (((hx5.trans (if_neg c2)).trans (if_neg c3)).trans (if_neg c4))
        subst hx5
        exact hJ1
      · refine ev_iconst (pc := 28) (v := 2) dX0_placeFor_28 rfl ?_
        refine ev_goto (pc := 29) (tgt := 33) dX0_placeFor_29 (by decide) ?_
        replace hx5 := (((hx5.trans (if_neg c2)).trans (if_neg c3)).trans (if_pos c4))
        subst hx5
        exact hJ1
    · refine ev_iconst (pc := 19) (v := 2) dX0_placeFor_19 rfl ?_
      refine ev_goto (pc := 20) (tgt := 33) dX0_placeFor_20 (by decide) ?_
      replace hx5 := ((hx5.trans (if_neg c2)).trans (if_pos c3))
      subst hx5
      exact hJ1
  · refine ev_iconst (pc := 11) (v := 4) dX0_placeFor_11 rfl ?_
    refine ev_goto (pc := 12) (tgt := 33) dX0_placeFor_12 (by decide) ?_
    replace hx5 := (hx5.trans (if_pos c2))
    subst hx5
    exact hJ1
theorem c_X0_placeFor {G : ev_G} (mF : ev_m) (i0 : Nat) (x1_ : Int32) (x2_ : Int32) : ev_CF G K_X0_placeFor B_X0_placeFor [vr 1 (i0), vi (x1_), vi (x2_)] mF (some (vi (s_X0_placeFor mF i0 x1_ x2_))) mF :=
  ev_Ct_of rfl rfl (Nat.le_of_ble_eq_true rfl) (e_X0_placeFor (R := s_X0_placeFor mF i0 x1_ x2_) (fun x0 q => ⟨by rw [← q], rfl⟩) rfl)
set_option maxRecDepth 20000 in
set_option maxHeartbeats 4000000 in
theorem e_X5_look {G : ev_G} {Q : Option ev_V → ev_M → Prop} {R : Int32} {mF : ev_m} (hR : ∀ x0 : Int32, x0 = R → Q (some (vi x0)) (ev_emb mF)) {i0 : Nat} {x1_ : Int32} (h : s_X5_look mF i0 x1_ = R) : ev_E G K_X5_look B_X5_look (0, 0) 0 [some (vr 3 (i0)), some (vi (x1_))] [] (ev_emb mF) Q := by
  unfold s_X5_look at h
  refine ev_iload_1 (pc := 0) dX5_look_0 ?_
  by_cases c1 : x1_ = 0
  · replace h := ev_ifp h c1
    refine ev_tin (pc := 1) 0 (tgt := 60) c1 (by decide) dX5_look_1 rfl (by decide) ?_
    refine ev_aload_0 (pc := 60) dX5_look_60 ?_
    refine gt_X5_15 (pc := 61) rfl dX5_look_61 ?_
    exact ev_iret (pc := 64) dX5_look_64 rfl rfl (hR _ h)
  · replace h := ev_ifn h c1
    by_cases c2 : x1_ = 1
    · replace h := ev_ifp h c2
      refine ev_tin (pc := 1) 1 (tgt := 65) c2 (by decide) dX5_look_1 rfl (by decide) ?_
      refine ev_aload_0 (pc := 65) dX5_look_65 ?_
      refine gt_X5_19 (pc := 66) rfl dX5_look_66 ?_
      exact ev_iret (pc := 69) dX5_look_69 rfl rfl (hR _ h)
    · replace h := ev_ifn h c2
      by_cases c3 : x1_ = 2
      · replace h := ev_ifp h c3
        refine ev_tin (pc := 1) 2 (tgt := 70) c3 (by decide) dX5_look_1 rfl (by decide) ?_
        refine ev_aload_0 (pc := 70) dX5_look_70 ?_
        refine gt_X5_22 (pc := 71) rfl dX5_look_71 ?_
        exact ev_iret (pc := 74) dX5_look_74 rfl rfl (hR _ h)
      · replace h := ev_ifn h c3
        by_cases c4 : x1_ = 3
        · replace h := ev_ifp h c4
          refine ev_tin (pc := 1) 3 (tgt := 75) c4 (by decide) dX5_look_1 rfl (by decide) ?_
          refine ev_aload_0 (pc := 75) dX5_look_75 ?_
          refine gt_X5_25 (pc := 76) rfl dX5_look_76 ?_
          exact ev_iret (pc := 79) dX5_look_79 rfl rfl (hR _ h)
        · replace h := ev_ifn h c4
          by_cases c5 : x1_ = 4
          · replace h := ev_ifp h c5
            refine ev_tin (pc := 1) 4 (tgt := 80) c5 (by decide) dX5_look_1 rfl (by decide) ?_
            refine ev_aload_0 (pc := 80) dX5_look_80 ?_
            refine gt_X5_28 (pc := 81) rfl dX5_look_81 ?_
            exact ev_iret (pc := 84) dX5_look_84 rfl rfl (hR _ h)
          · replace h := ev_ifn h c5
            by_cases c6 : x1_ = 5
            · replace h := ev_ifp h c6
              refine ev_tin (pc := 1) 5 (tgt := 85) c6 (by decide) dX5_look_1 rfl (by decide) ?_
              refine ev_aload_0 (pc := 85) dX5_look_85 ?_
              refine gt_X5_31 (pc := 86) rfl dX5_look_86 ?_
              exact ev_iret (pc := 89) dX5_look_89 rfl rfl (hR _ h)
            · replace h := ev_ifn h c6
              by_cases c7 : x1_ = 6
              · replace h := ev_ifp h c7
                refine ev_tin (pc := 1) 6 (tgt := 90) c7 (by decide) dX5_look_1 rfl (by decide) ?_
                refine ev_aload_0 (pc := 90) dX5_look_90 ?_
                refine gt_X5_34 (pc := 91) rfl dX5_look_91 ?_
                exact ev_iret (pc := 94) dX5_look_94 rfl rfl (hR _ h)
              · replace h := ev_ifn h c7
                by_cases c8 : x1_ = 7
                · replace h := ev_ifp h c8
                  refine ev_tin (pc := 1) 7 (tgt := 95) c8 (by decide) dX5_look_1 rfl (by decide) ?_
                  refine ev_aload_0 (pc := 95) dX5_look_95 ?_
                  refine gt_X5_37 (pc := 96) rfl dX5_look_96 ?_
                  exact ev_iret (pc := 99) dX5_look_99 rfl rfl (hR _ h)
                · replace h := ev_ifn h c8
                  by_cases c9 : x1_ = 8
                  · replace h := ev_ifp h c9
                    refine ev_tin (pc := 1) 8 (tgt := 100) c9 (by decide) dX5_look_1 rfl (by decide) ?_
                    refine ev_aload_0 (pc := 100) dX5_look_100 ?_
                    refine gt_X5_40 (pc := 101) rfl dX5_look_101 ?_
                    exact ev_iret (pc := 104) dX5_look_104 rfl rfl (hR _ h)
                  · replace h := ev_ifn h c9
                    by_cases c10 : x1_ = 9
                    · replace h := ev_ifp h c10
                      refine ev_tin (pc := 1) 9 (tgt := 105) c10 (by decide) dX5_look_1 rfl (by decide) ?_
                      refine ev_aload_0 (pc := 105) dX5_look_105 ?_
                      refine gt_X5_43 (pc := 106) rfl dX5_look_106 ?_
                      exact ev_iret (pc := 109) dX5_look_109 rfl rfl (hR _ h)
                    · replace h := ev_ifn h c10
                      by_cases c11 : x1_ = 10
                      · replace h := ev_ifp h c11
                        refine ev_tin (pc := 1) 10 (tgt := 110) c11 (by decide) dX5_look_1 rfl (by decide) ?_
                        refine ev_aload_0 (pc := 110) dX5_look_110 ?_
                        refine gt_X5_46 (pc := 111) rfl dX5_look_111 ?_
                        exact ev_iret (pc := 114) dX5_look_114 rfl rfl (hR _ h)
                      · replace h := ev_ifn h c11
                        refine ev_tout (pc := 1) 11 (tgt := 115) rfl (by decide) (lt_s (p := fun j => ¬ x1_ = nI j) (lt_s (p := fun j => ¬ x1_ = nI j) (lt_s (p := fun j => ¬ x1_ = nI j) (lt_s (p := fun j => ¬ x1_ = nI j) (lt_s (p := fun j => ¬ x1_ = nI j) (lt_s (p := fun j => ¬ x1_ = nI j) (lt_s (p := fun j => ¬ x1_ = nI j) (lt_s (p := fun j => ¬ x1_ = nI j) (lt_s (p := fun j => ¬ x1_ = nI j) (lt_s (p := fun j => ¬ x1_ = nI j) (lt_s (p := fun j => ¬ x1_ = nI j) lt_0 c1) c2) c3) c4) c5) c6) c7) c8) c9) c10) c11) dX5_look_1 (by decide) ?_
                        refine ev_iload_1 (pc := 115) dX5_look_115 ?_
                        refine ev_bipush (pc := 116) (v := 20) dX5_look_116 (by decide) ?_
                        refine ev_icc_lt (pc := 118) (tgt := 146) dX5_look_118 (by decide) (fun c12 => ?_) (fun c12 => ?_)
                        · replace h := ev_ifp h c12
                          refine ev_ldc (pc := 146) (v := (-100000)) kc_X5_69 dX5_look_146 ?_
                          exact ev_iret (pc := 148) dX5_look_148 rfl rfl (hR _ h)
                        · replace h := ev_ifn h c12
                          refine ev_iload_1 (pc := 121) dX5_look_121 ?_
                          refine ev_bipush (pc := 122) (v := 20) dX5_look_122 (by decide) ?_
                          refine ev_aload_0 (pc := 124) dX5_look_124 ?_
                          refine gt_X5_46 (pc := 125) rfl dX5_look_125 ?_
                          refine ev_iadd (pc := 128) dX5_look_128 ?_
                          refine ev_icc_ge (pc := 129) (tgt := 146) dX5_look_129 (by decide) (fun c13 => ?_) (fun c13 => ?_)
                          · replace h := ev_ifn h c13
                            refine ev_ldc (pc := 146) (v := (-100000)) kc_X5_69 dX5_look_146 ?_
                            exact ev_iret (pc := 148) dX5_look_148 rfl rfl (hR _ h)
                          · replace h := ev_ifp h c13
                            refine ev_aload_0 (pc := 132) dX5_look_132 ?_
                            refine gt_X5_9 (pc := 133) rfl dX5_look_133 ?_
                            refine ev_iload_1 (pc := 136) dX5_look_136 ?_
                            refine ev_bipush (pc := 137) (v := 20) dX5_look_137 (by decide) ?_
                            refine ev_isub (pc := 139) dX5_look_139 ?_
                            refine cl1_X5_65 (pc := 140) rfl dX5_look_140 (by decide) (Nat.le_of_ble_eq_true rfl) (c_X9_at (r := 12) rfl (by decide)) ?_
                            refine ev_goto (pc := 143) (tgt := 148) dX5_look_143 (by decide) ?_
                            exact ev_iret (pc := 148) dX5_look_148 rfl rfl (hR _ h)
theorem c_X5_look {G : ev_G} (mF : ev_m) (i0 : Nat) (x1_ : Int32) : ev_CF G K_X5_look B_X5_look [vr 3 (i0), vi (x1_)] mF (some (vi (s_X5_look mF i0 x1_))) mF :=
  ev_Ct_of rfl rfl (Nat.le_of_ble_eq_true rfl) (e_X5_look (R := s_X5_look mF i0 x1_) (fun x0 q => ⟨by rw [← q], rfl⟩) rfl)
set_option maxRecDepth 20000 in
set_option maxHeartbeats 4000000 in
theorem e_X5_write {G : ev_G} {Q : Option ev_V → ev_M → Prop} {R : ev_m} {mF : ev_m} (hR : ∀ m0 : ev_m, m0 = R → Q none (ev_emb m0)) {i0 : Nat} {x1_ : Int32} {x2_ : Int32} (h : s_X5_write mF i0 x1_ x2_ = R) : ev_E G K_X5_write B_X5_write (0, 0) 0 [some (vr 3 (i0)), some (vi (x1_)), some (vi (x2_))] [] (ev_emb mF) Q := by
  unfold s_X5_write at h
  refine ev_iload_1 (pc := 0) dX5_write_0 ?_
  by_cases c1 : x1_ = 0
  · replace h := ev_ifp h c1
    refine ev_tin (pc := 1) 0 (tgt := 56) c1 (by decide) dX5_write_1 rfl (by decide) ?_
    refine ev_aload_0 (pc := 56) dX5_write_56 ?_
    refine ev_iload_2 (pc := 57) dX5_write_57 ?_
    obtain ⟨m20, hm20, h⟩ := ev_letE h
    refine pt_X5_15 (pc := 58) rfl dX5_write_58 ?_
    refine ev_mem (pc := 61) hm20 ?_
    refine ev_goto (pc := 61) (tgt := 136) dX5_write_61 (by decide) ?_
    exact ev_vret (pc := 136) dX5_write_136 rfl (hR _ h)
  · replace h := ev_ifn h c1
    by_cases c2 : x1_ = 1
    · replace h := ev_ifp h c2
      refine ev_tin (pc := 1) 1 (tgt := 64) c2 (by decide) dX5_write_1 rfl (by decide) ?_
      refine ev_aload_0 (pc := 64) dX5_write_64 ?_
      refine ev_iload_2 (pc := 65) dX5_write_65 ?_
      obtain ⟨m19, hm19, h⟩ := ev_letE h
      refine pt_X5_19 (pc := 66) rfl dX5_write_66 ?_
      refine ev_mem (pc := 69) hm19 ?_
      refine ev_goto (pc := 69) (tgt := 136) dX5_write_69 (by decide) ?_
      exact ev_vret (pc := 136) dX5_write_136 rfl (hR _ h)
    · replace h := ev_ifn h c2
      by_cases c3 : x1_ = 2
      · replace h := ev_ifp h c3
        refine ev_tin (pc := 1) 2 (tgt := 72) c3 (by decide) dX5_write_1 rfl (by decide) ?_
        refine ev_aload_0 (pc := 72) dX5_write_72 ?_
        refine ev_iload_2 (pc := 73) dX5_write_73 ?_
        obtain ⟨m18, hm18, h⟩ := ev_letE h
        refine pt_X5_22 (pc := 74) rfl dX5_write_74 ?_
        refine ev_mem (pc := 77) hm18 ?_
        refine ev_goto (pc := 77) (tgt := 136) dX5_write_77 (by decide) ?_
        exact ev_vret (pc := 136) dX5_write_136 rfl (hR _ h)
      · replace h := ev_ifn h c3
        by_cases c4 : x1_ = 3
        · replace h := ev_ifp h c4
          refine ev_tin (pc := 1) 3 (tgt := 80) c4 (by decide) dX5_write_1 rfl (by decide) ?_
          refine ev_aload_0 (pc := 80) dX5_write_80 ?_
          refine ev_iload_2 (pc := 81) dX5_write_81 ?_
          obtain ⟨m17, hm17, h⟩ := ev_letE h
          refine pt_X5_25 (pc := 82) rfl dX5_write_82 ?_
          refine ev_mem (pc := 85) hm17 ?_
          refine ev_goto (pc := 85) (tgt := 136) dX5_write_85 (by decide) ?_
          exact ev_vret (pc := 136) dX5_write_136 rfl (hR _ h)
        · replace h := ev_ifn h c4
          by_cases c5 : x1_ = 4
          · replace h := ev_ifp h c5
            refine ev_tin (pc := 1) 4 (tgt := 88) c5 (by decide) dX5_write_1 rfl (by decide) ?_
            refine ev_aload_0 (pc := 88) dX5_write_88 ?_
            refine ev_iload_2 (pc := 89) dX5_write_89 ?_
            obtain ⟨m16, hm16, h⟩ := ev_letE h
            refine pt_X5_28 (pc := 90) rfl dX5_write_90 ?_
            refine ev_mem (pc := 93) hm16 ?_
            refine ev_goto (pc := 93) (tgt := 136) dX5_write_93 (by decide) ?_
            exact ev_vret (pc := 136) dX5_write_136 rfl (hR _ h)
          · replace h := ev_ifn h c5
            by_cases c6 : x1_ = 5
            · replace h := ev_ifp h c6
              refine ev_tin (pc := 1) 5 (tgt := 96) c6 (by decide) dX5_write_1 rfl (by decide) ?_
              refine ev_aload_0 (pc := 96) dX5_write_96 ?_
              refine ev_iload_2 (pc := 97) dX5_write_97 ?_
              obtain ⟨m15, hm15, h⟩ := ev_letE h
              refine pt_X5_31 (pc := 98) rfl dX5_write_98 ?_
              refine ev_mem (pc := 101) hm15 ?_
              refine ev_goto (pc := 101) (tgt := 136) dX5_write_101 (by decide) ?_
              exact ev_vret (pc := 136) dX5_write_136 rfl (hR _ h)
            · replace h := ev_ifn h c6
              by_cases c7 : x1_ = 6
              · replace h := ev_ifp h c7
                refine ev_tin (pc := 1) 6 (tgt := 104) c7 (by decide) dX5_write_1 rfl (by decide) ?_
                refine ev_aload_0 (pc := 104) dX5_write_104 ?_
                refine ev_iload_2 (pc := 105) dX5_write_105 ?_
                obtain ⟨m14, hm14, h⟩ := ev_letE h
                refine pt_X5_34 (pc := 106) rfl dX5_write_106 ?_
                refine ev_mem (pc := 109) hm14 ?_
                refine ev_goto (pc := 109) (tgt := 136) dX5_write_109 (by decide) ?_
                exact ev_vret (pc := 136) dX5_write_136 rfl (hR _ h)
              · replace h := ev_ifn h c7
                by_cases c8 : x1_ = 7
                · replace h := ev_ifp h c8
                  refine ev_tin (pc := 1) 7 (tgt := 112) c8 (by decide) dX5_write_1 rfl (by decide) ?_
                  refine ev_aload_0 (pc := 112) dX5_write_112 ?_
                  refine ev_iload_2 (pc := 113) dX5_write_113 ?_
                  obtain ⟨m13, hm13, h⟩ := ev_letE h
                  refine pt_X5_37 (pc := 114) rfl dX5_write_114 ?_
                  refine ev_mem (pc := 117) hm13 ?_
                  refine ev_goto (pc := 117) (tgt := 136) dX5_write_117 (by decide) ?_
                  exact ev_vret (pc := 136) dX5_write_136 rfl (hR _ h)
                · replace h := ev_ifn h c8
                  by_cases c9 : x1_ = 8
                  · replace h := ev_ifp h c9
                    refine ev_tin (pc := 1) 8 (tgt := 120) c9 (by decide) dX5_write_1 rfl (by decide) ?_
                    refine ev_aload_0 (pc := 120) dX5_write_120 ?_
                    refine ev_iload_2 (pc := 121) dX5_write_121 ?_
                    obtain ⟨m12, hm12, h⟩ := ev_letE h
                    refine pt_X5_40 (pc := 122) rfl dX5_write_122 ?_
                    refine ev_mem (pc := 125) hm12 ?_
                    refine ev_goto (pc := 125) (tgt := 136) dX5_write_125 (by decide) ?_
                    exact ev_vret (pc := 136) dX5_write_136 rfl (hR _ h)
                  · replace h := ev_ifn h c9
                    by_cases c10 : x1_ = 9
                    · replace h := ev_ifp h c10
                      refine ev_tin (pc := 1) 9 (tgt := 128) c10 (by decide) dX5_write_1 rfl (by decide) ?_
                      refine ev_aload_0 (pc := 128) dX5_write_128 ?_
                      refine ev_iload_2 (pc := 129) dX5_write_129 ?_
                      obtain ⟨m11, hm11, h⟩ := ev_letE h
                      refine pt_X5_43 (pc := 130) rfl dX5_write_130 ?_
                      refine ev_mem (pc := 133) hm11 ?_
                      refine ev_goto (pc := 133) (tgt := 136) dX5_write_133 (by decide) ?_
                      exact ev_vret (pc := 136) dX5_write_136 rfl (hR _ h)
                    · replace h := ev_ifn h c10
                      refine ev_tout (pc := 1) 10 (tgt := 136) rfl (by decide) (lt_s (p := fun j => ¬ x1_ = nI j) (lt_s (p := fun j => ¬ x1_ = nI j) (lt_s (p := fun j => ¬ x1_ = nI j) (lt_s (p := fun j => ¬ x1_ = nI j) (lt_s (p := fun j => ¬ x1_ = nI j) (lt_s (p := fun j => ¬ x1_ = nI j) (lt_s (p := fun j => ¬ x1_ = nI j) (lt_s (p := fun j => ¬ x1_ = nI j) (lt_s (p := fun j => ¬ x1_ = nI j) (lt_s (p := fun j => ¬ x1_ = nI j) lt_0 c1) c2) c3) c4) c5) c6) c7) c8) c9) c10) dX5_write_1 (by decide) ?_
                      exact ev_vret (pc := 136) dX5_write_136 rfl (hR _ h)
theorem c_X5_write {G : ev_G} (mF : ev_m) (i0 : Nat) (x1_ : Int32) (x2_ : Int32) : ev_CF G K_X5_write B_X5_write [vr 3 (i0), vi (x1_), vi (x2_)] mF none (s_X5_write mF i0 x1_ x2_) :=
  ev_Ct_of rfl rfl (Nat.le_of_ble_eq_true rfl) (e_X5_write (R := s_X5_write mF i0 x1_ x2_) (fun m0 q => ⟨rfl, by rw [← q]⟩) rfl)
set_option maxRecDepth 20000 in
set_option maxHeartbeats 4000000 in
theorem e_lp_X5_copy_7 {G : ev_G} {Q : Option ev_V → ev_M → Prop} {R : Option (ev_m)} (hR : ∀ m0 : ev_m, (some (m0)) = R → Q none (ev_emb m0)) (hN : none ≠ R) {i2 : Nat} {i3 : Nat} : ∀ (f : Nat) (x4 : Int32) (m5 : ev_m) (kx : ev_m → Option (ev_m)) (h : lp_X5_copy_7 i2 i3 f x4 m5 kx = R) (hk : ∀ (m5' : ev_m), kx m5' = R → ev_E G K_X5_copy B_X5_copy (0, 0) 29 [some (vr 3 (i2)), some (vr 3 (i3)), none] [] (ev_emb m5') Q), ev_E G K_X5_copy B_X5_copy (0, 0) 7 [some (vr 3 (i2)), some (vr 3 (i3)), some (vi (x4))] [] (ev_emb m5) Q := by
  intro f
  induction f with
  | zero => intro x4 m5 kx h hk; rw [lp_X5_copy_7] at h; exact absurd h hN
  | succ f ih =>
    intro x4 m5 kx h hk
    rw [lp_X5_copy_7] at h
    refine ev_iload_2 (pc := 7) dX5_copy_7 ?_
    refine ev_bipush (pc := 8) (v := 9) dX5_copy_8 (by decide) ?_
    refine ev_icc_gt (pc := 10) (tgt := 29) dX5_copy_10 (by decide) (fun c6 => ?_) (fun c6 => ?_)
    · replace h := ev_ifp h c6
      refine ev_E.forget (L' := [some (vr 3 (i2)), some (vr 3 (i3)), none]) ⟨rfl, ⟨rfl, trivial⟩⟩ ?_
      exact hk _  h
    · replace h := ev_ifn h c6
      refine ev_aload_0 (pc := 13) dX5_copy_13 ?_
      refine ev_iload_2 (pc := 14) dX5_copy_14 ?_
      refine ev_aload_1 (pc := 15) dX5_copy_15 ?_
      refine ev_iload_2 (pc := 16) dX5_copy_16 ?_
      refine cl1_X5_53 (pc := 17) rfl dX5_copy_17 (by decide) (Nat.le_of_ble_eq_true rfl) (c_X5_look m5 i3 x4) ?_
      obtain ⟨m7, hm7, h⟩ := ev_letE h
      refine cl0_X5_57 (pc := 20) (fr := 0) (lo := 0) (m' := m7) rfl dX5_copy_20 (by decide) (Nat.le_of_ble_eq_true rfl) (by rw [hm7]; exact c_X5_write m5 i2 x4 (s_X5_look m5 i3 x4)) ?_
      refine ev_iinc_2 (pc := 23) (y := x4 + 1) dX5_copy_23 rfl (by decide) rfl ?_
      refine ev_goto (pc := 26) (tgt := 7) dX5_copy_26 (by decide) ?_
      exact ih _ _ kx h hk
set_option maxRecDepth 20000 in
set_option maxHeartbeats 4000000 in
theorem e_X5_copy {G : ev_G} {Q : Option ev_V → ev_M → Prop} {R : Option (ev_m)} {mF : ev_m} (hR : ∀ m0 : ev_m, (some (m0)) = R → Q none (ev_emb m0)) (hN : none ≠ R) {i0 : Nat} {o1_ : Option Nat} (h : f_X5_copy mF i0 o1_ = R) : ev_E G K_X5_copy B_X5_copy (0, 0) 0 [some (vr 3 (i0)), some (vo 3 (o1_)), none] [] (ev_emb mF) Q := by
  unfold f_X5_copy at h
  refine ev_aload_1 (pc := 0) dX5_copy_0 ?_
  rcases o1_ with _ | j1
  · replace h := ev_onN h
    show ev_E G K_X5_copy B_X5_copy (0, 0) 1 [some (vr 3 (i0)), some (vn), none] [vn] (ev_emb mF) Q
    refine ev_ifnonnull_n (pc := 1) dX5_copy_1 ?_
    exact ev_vret (pc := 4) dX5_copy_4 rfl (hR _ h)
  · replace h := ev_onS h
    show ev_E G K_X5_copy B_X5_copy (0, 0) 1 [some (vr 3 (i0)), some (vr 3 (j1)), none] [vr 3 (j1)] (ev_emb mF) Q
    refine ev_ifnonnull_r (pc := 1) (tgt := 5) dX5_copy_1 (by decide) ?_
    refine ev_iconst (pc := 5) (v := 0) dX5_copy_5 rfl ?_
    refine ev_istore_2 (pc := 6) dX5_copy_6 (by decide) rfl ?_
    refine e_lp_X5_copy_7 hR hN 4000 _ _ _ h (fun m8 h => ?_)
    refine ev_aload_0 (pc := 29) dX5_copy_29 ?_
    refine ev_aload_1 (pc := 30) dX5_copy_30 ?_
    refine gt_X5_46 (pc := 31) rfl dX5_copy_31 ?_
    obtain ⟨m9, hm9, h⟩ := ev_letE h
    refine pt_X5_46 (pc := 34) rfl dX5_copy_34 ?_
    refine ev_mem (pc := 37) hm9 ?_
    refine ev_aload_1 (pc := 37) dX5_copy_37 ?_
    refine gt_X5_9 (pc := 38) rfl dX5_copy_38 ?_
    refine ev_aload_0 (pc := 41) dX5_copy_41 ?_
    refine gt_X5_9 (pc := 42) rfl dX5_copy_42 ?_
    obtain ⟨m10, hm10, h⟩ := ev_letE h
    refine cl0_X5_61 (pc := 45) (fr := 1) (lo := 60) (m' := m10) rfl dX5_copy_45 (by decide) (Nat.le_of_ble_eq_true rfl) (by rw [hm10]; exact c_X9_copyRow (r := 12) rfl (by decide)) ?_
    exact ev_vret (pc := 48) dX5_copy_48 rfl (hR _ h)
theorem c_X5_copy {G : ev_G} {mF : ev_m} {i0 : Nat} {o1_ : Option Nat} {r : ev_m} (h : f_X5_copy mF i0 o1_ = some r) : ev_CF G K_X5_copy B_X5_copy [vr 3 (i0), vo 3 (o1_)] mF none r :=
  ev_Ct_of rfl rfl (Nat.le_of_ble_eq_true rfl) (e_X5_copy (R := some r) (fun m0 q => by cases q; exact ⟨rfl, rfl⟩) (fun q => by cases q) h)
set_option maxRecDepth 20000 in
set_option maxHeartbeats 4000000 in
theorem e_X0_copyShip {G : ev_G} {Q : Option ev_V → ev_M → Prop} {R : Option (ev_m)} {mF : ev_m} (hR : ∀ m0 : ev_m, (some (m0)) = R → Q none (ev_emb m0)) (hN : none ≠ R) {i0 : Nat} {o1_ : Option Nat} {x2_ : Int32} (h : f_X0_copyShip mF i0 o1_ x2_ = R) : ev_E G K_X0_copyShip B_X0_copyShip (0, 0) 0 [some (vr 1 (i0)), some (vo 3 (o1_)), some (vi (x2_)), none] [] (ev_emb mF) Q := by
  unfold f_X0_copyShip at h
  refine ev_aload_0 (pc := 0) dX0_copyShip_0 ?_
  refine ev_iload_2 (pc := 1) dX0_copyShip_1 ?_
  obtain ⟨x1, hx1, h⟩ := ev_bindE hN h
  refine cl1_X0_113 (pc := 2) rfl dX0_copyShip_2 (by decide) (Nat.le_of_ble_eq_true rfl) (c_X0_shipAt hx1) ?_
  refine ev_astore_3 (pc := 5) dX0_copyShip_5 (by decide) rfl ?_
  refine ev_aload_3 (pc := 6) dX0_copyShip_6 ?_
  rcases x1 with _ | j2
  · replace h := ev_onN h
    show ev_E G K_X0_copyShip B_X0_copyShip (0, 0) 7 [some (vr 1 (i0)), some (vo 3 (o1_)), some (vi (x2_)), some (vn)] [vn] (ev_emb mF) Q
    refine ev_ifnull_n (pc := 7) (tgt := 15) dX0_copyShip_7 (by decide) ?_
    exact ev_vret (pc := 15) dX0_copyShip_15 rfl (hR _ h)
  · replace h := ev_onS h
    show ev_E G K_X0_copyShip B_X0_copyShip (0, 0) 7 [some (vr 1 (i0)), some (vo 3 (o1_)), some (vi (x2_)), some (vr 3 (j2))] [vr 3 (j2)] (ev_emb mF) Q
    refine ev_ifnull_r (pc := 7) dX0_copyShip_7 ?_
    refine ev_aload_3 (pc := 10) dX0_copyShip_10 ?_
    refine ev_aload_1 (pc := 11) dX0_copyShip_11 ?_
    obtain ⟨m3, hm3, h⟩ := ev_bindE hN h
    refine cl0_X0_129 (pc := 12) rfl dX0_copyShip_12 (by decide) (Nat.le_of_ble_eq_true rfl) (c_X5_copy hm3) ?_
    exact ev_vret (pc := 15) dX0_copyShip_15 rfl (hR _ h)
theorem c_X0_copyShip {G : ev_G} {mF : ev_m} {i0 : Nat} {o1_ : Option Nat} {x2_ : Int32} {r : ev_m} (h : f_X0_copyShip mF i0 o1_ x2_ = some r) : ev_CF G K_X0_copyShip B_X0_copyShip [vr 1 (i0), vo 3 (o1_), vi (x2_)] mF none r :=
  ev_Ct_of rfl rfl (Nat.le_of_ble_eq_true rfl) (e_X0_copyShip (R := some r) (fun m0 q => by cases q; exact ⟨rfl, rfl⟩) (fun q => by cases q) h)
set_option maxRecDepth 20000 in
set_option maxHeartbeats 4000000 in
theorem e_jn_X1_lookStar_29 {G : ev_G} {Q : Option ev_V → ev_M → Prop} {mF : ev_m} {R : Int32} (hR : ∀ x0 : Int32, x0 = R → Q (some (vi x0)) (ev_emb mF)) {i2 : Nat} {x3 : Int32} (h : jn_X1_lookStar_29 mF i2 x3 = R) : ev_E G K_X1_lookStar B_X1_lookStar (0, 0) 29 [some (vr 4 (i2)), some (vi (x3))] [] (ev_emb mF) Q := by
  unfold jn_X1_lookStar_29 at h
  refine ev_iload_1 (pc := 29) dX1_lookStar_29 ?_
  refine ev_bipush (pc := 30) (v := 20) dX1_lookStar_30 (by decide) ?_
  refine ev_icc_lt (pc := 32) (tgt := 60) dX1_lookStar_32 (by decide) (fun c4 => ?_) (fun c4 => ?_)
  · replace h := ev_ifp h c4
    refine ev_iconst (pc := 60) (v := (-1)) dX1_lookStar_60 rfl ?_
    exact ev_iret (pc := 61) dX1_lookStar_61 rfl rfl (hR _ h)
  · replace h := ev_ifn h c4
    refine ev_iload_1 (pc := 35) dX1_lookStar_35 ?_
    refine ev_bipush (pc := 36) (v := 20) dX1_lookStar_36 (by decide) ?_
    refine ev_aload_0 (pc := 38) dX1_lookStar_38 ?_
    refine gt_X1_26 (pc := 39) rfl dX1_lookStar_39 ?_
    refine ev_iadd (pc := 42) dX1_lookStar_42 ?_
    refine ev_icc_ge (pc := 43) (tgt := 60) dX1_lookStar_43 (by decide) (fun c5 => ?_) (fun c5 => ?_)
    · replace h := ev_ifn h c5
      refine ev_iconst (pc := 60) (v := (-1)) dX1_lookStar_60 rfl ?_
      exact ev_iret (pc := 61) dX1_lookStar_61 rfl rfl (hR _ h)
    · replace h := ev_ifp h c5
      refine ev_aload_0 (pc := 46) dX1_lookStar_46 ?_
      refine gt_X1_15 (pc := 47) rfl dX1_lookStar_47 ?_
      refine ev_iload_1 (pc := 50) dX1_lookStar_50 ?_
      refine ev_bipush (pc := 51) (v := 20) dX1_lookStar_51 (by decide) ?_
      refine ev_isub (pc := 53) dX1_lookStar_53 ?_
      refine cl1_X1_65 (pc := 54) rfl dX1_lookStar_54 (by decide) (Nat.le_of_ble_eq_true rfl) (c_X9_at (r := 14) rfl (by decide)) ?_
      refine ev_goto (pc := 57) (tgt := 61) dX1_lookStar_57 (by decide) ?_
      exact ev_iret (pc := 61) dX1_lookStar_61 rfl rfl (hR _ h)
set_option maxRecDepth 20000 in
set_option maxHeartbeats 4000000 in
theorem e_X1_lookStar {G : ev_G} {Q : Option ev_V → ev_M → Prop} {R : Int32} {mF : ev_m} (hR : ∀ x0 : Int32, x0 = R → Q (some (vi x0)) (ev_emb mF)) {i0 : Nat} {x1_ : Int32} (h : s_X1_lookStar mF i0 x1_ = R) : ev_E G K_X1_lookStar B_X1_lookStar (0, 0) 0 [some (vr 4 (i0)), some (vi (x1_))] [] (ev_emb mF) Q := by
  unfold s_X1_lookStar at h
  refine ev_iload_1 (pc := 0) dX1_lookStar_0 ?_
  refine ev_bipush (pc := 1) (v := 10) dX1_lookStar_1 (by decide) ?_
  refine ev_icc_lt (pc := 3) (tgt := 29) dX1_lookStar_3 (by decide) (fun c1 => ?_) (fun c1 => ?_)
  · replace h := ev_ifp h c1
    exact e_jn_X1_lookStar_29 hR h
  · replace h := ev_ifn h c1
    refine ev_iload_1 (pc := 6) dX1_lookStar_6 ?_
    refine ev_bipush (pc := 7) (v := 10) dX1_lookStar_7 (by decide) ?_
    refine ev_aload_0 (pc := 9) dX1_lookStar_9 ?_
    refine gt_X1_26 (pc := 10) rfl dX1_lookStar_10 ?_
    refine ev_iadd (pc := 13) dX1_lookStar_13 ?_
    refine ev_icc_ge (pc := 14) (tgt := 29) dX1_lookStar_14 (by decide) (fun c6 => ?_) (fun c6 => ?_)
    · replace h := ev_ifn h c6
      exact e_jn_X1_lookStar_29 hR h
    · replace h := ev_ifp h c6
      refine ev_aload_0 (pc := 17) dX1_lookStar_17 ?_
      refine gt_X1_9 (pc := 18) rfl dX1_lookStar_18 ?_
      refine ev_iload_1 (pc := 21) dX1_lookStar_21 ?_
      refine ev_bipush (pc := 22) (v := 10) dX1_lookStar_22 (by decide) ?_
      refine ev_isub (pc := 24) dX1_lookStar_24 ?_
      refine cl1_X1_65 (pc := 25) rfl dX1_lookStar_25 (by decide) (Nat.le_of_ble_eq_true rfl) (c_X9_at (r := 13) rfl (by decide)) ?_
      exact ev_iret (pc := 28) dX1_lookStar_28 rfl rfl (hR _ h)
theorem c_X1_lookStar {G : ev_G} (mF : ev_m) (i0 : Nat) (x1_ : Int32) : ev_CF G K_X1_lookStar B_X1_lookStar [vr 4 (i0), vi (x1_)] mF (some (vi (s_X1_lookStar mF i0 x1_))) mF :=
  ev_Ct_of rfl rfl (Nat.le_of_ble_eq_true rfl) (e_X1_lookStar (R := s_X1_lookStar mF i0 x1_) (fun x0 q => ⟨by rw [← q], rfl⟩) rfl)
set_option maxRecDepth 20000 in
set_option maxHeartbeats 4000000 in
theorem e_X1_look {G : ev_G} {Q : Option ev_V → ev_M → Prop} {R : Int32} {mF : ev_m} (hR : ∀ x0 : Int32, x0 = R → Q (some (vi x0)) (ev_emb mF)) {i0 : Nat} {x1_ : Int32} (h : s_X1_look mF i0 x1_ = R) : ev_E G K_X1_look B_X1_look (0, 0) 0 [some (vr 4 (i0)), some (vi (x1_))] [] (ev_emb mF) Q := by
  unfold s_X1_look at h
  refine ev_iload_1 (pc := 0) dX1_look_0 ?_
  by_cases c1 : x1_ = 0
  · replace h := ev_ifp h c1
    refine ev_tin (pc := 1) 0 (tgt := 56) c1 (by decide) dX1_look_1 rfl (by decide) ?_
    refine ev_aload_0 (pc := 56) dX1_look_56 ?_
    refine gt_X1_37 (pc := 57) rfl dX1_look_57 ?_
    exact ev_iret (pc := 60) dX1_look_60 rfl rfl (hR _ h)
  · replace h := ev_ifn h c1
    by_cases c2 : x1_ = 1
    · replace h := ev_ifp h c2
      refine ev_tin (pc := 1) 1 (tgt := 61) c2 (by decide) dX1_look_1 rfl (by decide) ?_
      refine ev_aload_0 (pc := 61) dX1_look_61 ?_
      refine gt_X1_40 (pc := 62) rfl dX1_look_62 ?_
      exact ev_iret (pc := 65) dX1_look_65 rfl rfl (hR _ h)
    · replace h := ev_ifn h c2
      by_cases c3 : x1_ = 2
      · replace h := ev_ifp h c3
        refine ev_tin (pc := 1) 2 (tgt := 66) c3 (by decide) dX1_look_1 rfl (by decide) ?_
        refine ev_aload_0 (pc := 66) dX1_look_66 ?_
        refine gt_X1_43 (pc := 67) rfl dX1_look_67 ?_
        exact ev_iret (pc := 70) dX1_look_70 rfl rfl (hR _ h)
      · replace h := ev_ifn h c3
        by_cases c4 : x1_ = 3
        · replace h := ev_ifp h c4
          refine ev_tin (pc := 1) 3 (tgt := 71) c4 (by decide) dX1_look_1 rfl (by decide) ?_
          refine ev_aload_0 (pc := 71) dX1_look_71 ?_
          refine gt_X1_46 (pc := 72) rfl dX1_look_72 ?_
          exact ev_iret (pc := 75) dX1_look_75 rfl rfl (hR _ h)
        · replace h := ev_ifn h c4
          by_cases c5 : x1_ = 4
          · replace h := ev_ifp h c5
            refine ev_tin (pc := 1) 4 (tgt := 76) c5 (by decide) dX1_look_1 rfl (by decide) ?_
            refine ev_aload_0 (pc := 76) dX1_look_76 ?_
            refine gt_X1_22 (pc := 77) rfl dX1_look_77 ?_
            exact ev_iret (pc := 80) dX1_look_80 rfl rfl (hR _ h)
          · replace h := ev_ifn h c5
            by_cases c6 : x1_ = 5
            · replace h := ev_ifp h c6
              refine ev_tin (pc := 1) 5 (tgt := 81) c6 (by decide) dX1_look_1 rfl (by decide) ?_
              refine ev_aload_0 (pc := 81) dX1_look_81 ?_
              refine gt_X1_49 (pc := 82) rfl dX1_look_82 ?_
              exact ev_iret (pc := 85) dX1_look_85 rfl rfl (hR _ h)
            · replace h := ev_ifn h c6
              by_cases c7 : x1_ = 6
              · replace h := ev_ifp h c7
                refine ev_tin (pc := 1) 6 (tgt := 86) c7 (by decide) dX1_look_1 rfl (by decide) ?_
                refine ev_aload_0 (pc := 86) dX1_look_86 ?_
                refine gt_X1_52 (pc := 87) rfl dX1_look_87 ?_
                exact ev_iret (pc := 90) dX1_look_90 rfl rfl (hR _ h)
              · replace h := ev_ifn h c7
                by_cases c8 : x1_ = 7
                · replace h := ev_ifp h c8
                  refine ev_tin (pc := 1) 7 (tgt := 91) c8 (by decide) dX1_look_1 rfl (by decide) ?_
                  refine ev_aload_0 (pc := 91) dX1_look_91 ?_
                  refine gt_X1_55 (pc := 92) rfl dX1_look_92 ?_
                  exact ev_iret (pc := 95) dX1_look_95 rfl rfl (hR _ h)
                · replace h := ev_ifn h c8
                  by_cases c9 : x1_ = 8
                  · replace h := ev_ifp h c9
                    refine ev_tin (pc := 1) 8 (tgt := 96) c9 (by decide) dX1_look_1 rfl (by decide) ?_
                    refine ev_aload_0 (pc := 96) dX1_look_96 ?_
                    refine gt_X1_58 (pc := 97) rfl dX1_look_97 ?_
                    refine ev_ifc_eq (pc := 100) (tgt := 107) dX1_look_100 (by decide) (fun c11 => ?_) (fun c11 => ?_)
                    · replace h := ev_ifp h c11
                      refine ev_iconst (pc := 107) (v := 0) dX1_look_107 rfl ?_
                      exact ev_iret (pc := 108) dX1_look_108 rfl rfl (hR _ h)
                    · replace h := ev_ifn h c11
                      refine ev_iconst (pc := 103) (v := 1) dX1_look_103 rfl ?_
                      refine ev_goto (pc := 104) (tgt := 108) dX1_look_104 (by decide) ?_
                      exact ev_iret (pc := 108) dX1_look_108 rfl rfl (hR _ h)
                  · replace h := ev_ifn h c9
                    by_cases c10 : x1_ = 9
                    · replace h := ev_ifp h c10
                      refine ev_tin (pc := 1) 9 (tgt := 109) c10 (by decide) dX1_look_1 rfl (by decide) ?_
                      refine ev_aload_0 (pc := 109) dX1_look_109 ?_
                      refine gt_X1_26 (pc := 110) rfl dX1_look_110 ?_
                      exact ev_iret (pc := 113) dX1_look_113 rfl rfl (hR _ h)
                    · replace h := ev_ifn h c10
                      refine ev_tout (pc := 1) 10 (tgt := 114) rfl (by decide) (lt_s (p := fun j => ¬ x1_ = nI j) (lt_s (p := fun j => ¬ x1_ = nI j) (lt_s (p := fun j => ¬ x1_ = nI j) (lt_s (p := fun j => ¬ x1_ = nI j) (lt_s (p := fun j => ¬ x1_ = nI j) (lt_s (p := fun j => ¬ x1_ = nI j) (lt_s (p := fun j => ¬ x1_ = nI j) (lt_s (p := fun j => ¬ x1_ = nI j) (lt_s (p := fun j => ¬ x1_ = nI j) (lt_s (p := fun j => ¬ x1_ = nI j) lt_0 c1) c2) c3) c4) c5) c6) c7) c8) c9) c10) dX1_look_1 (by decide) ?_
                      refine ev_aload_0 (pc := 114) dX1_look_114 ?_
                      refine ev_iload_1 (pc := 115) dX1_look_115 ?_
                      refine cl1_X1_62 (pc := 116) rfl dX1_look_116 (by decide) (Nat.le_of_ble_eq_true rfl) (c_X1_lookStar mF i0 x1_) ?_
                      exact ev_iret (pc := 119) dX1_look_119 rfl rfl (hR _ h)
theorem c_X1_look {G : ev_G} (mF : ev_m) (i0 : Nat) (x1_ : Int32) : ev_CF G K_X1_look B_X1_look [vr 4 (i0), vi (x1_)] mF (some (vi (s_X1_look mF i0 x1_))) mF :=
  ev_Ct_of rfl rfl (Nat.le_of_ble_eq_true rfl) (e_X1_look (R := s_X1_look mF i0 x1_) (fun x0 q => ⟨by rw [← q], rfl⟩) rfl)
set_option maxRecDepth 20000 in
set_option maxHeartbeats 4000000 in
theorem e_X1_write {G : ev_G} {Q : Option ev_V → ev_M → Prop} {R : ev_m} {mF : ev_m} (hR : ∀ m0 : ev_m, m0 = R → Q none (ev_emb m0)) {i0 : Nat} {x1_ : Int32} {x2_ : Int32} (h : s_X1_write mF i0 x1_ x2_ = R) : ev_E G K_X1_write B_X1_write (0, 0) 0 [some (vr 4 (i0)), some (vi (x1_)), some (vi (x2_))] [] (ev_emb mF) Q := by
  unfold s_X1_write at h
  refine ev_iload_1 (pc := 0) dX1_write_0 ?_
  by_cases c1 : x1_ = 0
  · replace h := ev_ifp h c1
    refine ev_tin (pc := 1) 0 (tgt := 52) c1 (by decide) dX1_write_1 rfl (by decide) ?_
    refine ev_aload_0 (pc := 52) dX1_write_52 ?_
    refine ev_iload_2 (pc := 53) dX1_write_53 ?_
    obtain ⟨m20, hm20, h⟩ := ev_letE h
    refine pt_X1_37 (pc := 54) rfl dX1_write_54 ?_
    refine ev_mem (pc := 57) hm20 ?_
    refine ev_goto (pc := 57) (tgt := 132) dX1_write_57 (by decide) ?_
    exact ev_vret (pc := 132) dX1_write_132 rfl (hR _ h)
  · replace h := ev_ifn h c1
    by_cases c2 : x1_ = 1
    · replace h := ev_ifp h c2
      refine ev_tin (pc := 1) 1 (tgt := 60) c2 (by decide) dX1_write_1 rfl (by decide) ?_
      refine ev_aload_0 (pc := 60) dX1_write_60 ?_
      refine ev_iload_2 (pc := 61) dX1_write_61 ?_
      obtain ⟨m19, hm19, h⟩ := ev_letE h
      refine pt_X1_40 (pc := 62) rfl dX1_write_62 ?_
      refine ev_mem (pc := 65) hm19 ?_
      refine ev_goto (pc := 65) (tgt := 132) dX1_write_65 (by decide) ?_
      exact ev_vret (pc := 132) dX1_write_132 rfl (hR _ h)
    · replace h := ev_ifn h c2
      by_cases c3 : x1_ = 2
      · replace h := ev_ifp h c3
        refine ev_tin (pc := 1) 2 (tgt := 68) c3 (by decide) dX1_write_1 rfl (by decide) ?_
        refine ev_aload_0 (pc := 68) dX1_write_68 ?_
        refine ev_iload_2 (pc := 69) dX1_write_69 ?_
        obtain ⟨m18, hm18, h⟩ := ev_letE h
        refine pt_X1_43 (pc := 70) rfl dX1_write_70 ?_
        refine ev_mem (pc := 73) hm18 ?_
        refine ev_goto (pc := 73) (tgt := 132) dX1_write_73 (by decide) ?_
        exact ev_vret (pc := 132) dX1_write_132 rfl (hR _ h)
      · replace h := ev_ifn h c3
        by_cases c4 : x1_ = 3
        · replace h := ev_ifp h c4
          refine ev_tin (pc := 1) 3 (tgt := 76) c4 (by decide) dX1_write_1 rfl (by decide) ?_
          refine ev_aload_0 (pc := 76) dX1_write_76 ?_
          refine ev_iload_2 (pc := 77) dX1_write_77 ?_
          obtain ⟨m17, hm17, h⟩ := ev_letE h
          refine pt_X1_46 (pc := 78) rfl dX1_write_78 ?_
          refine ev_mem (pc := 81) hm17 ?_
          refine ev_goto (pc := 81) (tgt := 132) dX1_write_81 (by decide) ?_
          exact ev_vret (pc := 132) dX1_write_132 rfl (hR _ h)
        · replace h := ev_ifn h c4
          by_cases c5 : x1_ = 4
          · replace h := ev_ifp h c5
            refine ev_tin (pc := 1) 4 (tgt := 84) c5 (by decide) dX1_write_1 rfl (by decide) ?_
            refine ev_aload_0 (pc := 84) dX1_write_84 ?_
            refine ev_iload_2 (pc := 85) dX1_write_85 ?_
            obtain ⟨m16, hm16, h⟩ := ev_letE h
            refine pt_X1_22 (pc := 86) rfl dX1_write_86 ?_
            refine ev_mem (pc := 89) hm16 ?_
            refine ev_goto (pc := 89) (tgt := 132) dX1_write_89 (by decide) ?_
            exact ev_vret (pc := 132) dX1_write_132 rfl (hR _ h)
          · replace h := ev_ifn h c5
            by_cases c6 : x1_ = 5
            · replace h := ev_ifp h c6
              refine ev_tin (pc := 1) 5 (tgt := 92) c6 (by decide) dX1_write_1 rfl (by decide) ?_
              refine ev_aload_0 (pc := 92) dX1_write_92 ?_
              refine ev_iload_2 (pc := 93) dX1_write_93 ?_
              obtain ⟨m15, hm15, h⟩ := ev_letE h
              refine pt_X1_49 (pc := 94) rfl dX1_write_94 ?_
              refine ev_mem (pc := 97) hm15 ?_
              refine ev_goto (pc := 97) (tgt := 132) dX1_write_97 (by decide) ?_
              exact ev_vret (pc := 132) dX1_write_132 rfl (hR _ h)
            · replace h := ev_ifn h c6
              by_cases c7 : x1_ = 6
              · replace h := ev_ifp h c7
                refine ev_tin (pc := 1) 6 (tgt := 100) c7 (by decide) dX1_write_1 rfl (by decide) ?_
                refine ev_aload_0 (pc := 100) dX1_write_100 ?_
                refine ev_iload_2 (pc := 101) dX1_write_101 ?_
                obtain ⟨m14, hm14, h⟩ := ev_letE h
                refine pt_X1_52 (pc := 102) rfl dX1_write_102 ?_
                refine ev_mem (pc := 105) hm14 ?_
                refine ev_goto (pc := 105) (tgt := 132) dX1_write_105 (by decide) ?_
                exact ev_vret (pc := 132) dX1_write_132 rfl (hR _ h)
              · replace h := ev_ifn h c7
                by_cases c8 : x1_ = 7
                · replace h := ev_ifp h c8
                  refine ev_tin (pc := 1) 7 (tgt := 108) c8 (by decide) dX1_write_1 rfl (by decide) ?_
                  refine ev_aload_0 (pc := 108) dX1_write_108 ?_
                  refine ev_iload_2 (pc := 109) dX1_write_109 ?_
                  obtain ⟨m13, hm13, h⟩ := ev_letE h
                  refine pt_X1_55 (pc := 110) rfl dX1_write_110 ?_
                  refine ev_mem (pc := 113) hm13 ?_
                  refine ev_goto (pc := 113) (tgt := 132) dX1_write_113 (by decide) ?_
                  exact ev_vret (pc := 132) dX1_write_132 rfl (hR _ h)
                · replace h := ev_ifn h c8
                  by_cases c9 : x1_ = 8
                  · replace h := ev_ifp h c9
                    refine ev_tin (pc := 1) 8 (tgt := 116) c9 (by decide) dX1_write_1 rfl (by decide) ?_
                    refine ev_aload_0 (pc := 116) dX1_write_116 ?_
                    refine ev_iload_2 (pc := 117) dX1_write_117 ?_
                    obtain ⟨x11, hx11, h⟩ := ev_letE h
                    have hJ1 : ev_E G K_X1_write B_X1_write (0, 0) 126 [some (vr 4 (i0)), some (vi (x1_)), some (vi (x2_))] [vi (x11), vr 4 (i0)] (ev_emb mF) Q := by
                      obtain ⟨m12, hm12, h⟩ := ev_letE h
                      refine pt_X1_58 (pc := 126) rfl (by rw [hx11]; (repeat split) <;> rfl) (by rw [hx11]; (repeat split) <;> rfl) dX1_write_126 ?_
                      refine ev_mem (pc := 129) hm12 ?_
                      refine ev_goto (pc := 129) (tgt := 132) dX1_write_129 (by decide) ?_
                      exact ev_vret (pc := 132) dX1_write_132 rfl (hR _ h)
                    refine ev_ifc_eq (pc := 118) (tgt := 125) dX1_write_118 (by decide) (fun c10 => ?_) (fun c10 => ?_)
                    · refine ev_iconst (pc := 125) (v := 0) dX1_write_125 rfl ?_
                      replace hx11 := (hx11.trans (if_pos c10))
                      subst hx11
                      exact hJ1
                    · refine ev_iconst (pc := 121) (v := 1) dX1_write_121 rfl ?_
                      refine ev_goto (pc := 122) (tgt := 126) dX1_write_122 (by decide) ?_
                      replace hx11 := (hx11.trans (if_neg c10))
                      subst hx11
                      exact hJ1
                  · replace h := ev_ifn h c9
                    refine ev_tout (pc := 1) 9 (tgt := 132) rfl (by decide) (lt_s (p := fun j => ¬ x1_ = nI j) (lt_s (p := fun j => ¬ x1_ = nI j) (lt_s (p := fun j => ¬ x1_ = nI j) (lt_s (p := fun j => ¬ x1_ = nI j) (lt_s (p := fun j => ¬ x1_ = nI j) (lt_s (p := fun j => ¬ x1_ = nI j) (lt_s (p := fun j => ¬ x1_ = nI j) (lt_s (p := fun j => ¬ x1_ = nI j) (lt_s (p := fun j => ¬ x1_ = nI j) lt_0 c1) c2) c3) c4) c5) c6) c7) c8) c9) dX1_write_1 (by decide) ?_
                    exact ev_vret (pc := 132) dX1_write_132 rfl (hR _ h)
theorem c_X1_write {G : ev_G} (mF : ev_m) (i0 : Nat) (x1_ : Int32) (x2_ : Int32) : ev_CF G K_X1_write B_X1_write [vr 4 (i0), vi (x1_), vi (x2_)] mF none (s_X1_write mF i0 x1_ x2_) :=
  ev_Ct_of rfl rfl (Nat.le_of_ble_eq_true rfl) (e_X1_write (R := s_X1_write mF i0 x1_ x2_) (fun m0 q => ⟨rfl, by rw [← q]⟩) rfl)
set_option maxRecDepth 20000 in
set_option maxHeartbeats 4000000 in
theorem e_lp_X1_copy_7 {G : ev_G} {Q : Option ev_V → ev_M → Prop} {R : Option (ev_m)} (hR : ∀ m0 : ev_m, (some (m0)) = R → Q none (ev_emb m0)) (hN : none ≠ R) {i2 : Nat} {i3 : Nat} : ∀ (f : Nat) (x4 : Int32) (m5 : ev_m) (kx : ev_m → Option (ev_m)) (h : lp_X1_copy_7 i2 i3 f x4 m5 kx = R) (hk : ∀ (m5' : ev_m), kx m5' = R → ev_E G K_X1_copy B_X1_copy (0, 0) 29 [some (vr 4 (i2)), some (vr 4 (i3)), none] [] (ev_emb m5') Q), ev_E G K_X1_copy B_X1_copy (0, 0) 7 [some (vr 4 (i2)), some (vr 4 (i3)), some (vi (x4))] [] (ev_emb m5) Q := by
  intro f
  induction f with
  | zero => intro x4 m5 kx h hk; rw [lp_X1_copy_7] at h; exact absurd h hN
  | succ f ih =>
    intro x4 m5 kx h hk
    rw [lp_X1_copy_7] at h
    refine ev_iload_2 (pc := 7) dX1_copy_7 ?_
    refine ev_bipush (pc := 8) (v := 8) dX1_copy_8 (by decide) ?_
    refine ev_icc_gt (pc := 10) (tgt := 29) dX1_copy_10 (by decide) (fun c6 => ?_) (fun c6 => ?_)
    · replace h := ev_ifp h c6
      refine ev_E.forget (L' := [some (vr 4 (i2)), some (vr 4 (i3)), none]) ⟨rfl, ⟨rfl, trivial⟩⟩ ?_
      exact hk _  h
    · replace h := ev_ifn h c6
      refine ev_aload_0 (pc := 13) dX1_copy_13 ?_
      refine ev_iload_2 (pc := 14) dX1_copy_14 ?_
      refine ev_aload_1 (pc := 15) dX1_copy_15 ?_
      refine ev_iload_2 (pc := 16) dX1_copy_16 ?_
      refine cl1_X1_29 (pc := 17) rfl dX1_copy_17 (by decide) (Nat.le_of_ble_eq_true rfl) (c_X1_look m5 i3 x4) ?_
      obtain ⟨m7, hm7, h⟩ := ev_letE h
      refine cl0_X1_18 (pc := 20) (fr := 0) (lo := 0) (m' := m7) rfl dX1_copy_20 (by decide) (Nat.le_of_ble_eq_true rfl) (by rw [hm7]; exact c_X1_write m5 i2 x4 (s_X1_look m5 i3 x4)) ?_
      refine ev_iinc_2 (pc := 23) (y := x4 + 1) dX1_copy_23 rfl (by decide) rfl ?_
      refine ev_goto (pc := 26) (tgt := 7) dX1_copy_26 (by decide) ?_
      exact ih _ _ kx h hk
set_option maxRecDepth 20000 in
set_option maxHeartbeats 4000000 in
theorem e_X1_copy {G : ev_G} {Q : Option ev_V → ev_M → Prop} {R : Option (ev_m)} {mF : ev_m} (hR : ∀ m0 : ev_m, (some (m0)) = R → Q none (ev_emb m0)) (hN : none ≠ R) {i0 : Nat} {o1_ : Option Nat} (h : f_X1_copy mF i0 o1_ = R) : ev_E G K_X1_copy B_X1_copy (0, 0) 0 [some (vr 4 (i0)), some (vo 4 (o1_)), none] [] (ev_emb mF) Q := by
  unfold f_X1_copy at h
  refine ev_aload_1 (pc := 0) dX1_copy_0 ?_
  rcases o1_ with _ | j1
  · replace h := ev_onN h
    show ev_E G K_X1_copy B_X1_copy (0, 0) 1 [some (vr 4 (i0)), some (vn), none] [vn] (ev_emb mF) Q
    refine ev_ifnonnull_n (pc := 1) dX1_copy_1 ?_
    exact ev_vret (pc := 4) dX1_copy_4 rfl (hR _ h)
  · replace h := ev_onS h
    show ev_E G K_X1_copy B_X1_copy (0, 0) 1 [some (vr 4 (i0)), some (vr 4 (j1)), none] [vr 4 (j1)] (ev_emb mF) Q
    refine ev_ifnonnull_r (pc := 1) (tgt := 5) dX1_copy_1 (by decide) ?_
    refine ev_iconst (pc := 5) (v := 0) dX1_copy_5 rfl ?_
    refine ev_istore_2 (pc := 6) dX1_copy_6 (by decide) rfl ?_
    refine e_lp_X1_copy_7 hR hN 4000 _ _ _ h (fun m8 h => ?_)
    refine ev_aload_0 (pc := 29) dX1_copy_29 ?_
    refine ev_aload_1 (pc := 30) dX1_copy_30 ?_
    refine gt_X1_26 (pc := 31) rfl dX1_copy_31 ?_
    obtain ⟨m9, hm9, h⟩ := ev_letE h
    refine pt_X1_26 (pc := 34) rfl dX1_copy_34 ?_
    refine ev_mem (pc := 37) hm9 ?_
    refine ev_aload_1 (pc := 37) dX1_copy_37 ?_
    refine gt_X1_9 (pc := 38) rfl dX1_copy_38 ?_
    refine ev_aload_0 (pc := 41) dX1_copy_41 ?_
    refine gt_X1_9 (pc := 42) rfl dX1_copy_42 ?_
    obtain ⟨m10, hm10, h⟩ := ev_letE h
    refine cl0_X1_33 (pc := 45) (fr := 1) (lo := 60) (m' := m10) rfl dX1_copy_45 (by decide) (Nat.le_of_ble_eq_true rfl) (by rw [hm10]; exact c_X9_copyRow (r := 13) rfl (by decide)) ?_
    refine ev_aload_1 (pc := 48) dX1_copy_48 ?_
    refine gt_X1_15 (pc := 49) rfl dX1_copy_49 ?_
    refine ev_aload_0 (pc := 52) dX1_copy_52 ?_
    refine gt_X1_15 (pc := 53) rfl dX1_copy_53 ?_
    obtain ⟨m11, hm11, h⟩ := ev_letE h
    refine cl0_X1_33 (pc := 56) (fr := 1) (lo := 60) (m' := m11) rfl dX1_copy_56 (by decide) (Nat.le_of_ble_eq_true rfl) (by rw [hm11]; exact c_X9_copyRow (r := 14) rfl (by decide)) ?_
    exact ev_vret (pc := 59) dX1_copy_59 rfl (hR _ h)
theorem c_X1_copy {G : ev_G} {mF : ev_m} {i0 : Nat} {o1_ : Option Nat} {r : ev_m} (h : f_X1_copy mF i0 o1_ = some r) : ev_CF G K_X1_copy B_X1_copy [vr 4 (i0), vo 4 (o1_)] mF none r :=
  ev_Ct_of rfl rfl (Nat.le_of_ble_eq_true rfl) (e_X1_copy (R := some r) (fun m0 q => by cases q; exact ⟨rfl, rfl⟩) (fun q => by cases q) h)
set_option maxRecDepth 20000 in
set_option maxHeartbeats 4000000 in
theorem e_X0_copyHand {G : ev_G} {Q : Option ev_V → ev_M → Prop} {R : Option (ev_m)} {mF : ev_m} (hR : ∀ m0 : ev_m, (some (m0)) = R → Q none (ev_emb m0)) (hN : none ≠ R) {i0 : Nat} {o1_ : Option Nat} {x2_ : Int32} (h : f_X0_copyHand mF i0 o1_ x2_ = R) : ev_E G K_X0_copyHand B_X0_copyHand (0, 0) 0 [some (vr 1 (i0)), some (vo 4 (o1_)), some (vi (x2_)), none] [] (ev_emb mF) Q := by
  unfold f_X0_copyHand at h
  refine ev_aload_0 (pc := 0) dX0_copyHand_0 ?_
  refine ev_iload_2 (pc := 1) dX0_copyHand_1 ?_
  obtain ⟨x1, hx1, h⟩ := ev_bindE hN h
  refine cl1_X0_117 (pc := 2) rfl dX0_copyHand_2 (by decide) (Nat.le_of_ble_eq_true rfl) (c_X0_handAt hx1) ?_
  refine ev_astore_3 (pc := 5) dX0_copyHand_5 (by decide) rfl ?_
  refine ev_aload_3 (pc := 6) dX0_copyHand_6 ?_
  rcases x1 with _ | j2
  · replace h := ev_onN h
    show ev_E G K_X0_copyHand B_X0_copyHand (0, 0) 7 [some (vr 1 (i0)), some (vo 4 (o1_)), some (vi (x2_)), some (vn)] [vn] (ev_emb mF) Q
    refine ev_ifnull_n (pc := 7) (tgt := 15) dX0_copyHand_7 (by decide) ?_
    exact ev_vret (pc := 15) dX0_copyHand_15 rfl (hR _ h)
  · replace h := ev_onS h
    show ev_E G K_X0_copyHand B_X0_copyHand (0, 0) 7 [some (vr 1 (i0)), some (vo 4 (o1_)), some (vi (x2_)), some (vr 4 (j2))] [vr 4 (j2)] (ev_emb mF) Q
    refine ev_ifnull_r (pc := 7) dX0_copyHand_7 ?_
    refine ev_aload_3 (pc := 10) dX0_copyHand_10 ?_
    refine ev_aload_1 (pc := 11) dX0_copyHand_11 ?_
    obtain ⟨m3, hm3, h⟩ := ev_bindE hN h
    refine cl0_X0_132 (pc := 12) rfl dX0_copyHand_12 (by decide) (Nat.le_of_ble_eq_true rfl) (c_X1_copy hm3) ?_
    exact ev_vret (pc := 15) dX0_copyHand_15 rfl (hR _ h)
theorem c_X0_copyHand {G : ev_G} {mF : ev_m} {i0 : Nat} {o1_ : Option Nat} {x2_ : Int32} {r : ev_m} (h : f_X0_copyHand mF i0 o1_ x2_ = some r) : ev_CF G K_X0_copyHand B_X0_copyHand [vr 1 (i0), vo 4 (o1_), vi (x2_)] mF none r :=
  ev_Ct_of rfl rfl (Nat.le_of_ble_eq_true rfl) (e_X0_copyHand (R := some r) (fun m0 q => by cases q; exact ⟨rfl, rfl⟩) (fun q => by cases q) h)
set_option maxRecDepth 20000 in
set_option maxHeartbeats 4000000 in
theorem e_X3_copy {G : ev_G} {Q : Option ev_V → ev_M → Prop} {R : ev_m} {mF : ev_m} (hR : ∀ m0 : ev_m, m0 = R → Q none (ev_emb m0)) {i0 : Nat} {o1_ : Option Nat} (h : s_X3_copy mF i0 o1_ = R) : ev_E G K_X3_copy B_X3_copy (0, 0) 0 [some (vr 5 (i0)), some (vo 5 (o1_))] [] (ev_emb mF) Q := by
  unfold s_X3_copy at h
  refine ev_aload_1 (pc := 0) dX3_copy_0 ?_
  rcases o1_ with _ | j1
  · replace h := ev_onN h
    show ev_E G K_X3_copy B_X3_copy (0, 0) 1 [some (vr 5 (i0)), some (vn)] [vn] (ev_emb mF) Q
    refine ev_ifnull_n (pc := 1) (tgt := 23) dX3_copy_1 (by decide) ?_
    exact ev_vret (pc := 23) dX3_copy_23 rfl (hR _ h)
  · replace h := ev_onS h
    show ev_E G K_X3_copy B_X3_copy (0, 0) 1 [some (vr 5 (i0)), some (vr 5 (j1))] [vr 5 (j1)] (ev_emb mF) Q
    refine ev_ifnull_r (pc := 1) dX3_copy_1 ?_
    refine ev_aload_0 (pc := 4) dX3_copy_4 ?_
    refine ev_aload_1 (pc := 5) dX3_copy_5 ?_
    refine gt_X3_15 (pc := 6) rfl dX3_copy_6 ?_
    obtain ⟨m2, hm2, h⟩ := ev_letE h
    refine pt_X3_15 (pc := 9) rfl dX3_copy_9 ?_
    refine ev_mem (pc := 12) hm2 ?_
    refine ev_aload_1 (pc := 12) dX3_copy_12 ?_
    refine gt_X3_9 (pc := 13) rfl dX3_copy_13 ?_
    refine ev_aload_0 (pc := 16) dX3_copy_16 ?_
    refine gt_X3_9 (pc := 17) rfl dX3_copy_17 ?_
    obtain ⟨m3, hm3, h⟩ := ev_letE h
    refine cl0_X3_19 (pc := 20) (fr := 1) (lo := 60) (m' := m3) rfl dX3_copy_20 (by decide) (Nat.le_of_ble_eq_true rfl) (by rw [hm3]; exact c_X9_copyRow (r := 15) rfl (by decide)) ?_
    exact ev_vret (pc := 23) dX3_copy_23 rfl (hR _ h)
theorem c_X3_copy {G : ev_G} (mF : ev_m) (i0 : Nat) (o1_ : Option Nat) : ev_CF G K_X3_copy B_X3_copy [vr 5 (i0), vo 5 (o1_)] mF none (s_X3_copy mF i0 o1_) :=
  ev_Ct_of rfl rfl (Nat.le_of_ble_eq_true rfl) (e_X3_copy (R := s_X3_copy mF i0 o1_) (fun m0 q => ⟨rfl, by rw [← q]⟩) rfl)
set_option maxRecDepth 20000 in
set_option maxHeartbeats 4000000 in
theorem e_X0_copyPaper {G : ev_G} {Q : Option ev_V → ev_M → Prop} {R : Option (ev_m)} {mF : ev_m} (hR : ∀ m0 : ev_m, (some (m0)) = R → Q none (ev_emb m0)) (hN : none ≠ R) {i0 : Nat} {o1_ : Option Nat} {x2_ : Int32} (h : f_X0_copyPaper mF i0 o1_ x2_ = R) : ev_E G K_X0_copyPaper B_X0_copyPaper (0, 0) 0 [some (vr 1 (i0)), some (vo 5 (o1_)), some (vi (x2_)), none] [] (ev_emb mF) Q := by
  unfold f_X0_copyPaper at h
  refine ev_aload_0 (pc := 0) dX0_copyPaper_0 ?_
  refine ev_iload_2 (pc := 1) dX0_copyPaper_1 ?_
  obtain ⟨x1, hx1, h⟩ := ev_bindE hN h
  refine cl1_X0_121 (pc := 2) rfl dX0_copyPaper_2 (by decide) (Nat.le_of_ble_eq_true rfl) (c_X0_paperAt hx1) ?_
  refine ev_astore_3 (pc := 5) dX0_copyPaper_5 (by decide) rfl ?_
  refine ev_aload_3 (pc := 6) dX0_copyPaper_6 ?_
  rcases x1 with _ | j2
  · replace h := ev_onN h
    show ev_E G K_X0_copyPaper B_X0_copyPaper (0, 0) 7 [some (vr 1 (i0)), some (vo 5 (o1_)), some (vi (x2_)), some (vn)] [vn] (ev_emb mF) Q
    refine ev_ifnull_n (pc := 7) (tgt := 15) dX0_copyPaper_7 (by decide) ?_
    exact ev_vret (pc := 15) dX0_copyPaper_15 rfl (hR _ h)
  · replace h := ev_onS h
    show ev_E G K_X0_copyPaper B_X0_copyPaper (0, 0) 7 [some (vr 1 (i0)), some (vo 5 (o1_)), some (vi (x2_)), some (vr 5 (j2))] [vr 5 (j2)] (ev_emb mF) Q
    refine ev_ifnull_r (pc := 7) dX0_copyPaper_7 ?_
    refine ev_aload_3 (pc := 10) dX0_copyPaper_10 ?_
    refine ev_aload_1 (pc := 11) dX0_copyPaper_11 ?_
    obtain ⟨m3, hm3, h⟩ := ev_letE h
    refine cl0_X0_135 (pc := 12) (fr := 2) (lo := 81) (m' := m3) rfl dX0_copyPaper_12 (by decide) (Nat.le_of_ble_eq_true rfl) (by rw [hm3]; exact c_X3_copy mF j2 o1_) ?_
    exact ev_vret (pc := 15) dX0_copyPaper_15 rfl (hR _ h)
theorem c_X0_copyPaper {G : ev_G} {mF : ev_m} {i0 : Nat} {o1_ : Option Nat} {x2_ : Int32} {r : ev_m} (h : f_X0_copyPaper mF i0 o1_ x2_ = some r) : ev_CF G K_X0_copyPaper B_X0_copyPaper [vr 1 (i0), vo 5 (o1_), vi (x2_)] mF none r :=
  ev_Ct_of rfl rfl (Nat.le_of_ble_eq_true rfl) (e_X0_copyPaper (R := some r) (fun m0 q => by cases q; exact ⟨rfl, rfl⟩) (fun q => by cases q) h)
set_option maxRecDepth 20000 in
set_option maxHeartbeats 4000000 in
theorem e_X7_copy {G : ev_G} {Q : Option ev_V → ev_M → Prop} {R : ev_m} {mF : ev_m} (hR : ∀ m0 : ev_m, m0 = R → Q none (ev_emb m0)) {i0 : Nat} {o1_ : Option Nat} (h : s_X7_copy mF i0 o1_ = R) : ev_E G K_X7_copy B_X7_copy (0, 0) 0 [some (vr 6 (i0)), some (vo 6 (o1_))] [] (ev_emb mF) Q := by
  unfold s_X7_copy at h
  refine ev_aload_1 (pc := 0) dX7_copy_0 ?_
  rcases o1_ with _ | j1
  · replace h := ev_onN h
    show ev_E G K_X7_copy B_X7_copy (0, 0) 1 [some (vr 6 (i0)), some (vn)] [vn] (ev_emb mF) Q
    refine ev_ifnull_n (pc := 1) (tgt := 34) dX7_copy_1 (by decide) ?_
    exact ev_vret (pc := 34) dX7_copy_34 rfl (hR _ h)
  · replace h := ev_onS h
    show ev_E G K_X7_copy B_X7_copy (0, 0) 1 [some (vr 6 (i0)), some (vr 6 (j1))] [vr 6 (j1)] (ev_emb mF) Q
    refine ev_ifnull_r (pc := 1) dX7_copy_1 ?_
    refine ev_aload_0 (pc := 4) dX7_copy_4 ?_
    refine ev_aload_1 (pc := 5) dX7_copy_5 ?_
    refine gt_X7_18 (pc := 6) rfl dX7_copy_6 ?_
    obtain ⟨m2, hm2, h⟩ := ev_letE h
    refine pt_X7_18 (pc := 9) rfl dX7_copy_9 ?_
    refine ev_mem (pc := 12) hm2 ?_
    refine ev_aload_1 (pc := 12) dX7_copy_12 ?_
    refine gt_X7_9 (pc := 13) rfl dX7_copy_13 ?_
    refine ev_aload_0 (pc := 16) dX7_copy_16 ?_
    refine gt_X7_9 (pc := 17) rfl dX7_copy_17 ?_
    obtain ⟨m3, hm3, h⟩ := ev_letE h
    refine cl0_X7_22 (pc := 20) (fr := 1) (lo := 60) (m' := m3) rfl dX7_copy_20 (by decide) (Nat.le_of_ble_eq_true rfl) (by rw [hm3]; exact c_X9_copyRow (r := 16) rfl (by decide)) ?_
    refine ev_aload_1 (pc := 23) dX7_copy_23 ?_
    refine gt_X7_15 (pc := 24) rfl dX7_copy_24 ?_
    refine ev_aload_0 (pc := 27) dX7_copy_27 ?_
    refine gt_X7_15 (pc := 28) rfl dX7_copy_28 ?_
    obtain ⟨m4, hm4, h⟩ := ev_letE h
    refine cl0_X7_22 (pc := 31) (fr := 1) (lo := 60) (m' := m4) rfl dX7_copy_31 (by decide) (Nat.le_of_ble_eq_true rfl) (by rw [hm4]; exact c_X9_copyRow (r := 17) rfl (by decide)) ?_
    exact ev_vret (pc := 34) dX7_copy_34 rfl (hR _ h)
theorem c_X7_copy {G : ev_G} (mF : ev_m) (i0 : Nat) (o1_ : Option Nat) : ev_CF G K_X7_copy B_X7_copy [vr 6 (i0), vo 6 (o1_)] mF none (s_X7_copy mF i0 o1_) :=
  ev_Ct_of rfl rfl (Nat.le_of_ble_eq_true rfl) (e_X7_copy (R := s_X7_copy mF i0 o1_) (fun m0 q => ⟨rfl, by rw [← q]⟩) rfl)
set_option maxRecDepth 20000 in
set_option maxHeartbeats 4000000 in
theorem e_X0_copyWatch {G : ev_G} {Q : Option ev_V → ev_M → Prop} {R : Option (ev_m)} {mF : ev_m} (hR : ∀ m0 : ev_m, (some (m0)) = R → Q none (ev_emb m0)) (hN : none ≠ R) {i0 : Nat} {o1_ : Option Nat} {x2_ : Int32} (h : f_X0_copyWatch mF i0 o1_ x2_ = R) : ev_E G K_X0_copyWatch B_X0_copyWatch (0, 0) 0 [some (vr 1 (i0)), some (vo 6 (o1_)), some (vi (x2_)), none] [] (ev_emb mF) Q := by
  unfold f_X0_copyWatch at h
  refine ev_aload_0 (pc := 0) dX0_copyWatch_0 ?_
  refine ev_iload_2 (pc := 1) dX0_copyWatch_1 ?_
  obtain ⟨x1, hx1, h⟩ := ev_bindE hN h
  refine cl1_X0_125 (pc := 2) rfl dX0_copyWatch_2 (by decide) (Nat.le_of_ble_eq_true rfl) (c_X0_watchAt hx1) ?_
  refine ev_astore_3 (pc := 5) dX0_copyWatch_5 (by decide) rfl ?_
  refine ev_aload_3 (pc := 6) dX0_copyWatch_6 ?_
  rcases x1 with _ | j2
  · replace h := ev_onN h
    show ev_E G K_X0_copyWatch B_X0_copyWatch (0, 0) 7 [some (vr 1 (i0)), some (vo 6 (o1_)), some (vi (x2_)), some (vn)] [vn] (ev_emb mF) Q
    refine ev_ifnull_n (pc := 7) (tgt := 15) dX0_copyWatch_7 (by decide) ?_
    exact ev_vret (pc := 15) dX0_copyWatch_15 rfl (hR _ h)
  · replace h := ev_onS h
    show ev_E G K_X0_copyWatch B_X0_copyWatch (0, 0) 7 [some (vr 1 (i0)), some (vo 6 (o1_)), some (vi (x2_)), some (vr 6 (j2))] [vr 6 (j2)] (ev_emb mF) Q
    refine ev_ifnull_r (pc := 7) dX0_copyWatch_7 ?_
    refine ev_aload_3 (pc := 10) dX0_copyWatch_10 ?_
    refine ev_aload_1 (pc := 11) dX0_copyWatch_11 ?_
    obtain ⟨m3, hm3, h⟩ := ev_letE h
    refine cl0_X0_138 (pc := 12) (fr := 2) (lo := 81) (m' := m3) rfl dX0_copyWatch_12 (by decide) (Nat.le_of_ble_eq_true rfl) (by rw [hm3]; exact c_X7_copy mF j2 o1_) ?_
    exact ev_vret (pc := 15) dX0_copyWatch_15 rfl (hR _ h)
theorem c_X0_copyWatch {G : ev_G} {mF : ev_m} {i0 : Nat} {o1_ : Option Nat} {x2_ : Int32} {r : ev_m} (h : f_X0_copyWatch mF i0 o1_ x2_ = some r) : ev_CF G K_X0_copyWatch B_X0_copyWatch [vr 1 (i0), vo 6 (o1_), vi (x2_)] mF none r :=
  ev_Ct_of rfl rfl (Nat.le_of_ble_eq_true rfl) (e_X0_copyWatch (R := some r) (fun m0 q => by cases q; exact ⟨rfl, rfl⟩) (fun q => by cases q) h)
set_option maxRecDepth 20000 in
set_option maxHeartbeats 4000000 in
theorem e_X0_keep {G : ev_G} {Q : Option ev_V → ev_M → Prop} {R : Option (ev_m)} {mF : ev_m} (hR : ∀ m0 : ev_m, (some (m0)) = R → Q none (ev_emb m0)) (hN : none ≠ R) {i0 : Nat} {x1_ : Int32} {x2_ : Int32} {o3_ : Option Nat} (h : f_X0_keep mF i0 x1_ x2_ o3_ = R) : ev_E G K_X0_keep B_X0_keep (0, 0) 0 [some (vr 1 (i0)), some (vi (x1_)), some (vi (x2_)), some (vo 7 (o3_))] [] (ev_emb mF) Q := by
  unfold f_X0_keep at h
  refine ev_aload_3 (pc := 0) dX0_keep_0 ?_
  rcases o3_ with _ | j1
  · replace h := ev_onN h
    show ev_E G K_X0_keep B_X0_keep (0, 0) 1 [some (vr 1 (i0)), some (vi (x1_)), some (vi (x2_)), some (vn)] [vn] (ev_emb mF) Q
    refine ev_ifnonnull_n (pc := 1) dX0_keep_1 ?_
    exact ev_vret (pc := 4) dX0_keep_4 rfl (hR _ h)
  · replace h := ev_onS h
    show ev_E G K_X0_keep B_X0_keep (0, 0) 1 [some (vr 1 (i0)), some (vi (x1_)), some (vi (x2_)), some (vr 7 (j1))] [vr 7 (j1)] (ev_emb mF) Q
    refine ev_ifnonnull_r (pc := 1) (tgt := 5) dX0_keep_1 (by decide) ?_
    refine ev_iload_1 (pc := 5) dX0_keep_5 ?_
    by_cases c2 : x1_ = 0
    · replace h := ev_ifp h c2
      refine ev_tin (pc := 6) 0 (tgt := 36) c2 (by decide) dX0_keep_6 rfl (by decide) ?_
      refine ev_aload_0 (pc := 36) dX0_keep_36 ?_
      refine ev_aload_0 (pc := 37) dX0_keep_37 ?_
      refine gt_X0_50 (pc := 38) rfl dX0_keep_38 ?_
      refine ev_iload_2 (pc := 41) dX0_keep_41 ?_
      refine ev_iconst (pc := 42) (v := 1) dX0_keep_42 rfl ?_
      refine ev_iadd (pc := 43) dX0_keep_43 ?_
      refine ev_mmax (pc := 44) mmax_X0_66 mmax_w (by decide) (Nat.le_of_ble_eq_true rfl) dX0_keep_44 ?_
      obtain ⟨m12, hm12, h⟩ := ev_letE h
      refine pt_X0_50 (pc := 47) rfl dX0_keep_47 ?_
      refine ev_mem (pc := 50) hm12 ?_
      refine ev_aload_0 (pc := 50) dX0_keep_50 ?_
      refine ev_aload_3 (pc := 51) dX0_keep_51 ?_
      refine gt_X0_72 (pc := 52) rfl dX0_keep_52 ?_
      refine ev_iload_2 (pc := 55) dX0_keep_55 ?_
      obtain ⟨m13, hm13, h⟩ := ev_bindE hN h
      refine cl0_X0_78 (pc := 56) rfl dX0_keep_56 (by decide) (Nat.le_of_ble_eq_true rfl) (c_X0_copyShip hm13) ?_
      refine ev_goto (pc := 59) (tgt := 140) dX0_keep_59 (by decide) ?_
      exact ev_vret (pc := 140) dX0_keep_140 rfl (hR _ h)
    · replace h := ev_ifn h c2
      by_cases c3 : x1_ = 1
      · replace h := ev_ifp h c3
        refine ev_tin (pc := 6) 1 (tgt := 62) c3 (by decide) dX0_keep_6 rfl (by decide) ?_
        refine ev_aload_0 (pc := 62) dX0_keep_62 ?_
        refine ev_aload_0 (pc := 63) dX0_keep_63 ?_
        refine gt_X0_53 (pc := 64) rfl dX0_keep_64 ?_
        refine ev_iload_2 (pc := 67) dX0_keep_67 ?_
        refine ev_iconst (pc := 68) (v := 1) dX0_keep_68 rfl ?_
        refine ev_iadd (pc := 69) dX0_keep_69 ?_
        refine ev_mmax (pc := 70) mmax_X0_66 mmax_w (by decide) (Nat.le_of_ble_eq_true rfl) dX0_keep_70 ?_
        obtain ⟨m10, hm10, h⟩ := ev_letE h
        refine pt_X0_53 (pc := 73) rfl dX0_keep_73 ?_
        refine ev_mem (pc := 76) hm10 ?_
        refine ev_aload_0 (pc := 76) dX0_keep_76 ?_
        refine ev_aload_3 (pc := 77) dX0_keep_77 ?_
        refine gt_X0_82 (pc := 78) rfl dX0_keep_78 ?_
        refine ev_iload_2 (pc := 81) dX0_keep_81 ?_
        obtain ⟨m11, hm11, h⟩ := ev_bindE hN h
        refine cl0_X0_86 (pc := 82) rfl dX0_keep_82 (by decide) (Nat.le_of_ble_eq_true rfl) (c_X0_copyHand hm11) ?_
        refine ev_goto (pc := 85) (tgt := 140) dX0_keep_85 (by decide) ?_
        exact ev_vret (pc := 140) dX0_keep_140 rfl (hR _ h)
      · replace h := ev_ifn h c3
        by_cases c4 : x1_ = 2
        · replace h := ev_ifp h c4
          refine ev_tin (pc := 6) 2 (tgt := 88) c4 (by decide) dX0_keep_6 rfl (by decide) ?_
          refine ev_aload_0 (pc := 88) dX0_keep_88 ?_
          refine ev_aload_0 (pc := 89) dX0_keep_89 ?_
          refine gt_X0_56 (pc := 90) rfl dX0_keep_90 ?_
          refine ev_iload_2 (pc := 93) dX0_keep_93 ?_
          refine ev_iconst (pc := 94) (v := 1) dX0_keep_94 rfl ?_
          refine ev_iadd (pc := 95) dX0_keep_95 ?_
          refine ev_mmax (pc := 96) mmax_X0_66 mmax_w (by decide) (Nat.le_of_ble_eq_true rfl) dX0_keep_96 ?_
          obtain ⟨m8, hm8, h⟩ := ev_letE h
          refine pt_X0_56 (pc := 99) rfl dX0_keep_99 ?_
          refine ev_mem (pc := 102) hm8 ?_
          refine ev_aload_0 (pc := 102) dX0_keep_102 ?_
          refine ev_aload_3 (pc := 103) dX0_keep_103 ?_
          refine gt_X0_90 (pc := 104) rfl dX0_keep_104 ?_
          refine ev_iload_2 (pc := 107) dX0_keep_107 ?_
          obtain ⟨m9, hm9, h⟩ := ev_bindE hN h
          refine cl0_X0_94 (pc := 108) rfl dX0_keep_108 (by decide) (Nat.le_of_ble_eq_true rfl) (c_X0_copyPaper hm9) ?_
          refine ev_goto (pc := 111) (tgt := 140) dX0_keep_111 (by decide) ?_
          exact ev_vret (pc := 140) dX0_keep_140 rfl (hR _ h)
        · replace h := ev_ifn h c4
          by_cases c5 : x1_ = 3
          · replace h := ev_ifp h c5
            refine ev_tin (pc := 6) 3 (tgt := 114) c5 (by decide) dX0_keep_6 rfl (by decide) ?_
            refine ev_aload_0 (pc := 114) dX0_keep_114 ?_
            refine ev_aload_0 (pc := 115) dX0_keep_115 ?_
            refine gt_X0_59 (pc := 116) rfl dX0_keep_116 ?_
            refine ev_iload_2 (pc := 119) dX0_keep_119 ?_
            refine ev_iconst (pc := 120) (v := 1) dX0_keep_120 rfl ?_
            refine ev_iadd (pc := 121) dX0_keep_121 ?_
            refine ev_mmax (pc := 122) mmax_X0_66 mmax_w (by decide) (Nat.le_of_ble_eq_true rfl) dX0_keep_122 ?_
            obtain ⟨m6, hm6, h⟩ := ev_letE h
            refine pt_X0_59 (pc := 125) rfl dX0_keep_125 ?_
            refine ev_mem (pc := 128) hm6 ?_
            refine ev_aload_0 (pc := 128) dX0_keep_128 ?_
            refine ev_aload_3 (pc := 129) dX0_keep_129 ?_
            refine gt_X0_98 (pc := 130) rfl dX0_keep_130 ?_
            refine ev_iload_2 (pc := 133) dX0_keep_133 ?_
            obtain ⟨m7, hm7, h⟩ := ev_bindE hN h
            refine cl0_X0_102 (pc := 134) rfl dX0_keep_134 (by decide) (Nat.le_of_ble_eq_true rfl) (c_X0_copyWatch hm7) ?_
            refine ev_goto (pc := 137) (tgt := 140) dX0_keep_137 (by decide) ?_
            exact ev_vret (pc := 140) dX0_keep_140 rfl (hR _ h)
          · replace h := ev_ifn h c5
            refine ev_tout (pc := 6) 4 (tgt := 140) rfl (by decide) (lt_s (p := fun j => ¬ x1_ = nI j) (lt_s (p := fun j => ¬ x1_ = nI j) (lt_s (p := fun j => ¬ x1_ = nI j) (lt_s (p := fun j => ¬ x1_ = nI j) lt_0 c2) c3) c4) c5) dX0_keep_6 (by decide) ?_
            exact ev_vret (pc := 140) dX0_keep_140 rfl (hR _ h)
theorem c_X0_keep {G : ev_G} {mF : ev_m} {i0 : Nat} {x1_ : Int32} {x2_ : Int32} {o3_ : Option Nat} {r : ev_m} (h : f_X0_keep mF i0 x1_ x2_ o3_ = some r) : ev_CF G K_X0_keep B_X0_keep [vr 1 (i0), vi (x1_), vi (x2_), vo 7 (o3_)] mF none r :=
  ev_Ct_of rfl rfl (Nat.le_of_ble_eq_true rfl) (e_X0_keep (R := some r) (fun m0 q => by cases q; exact ⟨rfl, rfl⟩) (fun q => by cases q) h)
set_option maxRecDepth 20000 in
set_option maxHeartbeats 4000000 in
theorem e_lp_X0_copy_66 {G : ev_G} {Q : Option ev_V → ev_M → Prop} {R : Option (ev_m)} (hR : ∀ m0 : ev_m, (some (m0)) = R → Q none (ev_emb m0)) (hN : none ≠ R) {i9 : Nat} {i10 : Nat} : ∀ (f : Nat) (x11 : Int32) (m12 : ev_m) (kx : ev_m → Option (ev_m)) (h : lp_X0_copy_66 i9 i10 f x11 m12 kx = R) (hk : ∀ (m12' : ev_m), kx m12' = R → ev_E G K_X0_copy B_X0_copy (0, 0) 87 [some (vr 1 (i9)), some (vr 1 (i10)), none] [] (ev_emb m12') Q), ev_E G K_X0_copy B_X0_copy (0, 0) 66 [some (vr 1 (i9)), some (vr 1 (i10)), some (vi (x11))] [] (ev_emb m12) Q := by
  intro f
  induction f with
  | zero => intro x11 m12 kx h hk; rw [lp_X0_copy_66] at h; exact absurd h hN
  | succ f ih =>
    intro x11 m12 kx h hk
    rw [lp_X0_copy_66] at h
    refine ev_iload_2 (pc := 66) dX0_copy_66 ?_
    refine ev_iconst (pc := 67) (v := 2) dX0_copy_67 rfl ?_
    refine ev_icc_ge (pc := 68) (tgt := 87) dX0_copy_68 (by decide) (fun c13 => ?_) (fun c13 => ?_)
    · replace h := ev_ifn h c13
      refine ev_E.forget (L' := [some (vr 1 (i9)), some (vr 1 (i10)), none]) ⟨rfl, ⟨rfl, trivial⟩⟩ ?_
      exact hk _  h
    · replace h := ev_ifp h c13
      refine ev_aload_0 (pc := 71) dX0_copy_71 ?_
      refine ev_aload_1 (pc := 72) dX0_copy_72 ?_
      refine ev_iload_2 (pc := 73) dX0_copy_73 ?_
      obtain ⟨x14, hx14, h⟩ := ev_bindE hN h
      refine cl1_X0_113 (pc := 74) rfl dX0_copy_74 (by decide) (Nat.le_of_ble_eq_true rfl) (c_X0_shipAt hx14) ?_
      refine ev_iload_2 (pc := 77) dX0_copy_77 ?_
      obtain ⟨m15, hm15, h⟩ := ev_bindE hN h
      refine cl0_X0_78 (pc := 78) rfl dX0_copy_78 (by decide) (Nat.le_of_ble_eq_true rfl) (c_X0_copyShip hm15) ?_
      refine ev_iinc_2 (pc := 81) (y := x11 + 1) dX0_copy_81 rfl (by decide) rfl ?_
      refine ev_goto (pc := 84) (tgt := 66) dX0_copy_84 (by decide) ?_
      exact ih _ _ kx h hk
set_option maxRecDepth 20000 in
set_option maxHeartbeats 4000000 in
theorem e_lp_X0_copy_89 {G : ev_G} {Q : Option ev_V → ev_M → Prop} {R : Option (ev_m)} (hR : ∀ m0 : ev_m, (some (m0)) = R → Q none (ev_emb m0)) (hN : none ≠ R) {i17 : Nat} {i18 : Nat} : ∀ (f : Nat) (x19 : Int32) (m20 : ev_m) (kx : ev_m → Option (ev_m)) (h : lp_X0_copy_89 i17 i18 f x19 m20 kx = R) (hk : ∀ (m20' : ev_m), kx m20' = R → ev_E G K_X0_copy B_X0_copy (0, 0) 110 [some (vr 1 (i17)), some (vr 1 (i18)), none] [] (ev_emb m20') Q), ev_E G K_X0_copy B_X0_copy (0, 0) 89 [some (vr 1 (i17)), some (vr 1 (i18)), some (vi (x19))] [] (ev_emb m20) Q := by
  intro f
  induction f with
  | zero => intro x19 m20 kx h hk; rw [lp_X0_copy_89] at h; exact absurd h hN
  | succ f ih =>
    intro x19 m20 kx h hk
    rw [lp_X0_copy_89] at h
    refine ev_iload_2 (pc := 89) dX0_copy_89 ?_
    refine ev_iconst (pc := 90) (v := 4) dX0_copy_90 rfl ?_
    refine ev_icc_ge (pc := 91) (tgt := 110) dX0_copy_91 (by decide) (fun c21 => ?_) (fun c21 => ?_)
    · replace h := ev_ifn h c21
      refine ev_E.forget (L' := [some (vr 1 (i17)), some (vr 1 (i18)), none]) ⟨rfl, ⟨rfl, trivial⟩⟩ ?_
      exact hk _  h
    · replace h := ev_ifp h c21
      refine ev_aload_0 (pc := 94) dX0_copy_94 ?_
      refine ev_aload_1 (pc := 95) dX0_copy_95 ?_
      refine ev_iload_2 (pc := 96) dX0_copy_96 ?_
      obtain ⟨x22, hx22, h⟩ := ev_bindE hN h
      refine cl1_X0_117 (pc := 97) rfl dX0_copy_97 (by decide) (Nat.le_of_ble_eq_true rfl) (c_X0_handAt hx22) ?_
      refine ev_iload_2 (pc := 100) dX0_copy_100 ?_
      obtain ⟨m23, hm23, h⟩ := ev_bindE hN h
      refine cl0_X0_86 (pc := 101) rfl dX0_copy_101 (by decide) (Nat.le_of_ble_eq_true rfl) (c_X0_copyHand hm23) ?_
      refine ev_iinc_2 (pc := 104) (y := x19 + 1) dX0_copy_104 rfl (by decide) rfl ?_
      refine ev_goto (pc := 107) (tgt := 89) dX0_copy_107 (by decide) ?_
      exact ih _ _ kx h hk
set_option maxRecDepth 20000 in
set_option maxHeartbeats 4000000 in
theorem e_lp_X0_copy_112 {G : ev_G} {Q : Option ev_V → ev_M → Prop} {R : Option (ev_m)} (hR : ∀ m0 : ev_m, (some (m0)) = R → Q none (ev_emb m0)) (hN : none ≠ R) {i25 : Nat} {i26 : Nat} : ∀ (f : Nat) (x27 : Int32) (m28 : ev_m) (kx : ev_m → Option (ev_m)) (h : lp_X0_copy_112 i25 i26 f x27 m28 kx = R) (hk : ∀ (m28' : ev_m), kx m28' = R → ev_E G K_X0_copy B_X0_copy (0, 0) 133 [some (vr 1 (i25)), some (vr 1 (i26)), none] [] (ev_emb m28') Q), ev_E G K_X0_copy B_X0_copy (0, 0) 112 [some (vr 1 (i25)), some (vr 1 (i26)), some (vi (x27))] [] (ev_emb m28) Q := by
  intro f
  induction f with
  | zero => intro x27 m28 kx h hk; rw [lp_X0_copy_112] at h; exact absurd h hN
  | succ f ih =>
    intro x27 m28 kx h hk
    rw [lp_X0_copy_112] at h
    refine ev_iload_2 (pc := 112) dX0_copy_112 ?_
    refine ev_iconst (pc := 113) (v := 2) dX0_copy_113 rfl ?_
    refine ev_icc_ge (pc := 114) (tgt := 133) dX0_copy_114 (by decide) (fun c29 => ?_) (fun c29 => ?_)
    · replace h := ev_ifn h c29
      refine ev_E.forget (L' := [some (vr 1 (i25)), some (vr 1 (i26)), none]) ⟨rfl, ⟨rfl, trivial⟩⟩ ?_
      exact hk _  h
    · replace h := ev_ifp h c29
      refine ev_aload_0 (pc := 117) dX0_copy_117 ?_
      refine ev_aload_1 (pc := 118) dX0_copy_118 ?_
      refine ev_iload_2 (pc := 119) dX0_copy_119 ?_
      obtain ⟨x30, hx30, h⟩ := ev_bindE hN h
      refine cl1_X0_121 (pc := 120) rfl dX0_copy_120 (by decide) (Nat.le_of_ble_eq_true rfl) (c_X0_paperAt hx30) ?_
      refine ev_iload_2 (pc := 123) dX0_copy_123 ?_
      obtain ⟨m31, hm31, h⟩ := ev_bindE hN h
      refine cl0_X0_94 (pc := 124) rfl dX0_copy_124 (by decide) (Nat.le_of_ble_eq_true rfl) (c_X0_copyPaper hm31) ?_
      refine ev_iinc_2 (pc := 127) (y := x27 + 1) dX0_copy_127 rfl (by decide) rfl ?_
      refine ev_goto (pc := 130) (tgt := 112) dX0_copy_130 (by decide) ?_
      exact ih _ _ kx h hk
set_option maxRecDepth 20000 in
set_option maxHeartbeats 4000000 in
theorem e_lp_X0_copy_135 {G : ev_G} {Q : Option ev_V → ev_M → Prop} {R : Option (ev_m)} (hR : ∀ m0 : ev_m, (some (m0)) = R → Q none (ev_emb m0)) (hN : none ≠ R) {i33 : Nat} {i34 : Nat} : ∀ (f : Nat) (x35 : Int32) (m36 : ev_m) (kx : ev_m → Option (ev_m)) (h : lp_X0_copy_135 i33 i34 f x35 m36 kx = R) (hk : ∀ (m36' : ev_m), kx m36' = R → ev_E G K_X0_copy B_X0_copy (0, 0) 156 [none, none, none] [] (ev_emb m36') Q), ev_E G K_X0_copy B_X0_copy (0, 0) 135 [some (vr 1 (i33)), some (vr 1 (i34)), some (vi (x35))] [] (ev_emb m36) Q := by
  intro f
  induction f with
  | zero => intro x35 m36 kx h hk; rw [lp_X0_copy_135] at h; exact absurd h hN
  | succ f ih =>
    intro x35 m36 kx h hk
    rw [lp_X0_copy_135] at h
    refine ev_iload_2 (pc := 135) dX0_copy_135 ?_
    refine ev_iconst (pc := 136) (v := 2) dX0_copy_136 rfl ?_
    refine ev_icc_ge (pc := 137) (tgt := 156) dX0_copy_137 (by decide) (fun c37 => ?_) (fun c37 => ?_)
    · replace h := ev_ifn h c37
      refine ev_E.forget (L' := [none, none, none]) trivial ?_
      exact hk _  h
    · replace h := ev_ifp h c37
      refine ev_aload_0 (pc := 140) dX0_copy_140 ?_
      refine ev_aload_1 (pc := 141) dX0_copy_141 ?_
      refine ev_iload_2 (pc := 142) dX0_copy_142 ?_
      obtain ⟨x38, hx38, h⟩ := ev_bindE hN h
      refine cl1_X0_125 (pc := 143) rfl dX0_copy_143 (by decide) (Nat.le_of_ble_eq_true rfl) (c_X0_watchAt hx38) ?_
      refine ev_iload_2 (pc := 146) dX0_copy_146 ?_
      obtain ⟨m39, hm39, h⟩ := ev_bindE hN h
      refine cl0_X0_102 (pc := 147) rfl dX0_copy_147 (by decide) (Nat.le_of_ble_eq_true rfl) (c_X0_copyWatch hm39) ?_
      refine ev_iinc_2 (pc := 150) (y := x35 + 1) dX0_copy_150 rfl (by decide) rfl ?_
      refine ev_goto (pc := 153) (tgt := 135) dX0_copy_153 (by decide) ?_
      exact ih _ _ kx h hk
set_option maxRecDepth 20000 in
set_option maxHeartbeats 4000000 in
theorem e_X0_copy {G : ev_G} {Q : Option ev_V → ev_M → Prop} {R : Option (ev_m)} {mF : ev_m} (hR : ∀ m0 : ev_m, (some (m0)) = R → Q none (ev_emb m0)) (hN : none ≠ R) {i0 : Nat} {o1_ : Option Nat} (h : f_X0_copy mF i0 o1_ = R) : ev_E G K_X0_copy B_X0_copy (0, 0) 0 [some (vr 1 (i0)), some (vo 1 (o1_)), none] [] (ev_emb mF) Q := by
  unfold f_X0_copy at h
  refine ev_aload_1 (pc := 0) dX0_copy_0 ?_
  rcases o1_ with _ | j1
  · replace h := ev_onN h
    show ev_E G K_X0_copy B_X0_copy (0, 0) 1 [some (vr 1 (i0)), some (vn), none] [vn] (ev_emb mF) Q
    refine ev_ifnonnull_n (pc := 1) dX0_copy_1 ?_
    exact ev_vret (pc := 4) dX0_copy_4 rfl (hR _ h)
  · replace h := ev_onS h
    show ev_E G K_X0_copy B_X0_copy (0, 0) 1 [some (vr 1 (i0)), some (vr 1 (j1)), none] [vr 1 (j1)] (ev_emb mF) Q
    refine ev_ifnonnull_r (pc := 1) (tgt := 5) dX0_copy_1 (by decide) ?_
    refine ev_aload_0 (pc := 5) dX0_copy_5 ?_
    refine gt_X0_12 (pc := 6) rfl dX0_copy_6 ?_
    refine ev_aload_1 (pc := 9) dX0_copy_9 ?_
    refine gt_X0_12 (pc := 10) rfl dX0_copy_10 ?_
    obtain ⟨m2, hm2, h⟩ := ev_letE h
    refine cl0_X0_106 (pc := 13) (fr := 1) (lo := 60) (m' := m2) rfl dX0_copy_13 (by decide) (Nat.le_of_ble_eq_true rfl) (by rw [hm2]; exact c_X6_copy (o := some j1)) ?_
    refine ev_aload_0 (pc := 16) dX0_copy_16 ?_
    refine ev_aload_1 (pc := 17) dX0_copy_17 ?_
    refine gt_X0_110 (pc := 18) rfl dX0_copy_18 ?_
    obtain ⟨m3, hm3, h⟩ := ev_letE h
    refine pt_X0_110 (pc := 21) rfl dX0_copy_21 ?_
    refine ev_mem (pc := 24) hm3 ?_
    refine ev_aload_0 (pc := 24) dX0_copy_24 ?_
    refine ev_aload_1 (pc := 25) dX0_copy_25 ?_
    refine gt_X0_18 (pc := 26) rfl dX0_copy_26 ?_
    obtain ⟨m4, hm4, h⟩ := ev_letE h
    refine pt_X0_18 (pc := 29) rfl dX0_copy_29 ?_
    refine ev_mem (pc := 32) hm4 ?_
    refine ev_aload_0 (pc := 32) dX0_copy_32 ?_
    refine ev_aload_1 (pc := 33) dX0_copy_33 ?_
    refine gt_X0_50 (pc := 34) rfl dX0_copy_34 ?_
    obtain ⟨m5, hm5, h⟩ := ev_letE h
    refine pt_X0_50 (pc := 37) rfl dX0_copy_37 ?_
    refine ev_mem (pc := 40) hm5 ?_
    refine ev_aload_0 (pc := 40) dX0_copy_40 ?_
    refine ev_aload_1 (pc := 41) dX0_copy_41 ?_
    refine gt_X0_53 (pc := 42) rfl dX0_copy_42 ?_
    obtain ⟨m6, hm6, h⟩ := ev_letE h
    refine pt_X0_53 (pc := 45) rfl dX0_copy_45 ?_
    refine ev_mem (pc := 48) hm6 ?_
    refine ev_aload_0 (pc := 48) dX0_copy_48 ?_
    refine ev_aload_1 (pc := 49) dX0_copy_49 ?_
    refine gt_X0_56 (pc := 50) rfl dX0_copy_50 ?_
    obtain ⟨m7, hm7, h⟩ := ev_letE h
    refine pt_X0_56 (pc := 53) rfl dX0_copy_53 ?_
    refine ev_mem (pc := 56) hm7 ?_
    refine ev_aload_0 (pc := 56) dX0_copy_56 ?_
    refine ev_aload_1 (pc := 57) dX0_copy_57 ?_
    refine gt_X0_59 (pc := 58) rfl dX0_copy_58 ?_
    obtain ⟨m8, hm8, h⟩ := ev_letE h
    refine pt_X0_59 (pc := 61) rfl dX0_copy_61 ?_
    refine ev_mem (pc := 64) hm8 ?_
    refine ev_iconst (pc := 64) (v := 0) dX0_copy_64 rfl ?_
    refine ev_istore_2 (pc := 65) dX0_copy_65 (by decide) rfl ?_
    refine e_lp_X0_copy_66 hR hN 4000 _ _ _ h (fun m16 h => ?_)
    refine ev_iconst (pc := 87) (v := 0) dX0_copy_87 rfl ?_
    refine ev_istore_2 (pc := 88) dX0_copy_88 (by decide) rfl ?_
    refine e_lp_X0_copy_89 hR hN 4000 _ _ _ h (fun m24 h => ?_)
    refine ev_iconst (pc := 110) (v := 0) dX0_copy_110 rfl ?_
    refine ev_istore_2 (pc := 111) dX0_copy_111 (by decide) rfl ?_
    refine e_lp_X0_copy_112 hR hN 4000 _ _ _ h (fun m32 h => ?_)
    refine ev_iconst (pc := 133) (v := 0) dX0_copy_133 rfl ?_
    refine ev_istore_2 (pc := 134) dX0_copy_134 (by decide) rfl ?_
    refine e_lp_X0_copy_135 hR hN 4000 _ _ _ h (fun m40 h => ?_)
    exact ev_vret (pc := 156) dX0_copy_156 rfl (hR _ h)
theorem c_X0_copy {G : ev_G} {mF : ev_m} {i0 : Nat} {o1_ : Option Nat} {r : ev_m} (h : f_X0_copy mF i0 o1_ = some r) : ev_CF G K_X0_copy B_X0_copy [vr 1 (i0), vo 1 (o1_)] mF none r :=
  ev_Ct_of rfl rfl (Nat.le_of_ble_eq_true rfl) (e_X0_copy (R := some r) (fun m0 q => by cases q; exact ⟨rfl, rfl⟩) (fun q => by cases q) h)
set_option maxRecDepth 20000 in
set_option maxHeartbeats 4000000 in
theorem e_lp_X1_clear_2 {G : ev_G} {Q : Option ev_V → ev_M → Prop} {R : Option (ev_m)} (hR : ∀ m0 : ev_m, (some (m0)) = R → Q none (ev_emb m0)) (hN : none ≠ R) {i1 : Nat} : ∀ (f : Nat) (x2 : Int32) (m3 : ev_m) (kx : ev_m → Option (ev_m)) (h : lp_X1_clear_2 i1 f x2 m3 kx = R) (hk : ∀ (m3' : ev_m), kx m3' = R → ev_E G K_X1_clear B_X1_clear (0, 0) 20 [some (vr 4 (i1)), none] [] (ev_emb m3') Q), ev_E G K_X1_clear B_X1_clear (0, 0) 2 [some (vr 4 (i1)), some (vi (x2))] [] (ev_emb m3) Q := by
  intro f
  induction f with
  | zero => intro x2 m3 kx h hk; rw [lp_X1_clear_2] at h; exact absurd h hN
  | succ f ih =>
    intro x2 m3 kx h hk
    rw [lp_X1_clear_2] at h
    refine ev_iload_1 (pc := 2) dX1_clear_2 ?_
    refine ev_bipush (pc := 3) (v := 8) dX1_clear_3 (by decide) ?_
    refine ev_icc_gt (pc := 5) (tgt := 20) dX1_clear_5 (by decide) (fun c4 => ?_) (fun c4 => ?_)
    · replace h := ev_ifp h c4
      refine ev_E.forget (L' := [some (vr 4 (i1)), none]) ⟨rfl, trivial⟩ ?_
      exact hk _  h
    · replace h := ev_ifn h c4
      refine ev_aload_0 (pc := 8) dX1_clear_8 ?_
      refine ev_iload_1 (pc := 9) dX1_clear_9 ?_
      refine ev_iconst (pc := 10) (v := 0) dX1_clear_10 rfl ?_
      obtain ⟨m5, hm5, h⟩ := ev_letE h
      refine cl0_X1_18 (pc := 11) (fr := 0) (lo := 0) (m' := m5) rfl dX1_clear_11 (by decide) (Nat.le_of_ble_eq_true rfl) (by rw [hm5]; exact c_X1_write m3 i1 x2 0) ?_
      refine ev_iinc_1 (pc := 14) (y := x2 + 1) dX1_clear_14 rfl (by decide) rfl ?_
      refine ev_goto (pc := 17) (tgt := 2) dX1_clear_17 (by decide) ?_
      exact ih _ _ kx h hk
set_option maxRecDepth 20000 in
set_option maxHeartbeats 4000000 in
theorem e_X1_clear {G : ev_G} {Q : Option ev_V → ev_M → Prop} {R : Option (ev_m)} {mF : ev_m} (hR : ∀ m0 : ev_m, (some (m0)) = R → Q none (ev_emb m0)) (hN : none ≠ R) {i0 : Nat} (h : f_X1_clear mF i0 = R) : ev_E G K_X1_clear B_X1_clear (0, 0) 0 [some (vr 4 (i0)), none] [] (ev_emb mF) Q := by
  unfold f_X1_clear at h
  refine ev_iconst (pc := 0) (v := 0) dX1_clear_0 rfl ?_
  refine ev_istore_1 (pc := 1) dX1_clear_1 (by decide) rfl ?_
  refine e_lp_X1_clear_2 hR hN 4000 _ _ _ h (fun m6 h => ?_)
  refine ev_aload_0 (pc := 20) dX1_clear_20 ?_
  refine ev_iconst (pc := 21) (v := 1) dX1_clear_21 rfl ?_
  obtain ⟨m7, hm7, h⟩ := ev_letE h
  refine pt_X1_22 (pc := 22) rfl dX1_clear_22 ?_
  refine ev_mem (pc := 25) hm7 ?_
  refine ev_aload_0 (pc := 25) dX1_clear_25 ?_
  refine ev_iconst (pc := 26) (v := 0) dX1_clear_26 rfl ?_
  obtain ⟨m8, hm8, h⟩ := ev_letE h
  refine pt_X1_26 (pc := 27) rfl dX1_clear_27 ?_
  refine ev_mem (pc := 30) hm8 ?_
  exact ev_vret (pc := 30) dX1_clear_30 rfl (hR _ h)
theorem c_X1_clear {G : ev_G} {mF : ev_m} {i0 : Nat} {r : ev_m} (h : f_X1_clear mF i0 = some r) : ev_CF G K_X1_clear B_X1_clear [vr 4 (i0)] mF none r :=
  ev_Ct_of rfl rfl (Nat.le_of_ble_eq_true rfl) (e_X1_clear (R := some r) (fun m0 q => by cases q; exact ⟨rfl, rfl⟩) (fun q => by cases q) h)
set_option maxRecDepth 20000 in
set_option maxHeartbeats 4000000 in
theorem e_X1_addStar {G : ev_G} {Q : Option ev_V → ev_M → Prop} {R : Bool × ev_m} {mF : ev_m} (hR : ∀ (x0 : Bool) (m0 : ev_m), (x0, m0) = R → Q (some (vi (bi x0))) (ev_emb m0)) {i0 : Nat} {x1_ : Int32} {x2_ : Int32} (h : s_X1_addStar mF i0 x1_ x2_ = R) : ev_E G K_X1_addStar B_X1_addStar (0, 0) 0 [some (vr 4 (i0)), some (vi (x1_)), some (vi (x2_))] [] (ev_emb mF) Q := by
  unfold s_X1_addStar at h
  refine ev_aload_0 (pc := 0) dX1_addStar_0 ?_
  refine gt_X1_26 (pc := 1) rfl dX1_addStar_1 ?_
  refine ev_iconst (pc := 4) (v := 4) dX1_addStar_4 rfl ?_
  refine ev_icc_lt (pc := 5) (tgt := 10) dX1_addStar_5 (by decide) (fun c1 => ?_) (fun c1 => ?_)
  · replace h := ev_ifp h c1
    refine ev_aload_0 (pc := 10) dX1_addStar_10 ?_
    refine gt_X1_9 (pc := 11) rfl dX1_addStar_11 ?_
    refine ev_aload_0 (pc := 14) dX1_addStar_14 ?_
    refine gt_X1_26 (pc := 15) rfl dX1_addStar_15 ?_
    refine ev_iload_1 (pc := 18) dX1_addStar_18 ?_
    obtain ⟨m2, hm2, h⟩ := ev_letE h
    refine cl0_X1_69 (pc := 19) (fr := 0) (lo := 0) (m' := m2) rfl dX1_addStar_19 (by decide) (Nat.le_of_ble_eq_true rfl) (by rw [hm2]; exact c_X9_put (r := 13) rfl (by decide) (by decide)) ?_
    refine ev_aload_0 (pc := 22) dX1_addStar_22 ?_
    refine gt_X1_15 (pc := 23) rfl dX1_addStar_23 ?_
    refine ev_aload_0 (pc := 26) dX1_addStar_26 ?_
    refine gt_X1_26 (pc := 27) rfl dX1_addStar_27 ?_
    refine ev_iload_2 (pc := 30) dX1_addStar_30 ?_
    obtain ⟨m3, hm3, h⟩ := ev_letE h
    refine cl0_X1_69 (pc := 31) (fr := 0) (lo := 0) (m' := m3) rfl dX1_addStar_31 (by decide) (Nat.le_of_ble_eq_true rfl) (by rw [hm3]; exact c_X9_put (r := 14) rfl (by decide) (by decide)) ?_
    refine ev_aload_0 (pc := 34) dX1_addStar_34 ?_
    refine ev_dup_r (pc := 35) dX1_addStar_35 ?_
    refine gt_X1_26 (pc := 36) rfl dX1_addStar_36 ?_
    refine ev_iconst (pc := 39) (v := 1) dX1_addStar_39 rfl ?_
    refine ev_iadd (pc := 40) dX1_addStar_40 ?_
    obtain ⟨m4, hm4, h⟩ := ev_letE h
    refine pt_X1_26 (pc := 41) rfl dX1_addStar_41 ?_
    refine ev_mem (pc := 44) hm4 ?_
    refine ev_iconst (pc := 44) (v := 1) dX1_addStar_44 rfl ?_
    exact ev_iret (pc := 45) dX1_addStar_45 rfl rfl (hR _ _ h)
  · replace h := ev_ifn h c1
    refine ev_iconst (pc := 8) (v := 0) dX1_addStar_8 rfl ?_
    exact ev_iret (pc := 9) dX1_addStar_9 rfl rfl (hR _ _ h)
theorem c_X1_addStar {G : ev_G} (mF : ev_m) (i0 : Nat) (x1_ : Int32) (x2_ : Int32) : ev_CF G K_X1_addStar B_X1_addStar [vr 4 (i0), vi (x1_), vi (x2_)] mF (some (vi (bi ((s_X1_addStar mF i0 x1_ x2_).1)))) (s_X1_addStar mF i0 x1_ x2_).2 :=
  ev_Ct_of rfl rfl (Nat.le_of_ble_eq_true rfl) (e_X1_addStar (R := s_X1_addStar mF i0 x1_ x2_) (fun x0 m0 q => ⟨by rw [← q], by rw [← q]⟩) rfl)
