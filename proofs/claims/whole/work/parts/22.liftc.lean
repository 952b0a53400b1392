/-! lifted methods -/
set_option maxRecDepth 20000 in
set_option maxHeartbeats 4000000 in
theorem e_X4_shipWord {G : ev_G} {Q : Option ev_V → ev_M → Prop} {R : Option (Int32)} {mF : ev_m} (hR : ∀ x0 : Int32, (some (x0)) = R → Q (some (vi x0)) (ev_emb mF)) (hN : none ≠ R) {i0 : Nat} (h : f_X4_shipWord mF i0 = R) : ev_E G K_X4_shipWord B_X4_shipWord (0, 0) 0 [some (vr 7 (i0))] [] (ev_emb mF) Q := by
  unfold f_X4_shipWord at h
  refine ev_aload_0 (pc := 0) dX4_shipWord_0 ?_
  refine ev_ldcs (pc := 1) (j := 1) (by decide) rfl dX4_shipWord_1 ?_
  obtain ⟨x1, hx1, h⟩ := ev_bindE hN h
  refine cl1_X4_92 (pc := 3) rfl dX4_shipWord_3 (by decide) (Nat.le_of_ble_eq_true rfl) (c_X4_isWord hx1) ?_
  refine ev_ifb_eq (pc := 6) (tgt := 13) dX4_shipWord_6 (by decide) (fun c2 => ?_) (fun c2 => ?_)
  · replace h := ev_ifn h c2
    refine ev_aload_0 (pc := 13) dX4_shipWord_13 ?_
    refine ev_ldcs (pc := 14) (j := 2) (by decide) rfl dX4_shipWord_14 ?_
    obtain ⟨x3, hx3, h⟩ := ev_bindE hN h
    refine cl1_X4_92 (pc := 16) rfl dX4_shipWord_16 (by decide) (Nat.le_of_ble_eq_true rfl) (c_X4_isWord hx3) ?_
    refine ev_ifb_eq (pc := 19) (tgt := 26) dX4_shipWord_19 (by decide) (fun c4 => ?_) (fun c4 => ?_)
    · replace h := ev_ifn h c4
      refine ev_aload_0 (pc := 26) dX4_shipWord_26 ?_
      refine ev_ldcs (pc := 27) (j := 3) (by decide) rfl dX4_shipWord_27 ?_
      obtain ⟨x5, hx5, h⟩ := ev_bindE hN h
      refine cl1_X4_92 (pc := 29) rfl dX4_shipWord_29 (by decide) (Nat.le_of_ble_eq_true rfl) (c_X4_isWord hx5) ?_
      refine ev_ifb_eq (pc := 32) (tgt := 39) dX4_shipWord_32 (by decide) (fun c6 => ?_) (fun c6 => ?_)
      · replace h := ev_ifn h c6
        refine ev_aload_0 (pc := 39) dX4_shipWord_39 ?_
        refine ev_ldcs (pc := 40) (j := 4) (by decide) rfl dX4_shipWord_40 ?_
        obtain ⟨x7, hx7, h⟩ := ev_bindE hN h
        refine cl1_X4_92 (pc := 42) rfl dX4_shipWord_42 (by decide) (Nat.le_of_ble_eq_true rfl) (c_X4_isWord hx7) ?_
        refine ev_ifb_eq (pc := 45) (tgt := 52) dX4_shipWord_45 (by decide) (fun c8 => ?_) (fun c8 => ?_)
        · replace h := ev_ifn h c8
          refine ev_aload_0 (pc := 52) dX4_shipWord_52 ?_
          refine ev_ldcs (pc := 53) (j := 5) (by decide) rfl dX4_shipWord_53 ?_
          obtain ⟨x9, hx9, h⟩ := ev_bindE hN h
          refine cl1_X4_92 (pc := 55) rfl dX4_shipWord_55 (by decide) (Nat.le_of_ble_eq_true rfl) (c_X4_isWord hx9) ?_
          refine ev_ifb_eq (pc := 58) (tgt := 65) dX4_shipWord_58 (by decide) (fun c10 => ?_) (fun c10 => ?_)
          · replace h := ev_ifn h c10
            refine ev_aload_0 (pc := 65) dX4_shipWord_65 ?_
            refine ev_ldcs (pc := 66) (j := 6) (by decide) rfl dX4_shipWord_66 ?_
            obtain ⟨x11, hx11, h⟩ := ev_bindE hN h
            refine cl1_X4_92 (pc := 68) rfl dX4_shipWord_68 (by decide) (Nat.le_of_ble_eq_true rfl) (c_X4_isWord hx11) ?_
            refine ev_ifb_eq (pc := 71) (tgt := 78) dX4_shipWord_71 (by decide) (fun c12 => ?_) (fun c12 => ?_)
            · replace h := ev_ifn h c12
              refine ev_aload_0 (pc := 78) dX4_shipWord_78 ?_
              refine ev_ldcs (pc := 79) (j := 7) (by decide) rfl dX4_shipWord_79 ?_
              obtain ⟨x13, hx13, h⟩ := ev_bindE hN h
              refine cl1_X4_92 (pc := 81) rfl dX4_shipWord_81 (by decide) (Nat.le_of_ble_eq_true rfl) (c_X4_isWord hx13) ?_
              refine ev_ifb_eq (pc := 84) (tgt := 92) dX4_shipWord_84 (by decide) (fun c14 => ?_) (fun c14 => ?_)
              · replace h := ev_ifn h c14
                refine ev_aload_0 (pc := 92) dX4_shipWord_92 ?_
                refine ev_ldcs (pc := 93) (j := 8) (by decide) rfl dX4_shipWord_93 ?_
                obtain ⟨x15, hx15, h⟩ := ev_bindE hN h
                refine cl1_X4_92 (pc := 95) rfl dX4_shipWord_95 (by decide) (Nat.le_of_ble_eq_true rfl) (c_X4_isWord hx15) ?_
                refine ev_ifb_eq (pc := 98) (tgt := 106) dX4_shipWord_98 (by decide) (fun c16 => ?_) (fun c16 => ?_)
                · replace h := ev_ifn h c16
                  refine ev_aload_0 (pc := 106) dX4_shipWord_106 ?_
                  refine ev_ldcs (pc := 107) (j := 9) (by decide) rfl dX4_shipWord_107 ?_
                  obtain ⟨x17, hx17, h⟩ := ev_bindE hN h
                  refine cl1_X4_92 (pc := 109) rfl dX4_shipWord_109 (by decide) (Nat.le_of_ble_eq_true rfl) (c_X4_isWord hx17) ?_
                  refine ev_ifb_eq (pc := 112) (tgt := 120) dX4_shipWord_112 (by decide) (fun c18 => ?_) (fun c18 => ?_)
                  · replace h := ev_ifn h c18
                    refine ev_iconst (pc := 120) (v := (-1)) dX4_shipWord_120 rfl ?_
                    exact ev_iret (pc := 121) dX4_shipWord_121 rfl rfl (hR _ h)
                  · replace h := ev_ifp h c18
                    refine ev_bipush (pc := 115) (v := 8) dX4_shipWord_115 (by decide) ?_
                    refine ev_goto (pc := 117) (tgt := 121) dX4_shipWord_117 (by decide) ?_
                    exact ev_iret (pc := 121) dX4_shipWord_121 rfl rfl (hR _ h)
                · replace h := ev_ifp h c16
                  refine ev_bipush (pc := 101) (v := 7) dX4_shipWord_101 (by decide) ?_
                  refine ev_goto (pc := 103) (tgt := 121) dX4_shipWord_103 (by decide) ?_
                  exact ev_iret (pc := 121) dX4_shipWord_121 rfl rfl (hR _ h)
              · replace h := ev_ifp h c14
                refine ev_bipush (pc := 87) (v := 6) dX4_shipWord_87 (by decide) ?_
                refine ev_goto (pc := 89) (tgt := 121) dX4_shipWord_89 (by decide) ?_
                exact ev_iret (pc := 121) dX4_shipWord_121 rfl rfl (hR _ h)
            · replace h := ev_ifp h c12
              refine ev_iconst (pc := 74) (v := 5) dX4_shipWord_74 rfl ?_
              refine ev_goto (pc := 75) (tgt := 121) dX4_shipWord_75 (by decide) ?_
              exact ev_iret (pc := 121) dX4_shipWord_121 rfl rfl (hR _ h)
          · replace h := ev_ifp h c10
            refine ev_iconst (pc := 61) (v := 4) dX4_shipWord_61 rfl ?_
            refine ev_goto (pc := 62) (tgt := 121) dX4_shipWord_62 (by decide) ?_
            exact ev_iret (pc := 121) dX4_shipWord_121 rfl rfl (hR _ h)
        · replace h := ev_ifp h c8
          refine ev_iconst (pc := 48) (v := 3) dX4_shipWord_48 rfl ?_
          refine ev_goto (pc := 49) (tgt := 121) dX4_shipWord_49 (by decide) ?_
          exact ev_iret (pc := 121) dX4_shipWord_121 rfl rfl (hR _ h)
      · replace h := ev_ifp h c6
        refine ev_iconst (pc := 35) (v := 2) dX4_shipWord_35 rfl ?_
        refine ev_goto (pc := 36) (tgt := 121) dX4_shipWord_36 (by decide) ?_
        exact ev_iret (pc := 121) dX4_shipWord_121 rfl rfl (hR _ h)
    · replace h := ev_ifp h c4
      refine ev_iconst (pc := 22) (v := 1) dX4_shipWord_22 rfl ?_
      refine ev_goto (pc := 23) (tgt := 121) dX4_shipWord_23 (by decide) ?_
      exact ev_iret (pc := 121) dX4_shipWord_121 rfl rfl (hR _ h)
  · replace h := ev_ifp h c2
    refine ev_iconst (pc := 9) (v := 0) dX4_shipWord_9 rfl ?_
    refine ev_goto (pc := 10) (tgt := 121) dX4_shipWord_10 (by decide) ?_
    exact ev_iret (pc := 121) dX4_shipWord_121 rfl rfl (hR _ h)
theorem c_X4_shipWord {G : ev_G} {mF : ev_m} {i0 : Nat} {r : Int32} (h : f_X4_shipWord mF i0 = some r) : ev_CF G K_X4_shipWord B_X4_shipWord [vr 7 (i0)] mF (some (vi (r))) mF :=
  ev_Ct_of rfl rfl (Nat.le_of_ble_eq_true rfl) (e_X4_shipWord (R := some r) (fun x0 q => by cases q; exact ⟨rfl, rfl⟩) (fun q => by cases q) h)
set_option maxRecDepth 20000 in
set_option maxHeartbeats 4000000 in
theorem e_X4_takeShipNumber {G : ev_G} {Q : Option ev_V → ev_M → Prop} {R : Option (Bool × ev_m)} {mF : ev_m} (hR : ∀ (x0 : Bool) (m0 : ev_m), (some ((x0, m0))) = R → Q (some (vi (bi x0))) (ev_emb m0)) (hN : none ≠ R) {i0 : Nat} {x1_ : Int32} (h : f_X4_takeShipNumber mF i0 x1_ = R) : ev_E G K_X4_takeShipNumber B_X4_takeShipNumber (0, 0) 0 [some (vr 7 (i0)), some (vi (x1_))] [] (ev_emb mF) Q := by
  unfold f_X4_takeShipNumber at h
  refine ev_aload_0 (pc := 0) dX4_takeShipNumber_0 ?_
  refine ev_iload_1 (pc := 1) dX4_takeShipNumber_1 ?_
  refine ev_bipush (pc := 2) (v := 6) dX4_takeShipNumber_2 (by decide) ?_
  obtain ⟨x2, hx2, h⟩ := ev_letE h
  have hJ1 : ev_E G K_X4_takeShipNumber B_X4_takeShipNumber (0, 0) 12 [some (vr 7 (i0)), some (vi (x1_))] [vi (x2), vr 7 (i0)] (ev_emb mF) Q := by
    refine ev_gets (pc := 12) (j := 0) (by decide) rfl (List.mem_of_getElem? (i := 0) rfl) dX4_takeShipNumber_12 ?_
    refine ev_iload_1 (pc := 15) dX4_takeShipNumber_15 ?_
    refine cl1_X4_131 (pc := 16) rfl dX4_takeShipNumber_16 (by decide) (Nat.le_of_ble_eq_true rfl) (c_X9_atC (j := 0) (by decide)) ?_
    refine ev_gets (pc := 19) (j := 1) (by decide) rfl (List.mem_of_getElem? (i := 1) rfl) dX4_takeShipNumber_19 ?_
    refine ev_iload_1 (pc := 22) dX4_takeShipNumber_22 ?_
    refine cl1_X4_131 (pc := 23) rfl dX4_takeShipNumber_23 (by decide) (Nat.le_of_ble_eq_true rfl) (c_X9_atC (j := 1) (by decide)) ?_
    obtain ⟨p3, hp3, h⟩ := ev_bindE hN h
    refine cl1_X4_138 (pc := 26) rfl dX4_takeShipNumber_26 (by decide) (Nat.le_of_ble_eq_true rfl) (c_X4_takeNumber hp3) ?_
    refine ev_ifb_ne (pc := 29) (tgt := 34) dX4_takeShipNumber_29 (by decide) (fun c4 => ?_) (fun c4 => ?_)
    · replace h := ev_ifp h c4
      refine ev_aload_0 (pc := 34) dX4_takeShipNumber_34 ?_
      refine gt_X4_12 (pc := 35) rfl dX4_takeShipNumber_35 ?_
      refine ev_iload_1 (pc := 38) dX4_takeShipNumber_38 ?_
      refine ev_aload_0 (pc := 39) dX4_takeShipNumber_39 ?_
      refine gt_X4_142 (pc := 40) rfl dX4_takeShipNumber_40 ?_
      obtain ⟨m5, hm5, h⟩ := ev_letE h
      refine cl0_X4_145 (pc := 43) (fr := 0) (lo := 0) (m' := m5) rfl dX4_takeShipNumber_43 (by decide) (Nat.le_of_ble_eq_true rfl) (by rw [hm5]; exact c_X5_write p3.2 9 x1_ (p3.2.1 7 i0 10)) ?_
      refine ev_iconst (pc := 46) (v := 1) dX4_takeShipNumber_46 rfl ?_
      exact ev_iret (pc := 47) dX4_takeShipNumber_47 rfl rfl (hR _ _ h)
    · replace h := ev_ifn h c4
      refine ev_iconst (pc := 32) (v := 0) dX4_takeShipNumber_32 rfl ?_
      exact ev_iret (pc := 33) dX4_takeShipNumber_33 rfl rfl (hR _ _ h)
  refine ev_icc_lt (pc := 4) (tgt := 11) dX4_takeShipNumber_4 (by decide) (fun c1 => ?_) (fun c1 => ?_)
  · refine ev_iconst (pc := 11) (v := 0) dX4_takeShipNumber_11 rfl ?_
    replace hx2 := (hx2.trans (if_pos c1))
    subst hx2
    exact hJ1
  · refine ev_iconst (pc := 7) (v := 1) dX4_takeShipNumber_7 rfl ?_
    refine ev_goto (pc := 8) (tgt := 12) dX4_takeShipNumber_8 (by decide) ?_
    replace hx2 := (hx2.trans (if_neg c1))
    subst hx2
    exact hJ1
theorem c_X4_takeShipNumber {G : ev_G} {mF : ev_m} {i0 : Nat} {x1_ : Int32} {r : Bool × ev_m} (h : f_X4_takeShipNumber mF i0 x1_ = some r) : ev_CF G K_X4_takeShipNumber B_X4_takeShipNumber [vr 7 (i0), vi (x1_)] mF (some (vi (bi (r.1)))) r.2 :=
  ev_Ct_of rfl rfl (Nat.le_of_ble_eq_true rfl) (e_X4_takeShipNumber (R := some r) (fun x0 m0 q => by cases q; exact ⟨rfl, rfl⟩) (fun q => by cases q) h)
set_option maxRecDepth 20000 in
set_option maxHeartbeats 4000000 in
theorem e_X4_takeShipNumbers {G : ev_G} {Q : Option ev_V → ev_M → Prop} {R : Option (Bool × ev_m)} {mF : ev_m} (hR : ∀ (x0 : Bool) (m0 : ev_m), (some ((x0, m0))) = R → Q (some (vi (bi x0))) (ev_emb m0)) (hN : none ≠ R) {i0 : Nat} (h : f_X4_takeShipNumbers mF i0 = R) : ev_E G K_X4_takeShipNumbers B_X4_takeShipNumbers (0, 0) 0 [some (vr 7 (i0)), none] [] (ev_emb mF) Q := by
  unfold f_X4_takeShipNumbers at h
  refine ev_aload_0 (pc := 0) dX4_takeShipNumbers_0 ?_
  obtain ⟨x1, hx1, h⟩ := ev_bindE hN h
  refine cl1_X4_120 (pc := 1) rfl dX4_takeShipNumbers_1 (by decide) (Nat.le_of_ble_eq_true rfl) (c_X4_shipWord hx1) ?_
  refine ev_istore_1 (pc := 4) dX4_takeShipNumbers_4 (by decide) rfl ?_
  refine ev_iload_1 (pc := 5) dX4_takeShipNumbers_5 ?_
  refine ev_iconst (pc := 6) (v := (-1)) dX4_takeShipNumbers_6 rfl ?_
  refine ev_icc_ne (pc := 7) (tgt := 12) dX4_takeShipNumbers_7 (by decide) (fun c2 => ?_) (fun c2 => ?_)
  · replace h := ev_ifn h c2
    refine ev_aload_0 (pc := 12) dX4_takeShipNumbers_12 ?_
    obtain ⟨m3, hm3, h⟩ := ev_bindE hN h
    refine cl0_X4_66 (pc := 13) rfl dX4_takeShipNumbers_13 (by decide) (Nat.le_of_ble_eq_true rfl) (c_X4_next hm3) ?_
    refine ev_aload_0 (pc := 16) dX4_takeShipNumbers_16 ?_
    refine ev_iload_1 (pc := 17) dX4_takeShipNumbers_17 ?_
    obtain ⟨p4, hp4, h⟩ := ev_bindE hN h
    refine cl1_X4_124 (pc := 18) rfl dX4_takeShipNumbers_18 (by decide) (Nat.le_of_ble_eq_true rfl) (c_X4_takeShipNumber hp4) ?_
    refine ev_ifb_eq (pc := 21) (tgt := 43) dX4_takeShipNumbers_21 (by decide) (fun c5 => ?_) (fun c5 => ?_)
    · replace h := ev_ifn h c5
      refine ev_iconst (pc := 43) (v := 0) dX4_takeShipNumbers_43 rfl ?_
      exact ev_iret (pc := 44) dX4_takeShipNumbers_44 rfl rfl (hR _ _ h)
    · replace h := ev_ifp h c5
      refine ev_iload_1 (pc := 24) dX4_takeShipNumbers_24 ?_
      refine ev_bipush (pc := 25) (v := 8) dX4_takeShipNumbers_25 (by decide) ?_
      refine ev_icc_ne (pc := 27) (tgt := 39) dX4_takeShipNumbers_27 (by decide) (fun c6 => ?_) (fun c6 => ?_)
      · replace h := ev_ifn h c6
        refine ev_iconst (pc := 39) (v := 1) dX4_takeShipNumbers_39 rfl ?_
        refine ev_goto (pc := 40) (tgt := 44) dX4_takeShipNumbers_40 (by decide) ?_
        exact ev_iret (pc := 44) dX4_takeShipNumbers_44 rfl rfl (hR _ _ h)
      · replace h := ev_ifp h c6
        refine ev_aload_0 (pc := 30) dX4_takeShipNumbers_30 ?_
        refine ev_bipush (pc := 31) (v := 9) dX4_takeShipNumbers_31 (by decide) ?_
        obtain ⟨p7, hp7, h⟩ := ev_bindE hN h
        refine cl1_X4_124 (pc := 33) rfl dX4_takeShipNumbers_33 (by decide) (Nat.le_of_ble_eq_true rfl) (c_X4_takeShipNumber hp7) ?_
        refine ev_ifb_eq (pc := 36) (tgt := 43) dX4_takeShipNumbers_36 (by decide) (fun c8 => ?_) (fun c8 => ?_)
        · replace h := ev_ifn h c8
          refine ev_iconst (pc := 43) (v := 0) dX4_takeShipNumbers_43 rfl ?_
          exact ev_iret (pc := 44) dX4_takeShipNumbers_44 rfl rfl (hR _ _ h)
        · replace h := ev_ifp h c8
          refine ev_iconst (pc := 39) (v := 1) dX4_takeShipNumbers_39 rfl ?_
          refine ev_goto (pc := 40) (tgt := 44) dX4_takeShipNumbers_40 (by decide) ?_
          exact ev_iret (pc := 44) dX4_takeShipNumbers_44 rfl rfl (hR _ _ h)
  · replace h := ev_ifp h c2
    refine ev_iconst (pc := 10) (v := 0) dX4_takeShipNumbers_10 rfl ?_
    exact ev_iret (pc := 11) dX4_takeShipNumbers_11 rfl rfl (hR _ _ h)
theorem c_X4_takeShipNumbers {G : ev_G} {mF : ev_m} {i0 : Nat} {r : Bool × ev_m} (h : f_X4_takeShipNumbers mF i0 = some r) : ev_CF G K_X4_takeShipNumbers B_X4_takeShipNumbers [vr 7 (i0)] mF (some (vi (bi (r.1)))) r.2 :=
  ev_Ct_of rfl rfl (Nat.le_of_ble_eq_true rfl) (e_X4_takeShipNumbers (R := some r) (fun x0 m0 q => by cases q; exact ⟨rfl, rfl⟩) (fun q => by cases q) h)
set_option maxRecDepth 20000 in
set_option maxHeartbeats 4000000 in
theorem e_X4_takeStar {G : ev_G} {Q : Option ev_V → ev_M → Prop} {R : Option (Bool × ev_m)} {mF : ev_m} (hR : ∀ (x0 : Bool) (m0 : ev_m), (some ((x0, m0))) = R → Q (some (vi (bi x0))) (ev_emb m0)) (hN : none ≠ R) {i0 : Nat} (h : f_X4_takeStar mF i0 = R) : ev_E G K_X4_takeStar B_X4_takeStar (0, 0) 0 [some (vr 7 (i0)), none, none] [] (ev_emb mF) Q := by
  unfold f_X4_takeStar at h
  refine ev_aload_0 (pc := 0) dX4_takeStar_0 ?_
  refine gt_X4_80 (pc := 1) rfl dX4_takeStar_1 ?_
  obtain ⟨x1, hx1, h⟩ := ev_letE h
  refine ev_topi (pc := 4) hx1 ?_
  refine ev_istore_1 (pc := 4) dX4_takeStar_4 (by decide) rfl ?_
  refine ev_aload_0 (pc := 5) dX4_takeStar_5 ?_
  obtain ⟨m2, hm2, h⟩ := ev_bindE hN h
  refine cl0_X4_66 (pc := 6) rfl dX4_takeStar_6 (by decide) (Nat.le_of_ble_eq_true rfl) (c_X4_next hm2) ?_
  refine ev_aload_0 (pc := 9) dX4_takeStar_9 ?_
  refine ev_iconst (pc := 10) (v := 0) dX4_takeStar_10 rfl ?_
  refine ev_iconst (pc := 11) (v := 0) dX4_takeStar_11 rfl ?_
  refine ev_sipush (pc := 12) (v := 999) dX4_takeStar_12 (by decide) ?_
  obtain ⟨p3, hp3, h⟩ := ev_bindE hN h
  refine cl1_X4_138 (pc := 15) rfl dX4_takeStar_15 (by decide) (Nat.le_of_ble_eq_true rfl) (c_X4_takeNumber hp3) ?_
  refine ev_ifb_ne (pc := 18) (tgt := 23) dX4_takeStar_18 (by decide) (fun c4 => ?_) (fun c4 => ?_)
  · replace h := ev_ifp h c4
    refine ev_aload_0 (pc := 23) dX4_takeStar_23 ?_
    refine gt_X4_142 (pc := 24) rfl dX4_takeStar_24 ?_
    obtain ⟨x5, hx5, h⟩ := ev_letE h
    refine ev_topi (pc := 27) hx5 ?_
    refine ev_istore_2 (pc := 27) dX4_takeStar_27 (by decide) rfl ?_
    refine ev_aload_0 (pc := 28) dX4_takeStar_28 ?_
    refine ev_iconst (pc := 29) (v := 0) dX4_takeStar_29 rfl ?_
    refine ev_iload_2 (pc := 30) dX4_takeStar_30 ?_
    refine ev_sipush (pc := 31) (v := 999) dX4_takeStar_31 (by decide) ?_
    obtain ⟨p6, hp6, h⟩ := ev_bindE hN h
    refine cl1_X4_138 (pc := 34) rfl dX4_takeStar_34 (by decide) (Nat.le_of_ble_eq_true rfl) (c_X4_takeNumber hp6) ?_
    refine ev_ifb_ne (pc := 37) (tgt := 42) dX4_takeStar_37 (by decide) (fun c7 => ?_) (fun c7 => ?_)
    · replace h := ev_ifp h c7
      refine ev_aload_0 (pc := 42) dX4_takeStar_42 ?_
      refine gt_X4_21 (pc := 43) rfl dX4_takeStar_43 ?_
      refine ev_iload_2 (pc := 46) dX4_takeStar_46 ?_
      refine ev_aload_0 (pc := 47) dX4_takeStar_47 ?_
      refine gt_X4_142 (pc := 48) rfl dX4_takeStar_48 ?_
      obtain ⟨p8, hp8, h⟩ := ev_letE h
      refine cl1_X4_170 (pc := 51) (fr := 1) (lo := 22) (m' := p8.2) (v := vi (bi (p8.1))) rfl dX4_takeStar_51 (by decide) (Nat.le_of_ble_eq_true rfl) (by rw [hp8]; exact c_X1_addStar p6.2 17 x5 (p6.2.1 7 i0 10)) ?_
      refine ev_ifb_ne (pc := 54) (tgt := 63) dX4_takeStar_54 (by decide) (fun c9 => ?_) (fun c9 => ?_)
      · replace h := ev_ifp h c9
        refine ev_iconst (pc := 63) (v := 1) dX4_takeStar_63 rfl ?_
        exact ev_iret (pc := 64) dX4_takeStar_64 rfl rfl (hR _ _ h)
      · replace h := ev_ifn h c9
        refine ev_aload_0 (pc := 57) dX4_takeStar_57 ?_
        refine ev_iconst (pc := 58) (v := 3) dX4_takeStar_58 rfl ?_
        refine ev_iload_1 (pc := 59) dX4_takeStar_59 ?_
        obtain ⟨m10, hm10, h⟩ := ev_letE h
        refine cl0_X4_86 (pc := 60) (fr := 0) (lo := 0) (m' := m10) rfl dX4_takeStar_60 (by decide) (Nat.le_of_ble_eq_true rfl) (by rw [hm10]; exact c_X4_note p8.2 i0 3 x1) ?_
        refine ev_iconst (pc := 63) (v := 1) dX4_takeStar_63 rfl ?_
        exact ev_iret (pc := 64) dX4_takeStar_64 rfl rfl (hR _ _ h)
    · replace h := ev_ifn h c7
      refine ev_iconst (pc := 40) (v := 0) dX4_takeStar_40 rfl ?_
      exact ev_iret (pc := 41) dX4_takeStar_41 rfl rfl (hR _ _ h)
  · replace h := ev_ifn h c4
    refine ev_iconst (pc := 21) (v := 0) dX4_takeStar_21 rfl ?_
    exact ev_iret (pc := 22) dX4_takeStar_22 rfl rfl (hR _ _ h)
theorem c_X4_takeStar {G : ev_G} {mF : ev_m} {i0 : Nat} {r : Bool × ev_m} (h : f_X4_takeStar mF i0 = some r) : ev_CF G K_X4_takeStar B_X4_takeStar [vr 7 (i0)] mF (some (vi (bi (r.1)))) r.2 :=
  ev_Ct_of rfl rfl (Nat.le_of_ble_eq_true rfl) (e_X4_takeStar (R := some r) (fun x0 m0 q => by cases q; exact ⟨rfl, rfl⟩) (fun q => by cases q) h)
set_option maxRecDepth 20000 in
set_option maxHeartbeats 4000000 in
theorem e_X4_handWord {G : ev_G} {Q : Option ev_V → ev_M → Prop} {R : Option (Int32)} {mF : ev_m} (hR : ∀ x0 : Int32, (some (x0)) = R → Q (some (vi x0)) (ev_emb mF)) (hN : none ≠ R) {i0 : Nat} (h : f_X4_handWord mF i0 = R) : ev_E G K_X4_handWord B_X4_handWord (0, 0) 0 [some (vr 7 (i0))] [] (ev_emb mF) Q := by
  unfold f_X4_handWord at h
  refine ev_aload_0 (pc := 0) dX4_handWord_0 ?_
  refine ev_ldcs (pc := 1) (j := 11) (by decide) rfl dX4_handWord_1 ?_
  obtain ⟨x1, hx1, h⟩ := ev_bindE hN h
  refine cl1_X4_92 (pc := 3) rfl dX4_handWord_3 (by decide) (Nat.le_of_ble_eq_true rfl) (c_X4_isWord hx1) ?_
  refine ev_ifb_eq (pc := 6) (tgt := 13) dX4_handWord_6 (by decide) (fun c2 => ?_) (fun c2 => ?_)
  · replace h := ev_ifn h c2
    refine ev_aload_0 (pc := 13) dX4_handWord_13 ?_
    refine ev_ldcs (pc := 14) (j := 12) (by decide) rfl dX4_handWord_14 ?_
    obtain ⟨x3, hx3, h⟩ := ev_bindE hN h
    refine cl1_X4_92 (pc := 16) rfl dX4_handWord_16 (by decide) (Nat.le_of_ble_eq_true rfl) (c_X4_isWord hx3) ?_
    refine ev_ifb_eq (pc := 19) (tgt := 26) dX4_handWord_19 (by decide) (fun c4 => ?_) (fun c4 => ?_)
    · replace h := ev_ifn h c4
      refine ev_aload_0 (pc := 26) dX4_handWord_26 ?_
      refine ev_ldcs (pc := 27) (j := 13) (by decide) rfl dX4_handWord_27 ?_
      obtain ⟨x5, hx5, h⟩ := ev_bindE hN h
      refine cl1_X4_92 (pc := 29) rfl dX4_handWord_29 (by decide) (Nat.le_of_ble_eq_true rfl) (c_X4_isWord hx5) ?_
      refine ev_ifb_eq (pc := 32) (tgt := 39) dX4_handWord_32 (by decide) (fun c6 => ?_) (fun c6 => ?_)
      · replace h := ev_ifn h c6
        refine ev_aload_0 (pc := 39) dX4_handWord_39 ?_
        refine ev_ldcs (pc := 40) (j := 14) (by decide) rfl dX4_handWord_40 ?_
        obtain ⟨x7, hx7, h⟩ := ev_bindE hN h
        refine cl1_X4_92 (pc := 42) rfl dX4_handWord_42 (by decide) (Nat.le_of_ble_eq_true rfl) (c_X4_isWord hx7) ?_
        refine ev_ifb_eq (pc := 45) (tgt := 52) dX4_handWord_45 (by decide) (fun c8 => ?_) (fun c8 => ?_)
        · replace h := ev_ifn h c8
          refine ev_aload_0 (pc := 52) dX4_handWord_52 ?_
          refine ev_ldcs (pc := 53) (j := 15) (by decide) rfl dX4_handWord_53 ?_
          obtain ⟨x9, hx9, h⟩ := ev_bindE hN h
          refine cl1_X4_92 (pc := 55) rfl dX4_handWord_55 (by decide) (Nat.le_of_ble_eq_true rfl) (c_X4_isWord hx9) ?_
          refine ev_ifb_eq (pc := 58) (tgt := 65) dX4_handWord_58 (by decide) (fun c10 => ?_) (fun c10 => ?_)
          · replace h := ev_ifn h c10
            refine ev_aload_0 (pc := 65) dX4_handWord_65 ?_
            refine ev_ldcs (pc := 66) (j := 16) (by decide) rfl dX4_handWord_66 ?_
            obtain ⟨x11, hx11, h⟩ := ev_bindE hN h
            refine cl1_X4_92 (pc := 68) rfl dX4_handWord_68 (by decide) (Nat.le_of_ble_eq_true rfl) (c_X4_isWord hx11) ?_
            refine ev_ifb_eq (pc := 71) (tgt := 78) dX4_handWord_71 (by decide) (fun c12 => ?_) (fun c12 => ?_)
            · replace h := ev_ifn h c12
              refine ev_aload_0 (pc := 78) dX4_handWord_78 ?_
              refine ev_ldcs (pc := 79) (j := 17) (by decide) rfl dX4_handWord_79 ?_
              obtain ⟨x13, hx13, h⟩ := ev_bindE hN h
              refine cl1_X4_92 (pc := 81) rfl dX4_handWord_81 (by decide) (Nat.le_of_ble_eq_true rfl) (c_X4_isWord hx13) ?_
              refine ev_ifb_eq (pc := 84) (tgt := 92) dX4_handWord_84 (by decide) (fun c14 => ?_) (fun c14 => ?_)
              · replace h := ev_ifn h c14
                refine ev_aload_0 (pc := 92) dX4_handWord_92 ?_
                refine ev_ldcs (pc := 93) (j := 18) (by decide) rfl dX4_handWord_93 ?_
                obtain ⟨x15, hx15, h⟩ := ev_bindE hN h
                refine cl1_X4_92 (pc := 95) rfl dX4_handWord_95 (by decide) (Nat.le_of_ble_eq_true rfl) (c_X4_isWord hx15) ?_
                refine ev_ifb_eq (pc := 98) (tgt := 106) dX4_handWord_98 (by decide) (fun c16 => ?_) (fun c16 => ?_)
                · replace h := ev_ifn h c16
                  refine ev_aload_0 (pc := 106) dX4_handWord_106 ?_
                  refine ev_ldcs (pc := 107) (j := 19) (by decide) rfl dX4_handWord_107 ?_
                  obtain ⟨x17, hx17, h⟩ := ev_bindE hN h
                  refine cl1_X4_92 (pc := 109) rfl dX4_handWord_109 (by decide) (Nat.le_of_ble_eq_true rfl) (c_X4_isWord hx17) ?_
                  refine ev_ifb_eq (pc := 112) (tgt := 120) dX4_handWord_112 (by decide) (fun c18 => ?_) (fun c18 => ?_)
                  · replace h := ev_ifn h c18
                    refine ev_iconst (pc := 120) (v := (-1)) dX4_handWord_120 rfl ?_
                    exact ev_iret (pc := 121) dX4_handWord_121 rfl rfl (hR _ h)
                  · replace h := ev_ifp h c18
                    refine ev_bipush (pc := 115) (v := 8) dX4_handWord_115 (by decide) ?_
                    refine ev_goto (pc := 117) (tgt := 121) dX4_handWord_117 (by decide) ?_
                    exact ev_iret (pc := 121) dX4_handWord_121 rfl rfl (hR _ h)
                · replace h := ev_ifp h c16
                  refine ev_bipush (pc := 101) (v := 7) dX4_handWord_101 (by decide) ?_
                  refine ev_goto (pc := 103) (tgt := 121) dX4_handWord_103 (by decide) ?_
                  exact ev_iret (pc := 121) dX4_handWord_121 rfl rfl (hR _ h)
              · replace h := ev_ifp h c14
                refine ev_bipush (pc := 87) (v := 6) dX4_handWord_87 (by decide) ?_
                refine ev_goto (pc := 89) (tgt := 121) dX4_handWord_89 (by decide) ?_
                exact ev_iret (pc := 121) dX4_handWord_121 rfl rfl (hR _ h)
            · replace h := ev_ifp h c12
              refine ev_iconst (pc := 74) (v := 5) dX4_handWord_74 rfl ?_
              refine ev_goto (pc := 75) (tgt := 121) dX4_handWord_75 (by decide) ?_
              exact ev_iret (pc := 121) dX4_handWord_121 rfl rfl (hR _ h)
          · replace h := ev_ifp h c10
            refine ev_iconst (pc := 61) (v := 4) dX4_handWord_61 rfl ?_
            refine ev_goto (pc := 62) (tgt := 121) dX4_handWord_62 (by decide) ?_
            exact ev_iret (pc := 121) dX4_handWord_121 rfl rfl (hR _ h)
        · replace h := ev_ifp h c8
          refine ev_iconst (pc := 48) (v := 3) dX4_handWord_48 rfl ?_
          refine ev_goto (pc := 49) (tgt := 121) dX4_handWord_49 (by decide) ?_
          exact ev_iret (pc := 121) dX4_handWord_121 rfl rfl (hR _ h)
      · replace h := ev_ifp h c6
        refine ev_iconst (pc := 35) (v := 2) dX4_handWord_35 rfl ?_
        refine ev_goto (pc := 36) (tgt := 121) dX4_handWord_36 (by decide) ?_
        exact ev_iret (pc := 121) dX4_handWord_121 rfl rfl (hR _ h)
    · replace h := ev_ifp h c4
      refine ev_iconst (pc := 22) (v := 1) dX4_handWord_22 rfl ?_
      refine ev_goto (pc := 23) (tgt := 121) dX4_handWord_23 (by decide) ?_
      exact ev_iret (pc := 121) dX4_handWord_121 rfl rfl (hR _ h)
  · replace h := ev_ifp h c2
    refine ev_iconst (pc := 9) (v := 0) dX4_handWord_9 rfl ?_
    refine ev_goto (pc := 10) (tgt := 121) dX4_handWord_10 (by decide) ?_
    exact ev_iret (pc := 121) dX4_handWord_121 rfl rfl (hR _ h)
theorem c_X4_handWord {G : ev_G} {mF : ev_m} {i0 : Nat} {r : Int32} (h : f_X4_handWord mF i0 = some r) : ev_CF G K_X4_handWord B_X4_handWord [vr 7 (i0)] mF (some (vi (r))) mF :=
  ev_Ct_of rfl rfl (Nat.le_of_ble_eq_true rfl) (e_X4_handWord (R := some r) (fun x0 q => by cases q; exact ⟨rfl, rfl⟩) (fun q => by cases q) h)
set_option maxRecDepth 20000 in
set_option maxHeartbeats 4000000 in
theorem e_X4_takeHandNumber {G : ev_G} {Q : Option ev_V → ev_M → Prop} {R : Option (Bool × ev_m)} {mF : ev_m} (hR : ∀ (x0 : Bool) (m0 : ev_m), (some ((x0, m0))) = R → Q (some (vi (bi x0))) (ev_emb m0)) (hN : none ≠ R) {i0 : Nat} (h : f_X4_takeHandNumber mF i0 = R) : ev_E G K_X4_takeHandNumber B_X4_takeHandNumber (0, 0) 0 [some (vr 7 (i0)), none] [] (ev_emb mF) Q := by
  unfold f_X4_takeHandNumber at h
  refine ev_aload_0 (pc := 0) dX4_takeHandNumber_0 ?_
  obtain ⟨x1, hx1, h⟩ := ev_bindE hN h
  refine cl1_X4_160 (pc := 1) rfl dX4_takeHandNumber_1 (by decide) (Nat.le_of_ble_eq_true rfl) (c_X4_handWord hx1) ?_
  refine ev_istore_1 (pc := 4) dX4_takeHandNumber_4 (by decide) rfl ?_
  refine ev_iload_1 (pc := 5) dX4_takeHandNumber_5 ?_
  refine ev_iconst (pc := 6) (v := (-1)) dX4_takeHandNumber_6 rfl ?_
  refine ev_icc_ne (pc := 7) (tgt := 12) dX4_takeHandNumber_7 (by decide) (fun c2 => ?_) (fun c2 => ?_)
  · replace h := ev_ifn h c2
    refine ev_aload_0 (pc := 12) dX4_takeHandNumber_12 ?_
    obtain ⟨m3, hm3, h⟩ := ev_bindE hN h
    refine cl0_X4_66 (pc := 13) rfl dX4_takeHandNumber_13 (by decide) (Nat.le_of_ble_eq_true rfl) (c_X4_next hm3) ?_
    refine ev_iload_1 (pc := 16) dX4_takeHandNumber_16 ?_
    refine ev_bipush (pc := 17) (v := 8) dX4_takeHandNumber_17 (by decide) ?_
    refine ev_icc_ne (pc := 19) (tgt := 34) dX4_takeHandNumber_19 (by decide) (fun c4 => ?_) (fun c4 => ?_)
    · replace h := ev_ifn h c4
      refine ev_aload_0 (pc := 34) dX4_takeHandNumber_34 ?_
      refine ev_iconst (pc := 35) (v := 0) dX4_takeHandNumber_35 rfl ?_
      refine ev_gets (pc := 36) (j := 2) (by decide) rfl (List.mem_of_getElem? (i := 2) rfl) dX4_takeHandNumber_36 ?_
      refine ev_iload_1 (pc := 39) dX4_takeHandNumber_39 ?_
      refine cl1_X4_131 (pc := 40) rfl dX4_takeHandNumber_40 (by decide) (Nat.le_of_ble_eq_true rfl) (c_X9_atC (j := 2) (by decide)) ?_
      refine ev_gets (pc := 43) (j := 3) (by decide) rfl (List.mem_of_getElem? (i := 3) rfl) dX4_takeHandNumber_43 ?_
      refine ev_iload_1 (pc := 46) dX4_takeHandNumber_46 ?_
      refine cl1_X4_131 (pc := 47) rfl dX4_takeHandNumber_47 (by decide) (Nat.le_of_ble_eq_true rfl) (c_X9_atC (j := 3) (by decide)) ?_
      obtain ⟨p5, hp5, h⟩ := ev_bindE hN h
      refine cl1_X4_138 (pc := 50) rfl dX4_takeHandNumber_50 (by decide) (Nat.le_of_ble_eq_true rfl) (c_X4_takeNumber hp5) ?_
      refine ev_ifb_ne (pc := 53) (tgt := 58) dX4_takeHandNumber_53 (by decide) (fun c6 => ?_) (fun c6 => ?_)
      · replace h := ev_ifp h c6
        refine ev_aload_0 (pc := 58) dX4_takeHandNumber_58 ?_
        refine gt_X4_21 (pc := 59) rfl dX4_takeHandNumber_59 ?_
        refine ev_iload_1 (pc := 62) dX4_takeHandNumber_62 ?_
        refine ev_aload_0 (pc := 63) dX4_takeHandNumber_63 ?_
        refine gt_X4_142 (pc := 64) rfl dX4_takeHandNumber_64 ?_
        obtain ⟨m7, hm7, h⟩ := ev_letE h
        refine cl0_X4_163 (pc := 67) (fr := 0) (lo := 0) (m' := m7) rfl dX4_takeHandNumber_67 (by decide) (Nat.le_of_ble_eq_true rfl) (by rw [hm7]; exact c_X1_write p5.2 17 x1 (p5.2.1 7 i0 10)) ?_
        refine ev_iconst (pc := 70) (v := 1) dX4_takeHandNumber_70 rfl ?_
        exact ev_iret (pc := 71) dX4_takeHandNumber_71 rfl rfl (hR _ _ h)
      · replace h := ev_ifn h c6
        refine ev_iconst (pc := 56) (v := 0) dX4_takeHandNumber_56 rfl ?_
        exact ev_iret (pc := 57) dX4_takeHandNumber_57 rfl rfl (hR _ _ h)
    · replace h := ev_ifp h c4
      refine ev_aload_0 (pc := 22) dX4_takeHandNumber_22 ?_
      refine gt_X4_21 (pc := 23) rfl dX4_takeHandNumber_23 ?_
      refine ev_bipush (pc := 26) (v := 8) dX4_takeHandNumber_26 (by decide) ?_
      refine ev_iconst (pc := 28) (v := 1) dX4_takeHandNumber_28 rfl ?_
      obtain ⟨m8, hm8, h⟩ := ev_letE h
      refine cl0_X4_163 (pc := 29) (fr := 0) (lo := 0) (m' := m8) rfl dX4_takeHandNumber_29 (by decide) (Nat.le_of_ble_eq_true rfl) (by rw [hm8]; exact c_X1_write m3 17 8 1) ?_
      refine ev_iconst (pc := 32) (v := 1) dX4_takeHandNumber_32 rfl ?_
      exact ev_iret (pc := 33) dX4_takeHandNumber_33 rfl rfl (hR _ _ h)
  · replace h := ev_ifp h c2
    refine ev_iconst (pc := 10) (v := 0) dX4_takeHandNumber_10 rfl ?_
    exact ev_iret (pc := 11) dX4_takeHandNumber_11 rfl rfl (hR _ _ h)
theorem c_X4_takeHandNumber {G : ev_G} {mF : ev_m} {i0 : Nat} {r : Bool × ev_m} (h : f_X4_takeHandNumber mF i0 = some r) : ev_CF G K_X4_takeHandNumber B_X4_takeHandNumber [vr 7 (i0)] mF (some (vi (bi (r.1)))) r.2 :=
  ev_Ct_of rfl rfl (Nat.le_of_ble_eq_true rfl) (e_X4_takeHandNumber (R := some r) (fun x0 m0 q => by cases q; exact ⟨rfl, rfl⟩) (fun q => by cases q) h)
set_option maxRecDepth 20000 in
set_option maxHeartbeats 4000000 in
theorem e_jn_X4_takeHeadings_63_6 {G : ev_G} {Q : Option ev_V → ev_M → Prop} {R : Option (Bool × ev_m)} (hR : ∀ (x0 : Bool) (m0 : ev_m), (some ((x0, m0))) = R → Q (some (vi (bi x0))) (ev_emb m0)) (hN : none ≠ R) {m13 : ev_m} {i2 : Nat} {x12 : Int32} {kb : Int32 → ev_m → Option (Bool × ev_m)} {kx : ev_m → Option (Bool × ev_m)}  (h : jn_X4_takeHeadings_63_6 m13 i2 x12 kb kx = R) (hkb : ∀ (x3' : Int32) (m4' : ev_m), kb x3' m4' = R → ev_E G K_X4_takeHeadings B_X4_takeHeadings (0, 0) 6 [some (vr 7 (i2)), some (vi (x3'))] [] (ev_emb m4') Q) (hkx : ∀ (m4' : ev_m), kx m4' = R → ev_E G K_X4_takeHeadings B_X4_takeHeadings (0, 0) 69 [none, none] [] (ev_emb m4') Q) : ev_E G K_X4_takeHeadings B_X4_takeHeadings (0, 0) 63 [some (vr 7 (i2)), some (vi (x12))] [] (ev_emb m13) Q := by
  unfold jn_X4_takeHeadings_63_6 at h
  refine ev_iinc_1 (pc := 63) (y := x12 + 1) dX4_takeHeadings_63 rfl (by decide) rfl ?_
  refine ev_goto (pc := 66) (tgt := 6) dX4_takeHeadings_66 (by decide) ?_
  exact hkb _ _  h
set_option maxRecDepth 20000 in
set_option maxHeartbeats 4000000 in
theorem e_jn_X4_takeHeadings_24_6 {G : ev_G} {Q : Option ev_V → ev_M → Prop} {R : Option (Bool × ev_m)} (hR : ∀ (x0 : Bool) (m0 : ev_m), (some ((x0, m0))) = R → Q (some (vi (bi x0))) (ev_emb m0)) (hN : none ≠ R) {m7 : ev_m} {i2 : Nat} {x6 : Int32} {kb : Int32 → ev_m → Option (Bool × ev_m)} {kx : ev_m → Option (Bool × ev_m)}  (h : jn_X4_takeHeadings_24_6 m7 i2 x6 kb kx = R) (hkb : ∀ (x3' : Int32) (m4' : ev_m), kb x3' m4' = R → ev_E G K_X4_takeHeadings B_X4_takeHeadings (0, 0) 6 [some (vr 7 (i2)), some (vi (x3'))] [] (ev_emb m4') Q) (hkx : ∀ (m4' : ev_m), kx m4' = R → ev_E G K_X4_takeHeadings B_X4_takeHeadings (0, 0) 69 [none, none] [] (ev_emb m4') Q) : ev_E G K_X4_takeHeadings B_X4_takeHeadings (0, 0) 24 [some (vr 7 (i2)), some (vi (x6))] [] (ev_emb m7) Q := by
  unfold jn_X4_takeHeadings_24_6 at h
  refine ev_aload_0 (pc := 24) dX4_takeHeadings_24 ?_
  refine ev_iconst (pc := 25) (v := 1) dX4_takeHeadings_25 rfl ?_
  refine ev_sipush (pc := 26) (v := (-9999)) dX4_takeHeadings_26 (by decide) ?_
  refine ev_sipush (pc := 29) (v := 9999) dX4_takeHeadings_29 (by decide) ?_
  obtain ⟨p8, hp8, h⟩ := ev_bindE hN h
  refine cl1_X4_138 (pc := 32) rfl dX4_takeHeadings_32 (by decide) (Nat.le_of_ble_eq_true rfl) (c_X4_takeNumber hp8) ?_
  refine ev_ifb_ne (pc := 35) (tgt := 40) dX4_takeHeadings_35 (by decide) (fun c9 => ?_) (fun c9 => ?_)
  · replace h := ev_ifp h c9
    refine ev_aload_0 (pc := 40) dX4_takeHeadings_40 ?_
    refine gt_X4_28 (pc := 41) rfl dX4_takeHeadings_41 ?_
    refine ev_aload_0 (pc := 44) dX4_takeHeadings_44 ?_
    refine gt_X4_142 (pc := 45) rfl dX4_takeHeadings_45 ?_
    obtain ⟨p10, hp10, h⟩ := ev_letE h
    refine cl1_X4_174 (pc := 48) (fr := 1) (lo := 22) (m' := p10.2) (v := vi (bi (p10.1))) rfl dX4_takeHeadings_48 (by decide) (Nat.le_of_ble_eq_true rfl) (by rw [hp10]; exact c_X3_addHeading p8.2 8 (p8.2.1 7 i2 10)) ?_
    refine ev_ifb_ne (pc := 51) (tgt := 63) dX4_takeHeadings_51 (by decide) (fun c11 => ?_) (fun c11 => ?_)
    · replace h := ev_ifp h c11
      exact e_jn_X4_takeHeadings_63_6 hR hN h hkb hkx
    · replace h := ev_ifn h c11
      refine ev_aload_0 (pc := 54) dX4_takeHeadings_54 ?_
      refine ev_iconst (pc := 55) (v := 3) dX4_takeHeadings_55 rfl ?_
      refine ev_aload_0 (pc := 56) dX4_takeHeadings_56 ?_
      refine gt_X4_157 (pc := 57) rfl dX4_takeHeadings_57 ?_
      obtain ⟨m14, hm14, h⟩ := ev_letE h
      refine cl0_X4_86 (pc := 60) (fr := 0) (lo := 0) (m' := m14) rfl dX4_takeHeadings_60 (by decide) (Nat.le_of_ble_eq_true rfl) (by rw [hm14]; exact c_X4_note p10.2 i2 3 (p10.2.1 7 i2 11)) ?_
      exact e_jn_X4_takeHeadings_63_6 hR hN h hkb hkx
  · replace h := ev_ifn h c9
    refine ev_iconst (pc := 38) (v := 0) dX4_takeHeadings_38 rfl ?_
    exact ev_iret (pc := 39) dX4_takeHeadings_39 rfl rfl (hR _ _ h)
set_option maxRecDepth 20000 in
set_option maxHeartbeats 4000000 in
theorem e_lp_X4_takeHeadings_6 {G : ev_G} {Q : Option ev_V → ev_M → Prop} {R : Option (Bool × ev_m)} (hR : ∀ (x0 : Bool) (m0 : ev_m), (some ((x0, m0))) = R → Q (some (vi (bi x0))) (ev_emb m0)) (hN : none ≠ R) {i2 : Nat} : ∀ (f : Nat) (x3 : Int32) (m4 : ev_m) (kx : ev_m → Option (Bool × ev_m)) (h : lp_X4_takeHeadings_6 i2 f x3 m4 kx = R) (hk : ∀ (m4' : ev_m), kx m4' = R → ev_E G K_X4_takeHeadings B_X4_takeHeadings (0, 0) 69 [none, none] [] (ev_emb m4') Q), ev_E G K_X4_takeHeadings B_X4_takeHeadings (0, 0) 6 [some (vr 7 (i2)), some (vi (x3))] [] (ev_emb m4) Q := by
  intro f
  induction f with
  | zero => intro x3 m4 kx h hk; rw [lp_X4_takeHeadings_6] at h; exact absurd h hN
  | succ f ih =>
    intro x3 m4 kx h hk
    rw [lp_X4_takeHeadings_6] at h
    refine ev_iload_1 (pc := 6) dX4_takeHeadings_6 ?_
    refine ev_ifc_eq (pc := 7) (tgt := 24) dX4_takeHeadings_7 (by decide) (fun c5 => ?_) (fun c5 => ?_)
    · replace h := ev_ifp h c5
      exact e_jn_X4_takeHeadings_24_6 hR hN h (fun _ _ h => ih _ _ kx h hk) hk
    · replace h := ev_ifn h c5
      refine ev_iload_1 (pc := 10) dX4_takeHeadings_10 ?_
      refine ev_sipush (pc := 11) (v := 600) dX4_takeHeadings_11 (by decide) ?_
      refine ev_icc_gt (pc := 14) (tgt := 69) dX4_takeHeadings_14 (by decide) (fun c15 => ?_) (fun c15 => ?_)
      · replace h := ev_ifp h c15
        refine ev_E.forget (L' := [none, none]) trivial ?_
        exact hk _  h
      · replace h := ev_ifn h c15
        refine ev_aload_0 (pc := 17) dX4_takeHeadings_17 ?_
        refine cl1_X4_151 (pc := 18) rfl dX4_takeHeadings_18 (by decide) (Nat.le_of_ble_eq_true rfl) (c_X4_goesOnWithNumber m4 i2) ?_
        refine ev_ifb_eq (pc := 21) (tgt := 69) dX4_takeHeadings_21 (by decide) (fun c16 => ?_) (fun c16 => ?_)
        · replace h := ev_ifn h c16
          refine ev_E.forget (L' := [none, none]) trivial ?_
          exact hk _  h
        · replace h := ev_ifp h c16
          exact e_jn_X4_takeHeadings_24_6 hR hN h (fun _ _ h => ih _ _ kx h hk) hk
set_option maxRecDepth 20000 in
set_option maxHeartbeats 4000000 in
theorem e_X4_takeHeadings {G : ev_G} {Q : Option ev_V → ev_M → Prop} {R : Option (Bool × ev_m)} {mF : ev_m} (hR : ∀ (x0 : Bool) (m0 : ev_m), (some ((x0, m0))) = R → Q (some (vi (bi x0))) (ev_emb m0)) (hN : none ≠ R) {i0 : Nat} (h : f_X4_takeHeadings mF i0 = R) : ev_E G K_X4_takeHeadings B_X4_takeHeadings (0, 0) 0 [some (vr 7 (i0)), none] [] (ev_emb mF) Q := by
  unfold f_X4_takeHeadings at h
  refine ev_aload_0 (pc := 0) dX4_takeHeadings_0 ?_
  obtain ⟨m1, hm1, h⟩ := ev_bindE hN h
  refine cl0_X4_66 (pc := 1) rfl dX4_takeHeadings_1 (by decide) (Nat.le_of_ble_eq_true rfl) (c_X4_next hm1) ?_
  refine ev_iconst (pc := 4) (v := 0) dX4_takeHeadings_4 rfl ?_
  refine ev_istore_1 (pc := 5) dX4_takeHeadings_5 (by decide) rfl ?_
  refine e_lp_X4_takeHeadings_6 hR hN 4000 _ _ _ h (fun m17 h => ?_)
  refine ev_iconst (pc := 69) (v := 1) dX4_takeHeadings_69 rfl ?_
  exact ev_iret (pc := 70) dX4_takeHeadings_70 rfl rfl (hR _ _ h)
theorem c_X4_takeHeadings {G : ev_G} {mF : ev_m} {i0 : Nat} {r : Bool × ev_m} (h : f_X4_takeHeadings mF i0 = some r) : ev_CF G K_X4_takeHeadings B_X4_takeHeadings [vr 7 (i0)] mF (some (vi (bi (r.1)))) r.2 :=
  ev_Ct_of rfl rfl (Nat.le_of_ble_eq_true rfl) (e_X4_takeHeadings (R := some r) (fun x0 m0 q => by cases q; exact ⟨rfl, rfl⟩) (fun q => by cases q) h)
set_option maxRecDepth 20000 in
set_option maxHeartbeats 4000000 in
theorem e_X7_addMan {G : ev_G} {Q : Option ev_V → ev_M → Prop} {R : Bool × ev_m} {mF : ev_m} (hR : ∀ (x0 : Bool) (m0 : ev_m), (x0, m0) = R → Q (some (vi (bi x0))) (ev_emb m0)) {i0 : Nat} {x1_ : Int32} {x2_ : Int32} (h : s_X7_addMan mF i0 x1_ x2_ = R) : ev_E G K_X7_addMan B_X7_addMan (0, 0) 0 [some (vr 6 (i0)), some (vi (x1_)), some (vi (x2_))] [] (ev_emb mF) Q := by
  unfold s_X7_addMan at h
  refine ev_aload_0 (pc := 0) dX7_addMan_0 ?_
  refine gt_X7_18 (pc := 1) rfl dX7_addMan_1 ?_
  refine ev_bipush (pc := 4) (v := 8) dX7_addMan_4 (by decide) ?_
  refine ev_icc_lt (pc := 6) (tgt := 11) dX7_addMan_6 (by decide) (fun c1 => ?_) (fun c1 => ?_)
  · replace h := ev_ifp h c1
    refine ev_aload_0 (pc := 11) dX7_addMan_11 ?_
    refine gt_X7_9 (pc := 12) rfl dX7_addMan_12 ?_
    refine ev_aload_0 (pc := 15) dX7_addMan_15 ?_
    refine gt_X7_18 (pc := 16) rfl dX7_addMan_16 ?_
    refine ev_iload_1 (pc := 19) dX7_addMan_19 ?_
    obtain ⟨m2, hm2, h⟩ := ev_letE h
    refine cl0_X7_26 (pc := 20) (fr := 0) (lo := 0) (m' := m2) rfl dX7_addMan_20 (by decide) (Nat.le_of_ble_eq_true rfl) (by rw [hm2]; exact c_X9_put (r := 16) rfl (by decide) (by decide)) ?_
    refine ev_aload_0 (pc := 23) dX7_addMan_23 ?_
    refine gt_X7_15 (pc := 24) rfl dX7_addMan_24 ?_
    refine ev_aload_0 (pc := 27) dX7_addMan_27 ?_
    refine gt_X7_18 (pc := 28) rfl dX7_addMan_28 ?_
    refine ev_iload_2 (pc := 31) dX7_addMan_31 ?_
    obtain ⟨m3, hm3, h⟩ := ev_letE h
    refine cl0_X7_26 (pc := 32) (fr := 0) (lo := 0) (m' := m3) rfl dX7_addMan_32 (by decide) (Nat.le_of_ble_eq_true rfl) (by rw [hm3]; exact c_X9_put (r := 17) rfl (by decide) (by decide)) ?_
    refine ev_aload_0 (pc := 35) dX7_addMan_35 ?_
    refine ev_dup_r (pc := 36) dX7_addMan_36 ?_
    refine gt_X7_18 (pc := 37) rfl dX7_addMan_37 ?_
    refine ev_iconst (pc := 40) (v := 1) dX7_addMan_40 rfl ?_
    refine ev_iadd (pc := 41) dX7_addMan_41 ?_
    obtain ⟨m4, hm4, h⟩ := ev_letE h
    refine pt_X7_18 (pc := 42) rfl dX7_addMan_42 ?_
    refine ev_mem (pc := 45) hm4 ?_
    refine ev_iconst (pc := 45) (v := 1) dX7_addMan_45 rfl ?_
    exact ev_iret (pc := 46) dX7_addMan_46 rfl rfl (hR _ _ h)
  · replace h := ev_ifn h c1
    refine ev_iconst (pc := 9) (v := 0) dX7_addMan_9 rfl ?_
    exact ev_iret (pc := 10) dX7_addMan_10 rfl rfl (hR _ _ h)
theorem c_X7_addMan {G : ev_G} (mF : ev_m) (i0 : Nat) (x1_ : Int32) (x2_ : Int32) : ev_CF G K_X7_addMan B_X7_addMan [vr 6 (i0), vi (x1_), vi (x2_)] mF (some (vi (bi ((s_X7_addMan mF i0 x1_ x2_).1)))) (s_X7_addMan mF i0 x1_ x2_).2 :=
  ev_Ct_of rfl rfl (Nat.le_of_ble_eq_true rfl) (e_X7_addMan (R := s_X7_addMan mF i0 x1_ x2_) (fun x0 m0 q => ⟨by rw [← q], by rw [← q]⟩) rfl)
set_option maxRecDepth 20000 in
set_option maxHeartbeats 4000000 in
theorem e_X4_takeMan {G : ev_G} {Q : Option ev_V → ev_M → Prop} {R : Option (Bool × ev_m)} {mF : ev_m} (hR : ∀ (x0 : Bool) (m0 : ev_m), (some ((x0, m0))) = R → Q (some (vi (bi x0))) (ev_emb m0)) (hN : none ≠ R) {i0 : Nat} (h : f_X4_takeMan mF i0 = R) : ev_E G K_X4_takeMan B_X4_takeMan (0, 0) 0 [some (vr 7 (i0)), none, none] [] (ev_emb mF) Q := by
  unfold f_X4_takeMan at h
  refine ev_aload_0 (pc := 0) dX4_takeMan_0 ?_
  refine gt_X4_80 (pc := 1) rfl dX4_takeMan_1 ?_
  obtain ⟨x1, hx1, h⟩ := ev_letE h
  refine ev_topi (pc := 4) hx1 ?_
  refine ev_istore_1 (pc := 4) dX4_takeMan_4 (by decide) rfl ?_
  refine ev_aload_0 (pc := 5) dX4_takeMan_5 ?_
  obtain ⟨m2, hm2, h⟩ := ev_bindE hN h
  refine cl0_X4_66 (pc := 6) rfl dX4_takeMan_6 (by decide) (Nat.le_of_ble_eq_true rfl) (c_X4_next hm2) ?_
  refine ev_aload_0 (pc := 9) dX4_takeMan_9 ?_
  refine ev_iconst (pc := 10) (v := 0) dX4_takeMan_10 rfl ?_
  refine ev_iconst (pc := 11) (v := 0) dX4_takeMan_11 rfl ?_
  refine ev_iconst (pc := 12) (v := 3) dX4_takeMan_12 rfl ?_
  obtain ⟨p3, hp3, h⟩ := ev_bindE hN h
  refine cl1_X4_138 (pc := 13) rfl dX4_takeMan_13 (by decide) (Nat.le_of_ble_eq_true rfl) (c_X4_takeNumber hp3) ?_
  refine ev_ifb_ne (pc := 16) (tgt := 21) dX4_takeMan_16 (by decide) (fun c4 => ?_) (fun c4 => ?_)
  · replace h := ev_ifp h c4
    refine ev_aload_0 (pc := 21) dX4_takeMan_21 ?_
    refine gt_X4_142 (pc := 22) rfl dX4_takeMan_22 ?_
    obtain ⟨x5, hx5, h⟩ := ev_letE h
    refine ev_topi (pc := 25) hx5 ?_
    refine ev_istore_2 (pc := 25) dX4_takeMan_25 (by decide) rfl ?_
    refine ev_aload_0 (pc := 26) dX4_takeMan_26 ?_
    refine ev_iconst (pc := 27) (v := 0) dX4_takeMan_27 rfl ?_
    refine ev_iconst (pc := 28) (v := 1) dX4_takeMan_28 rfl ?_
    refine ev_sipush (pc := 29) (v := 200) dX4_takeMan_29 (by decide) ?_
    obtain ⟨p6, hp6, h⟩ := ev_bindE hN h
    refine cl1_X4_138 (pc := 32) rfl dX4_takeMan_32 (by decide) (Nat.le_of_ble_eq_true rfl) (c_X4_takeNumber hp6) ?_
    refine ev_ifb_ne (pc := 35) (tgt := 40) dX4_takeMan_35 (by decide) (fun c7 => ?_) (fun c7 => ?_)
    · replace h := ev_ifp h c7
      refine ev_aload_0 (pc := 40) dX4_takeMan_40 ?_
      refine gt_X4_35 (pc := 41) rfl dX4_takeMan_41 ?_
      refine ev_iload_2 (pc := 44) dX4_takeMan_44 ?_
      refine ev_aload_0 (pc := 45) dX4_takeMan_45 ?_
      refine gt_X4_142 (pc := 46) rfl dX4_takeMan_46 ?_
      obtain ⟨p8, hp8, h⟩ := ev_letE h
      refine cl1_X4_177 (pc := 49) (fr := 1) (lo := 22) (m' := p8.2) (v := vi (bi (p8.1))) rfl dX4_takeMan_49 (by decide) (Nat.le_of_ble_eq_true rfl) (by rw [hp8]; exact c_X7_addMan p6.2 8 x5 (p6.2.1 7 i0 10)) ?_
      refine ev_ifb_ne (pc := 52) (tgt := 61) dX4_takeMan_52 (by decide) (fun c9 => ?_) (fun c9 => ?_)
      · replace h := ev_ifp h c9
        refine ev_iconst (pc := 61) (v := 1) dX4_takeMan_61 rfl ?_
        exact ev_iret (pc := 62) dX4_takeMan_62 rfl rfl (hR _ _ h)
      · replace h := ev_ifn h c9
        refine ev_aload_0 (pc := 55) dX4_takeMan_55 ?_
        refine ev_iconst (pc := 56) (v := 3) dX4_takeMan_56 rfl ?_
        refine ev_iload_1 (pc := 57) dX4_takeMan_57 ?_
        obtain ⟨m10, hm10, h⟩ := ev_letE h
        refine cl0_X4_86 (pc := 58) (fr := 0) (lo := 0) (m' := m10) rfl dX4_takeMan_58 (by decide) (Nat.le_of_ble_eq_true rfl) (by rw [hm10]; exact c_X4_note p8.2 i0 3 x1) ?_
        refine ev_iconst (pc := 61) (v := 1) dX4_takeMan_61 rfl ?_
        exact ev_iret (pc := 62) dX4_takeMan_62 rfl rfl (hR _ _ h)
    · replace h := ev_ifn h c7
      refine ev_iconst (pc := 38) (v := 0) dX4_takeMan_38 rfl ?_
      exact ev_iret (pc := 39) dX4_takeMan_39 rfl rfl (hR _ _ h)
  · replace h := ev_ifn h c4
    refine ev_iconst (pc := 19) (v := 0) dX4_takeMan_19 rfl ?_
    exact ev_iret (pc := 20) dX4_takeMan_20 rfl rfl (hR _ _ h)
theorem c_X4_takeMan {G : ev_G} {mF : ev_m} {i0 : Nat} {r : Bool × ev_m} (h : f_X4_takeMan mF i0 = some r) : ev_CF G K_X4_takeMan B_X4_takeMan [vr 7 (i0)] mF (some (vi (bi (r.1)))) r.2 :=
  ev_Ct_of rfl rfl (Nat.le_of_ble_eq_true rfl) (e_X4_takeMan (R := some r) (fun x0 m0 q => by cases q; exact ⟨rfl, rfl⟩) (fun q => by cases q) h)
set_option maxRecDepth 20000 in
set_option maxHeartbeats 4000000 in
theorem e_X4_takeLine {G : ev_G} {Q : Option ev_V → ev_M → Prop} {R : Option (Bool × ev_m)} {mF : ev_m} (hR : ∀ (x0 : Bool) (m0 : ev_m), (some ((x0, m0))) = R → Q (some (vi (bi x0))) (ev_emb m0)) (hN : none ≠ R) {i0 : Nat} {x1_ : Int32} (h : f_X4_takeLine mF i0 x1_ = R) : ev_E G K_X4_takeLine B_X4_takeLine (0, 0) 0 [some (vr 7 (i0)), some (vi (x1_))] [] (ev_emb mF) Q := by
  unfold f_X4_takeLine at h
  refine ev_iload_1 (pc := 0) dX4_takeLine_0 ?_
  by_cases c1 : x1_ = 0
  · replace h := ev_ifp h c1
    refine ev_tin (pc := 1) 0 (tgt := 32) c1 (by decide) dX4_takeLine_1 rfl (by decide) ?_
    refine ev_aload_0 (pc := 32) dX4_takeLine_32 ?_
    refine ev_ldcs (pc := 33) (j := 0) (by decide) rfl dX4_takeLine_33 ?_
    obtain ⟨x17, hx17, h⟩ := ev_bindE hN h
    refine cl1_X4_92 (pc := 35) rfl dX4_takeLine_35 (by decide) (Nat.le_of_ble_eq_true rfl) (c_X4_isWord hx17) ?_
    refine ev_ifb_eq (pc := 38) (tgt := 48) dX4_takeLine_38 (by decide) (fun c18 => ?_) (fun c18 => ?_)
    · replace h := ev_ifn h c18
      refine ev_aload_0 (pc := 48) dX4_takeLine_48 ?_
      obtain ⟨p19, hp19, h⟩ := ev_bindE hN h
      refine cl1_X4_99 (pc := 49) rfl dX4_takeLine_49 (by decide) (Nat.le_of_ble_eq_true rfl) (c_X4_takeShipNumbers hp19) ?_
      exact ev_iret (pc := 52) dX4_takeLine_52 rfl (ev_nb _) (hR _ _ h)
    · replace h := ev_ifp h c18
      refine ev_aload_0 (pc := 41) dX4_takeLine_41 ?_
      obtain ⟨p20, hp20, h⟩ := ev_bindE hN h
      refine cl1_X4_96 (pc := 42) rfl dX4_takeLine_42 (by decide) (Nat.le_of_ble_eq_true rfl) (c_X4_takeSeas hp20) ?_
      refine ev_goto (pc := 45) (tgt := 52) dX4_takeLine_45 (by decide) ?_
      exact ev_iret (pc := 52) dX4_takeLine_52 rfl (ev_nb _) (hR _ _ h)
  · replace h := ev_ifn h c1
    by_cases c2 : x1_ = 1
    · replace h := ev_ifp h c2
      refine ev_tin (pc := 1) 1 (tgt := 53) c2 (by decide) dX4_takeLine_1 rfl (by decide) ?_
      refine ev_aload_0 (pc := 53) dX4_takeLine_53 ?_
      refine ev_ldcs (pc := 54) (j := 10) (by decide) rfl dX4_takeLine_54 ?_
      obtain ⟨x13, hx13, h⟩ := ev_bindE hN h
      refine cl1_X4_92 (pc := 56) rfl dX4_takeLine_56 (by decide) (Nat.le_of_ble_eq_true rfl) (c_X4_isWord hx13) ?_
      refine ev_ifb_eq (pc := 59) (tgt := 69) dX4_takeLine_59 (by decide) (fun c14 => ?_) (fun c14 => ?_)
      · replace h := ev_ifn h c14
        refine ev_aload_0 (pc := 69) dX4_takeLine_69 ?_
        obtain ⟨p15, hp15, h⟩ := ev_bindE hN h
        refine cl1_X4_107 (pc := 70) rfl dX4_takeLine_70 (by decide) (Nat.le_of_ble_eq_true rfl) (c_X4_takeHandNumber hp15) ?_
        exact ev_iret (pc := 73) dX4_takeLine_73 rfl (ev_nb _) (hR _ _ h)
      · replace h := ev_ifp h c14
        refine ev_aload_0 (pc := 62) dX4_takeLine_62 ?_
        obtain ⟨p16, hp16, h⟩ := ev_bindE hN h
        refine cl1_X4_104 (pc := 63) rfl dX4_takeLine_63 (by decide) (Nat.le_of_ble_eq_true rfl) (c_X4_takeStar hp16) ?_
        refine ev_goto (pc := 66) (tgt := 73) dX4_takeLine_66 (by decide) ?_
        exact ev_iret (pc := 73) dX4_takeLine_73 rfl (ev_nb _) (hR _ _ h)
    · replace h := ev_ifn h c2
      by_cases c3 : x1_ = 2
      · replace h := ev_ifp h c3
        refine ev_tin (pc := 1) 2 (tgt := 74) c3 (by decide) dX4_takeLine_1 rfl (by decide) ?_
        refine ev_aload_0 (pc := 74) dX4_takeLine_74 ?_
        refine ev_ldcs (pc := 75) (j := 20) (by decide) rfl dX4_takeLine_75 ?_
        obtain ⟨x9, hx9, h⟩ := ev_bindE hN h
        refine cl1_X4_92 (pc := 77) rfl dX4_takeLine_77 (by decide) (Nat.le_of_ble_eq_true rfl) (c_X4_isWord hx9) ?_
        refine ev_ifb_eq (pc := 80) (tgt := 94) dX4_takeLine_80 (by decide) (fun c10 => ?_) (fun c10 => ?_)
        · replace h := ev_ifn h c10
          refine ev_iconst (pc := 94) (v := 0) dX4_takeLine_94 rfl ?_
          exact ev_iret (pc := 95) dX4_takeLine_95 rfl rfl (hR _ _ h)
        · replace h := ev_ifp h c10
          refine ev_aload_0 (pc := 83) dX4_takeLine_83 ?_
          obtain ⟨p11, hp11, h⟩ := ev_bindE hN h
          refine cl1_X4_112 (pc := 84) rfl dX4_takeLine_84 (by decide) (Nat.le_of_ble_eq_true rfl) (c_X4_takeHeadings hp11) ?_
          refine ev_ifb_eq (pc := 87) (tgt := 94) dX4_takeLine_87 (by decide) (fun c12 => ?_) (fun c12 => ?_)
          · replace h := ev_ifn h c12
            refine ev_iconst (pc := 94) (v := 0) dX4_takeLine_94 rfl ?_
            exact ev_iret (pc := 95) dX4_takeLine_95 rfl rfl (hR _ _ h)
          · replace h := ev_ifp h c12
            refine ev_iconst (pc := 90) (v := 1) dX4_takeLine_90 rfl ?_
            refine ev_goto (pc := 91) (tgt := 95) dX4_takeLine_91 (by decide) ?_
            exact ev_iret (pc := 95) dX4_takeLine_95 rfl rfl (hR _ _ h)
      · replace h := ev_ifn h c3
        by_cases c4 : x1_ = 3
        · replace h := ev_ifp h c4
          refine ev_tin (pc := 1) 3 (tgt := 96) c4 (by decide) dX4_takeLine_1 rfl (by decide) ?_
          refine ev_aload_0 (pc := 96) dX4_takeLine_96 ?_
          refine ev_ldcs (pc := 97) (j := 21) (by decide) rfl dX4_takeLine_97 ?_
          obtain ⟨x5, hx5, h⟩ := ev_bindE hN h
          refine cl1_X4_92 (pc := 99) rfl dX4_takeLine_99 (by decide) (Nat.le_of_ble_eq_true rfl) (c_X4_isWord hx5) ?_
          refine ev_ifb_eq (pc := 102) (tgt := 116) dX4_takeLine_102 (by decide) (fun c6 => ?_) (fun c6 => ?_)
          · replace h := ev_ifn h c6
            refine ev_iconst (pc := 116) (v := 0) dX4_takeLine_116 rfl ?_
            exact ev_iret (pc := 117) dX4_takeLine_117 rfl rfl (hR _ _ h)
          · replace h := ev_ifp h c6
            refine ev_aload_0 (pc := 105) dX4_takeLine_105 ?_
            obtain ⟨p7, hp7, h⟩ := ev_bindE hN h
            refine cl1_X4_117 (pc := 106) rfl dX4_takeLine_106 (by decide) (Nat.le_of_ble_eq_true rfl) (c_X4_takeMan hp7) ?_
            refine ev_ifb_eq (pc := 109) (tgt := 116) dX4_takeLine_109 (by decide) (fun c8 => ?_) (fun c8 => ?_)
            · replace h := ev_ifn h c8
              refine ev_iconst (pc := 116) (v := 0) dX4_takeLine_116 rfl ?_
              exact ev_iret (pc := 117) dX4_takeLine_117 rfl rfl (hR _ _ h)
            · replace h := ev_ifp h c8
              refine ev_iconst (pc := 112) (v := 1) dX4_takeLine_112 rfl ?_
              refine ev_goto (pc := 113) (tgt := 117) dX4_takeLine_113 (by decide) ?_
              exact ev_iret (pc := 117) dX4_takeLine_117 rfl rfl (hR _ _ h)
        · replace h := ev_ifn h c4
          refine ev_tout (pc := 1) 4 (tgt := 118) rfl (by decide) (lt_s (p := fun j => ¬ x1_ = nI j) (lt_s (p := fun j => ¬ x1_ = nI j) (lt_s (p := fun j => ¬ x1_ = nI j) (lt_s (p := fun j => ¬ x1_ = nI j) lt_0 c1) c2) c3) c4) dX4_takeLine_1 (by decide) ?_
          refine ev_iconst (pc := 118) (v := 0) dX4_takeLine_118 rfl ?_
          exact ev_iret (pc := 119) dX4_takeLine_119 rfl rfl (hR _ _ h)
theorem c_X4_takeLine {G : ev_G} {mF : ev_m} {i0 : Nat} {x1_ : Int32} {r : Bool × ev_m} (h : f_X4_takeLine mF i0 x1_ = some r) : ev_CF G K_X4_takeLine B_X4_takeLine [vr 7 (i0), vi (x1_)] mF (some (vi (bi (r.1)))) r.2 :=
  ev_Ct_of rfl rfl (Nat.le_of_ble_eq_true rfl) (e_X4_takeLine (R := some r) (fun x0 m0 q => by cases q; exact ⟨rfl, rfl⟩) (fun q => by cases q) h)
set_option maxRecDepth 20000 in
set_option maxHeartbeats 4000000 in
theorem e_X4_takeSemicolon {G : ev_G} {Q : Option ev_V → ev_M → Prop} {R : Option (Bool × ev_m)} {mF : ev_m} (hR : ∀ (x0 : Bool) (m0 : ev_m), (some ((x0, m0))) = R → Q (some (vi (bi x0))) (ev_emb m0)) (hN : none ≠ R) {i0 : Nat} (h : f_X4_takeSemicolon mF i0 = R) : ev_E G K_X4_takeSemicolon B_X4_takeSemicolon (0, 0) 0 [some (vr 7 (i0))] [] (ev_emb mF) Q := by
  unfold f_X4_takeSemicolon at h
  refine ev_aload_0 (pc := 0) dX4_takeSemicolon_0 ?_
  refine gt_X4_69 (pc := 1) rfl dX4_takeSemicolon_1 ?_
  refine ev_iconst (pc := 4) (v := 4) dX4_takeSemicolon_4 rfl ?_
  refine ev_icc_eq (pc := 5) (tgt := 10) dX4_takeSemicolon_5 (by decide) (fun c1 => ?_) (fun c1 => ?_)
  · replace h := ev_ifp h c1
    refine ev_aload_0 (pc := 10) dX4_takeSemicolon_10 ?_
    obtain ⟨m2, hm2, h⟩ := ev_bindE hN h
    refine cl0_X4_66 (pc := 11) rfl dX4_takeSemicolon_11 (by decide) (Nat.le_of_ble_eq_true rfl) (c_X4_next hm2) ?_
    refine ev_iconst (pc := 14) (v := 1) dX4_takeSemicolon_14 rfl ?_
    exact ev_iret (pc := 15) dX4_takeSemicolon_15 rfl rfl (hR _ _ h)
  · replace h := ev_ifn h c1
    refine ev_iconst (pc := 8) (v := 0) dX4_takeSemicolon_8 rfl ?_
    exact ev_iret (pc := 9) dX4_takeSemicolon_9 rfl rfl (hR _ _ h)
theorem c_X4_takeSemicolon {G : ev_G} {mF : ev_m} {i0 : Nat} {r : Bool × ev_m} (h : f_X4_takeSemicolon mF i0 = some r) : ev_CF G K_X4_takeSemicolon B_X4_takeSemicolon [vr 7 (i0)] mF (some (vi (bi (r.1)))) r.2 :=
  ev_Ct_of rfl rfl (Nat.le_of_ble_eq_true rfl) (e_X4_takeSemicolon (R := some r) (fun x0 m0 q => by cases q; exact ⟨rfl, rfl⟩) (fun q => by cases q) h)
set_option maxRecDepth 20000 in
set_option maxHeartbeats 4000000 in
theorem e_jn_X4_take_107_60 {G : ev_G} {Q : Option ev_V → ev_M → Prop} {R : Option (ev_m)} (hR : ∀ m0 : ev_m, (some (m0)) = R → Q none (ev_emb m0)) (hN : none ≠ R) {m23 : ev_m} {i10 : Nat} {x11 : Int32} {x21 : Int32} {x22 : Int32} {kb : Int32 → Int32 → ev_m → Option (ev_m)} {kx : Int32 → ev_m → Option (ev_m)}  (h : jn_X4_take_107_60 m23 i10 x11 x21 x22 kb kx = R) (hkb : ∀ (x12' : Int32) (x13' : Int32) (m14' : ev_m), kb x12' x13' m14' = R → ev_E G K_X4_take B_X4_take (0, 0) 60 [some (vr 7 (i10)), some (vi (x11)), none, some (vi (x12')), some (vi (x13'))] [] (ev_emb m14') Q) (hkx : ∀ (x12' : Int32) (m14' : ev_m), kx x12' m14' = R → ev_E G K_X4_take B_X4_take (0, 0) 114 [some (vr 7 (i10)), some (vi (x11)), none, some (vi (x12')), none] [] (ev_emb m14') Q) : ev_E G K_X4_take B_X4_take (0, 0) 107 [some (vr 7 (i10)), some (vi (x11)), none, none, some (vi (x21))] [vi (x22)] (ev_emb m23) Q := by
  unfold jn_X4_take_107_60 at h
  refine ev_istore_3 (pc := 107) dX4_take_107 (by decide) rfl ?_
  refine ev_iinc_4 (pc := 108) (y := x21 + 1) dX4_take_108 rfl (by decide) rfl ?_
  refine ev_goto (pc := 111) (tgt := 60) dX4_take_111 (by decide) ?_
  exact hkb _ _ _  h
set_option maxRecDepth 20000 in
set_option maxHeartbeats 4000000 in
theorem e_jn_X4_take_106_60 {G : ev_G} {Q : Option ev_V → ev_M → Prop} {R : Option (ev_m)} (hR : ∀ m0 : ev_m, (some (m0)) = R → Q none (ev_emb m0)) (hN : none ≠ R) {m20 : ev_m} {i10 : Nat} {x11 : Int32} {x19 : Int32} {kb : Int32 → Int32 → ev_m → Option (ev_m)} {kx : Int32 → ev_m → Option (ev_m)}  (h : jn_X4_take_106_60 m20 i10 x11 x19 kb kx = R) (hkb : ∀ (x12' : Int32) (x13' : Int32) (m14' : ev_m), kb x12' x13' m14' = R → ev_E G K_X4_take B_X4_take (0, 0) 60 [some (vr 7 (i10)), some (vi (x11)), none, some (vi (x12')), some (vi (x13'))] [] (ev_emb m14') Q) (hkx : ∀ (x12' : Int32) (m14' : ev_m), kx x12' m14' = R → ev_E G K_X4_take B_X4_take (0, 0) 114 [some (vr 7 (i10)), some (vi (x11)), none, some (vi (x12')), none] [] (ev_emb m14') Q) : ev_E G K_X4_take B_X4_take (0, 0) 106 [some (vr 7 (i10)), some (vi (x11)), none, none, some (vi (x19))] [] (ev_emb m20) Q := by
  unfold jn_X4_take_106_60 at h
  refine ev_iconst (pc := 106) (v := 0) dX4_take_106 rfl ?_
  exact e_jn_X4_take_107_60 hR hN h hkb hkx
set_option maxRecDepth 20000 in
set_option maxHeartbeats 4000000 in
theorem e_lp_X4_take_60 {G : ev_G} {Q : Option ev_V → ev_M → Prop} {R : Option (ev_m)} (hR : ∀ m0 : ev_m, (some (m0)) = R → Q none (ev_emb m0)) (hN : none ≠ R) {i10 : Nat} {x11 : Int32} : ∀ (f : Nat) (x12 : Int32) (x13 : Int32) (m14 : ev_m) (kx : Int32 → ev_m → Option (ev_m)) (h : lp_X4_take_60 i10 x11 f x12 x13 m14 kx = R) (hk : ∀ (x12' : Int32) (m14' : ev_m), kx x12' m14' = R → ev_E G K_X4_take B_X4_take (0, 0) 114 [some (vr 7 (i10)), some (vi (x11)), none, some (vi (x12')), none] [] (ev_emb m14') Q), ev_E G K_X4_take B_X4_take (0, 0) 60 [some (vr 7 (i10)), some (vi (x11)), none, some (vi (x12)), some (vi (x13))] [] (ev_emb m14) Q := by
  intro f
  induction f with
  | zero => intro x12 x13 m14 kx h hk; rw [lp_X4_take_60] at h; exact absurd h hN
  | succ f ih =>
    intro x12 x13 m14 kx h hk
    rw [lp_X4_take_60] at h
    refine ev_iload_4 (pc := 60) dX4_take_60 ?_
    refine ev_sipush (pc := 62) (v := 600) dX4_take_62 (by decide) ?_
    refine ev_icc_gt (pc := 65) (tgt := 114) dX4_take_65 (by decide) (fun c15 => ?_) (fun c15 => ?_)
    · replace h := ev_ifp h c15
      refine ev_E.forget (L' := [some (vr 7 (i10)), some (vi (x11)), none, some (vi (x12)), none]) ⟨rfl, ⟨rfl, ⟨rfl, trivial⟩⟩⟩ ?_
      exact hk _ _  h
    · replace h := ev_ifn h c15
      refine ev_iload_3 (pc := 68) dX4_take_68 ?_
      refine ev_ifc_eq (pc := 69) (tgt := 114) dX4_take_69 (by decide) (fun c16 => ?_) (fun c16 => ?_)
      · replace h := ev_ifp h c16
        refine ev_E.forget (L' := [some (vr 7 (i10)), some (vi (x11)), none, some (vi (x12)), none]) ⟨rfl, ⟨rfl, ⟨rfl, trivial⟩⟩⟩ ?_
        exact hk _ _  h
      · replace h := ev_ifn h c16
        refine ev_aload_0 (pc := 72) dX4_take_72 ?_
        refine gt_X4_69 (pc := 73) rfl dX4_take_73 ?_
        refine ev_ifc_eq (pc := 76) (tgt := 114) dX4_take_76 (by decide) (fun c17 => ?_) (fun c17 => ?_)
        · replace h := ev_ifp h c17
          refine ev_E.forget (L' := [some (vr 7 (i10)), some (vi (x11)), none, some (vi (x12)), none]) ⟨rfl, ⟨rfl, ⟨rfl, trivial⟩⟩⟩ ?_
          exact hk _ _  h
        · replace h := ev_ifn h c17
          refine ev_aload_0 (pc := 79) dX4_take_79 ?_
          refine gt_X4_69 (pc := 80) rfl dX4_take_80 ?_
          refine ev_iconst (pc := 83) (v := 1) dX4_take_83 rfl ?_
          refine ev_icc_ne (pc := 84) (tgt := 106) dX4_take_84 (by decide) (fun c18 => ?_) (fun c18 => ?_)
          · replace h := ev_ifn h c18
            refine ev_E.forget (L' := [some (vr 7 (i10)), some (vi (x11)), none, none, some (vi (x13))]) ⟨rfl, ⟨rfl, ⟨rfl, trivial⟩⟩⟩ ?_
            exact e_jn_X4_take_106_60 hR hN h (fun _ _ _ h => ih _ _ _ kx h hk) hk
          · replace h := ev_ifp h c18
            refine ev_aload_0 (pc := 87) dX4_take_87 ?_
            refine ev_iload_1 (pc := 88) dX4_take_88 ?_
            obtain ⟨p24, hp24, h⟩ := ev_bindE hN h
            refine cl1_X4_72 (pc := 89) rfl dX4_take_89 (by decide) (Nat.le_of_ble_eq_true rfl) (c_X4_takeLine hp24) ?_
            refine ev_ifb_eq (pc := 92) (tgt := 106) dX4_take_92 (by decide) (fun c25 => ?_) (fun c25 => ?_)
            · replace h := ev_ifn h c25
              refine ev_E.forget (L' := [some (vr 7 (i10)), some (vi (x11)), none, none, some (vi (x13))]) ⟨rfl, ⟨rfl, ⟨rfl, trivial⟩⟩⟩ ?_
              exact e_jn_X4_take_106_60 hR hN h (fun _ _ _ h => ih _ _ _ kx h hk) hk
            · replace h := ev_ifp h c25
              refine ev_aload_0 (pc := 95) dX4_take_95 ?_
              obtain ⟨p26, hp26, h⟩ := ev_bindE hN h
              refine cl1_X4_76 (pc := 96) rfl dX4_take_96 (by decide) (Nat.le_of_ble_eq_true rfl) (c_X4_takeSemicolon hp26) ?_
              obtain ⟨x28, hx28, h⟩ := ev_letE h
              have hJ1 : ev_E G K_X4_take B_X4_take (0, 0) 107 [some (vr 7 (i10)), some (vi (x11)), none, some (vi (x12)), some (vi (x13))] [vi (x28)] (ev_emb p26.2) Q := by
                refine ev_istore_3 (pc := 107) dX4_take_107 (by decide) rfl ?_
                refine ev_iinc_4 (pc := 108) (y := x13 + 1) dX4_take_108 rfl (by decide) rfl ?_
                refine ev_goto (pc := 111) (tgt := 60) dX4_take_111 (by decide) ?_
                exact ih _ _ _ kx h hk
              refine ev_ifb_eq (pc := 99) (tgt := 106) dX4_take_99 (by decide) (fun c27 => ?_) (fun c27 => ?_)
              · refine ev_iconst (pc := 106) (v := 0) dX4_take_106 rfl ?_
                replace hx28 := (hx28.trans (if_neg c27))
                subst hx28
                exact hJ1
              · refine ev_iconst (pc := 102) (v := 1) dX4_take_102 rfl ?_
                refine ev_goto (pc := 103) (tgt := 107) dX4_take_103 (by decide) ?_
                replace hx28 := (hx28.trans (if_pos c27))
                subst hx28
                exact hJ1
set_option maxRecDepth 20000 in
set_option maxHeartbeats 4000000 in
theorem e_jn_X4_take_114 {G : ev_G} {Q : Option ev_V → ev_M → Prop} {R : Option (ev_m)} (hR : ∀ m0 : ev_m, (some (m0)) = R → Q none (ev_emb m0)) (hN : none ≠ R) {m34 : ev_m} {i31 : Nat} {x32 : Int32} {x33 : Int32} (h : jn_X4_take_114 m34 i31 x32 x33 = R) : ev_E G K_X4_take B_X4_take (0, 0) 114 [some (vr 7 (i31)), some (vi (x32)), none, some (vi (x33)), none] [] (ev_emb m34) Q := by
  unfold jn_X4_take_114 at h
  refine ev_iload_3 (pc := 114) dX4_take_114 ?_
  refine ev_ifc_ne (pc := 115) (tgt := 134) dX4_take_115 (by decide) (fun c35 => ?_) (fun c35 => ?_)
  · replace h := ev_ifn h c35
    refine ev_iload_1 (pc := 134) dX4_take_134 ?_
    refine ev_iconst (pc := 135) (v := 2) dX4_take_135 rfl ?_
    refine ev_icc_ne (pc := 136) (tgt := 158) dX4_take_136 (by decide) (fun c36 => ?_) (fun c36 => ?_)
    · replace h := ev_ifn h c36
      exact ev_vret (pc := 158) dX4_take_158 rfl (hR _ h)
    · replace h := ev_ifp h c36
      refine ev_aload_0 (pc := 139) dX4_take_139 ?_
      refine gt_X4_28 (pc := 140) rfl dX4_take_140 ?_
      refine gt_X4_83 (pc := 143) rfl dX4_take_143 ?_
      refine ev_ifc_ne (pc := 146) (tgt := 158) dX4_take_146 (by decide) (fun c37 => ?_) (fun c37 => ?_)
      · replace h := ev_ifn h c37
        exact ev_vret (pc := 158) dX4_take_158 rfl (hR _ h)
      · replace h := ev_ifp h c37
        refine ev_aload_0 (pc := 149) dX4_take_149 ?_
        refine ev_iconst (pc := 150) (v := 4) dX4_take_150 rfl ?_
        refine ev_aload_0 (pc := 151) dX4_take_151 ?_
        refine gt_X4_80 (pc := 152) rfl dX4_take_152 ?_
        obtain ⟨m38, hm38, h⟩ := ev_letE h
        refine cl0_X4_86 (pc := 155) (fr := 0) (lo := 0) (m' := m38) rfl dX4_take_155 (by decide) (Nat.le_of_ble_eq_true rfl) (by rw [hm38]; exact c_X4_note m34 i31 4 (m34.1 7 i31 8)) ?_
        exact ev_vret (pc := 158) dX4_take_158 rfl (hR _ h)
  · replace h := ev_ifp h c35
    refine ev_aload_0 (pc := 118) dX4_take_118 ?_
    refine ev_iconst (pc := 119) (v := 1) dX4_take_119 rfl ?_
    obtain ⟨m39, hm39, h⟩ := ev_letE h
    refine pt_X4_50 (pc := 120) rfl dX4_take_120 ?_
    refine ev_mem (pc := 123) hm39 ?_
    refine ev_aload_0 (pc := 123) dX4_take_123 ?_
    refine ev_aload_0 (pc := 124) dX4_take_124 ?_
    refine gt_X4_80 (pc := 125) rfl dX4_take_125 ?_
    obtain ⟨m40, hm40, h⟩ := ev_letE h
    refine pt_X4_54 (pc := 128) rfl dX4_take_128 ?_
    refine ev_mem (pc := 131) hm40 ?_
    refine ev_goto (pc := 131) (tgt := 158) dX4_take_131 (by decide) ?_
    exact ev_vret (pc := 158) dX4_take_158 rfl (hR _ h)
set_option maxRecDepth 20000 in
set_option maxHeartbeats 4000000 in
theorem e_X4_take {G : ev_G} {Q : Option ev_V → ev_M → Prop} {R : Option (ev_m)} {mF : ev_m} (hR : ∀ m0 : ev_m, (some (m0)) = R → Q none (ev_emb m0)) (hN : none ≠ R) {i0 : Nat} {x1_ : Int32} {o2_ : Option Nat} (h : f_X4_take mF i0 x1_ o2_ = R) : ev_E G K_X4_take B_X4_take (0, 0) 0 [some (vr 7 (i0)), some (vi (x1_)), some (vo 2 (o2_)), none, none] [] (ev_emb mF) Q := by
  unfold f_X4_take at h
  refine ev_aload_0 (pc := 0) dX4_take_0 ?_
  refine gt_X4_42 (pc := 1) rfl dX4_take_1 ?_
  refine ev_aload_2 (pc := 4) dX4_take_4 ?_
  obtain ⟨m1, hm1, h⟩ := ev_letE h
  refine cl0_X4_46 (pc := 5) (fr := 1) (lo := 60) (m' := m1) rfl dX4_take_5 (by decide) (Nat.le_of_ble_eq_true rfl) (by rw [hm1]; exact c_X6_copy (o := o2_)) ?_
  refine ev_aload_0 (pc := 8) dX4_take_8 ?_
  refine ev_iconst (pc := 9) (v := 0) dX4_take_9 rfl ?_
  obtain ⟨m2, hm2, h⟩ := ev_letE h
  refine pt_X4_50 (pc := 10) rfl dX4_take_10 ?_
  refine ev_mem (pc := 13) hm2 ?_
  refine ev_aload_0 (pc := 13) dX4_take_13 ?_
  refine ev_iconst (pc := 14) (v := (-1)) dX4_take_14 rfl ?_
  obtain ⟨m3, hm3, h⟩ := ev_letE h
  refine pt_X4_54 (pc := 15) rfl dX4_take_15 ?_
  refine ev_mem (pc := 18) hm3 ?_
  refine ev_aload_0 (pc := 18) dX4_take_18 ?_
  refine gt_X4_12 (pc := 19) rfl dX4_take_19 ?_
  obtain ⟨m4, hm4, h⟩ := ev_letE h
  refine cl0_X4_57 (pc := 22) (fr := 1) (lo := 22) (m' := m4) rfl dX4_take_22 (by decide) (Nat.le_of_ble_eq_true rfl) (by rw [hm4]; exact c_X5_clear m3 9) ?_
  refine ev_aload_0 (pc := 25) dX4_take_25 ?_
  refine gt_X4_21 (pc := 26) rfl dX4_take_26 ?_
  obtain ⟨m5, hm5, h⟩ := ev_bindE hN h
  refine cl0_X4_60 (pc := 29) rfl dX4_take_29 (by decide) (Nat.le_of_ble_eq_true rfl) (c_X1_clear hm5) ?_
  refine ev_aload_0 (pc := 32) dX4_take_32 ?_
  refine gt_X4_28 (pc := 33) rfl dX4_take_33 ?_
  obtain ⟨m6, hm6, h⟩ := ev_letE h
  refine cl0_X4_61 (pc := 36) (fr := 0) (lo := 0) (m' := m6) rfl dX4_take_36 (by decide) (Nat.le_of_ble_eq_true rfl) (by rw [hm6]; exact c_X3_clear m5 8) ?_
  refine ev_aload_0 (pc := 39) dX4_take_39 ?_
  refine gt_X4_35 (pc := 40) rfl dX4_take_40 ?_
  obtain ⟨m7, hm7, h⟩ := ev_letE h
  refine cl0_X4_62 (pc := 43) (fr := 0) (lo := 0) (m' := m7) rfl dX4_take_43 (by decide) (Nat.le_of_ble_eq_true rfl) (by rw [hm7]; exact c_X7_clear m6 8) ?_
  refine ev_aload_0 (pc := 46) dX4_take_46 ?_
  refine ev_iconst (pc := 47) (v := 0) dX4_take_47 rfl ?_
  obtain ⟨m8, hm8, h⟩ := ev_letE h
  refine pt_X4_63 (pc := 48) rfl dX4_take_48 ?_
  refine ev_mem (pc := 51) hm8 ?_
  refine ev_aload_0 (pc := 51) dX4_take_51 ?_
  obtain ⟨m9, hm9, h⟩ := ev_bindE hN h
  refine cl0_X4_66 (pc := 52) rfl dX4_take_52 (by decide) (Nat.le_of_ble_eq_true rfl) (c_X4_next hm9) ?_
  refine ev_iconst (pc := 55) (v := 1) dX4_take_55 rfl ?_
  refine ev_istore_3 (pc := 56) dX4_take_56 (by decide) rfl ?_
  refine ev_iconst (pc := 57) (v := 0) dX4_take_57 rfl ?_
  refine ev_istore_4 (pc := 58) dX4_take_58 (by decide) rfl ?_
  refine ev_E.forget (L' := [some (vr 7 (i0)), some (vi (x1_)), none, some (vi (1)), some (vi (0))]) ⟨rfl, ⟨rfl, ⟨rfl, ⟨rfl, trivial⟩⟩⟩⟩ ?_
  refine e_lp_X4_take_60 hR hN 4000 _ _ _ _ h (fun x29 m30 h => ?_)
  exact e_jn_X4_take_114 hR hN h
theorem c_X4_take {G : ev_G} {mF : ev_m} {i0 : Nat} {x1_ : Int32} {o2_ : Option Nat} {r : ev_m} (h : f_X4_take mF i0 x1_ o2_ = some r) : ev_CF G K_X4_take B_X4_take [vr 7 (i0), vi (x1_), vo 2 (o2_)] mF none r :=
  ev_Ct_of rfl rfl (Nat.le_of_ble_eq_true rfl) (e_X4_take (R := some r) (fun m0 q => by cases q; exact ⟨rfl, rfl⟩) (fun q => by cases q) h)
set_option maxRecDepth 20000 in
set_option maxHeartbeats 4000000 in
theorem e_lp_X5_takeSeas_15 {G : ev_G} {Q : Option ev_V → ev_M → Prop} {R : Option (ev_m)} (hR : ∀ m0 : ev_m, (some (m0)) = R → Q none (ev_emb m0)) (hN : none ≠ R) {i3 : Nat} {i4 : Nat} {x5 : Int32} : ∀ (f : Nat) (x6 : Int32) (m7 : ev_m) (kx : ev_m → Option (ev_m)) (h : lp_X5_takeSeas_15 i3 i4 x5 f x6 m7 kx = R) (hk : ∀ (m7' : ev_m), kx m7' = R → ev_E G K_X5_takeSeas B_X5_takeSeas (0, 0) 47 [none, none, none, none] [] (ev_emb m7') Q), ev_E G K_X5_takeSeas B_X5_takeSeas (0, 0) 15 [some (vr 3 (i3)), some (vr 3 (i4)), some (vi (x5)), some (vi (x6))] [] (ev_emb m7) Q := by
  intro f
  induction f with
  | zero => intro x6 m7 kx h hk; rw [lp_X5_takeSeas_15] at h; exact absurd h hN
  | succ f ih =>
    intro x6 m7 kx h hk
    rw [lp_X5_takeSeas_15] at h
    refine ev_iload_3 (pc := 15) dX5_takeSeas_15 ?_
    refine ev_aload_0 (pc := 16) dX5_takeSeas_16 ?_
    refine gt_X5_46 (pc := 17) rfl dX5_takeSeas_17 ?_
    refine ev_icc_ge (pc := 20) (tgt := 47) dX5_takeSeas_20 (by decide) (fun c8 => ?_) (fun c8 => ?_)
    · replace h := ev_ifn h c8
      refine ev_E.forget (L' := [none, none, none, none]) trivial ?_
      exact hk _  h
    · replace h := ev_ifp h c8
      refine ev_aload_0 (pc := 23) dX5_takeSeas_23 ?_
      refine gt_X5_9 (pc := 24) rfl dX5_takeSeas_24 ?_
      refine ev_iload_3 (pc := 27) dX5_takeSeas_27 ?_
      refine ev_iload_2 (pc := 28) dX5_takeSeas_28 ?_
      refine ev_aload_1 (pc := 29) dX5_takeSeas_29 ?_
      refine gt_X5_9 (pc := 30) rfl dX5_takeSeas_30 ?_
      refine ev_iload_3 (pc := 33) dX5_takeSeas_33 ?_
      refine cl1_X5_65 (pc := 34) rfl dX5_takeSeas_34 (by decide) (Nat.le_of_ble_eq_true rfl) (c_X9_at (r := 12) rfl (by decide)) ?_
      refine ev_imul (pc := 37) dX5_takeSeas_37 ?_
      obtain ⟨m9, hm9, h⟩ := ev_letE h
      refine cl0_X5_49 (pc := 38) (fr := 0) (lo := 0) (m' := m9) rfl dX5_takeSeas_38 (by decide) (Nat.le_of_ble_eq_true rfl) (by rw [hm9]; exact c_X9_put (r := 12) rfl (by decide) (by decide)) ?_
      refine ev_iinc_3 (pc := 41) (y := x6 + 1) dX5_takeSeas_41 rfl (by decide) rfl ?_
      refine ev_goto (pc := 44) (tgt := 15) dX5_takeSeas_44 (by decide) ?_
      exact ih _ _ kx h hk
set_option maxRecDepth 20000 in
set_option maxHeartbeats 4000000 in
theorem e_X5_takeSeas {G : ev_G} {Q : Option ev_V → ev_M → Prop} {R : Option (ev_m)} {mF : ev_m} (hR : ∀ m0 : ev_m, (some (m0)) = R → Q none (ev_emb m0)) (hN : none ≠ R) {i0 : Nat} {o1_ : Option Nat} {x2_ : Int32} (h : f_X5_takeSeas mF i0 o1_ x2_ = R) : ev_E G K_X5_takeSeas B_X5_takeSeas (0, 0) 0 [some (vr 3 (i0)), some (vo 3 (o1_)), some (vi (x2_)), none] [] (ev_emb mF) Q := by
  unfold f_X5_takeSeas at h
  refine ev_aload_1 (pc := 0) dX5_takeSeas_0 ?_
  rcases o1_ with _ | j1
  · replace h := ev_onN h
    show ev_E G K_X5_takeSeas B_X5_takeSeas (0, 0) 1 [some (vr 3 (i0)), some (vn), some (vi (x2_)), none] [vn] (ev_emb mF) Q
    refine ev_ifnonnull_n (pc := 1) dX5_takeSeas_1 ?_
    exact ev_vret (pc := 4) dX5_takeSeas_4 rfl (hR _ h)
  · replace h := ev_onS h
    show ev_E G K_X5_takeSeas B_X5_takeSeas (0, 0) 1 [some (vr 3 (i0)), some (vr 3 (j1)), some (vi (x2_)), none] [vr 3 (j1)] (ev_emb mF) Q
    refine ev_ifnonnull_r (pc := 1) (tgt := 5) dX5_takeSeas_1 (by decide) ?_
    refine ev_aload_0 (pc := 5) dX5_takeSeas_5 ?_
    refine ev_aload_1 (pc := 6) dX5_takeSeas_6 ?_
    refine gt_X5_46 (pc := 7) rfl dX5_takeSeas_7 ?_
    obtain ⟨m2, hm2, h⟩ := ev_letE h
    refine pt_X5_46 (pc := 10) rfl dX5_takeSeas_10 ?_
    refine ev_mem (pc := 13) hm2 ?_
    refine ev_iconst (pc := 13) (v := 0) dX5_takeSeas_13 rfl ?_
    refine ev_istore_3 (pc := 14) dX5_takeSeas_14 (by decide) rfl ?_
    refine e_lp_X5_takeSeas_15 hR hN 4000 _ _ _ h (fun m10 h => ?_)
    exact ev_vret (pc := 47) dX5_takeSeas_47 rfl (hR _ h)
theorem c_X5_takeSeas {G : ev_G} {mF : ev_m} {i0 : Nat} {o1_ : Option Nat} {x2_ : Int32} {r : ev_m} (h : f_X5_takeSeas mF i0 o1_ x2_ = some r) : ev_CF G K_X5_takeSeas B_X5_takeSeas [vr 3 (i0), vo 3 (o1_), vi (x2_)] mF none r :=
  ev_Ct_of rfl rfl (Nat.le_of_ble_eq_true rfl) (e_X5_takeSeas (R := some r) (fun m0 q => by cases q; exact ⟨rfl, rfl⟩) (fun q => by cases q) h)
set_option maxRecDepth 20000 in
set_option maxHeartbeats 4000000 in
theorem e_X5_seaOf {G : ev_G} {Q : Option ev_V → ev_M → Prop} {R : Option (Int32)} {mF : ev_m} (hR : ∀ x0 : Int32, (some (x0)) = R → Q (some (vi x0)) (ev_emb mF)) (hN : none ≠ R) {i0 : Nat} {x1_ : Int32} (h : f_X5_seaOf mF i0 x1_ = R) : ev_E G K_X5_seaOf B_X5_seaOf (0, 0) 0 [some (vr 3 (i0)), some (vi (x1_))] [] (ev_emb mF) Q := by
  unfold f_X5_seaOf at h
  refine ev_aload_0 (pc := 0) dX5_seaOf_0 ?_
  refine gt_X5_46 (pc := 1) rfl dX5_seaOf_1 ?_
  refine ev_ifc_le (pc := 4) (tgt := 25) dX5_seaOf_4 (by decide) (fun c1 => ?_) (fun c1 => ?_)
  · replace h := ev_ifn h c1
    refine ev_iconst (pc := 25) (v := 0) dX5_seaOf_25 rfl ?_
    exact ev_iret (pc := 26) dX5_seaOf_26 rfl rfl (hR _ h)
  · replace h := ev_ifp h c1
    refine ev_aload_0 (pc := 7) dX5_seaOf_7 ?_
    refine gt_X5_9 (pc := 8) rfl dX5_seaOf_8 ?_
    refine ev_iload_1 (pc := 11) dX5_seaOf_11 ?_
    refine ev_iconst (pc := 12) (v := 1) dX5_seaOf_12 rfl ?_
    refine ev_isub (pc := 13) dX5_seaOf_13 ?_
    refine ev_aload_0 (pc := 14) dX5_seaOf_14 ?_
    refine gt_X5_46 (pc := 15) rfl dX5_seaOf_15 ?_
    obtain ⟨x2, hx2, h⟩ := ev_bindE hN h
    refine ev_irem1 (pc := 18) hx2 dX5_seaOf_18 ?_
    refine cl1_X5_65 (pc := 19) rfl dX5_seaOf_19 (by decide) (Nat.le_of_ble_eq_true rfl) (c_X9_at (r := 12) rfl (by decide)) ?_
    refine ev_goto (pc := 22) (tgt := 26) dX5_seaOf_22 (by decide) ?_
    exact ev_iret (pc := 26) dX5_seaOf_26 rfl rfl (hR _ h)
theorem c_X5_seaOf {G : ev_G} {mF : ev_m} {i0 : Nat} {x1_ : Int32} {r : Int32} (h : f_X5_seaOf mF i0 x1_ = some r) : ev_CF G K_X5_seaOf B_X5_seaOf [vr 3 (i0), vi (x1_)] mF (some (vi (r))) mF :=
  ev_Ct_of rfl rfl (Nat.le_of_ble_eq_true rfl) (e_X5_seaOf (R := some r) (fun x0 q => by cases q; exact ⟨rfl, rfl⟩) (fun q => by cases q) h)
set_option maxRecDepth 20000 in
set_option maxHeartbeats 4000000 in
theorem e_X6_addByte {G : ev_G} {Q : Option ev_V → ev_M → Prop} {R : Option (ev_m)} {mF : ev_m} (hR : ∀ m0 : ev_m, (some (m0)) = R → Q none (ev_emb m0)) (hN : none ≠ R) {i0 : Nat} {x1_ : Int32} (h : f_X6_addByte mF i0 x1_ = R) : ev_E G K_X6_addByte B_X6_addByte (0, 0) 0 [some (vr 2 (i0)), some (vi (x1_))] [] (ev_emb mF) Q := by
  unfold f_X6_addByte at h
  refine ev_aload_0 (pc := 0) dX6_addByte_0 ?_
  refine gt_X6_19 (pc := 1) rfl dX6_addByte_1 ?_
  refine ev_ifc_lt (pc := 4) (tgt := 40) dX6_addByte_4 (by decide) (fun c1 => ?_) (fun c1 => ?_)
  · replace h := ev_ifp h c1
    exact ev_vret (pc := 40) dX6_addByte_40 rfl (hR _ h)
  · replace h := ev_ifn h c1
    refine ev_aload_0 (pc := 7) dX6_addByte_7 ?_
    refine gt_X6_19 (pc := 8) rfl dX6_addByte_8 ?_
    refine ev_aload_0 (pc := 11) dX6_addByte_11 ?_
    refine gt_X6_9 (pc := 12) rfl dX6_addByte_12 ?_
    refine ev_alen1 (pc := 15) (y := 600) rfl (by decide) rfl dX6_addByte_15 ?_
    refine ev_icc_ge (pc := 16) (tgt := 40) dX6_addByte_16 (by decide) (fun c2 => ?_) (fun c2 => ?_)
    · replace h := ev_ifn h c2
      exact ev_vret (pc := 40) dX6_addByte_40 rfl (hR _ h)
    · replace h := ev_ifp h c2
      refine ev_aload_0 (pc := 19) dX6_addByte_19 ?_
      refine gt_X6_9 (pc := 20) rfl dX6_addByte_20 ?_
      refine ev_aload_0 (pc := 23) dX6_addByte_23 ?_
      refine gt_X6_19 (pc := 24) rfl dX6_addByte_24 ?_
      refine ev_iload_1 (pc := 27) dX6_addByte_27 ?_
      refine ev_i2b (pc := 28) dX6_addByte_28 ?_
      obtain ⟨m3, hm3, h⟩ := ev_bindE hN h
      refine ev_bast1 (pc := 29) rfl (by decide) (by decide) rfl hm3 dX6_addByte_29 ?_
      refine ev_aload_0 (pc := 30) dX6_addByte_30 ?_
      refine ev_dup_r (pc := 31) dX6_addByte_31 ?_
      refine gt_X6_19 (pc := 32) rfl dX6_addByte_32 ?_
      refine ev_iconst (pc := 35) (v := 1) dX6_addByte_35 rfl ?_
      refine ev_iadd (pc := 36) dX6_addByte_36 ?_
      obtain ⟨m4, hm4, h⟩ := ev_letE h
      refine pt_X6_19 (pc := 37) rfl dX6_addByte_37 ?_
      refine ev_mem (pc := 40) hm4 ?_
      exact ev_vret (pc := 40) dX6_addByte_40 rfl (hR _ h)
theorem c_X6_addByte {G : ev_G} {mF : ev_m} {i0 : Nat} {x1_ : Int32} {r : ev_m} (h : f_X6_addByte mF i0 x1_ = some r) : ev_CF G K_X6_addByte B_X6_addByte [vr 2 (i0), vi (x1_)] mF none r :=
  ev_Ct_of rfl rfl (Nat.le_of_ble_eq_true rfl) (e_X6_addByte (R := some r) (fun m0 q => by cases q; exact ⟨rfl, rfl⟩) (fun q => by cases q) h)
set_option maxRecDepth 20000 in
set_option maxHeartbeats 4000000 in
theorem e_X6_addWord {G : ev_G} {Q : Option ev_V → ev_M → Prop} {R : Option (ev_m)} {mF : ev_m} (hR : ∀ m0 : ev_m, (some (m0)) = R → Q none (ev_emb m0)) (hN : none ≠ R) {i0 : Nat} {x1_ : Int32} (h : f_X6_addWord mF i0 x1_ = R) : ev_E G K_X6_addWord B_X6_addWord (0, 0) 0 [some (vr 2 (i0)), some (vi (x1_))] [] (ev_emb mF) Q := by
  unfold f_X6_addWord at h
  refine ev_aload_0 (pc := 0) dX6_addWord_0 ?_
  refine ev_iload_1 (pc := 1) dX6_addWord_1 ?_
  refine ev_bipush (pc := 2) (v := 24) dX6_addWord_2 (by decide) ?_
  refine ev_iushr (pc := 4) dX6_addWord_4 ?_
  obtain ⟨m1, hm1, h⟩ := ev_bindE hN h
  refine cl0_X6_15 (pc := 5) rfl dX6_addWord_5 (by decide) (Nat.le_of_ble_eq_true rfl) (c_X6_addByte hm1) ?_
  refine ev_aload_0 (pc := 8) dX6_addWord_8 ?_
  refine ev_iload_1 (pc := 9) dX6_addWord_9 ?_
  refine ev_bipush (pc := 10) (v := 16) dX6_addWord_10 (by decide) ?_
  refine ev_iushr (pc := 12) dX6_addWord_12 ?_
  obtain ⟨m2, hm2, h⟩ := ev_bindE hN h
  refine cl0_X6_15 (pc := 13) rfl dX6_addWord_13 (by decide) (Nat.le_of_ble_eq_true rfl) (c_X6_addByte hm2) ?_
  refine ev_aload_0 (pc := 16) dX6_addWord_16 ?_
  refine ev_iload_1 (pc := 17) dX6_addWord_17 ?_
  refine ev_bipush (pc := 18) (v := 8) dX6_addWord_18 (by decide) ?_
  refine ev_iushr (pc := 20) dX6_addWord_20 ?_
  obtain ⟨m3, hm3, h⟩ := ev_bindE hN h
  refine cl0_X6_15 (pc := 21) rfl dX6_addWord_21 (by decide) (Nat.le_of_ble_eq_true rfl) (c_X6_addByte hm3) ?_
  refine ev_aload_0 (pc := 24) dX6_addWord_24 ?_
  refine ev_iload_1 (pc := 25) dX6_addWord_25 ?_
  obtain ⟨m4, hm4, h⟩ := ev_bindE hN h
  refine cl0_X6_15 (pc := 26) rfl dX6_addWord_26 (by decide) (Nat.le_of_ble_eq_true rfl) (c_X6_addByte hm4) ?_
  exact ev_vret (pc := 29) dX6_addWord_29 rfl (hR _ h)
theorem c_X6_addWord {G : ev_G} {mF : ev_m} {i0 : Nat} {x1_ : Int32} {r : ev_m} (h : f_X6_addWord mF i0 x1_ = some r) : ev_CF G K_X6_addWord B_X6_addWord [vr 2 (i0), vi (x1_)] mF none r :=
  ev_Ct_of rfl rfl (Nat.le_of_ble_eq_true rfl) (e_X6_addWord (R := some r) (fun m0 q => by cases q; exact ⟨rfl, rfl⟩) (fun q => by cases q) h)
set_option maxRecDepth 20000 in
set_option maxHeartbeats 4000000 in
theorem e_jn_X8_begin_52 {G : ev_G} {Q : Option ev_V → ev_M → Prop} {R : ev_m} (hR : ∀ m0 : ev_m, m0 = R → Q none (ev_emb m0)) {m15 : ev_m} {i12 : Nat} {x13 : Int32} {x14 : Int32} (h : jn_X8_begin_52 m15 i12 x13 x14 = R) : ev_E G K_X8_begin B_X8_begin (0, 0) 52 [some (vr 8 (i12)), none, none] [vi (x13), vi (x14), vr 19 (0)] (ev_emb m15) Q := by
  unfold jn_X8_begin_52 at h
  obtain ⟨m16, hm16, h⟩ := ev_letE h
  refine cl0_X8_58 (pc := 52) (fr := 0) (lo := 0) (m' := m16) rfl dX8_begin_52 (by decide) (Nat.le_of_ble_eq_true rfl) (by rw [hm16]; exact c_X9_put (r := 19) rfl (by decide) (by decide)) ?_
  refine ev_aload_0 (pc := 55) dX8_begin_55 ?_
  refine gt_X8_18 (pc := 56) rfl dX8_begin_56 ?_
  refine ev_iconst (pc := 59) (v := 0) dX8_begin_59 rfl ?_
  refine ev_iconst (pc := 60) (v := 0) dX8_begin_60 rfl ?_
  obtain ⟨m17, hm17, h⟩ := ev_letE h
  refine cl0_X8_58 (pc := 61) (fr := 0) (lo := 0) (m' := m17) rfl dX8_begin_61 (by decide) (Nat.le_of_ble_eq_true rfl) (by rw [hm17]; exact c_X9_put (r := 20) rfl (by decide) (by decide)) ?_
  refine ev_aload_0 (pc := 64) dX8_begin_64 ?_
  refine gt_X8_21 (pc := 65) rfl dX8_begin_65 ?_
  refine ev_iconst (pc := 68) (v := 0) dX8_begin_68 rfl ?_
  refine ev_iconst (pc := 69) (v := 0) dX8_begin_69 rfl ?_
  obtain ⟨m18, hm18, h⟩ := ev_letE h
  refine cl0_X8_58 (pc := 70) (fr := 0) (lo := 0) (m' := m18) rfl dX8_begin_70 (by decide) (Nat.le_of_ble_eq_true rfl) (by rw [hm18]; exact c_X9_put (r := 21) rfl (by decide) (by decide)) ?_
  exact ev_vret (pc := 73) dX8_begin_73 rfl (hR _ h)
set_option maxRecDepth 20000 in
set_option maxHeartbeats 4000000 in
theorem e_jn_X8_begin_32 {G : ev_G} {Q : Option ev_V → ev_M → Prop} {R : ev_m} (hR : ∀ m0 : ev_m, m0 = R → Q none (ev_emb m0)) {m9 : ev_m} {i5 : Nat} {o6 : Option Nat} {x7 : Int32} {x8 : Int32} (h : jn_X8_begin_32 m9 i5 o6 x7 x8 = R) : ev_E G K_X8_begin B_X8_begin (0, 0) 32 [some (vr 8 (i5)), some (vo 3 (o6)), none] [vi (x7), vi (x8), vr 18 (0)] (ev_emb m9) Q := by
  unfold jn_X8_begin_32 at h
  obtain ⟨m10, hm10, h⟩ := ev_letE h
  refine cl0_X8_58 (pc := 32) (fr := 0) (lo := 0) (m' := m10) rfl dX8_begin_32 (by decide) (Nat.le_of_ble_eq_true rfl) (by rw [hm10]; exact c_X9_put (r := 18) rfl (by decide) (by decide)) ?_
  refine ev_aload_0 (pc := 35) dX8_begin_35 ?_
  refine gt_X8_15 (pc := 36) rfl dX8_begin_36 ?_
  refine ev_iconst (pc := 39) (v := 0) dX8_begin_39 rfl ?_
  refine ev_aload_1 (pc := 40) dX8_begin_40 ?_
  rcases o6 with _ | j11
  · replace h := ev_onN h
    show ev_E G K_X8_begin B_X8_begin (0, 0) 41 [some (vr 8 (i5)), some (vn), none] [vn, vi (0), vr 19 (0)] (ev_emb m10) Q
    refine ev_ifnonnull_n (pc := 41) dX8_begin_41 ?_
    refine ev_iconst (pc := 44) (v := 0) dX8_begin_44 rfl ?_
    refine ev_goto (pc := 45) (tgt := 52) dX8_begin_45 (by decide) ?_
    refine ev_E.forget (L' := [some (vr 8 (i5)), none, none]) ⟨rfl, trivial⟩ ?_
    exact e_jn_X8_begin_52 hR h
  · replace h := ev_onS h
    show ev_E G K_X8_begin B_X8_begin (0, 0) 41 [some (vr 8 (i5)), some (vr 3 (j11)), none] [vr 3 (j11), vi (0), vr 19 (0)] (ev_emb m10) Q
    refine ev_ifnonnull_r (pc := 41) (tgt := 48) dX8_begin_41 (by decide) ?_
    refine ev_aload_1 (pc := 48) dX8_begin_48 ?_
    refine gt_X8_62 (pc := 49) rfl dX8_begin_49 ?_
    refine ev_E.forget (L' := [some (vr 8 (i5)), none, none]) ⟨rfl, trivial⟩ ?_
    exact e_jn_X8_begin_52 hR h
set_option maxRecDepth 20000 in
set_option maxHeartbeats 4000000 in
theorem e_X8_begin {G : ev_G} {Q : Option ev_V → ev_M → Prop} {R : ev_m} {mF : ev_m} (hR : ∀ m0 : ev_m, m0 = R → Q none (ev_emb m0)) {i0 : Nat} {o1_ : Option Nat} {x2_ : Int32} (h : s_X8_begin mF i0 o1_ x2_ = R) : ev_E G K_X8_begin B_X8_begin (0, 0) 0 [some (vr 8 (i0)), some (vo 3 (o1_)), some (vi (x2_))] [] (ev_emb mF) Q := by
  unfold s_X8_begin at h
  refine ev_aload_0 (pc := 0) dX8_begin_0 ?_
  refine ev_aload_1 (pc := 1) dX8_begin_1 ?_
  obtain ⟨m1, hm1, h⟩ := ev_letE h
  refine pt_X8_42 (pc := 2) rfl dX8_begin_2 ?_
  refine ev_mem (pc := 5) hm1 ?_
  refine ev_aload_0 (pc := 5) dX8_begin_5 ?_
  refine ev_iload_2 (pc := 6) dX8_begin_6 ?_
  obtain ⟨m2, hm2, h⟩ := ev_letE h
  refine pt_X8_46 (pc := 7) rfl dX8_begin_7 ?_
  refine ev_mem (pc := 10) hm2 ?_
  refine ev_aload_0 (pc := 10) dX8_begin_10 ?_
  refine ev_iconst (pc := 11) (v := 0) dX8_begin_11 rfl ?_
  obtain ⟨m3, hm3, h⟩ := ev_letE h
  refine pt_X8_50 (pc := 12) rfl dX8_begin_12 ?_
  refine ev_mem (pc := 15) hm3 ?_
  refine ev_aload_0 (pc := 15) dX8_begin_15 ?_
  refine gt_X8_9 (pc := 16) rfl dX8_begin_16 ?_
  refine ev_iconst (pc := 19) (v := 0) dX8_begin_19 rfl ?_
  refine ev_aload_1 (pc := 20) dX8_begin_20 ?_
  rcases o1_ with _ | j4
  · replace h := ev_onN h
    show ev_E G K_X8_begin B_X8_begin (0, 0) 21 [some (vr 8 (i0)), some (vn), some (vi (x2_))] [vn, vi (0), vr 18 (0)] (ev_emb m3) Q
    refine ev_ifnonnull_n (pc := 21) dX8_begin_21 ?_
    refine ev_iconst (pc := 24) (v := 0) dX8_begin_24 rfl ?_
    refine ev_goto (pc := 25) (tgt := 32) dX8_begin_25 (by decide) ?_
    refine ev_E.forget (L' := [some (vr 8 (i0)), some (vn), none]) ⟨rfl, ⟨rfl, trivial⟩⟩ ?_
    exact e_jn_X8_begin_32 hR h
  · replace h := ev_onS h
    show ev_E G K_X8_begin B_X8_begin (0, 0) 21 [some (vr 8 (i0)), some (vr 3 (j4)), some (vi (x2_))] [vr 3 (j4), vi (0), vr 18 (0)] (ev_emb m3) Q
    refine ev_ifnonnull_r (pc := 21) (tgt := 28) dX8_begin_21 (by decide) ?_
    refine ev_aload_1 (pc := 28) dX8_begin_28 ?_
    refine gt_X8_53 (pc := 29) rfl dX8_begin_29 ?_
    refine ev_E.forget (L' := [some (vr 8 (i0)), some (vr 3 (j4)), none]) ⟨rfl, ⟨rfl, trivial⟩⟩ ?_
    exact e_jn_X8_begin_32 hR h
theorem c_X8_begin {G : ev_G} (mF : ev_m) (i0 : Nat) (o1_ : Option Nat) (x2_ : Int32) : ev_CF G K_X8_begin B_X8_begin [vr 8 (i0), vo 3 (o1_), vi (x2_)] mF none (s_X8_begin mF i0 o1_ x2_) :=
  ev_Ct_of rfl rfl (Nat.le_of_ble_eq_true rfl) (e_X8_begin (R := s_X8_begin mF i0 o1_ x2_) (fun m0 q => ⟨rfl, by rw [← q]⟩) rfl)
set_option maxRecDepth 20000 in
set_option maxHeartbeats 4000000 in
theorem e_X8_move {G : ev_G} {Q : Option ev_V → ev_M → Prop} {R : Option (ev_m)} {mF : ev_m} (hR : ∀ m0 : ev_m, (some (m0)) = R → Q none (ev_emb m0)) (hN : none ≠ R) {i0 : Nat} {x1_ : Int32} (h : f_X8_move mF i0 x1_ = R) : ev_E G K_X8_move B_X8_move (0, 0) 0 [some (vr 8 (i0)), some (vi (x1_)), none, none, none] [] (ev_emb mF) Q := by
  unfold f_X8_move at h
  refine ev_aload_0 (pc := 0) dX8_move_0 ?_
  refine gt_X8_42 (pc := 1) rfl dX8_move_1 ?_
  obtain ⟨o1, ho1, h⟩ := ev_letE h
  refine ev_topo (pc := 4) ho1 ?_
  rcases o1 with _ | j2
  · replace h := ev_onN h
    show ev_E G K_X8_move B_X8_move (0, 0) 4 [some (vr 8 (i0)), some (vi (x1_)), none, none, none] [vn] (ev_emb mF) Q
    refine ev_ifnonnull_n (pc := 4) dX8_move_4 ?_
    exact ev_vret (pc := 7) dX8_move_7 rfl (hR _ h)
  · replace h := ev_onS h
    show ev_E G K_X8_move B_X8_move (0, 0) 4 [some (vr 8 (i0)), some (vi (x1_)), none, none, none] [vr 3 (j2)] (ev_emb mF) Q
    refine ev_ifnonnull_r (pc := 4) (tgt := 8) dX8_move_4 (by decide) ?_
    refine ev_aload_0 (pc := 8) dX8_move_8 ?_
    refine gt_X8_9 (pc := 9) rfl dX8_move_9 ?_
    refine ev_aload_0 (pc := 12) dX8_move_12 ?_
    refine gt_X8_50 (pc := 13) rfl dX8_move_13 ?_
    refine cl1_X8_77 (pc := 16) rfl dX8_move_16 (by decide) (Nat.le_of_ble_eq_true rfl) (c_X9_at (r := 18) rfl (by decide)) ?_
    obtain ⟨x3, hx3, h⟩ := ev_letE h
    refine ev_topi (pc := 19) hx3 ?_
    refine ev_istore_2 (pc := 19) dX8_move_19 (by decide) rfl ?_
    refine ev_aload_0 (pc := 20) dX8_move_20 ?_
    refine gt_X8_15 (pc := 21) rfl dX8_move_21 ?_
    refine ev_aload_0 (pc := 24) dX8_move_24 ?_
    refine gt_X8_50 (pc := 25) rfl dX8_move_25 ?_
    refine cl1_X8_77 (pc := 28) rfl dX8_move_28 (by decide) (Nat.le_of_ble_eq_true rfl) (c_X9_at (r := 19) rfl (by decide)) ?_
    obtain ⟨x4, hx4, h⟩ := ev_letE h
    refine ev_topi (pc := 31) hx4 ?_
    refine ev_istore_3 (pc := 31) dX8_move_31 (by decide) rfl ?_
    refine ev_aload_0 (pc := 32) dX8_move_32 ?_
    refine cl1_X8_81 (pc := 33) rfl dX8_move_33 (by decide) (Nat.le_of_ble_eq_true rfl) (c_X8_rudderNow mF i0) ?_
    refine ev_iload_1 (pc := 36) dX8_move_36 ?_
    refine ev_aload_0 (pc := 37) dX8_move_37 ?_
    refine cl1_X8_81 (pc := 38) rfl dX8_move_38 (by decide) (Nat.le_of_ble_eq_true rfl) (c_X8_rudderNow mF i0) ?_
    refine ev_isub (pc := 41) dX8_move_41 ?_
    refine ev_aload_0 (pc := 42) dX8_move_42 ?_
    refine gt_X8_42 (pc := 43) rfl dX8_move_43 ?_
    obtain ⟨o5, ho5, h⟩ := ev_letE h
    refine ev_topo (pc := 46) ho5 ?_
    rcases o5 with _ | j6
    · exact absurd (ev_onN h) hN
    replace h := ev_onS h
    show ev_E G K_X8_move B_X8_move (0, 0) 46 [some (vr 8 (i0)), some (vi (x1_)), some (vi (x3)), some (vi (x4)), none] [vr 3 (j6), vi (x1_ - (s_X8_rudderNow mF i0)), vi (s_X8_rudderNow mF i0)] (ev_emb mF) Q
    refine gt_X8_85 (pc := 46) rfl dX8_move_46 ?_
    refine cl1_X8_88 (pc := 49) rfl dX8_move_49 (by decide) (Nat.le_of_ble_eq_true rfl) (c_X9_within mF (x1_ - (s_X8_rudderNow mF i0)) (mF.1 3 j6 4)) ?_
    refine ev_iadd (pc := 52) dX8_move_52 ?_
    obtain ⟨x7, hx7, h⟩ := ev_letE h
    refine ev_topi (pc := 53) hx7 ?_
    refine ev_istore_4 (pc := 53) dX8_move_53 (by decide) rfl ?_
    refine ev_aload_0 (pc := 55) dX8_move_55 ?_
    refine ev_dup_r (pc := 56) dX8_move_56 ?_
    refine gt_X8_50 (pc := 57) rfl dX8_move_57 ?_
    refine ev_iconst (pc := 60) (v := 1) dX8_move_60 rfl ?_
    refine ev_iadd (pc := 61) dX8_move_61 ?_
    obtain ⟨m8, hm8, h⟩ := ev_letE h
    refine pt_X8_50 (pc := 62) rfl dX8_move_62 ?_
    refine ev_mem (pc := 65) hm8 ?_
    refine ev_iload_3 (pc := 65) dX8_move_65 ?_
    refine ev_iload_3 (pc := 66) dX8_move_66 ?_
    refine ev_aload_0 (pc := 67) dX8_move_67 ?_
    refine gt_X8_42 (pc := 68) rfl dX8_move_68 ?_
    obtain ⟨o9, ho9, h⟩ := ev_letE h
    refine ev_topo (pc := 71) ho9 ?_
    rcases o9 with _ | j10
    · exact absurd (ev_onN h) hN
    replace h := ev_onS h
    show ev_E G K_X8_move B_X8_move (0, 0) 71 [some (vr 8 (i0)), some (vi (x1_)), some (vi (x3)), some (vi (x4)), some (vi (x7))] [vr 3 (j10), vi (x4), vi (x4)] (ev_emb m8) Q
    refine gt_X8_92 (pc := 71) rfl dX8_move_71 ?_
    refine ev_imul (pc := 74) dX8_move_74 ?_
    refine ev_bipush (pc := 75) (v := 100) dX8_move_75 (by decide) ?_
    refine ev_idiv (pc := 77) dX8_move_77 (by decide) ?_
    refine ev_isub (pc := 78) dX8_move_78 ?_
    refine ev_aload_0 (pc := 79) dX8_move_79 ?_
    refine gt_X8_42 (pc := 80) rfl dX8_move_80 ?_
    obtain ⟨o11, ho11, h⟩ := ev_letE h
    refine ev_topo (pc := 83) ho11 ?_
    rcases o11 with _ | j12
    · exact absurd (ev_onN h) hN
    replace h := ev_onS h
    show ev_E G K_X8_move B_X8_move (0, 0) 83 [some (vr 8 (i0)), some (vi (x1_)), some (vi (x3)), some (vi (x4)), some (vi (x7))] [vr 3 (j12), vi (x4 - ((x4 * (m8.1 3 j10 1)) / 100))] (ev_emb m8) Q
    refine gt_X8_95 (pc := 83) rfl dX8_move_83 ?_
    refine ev_iload_4 (pc := 86) dX8_move_86 ?_
    refine ev_imul (pc := 88) dX8_move_88 ?_
    refine ev_iadd (pc := 89) dX8_move_89 ?_
    refine ev_aload_0 (pc := 90) dX8_move_90 ?_
    refine gt_X8_42 (pc := 91) rfl dX8_move_91 ?_
    obtain ⟨o13, ho13, h⟩ := ev_letE h
    refine ev_topo (pc := 94) ho13 ?_
    rcases o13 with _ | j14
    · exact absurd (ev_onN h) hN
    replace h := ev_onS h
    show ev_E G K_X8_move B_X8_move (0, 0) 94 [some (vr 8 (i0)), some (vi (x1_)), some (vi (x3)), some (vi (x4)), some (vi (x7))] [vr 3 (j14), vi ((x4 - ((x4 * (m8.1 3 j10 1)) / 100)) + ((m8.1 3 j12 0) * x7))] (ev_emb m8) Q
    refine gt_X8_98 (pc := 94) rfl dX8_move_94 ?_
    refine ev_iadd (pc := 97) dX8_move_97 ?_
    refine ev_aload_0 (pc := 98) dX8_move_98 ?_
    refine gt_X8_42 (pc := 99) rfl dX8_move_99 ?_
    obtain ⟨o15, ho15, h⟩ := ev_letE h
    refine ev_topo (pc := 102) ho15 ?_
    refine ev_aload_0 (pc := 102) dX8_move_102 ?_
    refine gt_X8_50 (pc := 103) rfl dX8_move_103 ?_
    rcases o15 with _ | j16
    · exact absurd (ev_onN h) hN
    replace h := ev_onS h
    show ev_E G K_X8_move B_X8_move (0, 0) 106 [some (vr 8 (i0)), some (vi (x1_)), some (vi (x3)), some (vi (x4)), some (vi (x7))] [vi (m8.1 8 i0 1), vr 3 (j16), vi (((x4 - ((x4 * (m8.1 3 j10 1)) / 100)) + ((m8.1 3 j12 0) * x7)) + (m8.1 3 j14 6))] (ev_emb m8) Q
    obtain ⟨x17, hx17, h⟩ := ev_bindE hN h
    refine cl1_X8_101 (pc := 106) rfl dX8_move_106 (by decide) (Nat.le_of_ble_eq_true rfl) (c_X5_seaOf hx17) ?_
    refine ev_iadd (pc := 109) dX8_move_109 ?_
    refine ev_aload_0 (pc := 110) dX8_move_110 ?_
    refine gt_X8_42 (pc := 111) rfl dX8_move_111 ?_
    obtain ⟨o18, ho18, h⟩ := ev_letE h
    refine ev_topo (pc := 114) ho18 ?_
    rcases o18 with _ | j19
    · exact absurd (ev_onN h) hN
    replace h := ev_onS h
    show ev_E G K_X8_move B_X8_move (0, 0) 114 [some (vr 8 (i0)), some (vi (x1_)), some (vi (x3)), some (vi (x4)), some (vi (x7))] [vr 3 (j19), vi ((((x4 - ((x4 * (m8.1 3 j10 1)) / 100)) + ((m8.1 3 j12 0) * x7)) + (m8.1 3 j14 6)) + x17)] (ev_emb m8) Q
    refine gt_X8_105 (pc := 114) rfl dX8_move_114 ?_
    refine ev_iload_2 (pc := 117) dX8_move_117 ?_
    refine ev_imul (pc := 118) dX8_move_118 ?_
    refine ev_bipush (pc := 119) (v := 100) dX8_move_119 (by decide) ?_
    refine ev_idiv (pc := 121) dX8_move_121 (by decide) ?_
    refine ev_isub (pc := 122) dX8_move_122 ?_
    refine ev_sipush (pc := 123) (v := 9999) dX8_move_123 (by decide) ?_
    refine cl1_X8_88 (pc := 126) rfl dX8_move_126 (by decide) (Nat.le_of_ble_eq_true rfl) (c_X9_within m8 (((((x4 - ((x4 * (m8.1 3 j10 1)) / 100)) + ((m8.1 3 j12 0) * x7)) + (m8.1 3 j14 6)) + x17) - (((m8.1 3 j19 7) * x3) / 100)) 9999) ?_
    obtain ⟨x20, hx20, h⟩ := ev_letE h
    refine ev_topi (pc := 129) hx20 ?_
    refine ev_istore_3 (pc := 129) dX8_move_129 (by decide) rfl ?_
    refine ev_aload_0 (pc := 130) dX8_move_130 ?_
    refine gt_X8_9 (pc := 131) rfl dX8_move_131 ?_
    refine ev_aload_0 (pc := 134) dX8_move_134 ?_
    refine gt_X8_50 (pc := 135) rfl dX8_move_135 ?_
    refine ev_iload_2 (pc := 138) dX8_move_138 ?_
    refine ev_iload_3 (pc := 139) dX8_move_139 ?_
    refine ev_iadd (pc := 140) dX8_move_140 ?_
    refine ev_sipush (pc := 141) (v := 18000) dX8_move_141 (by decide) ?_
    refine cl1_X8_88 (pc := 144) rfl dX8_move_144 (by decide) (Nat.le_of_ble_eq_true rfl) (c_X9_within m8 (x3 + x20) 18000) ?_
    obtain ⟨m21, hm21, h⟩ := ev_letE h
    refine cl0_X8_58 (pc := 147) (fr := 0) (lo := 0) (m' := m21) rfl dX8_move_147 (by decide) (Nat.le_of_ble_eq_true rfl) (by rw [hm21]; exact c_X9_put (r := 18) rfl (by decide) (by decide)) ?_
    refine ev_aload_0 (pc := 150) dX8_move_150 ?_
    refine gt_X8_15 (pc := 151) rfl dX8_move_151 ?_
    refine ev_aload_0 (pc := 154) dX8_move_154 ?_
    refine gt_X8_50 (pc := 155) rfl dX8_move_155 ?_
    refine ev_iload_3 (pc := 158) dX8_move_158 ?_
    obtain ⟨m22, hm22, h⟩ := ev_letE h
    refine cl0_X8_58 (pc := 159) (fr := 0) (lo := 0) (m' := m22) rfl dX8_move_159 (by decide) (Nat.le_of_ble_eq_true rfl) (by rw [hm22]; exact c_X9_put (r := 19) rfl (by decide) (by decide)) ?_
    refine ev_aload_0 (pc := 162) dX8_move_162 ?_
    refine gt_X8_18 (pc := 163) rfl dX8_move_163 ?_
    refine ev_aload_0 (pc := 166) dX8_move_166 ?_
    refine gt_X8_50 (pc := 167) rfl dX8_move_167 ?_
    refine ev_iload_4 (pc := 170) dX8_move_170 ?_
    obtain ⟨m23, hm23, h⟩ := ev_letE h
    refine cl0_X8_58 (pc := 172) (fr := 0) (lo := 0) (m' := m23) rfl dX8_move_172 (by decide) (Nat.le_of_ble_eq_true rfl) (by rw [hm23]; exact c_X9_put (r := 20) rfl (by decide) (by decide)) ?_
    refine ev_aload_0 (pc := 175) dX8_move_175 ?_
    refine gt_X8_21 (pc := 176) rfl dX8_move_176 ?_
    refine ev_aload_0 (pc := 179) dX8_move_179 ?_
    refine gt_X8_50 (pc := 180) rfl dX8_move_180 ?_
    refine ev_aload_0 (pc := 183) dX8_move_183 ?_
    refine gt_X8_27 (pc := 184) rfl dX8_move_184 ?_
    refine gt_X8_108 (pc := 187) rfl dX8_move_187 ?_
    obtain ⟨m24, hm24, h⟩ := ev_letE h
    refine cl0_X8_58 (pc := 190) (fr := 0) (lo := 0) (m' := m24) rfl dX8_move_190 (by decide) (Nat.le_of_ble_eq_true rfl) (by rw [hm24]; exact c_X9_put (r := 21) rfl (by decide) (by decide)) ?_
    exact ev_vret (pc := 193) dX8_move_193 rfl (hR _ h)
theorem c_X8_move {G : ev_G} {mF : ev_m} {i0 : Nat} {x1_ : Int32} {r : ev_m} (h : f_X8_move mF i0 x1_ = some r) : ev_CF G K_X8_move B_X8_move [vr 8 (i0), vi (x1_)] mF none r :=
  ev_Ct_of rfl rfl (Nat.le_of_ble_eq_true rfl) (e_X8_move (R := some r) (fun m0 q => by cases q; exact ⟨rfl, rfl⟩) (fun q => by cases q) h)
set_option maxRecDepth 20000 in
set_option maxHeartbeats 4000000 in
theorem e_lp_X8_steer_10 {G : ev_G} {Q : Option ev_V → ev_M → Prop} {R : Option (ev_m)} (hR : ∀ m0 : ev_m, (some (m0)) = R → Q none (ev_emb m0)) (hN : none ≠ R) {i2 : Nat} {x3 : Int32} : ∀ (f : Nat) (x4 : Int32) (m5 : ev_m) (kx : ev_m → Option (ev_m)) (h : lp_X8_steer_10 i2 x3 f x4 m5 kx = R) (hk : ∀ (m5' : ev_m), kx m5' = R → ev_E G K_X8_steer B_X8_steer (0, 0) 43 [none, none, none, none] [] (ev_emb m5') Q), ev_E G K_X8_steer B_X8_steer (0, 0) 10 [some (vr 8 (i2)), none, some (vi (x3)), some (vi (x4))] [] (ev_emb m5) Q := by
  intro f
  induction f with
  | zero => intro x4 m5 kx h hk; rw [lp_X8_steer_10] at h; exact absurd h hN
  | succ f ih =>
    intro x4 m5 kx h hk
    rw [lp_X8_steer_10] at h
    refine ev_iload_3 (pc := 10) dX8_steer_10 ?_
    refine ev_iload_2 (pc := 11) dX8_steer_11 ?_
    refine ev_icc_ge (pc := 12) (tgt := 43) dX8_steer_12 (by decide) (fun c6 => ?_) (fun c6 => ?_)
    · replace h := ev_ifn h c6
      refine ev_E.forget (L' := [none, none, none, none]) trivial ?_
      exact hk _  h
    · replace h := ev_ifp h c6
      refine ev_aload_0 (pc := 15) dX8_steer_15 ?_
      refine gt_X8_50 (pc := 16) rfl dX8_steer_16 ?_
      refine ev_sipush (pc := 19) (v := 400) dX8_steer_19 (by decide) ?_
      refine ev_icc_ge (pc := 22) (tgt := 43) dX8_steer_22 (by decide) (fun c7 => ?_) (fun c7 => ?_)
      · replace h := ev_ifn h c7
        refine ev_E.forget (L' := [none, none, none, none]) trivial ?_
        exact hk _  h
      · replace h := ev_ifp h c7
        refine ev_aload_0 (pc := 25) dX8_steer_25 ?_
        refine ev_aload_0 (pc := 26) dX8_steer_26 ?_
        refine gt_X8_27 (pc := 27) rfl dX8_steer_27 ?_
        refine ev_aload_0 (pc := 30) dX8_steer_30 ?_
        obtain ⟨p8, hp8, h⟩ := ev_bindE hN h
        refine cl1_X8_69 (pc := 31) rfl dX8_steer_31 (by decide) (Nat.le_of_ble_eq_true rfl) (c_X2_wants hp8) ?_
        obtain ⟨m9, hm9, h⟩ := ev_bindE hN h
        refine cl0_X8_73 (pc := 34) rfl dX8_steer_34 (by decide) (Nat.le_of_ble_eq_true rfl) (c_X8_move hm9) ?_
        refine ev_iinc_3 (pc := 37) (y := x4 + 1) dX8_steer_37 rfl (by decide) rfl ?_
        refine ev_goto (pc := 40) (tgt := 10) dX8_steer_40 (by decide) ?_
        exact ih _ _ kx h hk
set_option maxRecDepth 20000 in
set_option maxHeartbeats 4000000 in
theorem e_X8_steer {G : ev_G} {Q : Option ev_V → ev_M → Prop} {R : Option (ev_m)} {mF : ev_m} (hR : ∀ m0 : ev_m, (some (m0)) = R → Q none (ev_emb m0)) (hN : none ≠ R) {i0 : Nat} {o1_ : Option Nat} {x2_ : Int32} (h : f_X8_steer mF i0 o1_ x2_ = R) : ev_E G K_X8_steer B_X8_steer (0, 0) 0 [some (vr 8 (i0)), some (vo 4 (o1_)), some (vi (x2_)), none] [] (ev_emb mF) Q := by
  unfold f_X8_steer at h
  refine ev_aload_0 (pc := 0) dX8_steer_0 ?_
  refine gt_X8_27 (pc := 1) rfl dX8_steer_1 ?_
  refine ev_aload_1 (pc := 4) dX8_steer_4 ?_
  obtain ⟨m1, hm1, h⟩ := ev_letE h
  refine cl0_X8_65 (pc := 5) (fr := 0) (lo := 0) (m' := m1) rfl dX8_steer_5 (by decide) (Nat.le_of_ble_eq_true rfl) (by rw [hm1]; exact c_X2_relieve mF 0 o1_) ?_
  refine ev_iconst (pc := 8) (v := 0) dX8_steer_8 rfl ?_
  refine ev_istore_3 (pc := 9) dX8_steer_9 (by decide) rfl ?_
  refine ev_E.forget (L' := [some (vr 8 (i0)), none, some (vi (x2_)), some (vi (0))]) ⟨rfl, ⟨rfl, ⟨rfl, trivial⟩⟩⟩ ?_
  refine e_lp_X8_steer_10 hR hN 4000 _ _ _ h (fun m10 h => ?_)
  exact ev_vret (pc := 43) dX8_steer_43 rfl (hR _ h)
theorem c_X8_steer {G : ev_G} {mF : ev_m} {i0 : Nat} {o1_ : Option Nat} {x2_ : Int32} {r : ev_m} (h : f_X8_steer mF i0 o1_ x2_ = some r) : ev_CF G K_X8_steer B_X8_steer [vr 8 (i0), vo 4 (o1_), vi (x2_)] mF none r :=
  ev_Ct_of rfl rfl (Nat.le_of_ble_eq_true rfl) (e_X8_steer (R := some r) (fun m0 q => by cases q; exact ⟨rfl, rfl⟩) (fun q => by cases q) h)
set_option maxRecDepth 20000 in
set_option maxHeartbeats 4000000 in
theorem e_X8_sail {G : ev_G} {Q : Option ev_V → ev_M → Prop} {R : Option (ev_m)} {mF : ev_m} (hR : ∀ m0 : ev_m, (some (m0)) = R → Q none (ev_emb m0)) (hN : none ≠ R) {i0 : Nat} {o1_ : Option Nat} {o2_ : Option Nat} {x3_ : Int32} {x4_ : Int32} (h : f_X8_sail mF i0 o1_ o2_ x3_ x4_ = R) : ev_E G K_X8_sail B_X8_sail (0, 0) 0 [some (vr 8 (i0)), some (vo 3 (o1_)), some (vo 4 (o2_)), some (vi (x3_)), some (vi (x4_))] [] (ev_emb mF) Q := by
  unfold f_X8_sail at h
  refine ev_aload_0 (pc := 0) dX8_sail_0 ?_
  refine ev_aload_1 (pc := 1) dX8_sail_1 ?_
  refine ev_iload_3 (pc := 2) dX8_sail_2 ?_
  obtain ⟨m1, hm1, h⟩ := ev_letE h
  refine cl0_X8_34 (pc := 3) (fr := 1) (lo := 22) (m' := m1) rfl dX8_sail_3 (by decide) (Nat.le_of_ble_eq_true rfl) (by rw [hm1]; exact c_X8_begin mF i0 o1_ x3_) ?_
  refine ev_aload_0 (pc := 6) dX8_sail_6 ?_
  refine ev_aload_2 (pc := 7) dX8_sail_7 ?_
  refine ev_iload_4 (pc := 8) dX8_sail_8 ?_
  obtain ⟨m2, hm2, h⟩ := ev_bindE hN h
  refine cl0_X8_38 (pc := 10) rfl dX8_sail_10 (by decide) (Nat.le_of_ble_eq_true rfl) (c_X8_steer hm2) ?_
  exact ev_vret (pc := 13) dX8_sail_13 rfl (hR _ h)
theorem c_X8_sail {G : ev_G} {mF : ev_m} {i0 : Nat} {o1_ : Option Nat} {o2_ : Option Nat} {x3_ : Int32} {x4_ : Int32} {r : ev_m} (h : f_X8_sail mF i0 o1_ o2_ x3_ x4_ = some r) : ev_CF G K_X8_sail B_X8_sail [vr 8 (i0), vo 3 (o1_), vo 4 (o2_), vi (x3_), vi (x4_)] mF none r :=
  ev_Ct_of rfl rfl (Nat.le_of_ble_eq_true rfl) (e_X8_sail (R := some r) (fun m0 q => by cases q; exact ⟨rfl, rfl⟩) (fun q => by cases q) h)
set_option maxRecDepth 20000 in
set_option maxHeartbeats 4000000 in
theorem e_lp_X8_steerTogether_19 {G : ev_G} {Q : Option ev_V → ev_M → Prop} {R : Option (ev_m)} (hR : ∀ m0 : ev_m, (some (m0)) = R → Q none (ev_emb m0)) (hN : none ≠ R) {i3 : Nat} {x4 : Int32} : ∀ (f : Nat) (x5 : Int32) (m6 : ev_m) (kx : ev_m → Option (ev_m)) (h : lp_X8_steerTogether_19 i3 x4 f x5 m6 kx = R) (hk : ∀ (m6' : ev_m), kx m6' = R → ev_E G K_X8_steerTogether B_X8_steerTogether (0, 0) 68 [none, none, none, none, none, none] [] (ev_emb m6') Q), ev_E G K_X8_steerTogether B_X8_steerTogether (0, 0) 19 [some (vr 8 (i3)), none, none, some (vi (x4)), some (vi (x5)), none] [] (ev_emb m6) Q := by
  intro f
  induction f with
  | zero => intro x5 m6 kx h hk; rw [lp_X8_steerTogether_19] at h; exact absurd h hN
  | succ f ih =>
    intro x5 m6 kx h hk
    rw [lp_X8_steerTogether_19] at h
    refine ev_iload_4 (pc := 19) dX8_steerTogether_19 ?_
    refine ev_iload_3 (pc := 21) dX8_steerTogether_21 ?_
    refine ev_icc_ge (pc := 22) (tgt := 68) dX8_steerTogether_22 (by decide) (fun c7 => ?_) (fun c7 => ?_)
    · replace h := ev_ifn h c7
      refine ev_E.forget (L' := [none, none, none, none, none, none]) trivial ?_
      exact hk _  h
    · replace h := ev_ifp h c7
      refine ev_aload_0 (pc := 25) dX8_steerTogether_25 ?_
      refine gt_X8_50 (pc := 26) rfl dX8_steerTogether_26 ?_
      refine ev_sipush (pc := 29) (v := 400) dX8_steerTogether_29 (by decide) ?_
      refine ev_icc_ge (pc := 32) (tgt := 68) dX8_steerTogether_32 (by decide) (fun c8 => ?_) (fun c8 => ?_)
      · replace h := ev_ifn h c8
        refine ev_E.forget (L' := [none, none, none, none, none, none]) trivial ?_
        exact hk _  h
      · replace h := ev_ifp h c8
        refine ev_aload_0 (pc := 35) dX8_steerTogether_35 ?_
        refine gt_X8_27 (pc := 36) rfl dX8_steerTogether_36 ?_
        refine ev_aload_0 (pc := 39) dX8_steerTogether_39 ?_
        obtain ⟨p9, hp9, h⟩ := ev_bindE hN h
        refine cl1_X8_69 (pc := 40) rfl dX8_steerTogether_40 (by decide) (Nat.le_of_ble_eq_true rfl) (c_X2_wants hp9) ?_
        obtain ⟨x10, hx10, h⟩ := ev_letE h
        refine ev_topi (pc := 43) hx10 ?_
        refine ev_istore_5 (pc := 43) dX8_steerTogether_43 (by decide) rfl ?_
        refine ev_aload_0 (pc := 45) dX8_steerTogether_45 ?_
        refine ev_iload_5 (pc := 46) dX8_steerTogether_46 ?_
        refine ev_aload_0 (pc := 48) dX8_steerTogether_48 ?_
        refine gt_X8_31 (pc := 49) rfl dX8_steerTogether_49 ?_
        refine ev_aload_0 (pc := 52) dX8_steerTogether_52 ?_
        obtain ⟨p11, hp11, h⟩ := ev_bindE hN h
        refine cl1_X8_69 (pc := 53) rfl dX8_steerTogether_53 (by decide) (Nat.le_of_ble_eq_true rfl) (c_X2_wants hp11) ?_
        refine ev_iadd (pc := 56) dX8_steerTogether_56 ?_
        refine ev_iconst (pc := 57) (v := 2) dX8_steerTogether_57 rfl ?_
        refine ev_idiv (pc := 58) dX8_steerTogether_58 (by decide) ?_
        obtain ⟨m12, hm12, h⟩ := ev_bindE hN h
        refine cl0_X8_73 (pc := 59) rfl dX8_steerTogether_59 (by decide) (Nat.le_of_ble_eq_true rfl) (c_X8_move hm12) ?_
        refine ev_iinc_4 (pc := 62) (y := x5 + 1) dX8_steerTogether_62 rfl (by decide) rfl ?_
        refine ev_goto (pc := 65) (tgt := 19) dX8_steerTogether_65 (by decide) ?_
        refine ev_E.forget (L' := [some (vr 8 (i3)), none, none, some (vi (x4)), some (vi (x5 + 1)), none]) ⟨rfl, ⟨rfl, ⟨rfl, trivial⟩⟩⟩ ?_
        exact ih _ _ kx h hk
set_option maxRecDepth 20000 in
set_option maxHeartbeats 4000000 in
theorem e_X8_steerTogether {G : ev_G} {Q : Option ev_V → ev_M → Prop} {R : Option (ev_m)} {mF : ev_m} (hR : ∀ m0 : ev_m, (some (m0)) = R → Q none (ev_emb m0)) (hN : none ≠ R) {i0 : Nat} {o1_ : Option Nat} {o2_ : Option Nat} {x3_ : Int32} (h : f_X8_steerTogether mF i0 o1_ o2_ x3_ = R) : ev_E G K_X8_steerTogether B_X8_steerTogether (0, 0) 0 [some (vr 8 (i0)), some (vo 4 (o1_)), some (vo 4 (o2_)), some (vi (x3_)), none, none] [] (ev_emb mF) Q := by
  unfold f_X8_steerTogether at h
  refine ev_aload_0 (pc := 0) dX8_steerTogether_0 ?_
  refine gt_X8_27 (pc := 1) rfl dX8_steerTogether_1 ?_
  refine ev_aload_1 (pc := 4) dX8_steerTogether_4 ?_
  obtain ⟨m1, hm1, h⟩ := ev_letE h
  refine cl0_X8_65 (pc := 5) (fr := 0) (lo := 0) (m' := m1) rfl dX8_steerTogether_5 (by decide) (Nat.le_of_ble_eq_true rfl) (by rw [hm1]; exact c_X2_relieve mF 0 o1_) ?_
  refine ev_aload_0 (pc := 8) dX8_steerTogether_8 ?_
  refine gt_X8_31 (pc := 9) rfl dX8_steerTogether_9 ?_
  refine ev_aload_2 (pc := 12) dX8_steerTogether_12 ?_
  obtain ⟨m2, hm2, h⟩ := ev_letE h
  refine cl0_X8_65 (pc := 13) (fr := 0) (lo := 0) (m' := m2) rfl dX8_steerTogether_13 (by decide) (Nat.le_of_ble_eq_true rfl) (by rw [hm2]; exact c_X2_relieve m1 1 o2_) ?_
  refine ev_iconst (pc := 16) (v := 0) dX8_steerTogether_16 rfl ?_
  refine ev_istore_4 (pc := 17) dX8_steerTogether_17 (by decide) rfl ?_
  refine ev_E.forget (L' := [some (vr 8 (i0)), none, none, some (vi (x3_)), some (vi (0)), none]) ⟨rfl, ⟨rfl, ⟨rfl, trivial⟩⟩⟩ ?_
  refine e_lp_X8_steerTogether_19 hR hN 4000 _ _ _ h (fun m13 h => ?_)
  exact ev_vret (pc := 68) dX8_steerTogether_68 rfl (hR _ h)
theorem c_X8_steerTogether {G : ev_G} {mF : ev_m} {i0 : Nat} {o1_ : Option Nat} {o2_ : Option Nat} {x3_ : Int32} {r : ev_m} (h : f_X8_steerTogether mF i0 o1_ o2_ x3_ = some r) : ev_CF G K_X8_steerTogether B_X8_steerTogether [vr 8 (i0), vo 4 (o1_), vo 4 (o2_), vi (x3_)] mF none r :=
  ev_Ct_of rfl rfl (Nat.le_of_ble_eq_true rfl) (e_X8_steerTogether (R := some r) (fun m0 q => by cases q; exact ⟨rfl, rfl⟩) (fun q => by cases q) h)
set_option maxRecDepth 20000 in
set_option maxHeartbeats 4000000 in
theorem e_X8_offAt {G : ev_G} {Q : Option ev_V → ev_M → Prop} {R : Int32} {mF : ev_m} (hR : ∀ x0 : Int32, x0 = R → Q (some (vi x0)) (ev_emb mF)) {i0 : Nat} {x1_ : Int32} (h : s_X8_offAt mF i0 x1_ = R) : ev_E G K_X8_offAt B_X8_offAt (0, 0) 0 [some (vr 8 (i0)), some (vi (x1_))] [] (ev_emb mF) Q := by
  unfold s_X8_offAt at h
  refine ev_aload_0 (pc := 0) dX8_offAt_0 ?_
  refine gt_X8_9 (pc := 1) rfl dX8_offAt_1 ?_
  refine ev_iload_1 (pc := 4) dX8_offAt_4 ?_
  refine cl1_X8_77 (pc := 5) rfl dX8_offAt_5 (by decide) (Nat.le_of_ble_eq_true rfl) (c_X9_at (r := 18) rfl (by decide)) ?_
  refine ev_mabs (pc := 8) mabs_X8_151 mabs_w (by decide) (Nat.le_of_ble_eq_true rfl) dX8_offAt_8 ?_
  exact ev_iret (pc := 11) dX8_offAt_11 rfl rfl (hR _ h)
theorem c_X8_offAt {G : ev_G} (mF : ev_m) (i0 : Nat) (x1_ : Int32) : ev_CF G K_X8_offAt B_X8_offAt [vr 8 (i0), vi (x1_)] mF (some (vi (s_X8_offAt mF i0 x1_))) mF :=
  ev_Ct_of rfl rfl (Nat.le_of_ble_eq_true rfl) (e_X8_offAt (R := s_X8_offAt mF i0 x1_) (fun x0 q => ⟨by rw [← q], rfl⟩) rfl)
set_option maxRecDepth 20000 in
set_option maxHeartbeats 4000000 in
theorem e_X8_turnedAt {G : ev_G} {Q : Option ev_V → ev_M → Prop} {R : Int32} {mF : ev_m} (hR : ∀ x0 : Int32, x0 = R → Q (some (vi x0)) (ev_emb mF)) {i0 : Nat} {x1_ : Int32} (h : s_X8_turnedAt mF i0 x1_ = R) : ev_E G K_X8_turnedAt B_X8_turnedAt (0, 0) 0 [some (vr 8 (i0)), some (vi (x1_))] [] (ev_emb mF) Q := by
  unfold s_X8_turnedAt at h
  refine ev_aload_0 (pc := 0) dX8_turnedAt_0 ?_
  refine gt_X8_18 (pc := 1) rfl dX8_turnedAt_1 ?_
  refine ev_iload_1 (pc := 4) dX8_turnedAt_4 ?_
  refine cl1_X8_77 (pc := 5) rfl dX8_turnedAt_5 (by decide) (Nat.le_of_ble_eq_true rfl) (c_X9_at (r := 20) rfl (by decide)) ?_
  refine ev_aload_0 (pc := 8) dX8_turnedAt_8 ?_
  refine gt_X8_18 (pc := 9) rfl dX8_turnedAt_9 ?_
  refine ev_iload_1 (pc := 12) dX8_turnedAt_12 ?_
  refine ev_iconst (pc := 13) (v := 1) dX8_turnedAt_13 rfl ?_
  refine ev_isub (pc := 14) dX8_turnedAt_14 ?_
  refine cl1_X8_77 (pc := 15) rfl dX8_turnedAt_15 (by decide) (Nat.le_of_ble_eq_true rfl) (c_X9_at (r := 20) rfl (by decide)) ?_
  refine ev_isub (pc := 18) dX8_turnedAt_18 ?_
  refine ev_mabs (pc := 19) mabs_X8_151 mabs_w (by decide) (Nat.le_of_ble_eq_true rfl) dX8_turnedAt_19 ?_
  exact ev_iret (pc := 22) dX8_turnedAt_22 rfl rfl (hR _ h)
theorem c_X8_turnedAt {G : ev_G} (mF : ev_m) (i0 : Nat) (x1_ : Int32) : ev_CF G K_X8_turnedAt B_X8_turnedAt [vr 8 (i0), vi (x1_)] mF (some (vi (s_X8_turnedAt mF i0 x1_))) mF :=
  ev_Ct_of rfl rfl (Nat.le_of_ble_eq_true rfl) (e_X8_turnedAt (R := s_X8_turnedAt mF i0 x1_) (fun x0 q => ⟨by rw [← q], rfl⟩) rfl)
