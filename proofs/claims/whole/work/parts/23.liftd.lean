/-! lifted methods -/
set_option maxRecDepth 20000 in
set_option maxHeartbeats 4000000 in
theorem e_X8_costAt {G : ev_G} {Q : Option ev_V → ev_M → Prop} {R : Option (Int64)} {mF : ev_m} (hR : ∀ x0 : Int64, (some (x0)) = R → Q (some (vl x0)) (ev_emb mF)) (hN : none ≠ R) {i0 : Nat} {x1_ : Int32} (h : f_X8_costAt mF i0 x1_ = R) : ev_E G K_X8_costAt B_X8_costAt (0, 0) 0 [some (vr 8 (i0)), some (vi (x1_))] [] (ev_emb mF) Q := by
  unfold f_X8_costAt at h
  refine ev_aload_0 (pc := 0) dX8_costAt_0 ?_
  refine gt_X8_42 (pc := 1) rfl dX8_costAt_1 ?_
  obtain ⟨o1, ho1, h⟩ := ev_letE h
  refine ev_topo (pc := 4) ho1 ?_
  rcases o1 with _ | j2
  · replace h := ev_onN h
    show ev_E G K_X8_costAt B_X8_costAt (0, 0) 4 [some (vr 8 (i0)), some (vi (x1_))] [vn] (ev_emb mF) Q
    refine ev_ifnonnull_n (pc := 4) dX8_costAt_4 ?_
    refine ev_lconst (pc := 7) (v := 0) dX8_costAt_7 rfl ?_
    refine ev_goto (pc := 8) (tgt := 31) dX8_costAt_8 (by decide) ?_
    exact ev_lret (pc := 31) dX8_costAt_31 rfl (hR _ h)
  · replace h := ev_onS h
    show ev_E G K_X8_costAt B_X8_costAt (0, 0) 4 [some (vr 8 (i0)), some (vi (x1_))] [vr 3 (j2)] (ev_emb mF) Q
    refine ev_ifnonnull_r (pc := 4) (tgt := 11) dX8_costAt_4 (by decide) ?_
    refine ev_aload_0 (pc := 11) dX8_costAt_11 ?_
    refine ev_iload_1 (pc := 12) dX8_costAt_12 ?_
    refine cl1_X8_154 (pc := 13) rfl dX8_costAt_13 (by decide) (Nat.le_of_ble_eq_true rfl) (c_X8_offAt mF i0 x1_) ?_
    refine ev_aload_0 (pc := 16) dX8_costAt_16 ?_
    refine gt_X8_42 (pc := 17) rfl dX8_costAt_17 ?_
    obtain ⟨o3, ho3, h⟩ := ev_letE h
    refine ev_topo (pc := 20) ho3 ?_
    rcases o3 with _ | j4
    · exact absurd (ev_onN h) hN
    replace h := ev_onS h
    show ev_E G K_X8_costAt B_X8_costAt (0, 0) 20 [some (vr 8 (i0)), some (vi (x1_))] [vr 3 (j4), vi (s_X8_offAt mF i0 x1_)] (ev_emb mF) Q
    refine gt_X8_157 (pc := 20) rfl dX8_costAt_20 ?_
    refine ev_aload_0 (pc := 23) dX8_costAt_23 ?_
    refine ev_iload_1 (pc := 24) dX8_costAt_24 ?_
    refine cl1_X8_160 (pc := 25) rfl dX8_costAt_25 (by decide) (Nat.le_of_ble_eq_true rfl) (c_X8_turnedAt mF i0 x1_) ?_
    refine ev_imul (pc := 28) dX8_costAt_28 ?_
    refine ev_iadd (pc := 29) dX8_costAt_29 ?_
    refine ev_i2l (pc := 30) dX8_costAt_30 ?_
    exact ev_lret (pc := 31) dX8_costAt_31 rfl (hR _ h)
theorem c_X8_costAt {G : ev_G} {mF : ev_m} {i0 : Nat} {x1_ : Int32} {r : Int64} (h : f_X8_costAt mF i0 x1_ = some r) : ev_CF G K_X8_costAt B_X8_costAt [vr 8 (i0), vi (x1_)] mF (some (vl (r))) mF :=
  ev_Ct_of rfl rfl (Nat.le_of_ble_eq_true rfl) (e_X8_costAt (R := some r) (fun x0 q => by cases q; exact ⟨rfl, rfl⟩) (fun q => by cases q) h)
set_option maxRecDepth 20000 in
set_option maxHeartbeats 4000000 in
theorem e_lp_X8_cost_4 {G : ev_G} {Q : Option ev_V → ev_M → Prop} {mF : ev_m} {R : Option (Int64)} (hR : ∀ x0 : Int64, (some (x0)) = R → Q (some (vl x0)) (ev_emb mF)) (hN : none ≠ R) {i1 : Nat} : ∀ (f : Nat) (y2 : Int64) (x3 : Int32) (kx : Int64 → Option (Int64)) (h : lp_X8_cost_4 mF i1 f y2 x3 kx = R) (hk : ∀ (y2' : Int64), kx y2' = R → ev_E G K_X8_cost B_X8_cost (0, 0) 26 [none, some (vl (y2')), none, none] [] (ev_emb mF) Q), ev_E G K_X8_cost B_X8_cost (0, 0) 4 [some (vr 8 (i1)), some (vl (y2)), none, some (vi (x3))] [] (ev_emb mF) Q := by
  intro f
  induction f with
  | zero => intro y2 x3 kx h hk; rw [lp_X8_cost_4] at h; exact absurd h hN
  | succ f ih =>
    intro y2 x3 kx h hk
    rw [lp_X8_cost_4] at h
    refine ev_iload_3 (pc := 4) dX8_cost_4 ?_
    refine ev_aload_0 (pc := 5) dX8_cost_5 ?_
    refine gt_X8_50 (pc := 6) rfl dX8_cost_6 ?_
    refine ev_icc_gt (pc := 9) (tgt := 26) dX8_cost_9 (by decide) (fun c4 => ?_) (fun c4 => ?_)
    · replace h := ev_ifp h c4
      refine ev_E.forget (L' := [none, some (vl (y2)), none, none]) ⟨rfl, trivial⟩ ?_
      exact hk _  h
    · replace h := ev_ifn h c4
      refine ev_lload_1 (pc := 12) dX8_cost_12 ?_
      refine ev_aload_0 (pc := 13) dX8_cost_13 ?_
      refine ev_iload_3 (pc := 14) dX8_cost_14 ?_
      obtain ⟨x5, hx5, h⟩ := ev_bindE hN h
      refine cl1_X8_163 (pc := 15) rfl dX8_cost_15 (by decide) (Nat.le_of_ble_eq_true rfl) (c_X8_costAt hx5) ?_
      refine ev_ladd (pc := 18) dX8_cost_18 ?_
      obtain ⟨y6, hy6, h⟩ := ev_letE h
      refine ev_topl (pc := 19) hy6 ?_
      refine ev_lstore_1 (pc := 19) dX8_cost_19 (by decide) rfl ?_
      refine ev_iinc_3 (pc := 20) (y := x3 + 1) dX8_cost_20 rfl (by decide) rfl ?_
      refine ev_goto (pc := 23) (tgt := 4) dX8_cost_23 (by decide) ?_
      exact ih _ _ kx h hk
set_option maxRecDepth 20000 in
set_option maxHeartbeats 4000000 in
theorem e_X8_cost {G : ev_G} {Q : Option ev_V → ev_M → Prop} {R : Option (Int64)} {mF : ev_m} (hR : ∀ x0 : Int64, (some (x0)) = R → Q (some (vl x0)) (ev_emb mF)) (hN : none ≠ R) {i0 : Nat} (h : f_X8_cost mF i0 = R) : ev_E G K_X8_cost B_X8_cost (0, 0) 0 [some (vr 8 (i0)), none, none, none] [] (ev_emb mF) Q := by
  unfold f_X8_cost at h
  refine ev_lconst (pc := 0) (v := 0) dX8_cost_0 rfl ?_
  refine ev_lstore_1 (pc := 1) dX8_cost_1 (by decide) rfl ?_
  refine ev_iconst (pc := 2) (v := 1) dX8_cost_2 rfl ?_
  refine ev_istore_3 (pc := 3) dX8_cost_3 (by decide) rfl ?_
  refine e_lp_X8_cost_4 hR hN 4000 _ _ _ h (fun y7 h => ?_)
  refine ev_lload_1 (pc := 26) dX8_cost_26 ?_
  exact ev_lret (pc := 27) dX8_cost_27 rfl (hR _ h)
theorem c_X8_cost {G : ev_G} {mF : ev_m} {i0 : Nat} {r : Int64} (h : f_X8_cost mF i0 = some r) : ev_CF G K_X8_cost B_X8_cost [vr 8 (i0)] mF (some (vl (r))) mF :=
  ev_Ct_of rfl rfl (Nat.le_of_ble_eq_true rfl) (e_X8_cost (R := some r) (fun x0 q => by cases q; exact ⟨rfl, rfl⟩) (fun q => by cases q) h)
set_option maxRecDepth 20000 in
set_option maxHeartbeats 4000000 in
theorem e_lp_X8_off_4 {G : ev_G} {Q : Option ev_V → ev_M → Prop} {mF : ev_m} {R : Option (Int64)} (hR : ∀ x0 : Int64, (some (x0)) = R → Q (some (vl x0)) (ev_emb mF)) (hN : none ≠ R) {i1 : Nat} : ∀ (f : Nat) (y2 : Int64) (x3 : Int32) (kx : Int64 → Option (Int64)) (h : lp_X8_off_4 mF i1 f y2 x3 kx = R) (hk : ∀ (y2' : Int64), kx y2' = R → ev_E G K_X8_off B_X8_off (0, 0) 27 [none, some (vl (y2')), none, none] [] (ev_emb mF) Q), ev_E G K_X8_off B_X8_off (0, 0) 4 [some (vr 8 (i1)), some (vl (y2)), none, some (vi (x3))] [] (ev_emb mF) Q := by
  intro f
  induction f with
  | zero => intro y2 x3 kx h hk; rw [lp_X8_off_4] at h; exact absurd h hN
  | succ f ih =>
    intro y2 x3 kx h hk
    rw [lp_X8_off_4] at h
    refine ev_iload_3 (pc := 4) dX8_off_4 ?_
    refine ev_aload_0 (pc := 5) dX8_off_5 ?_
    refine gt_X8_50 (pc := 6) rfl dX8_off_6 ?_
    refine ev_icc_gt (pc := 9) (tgt := 27) dX8_off_9 (by decide) (fun c4 => ?_) (fun c4 => ?_)
    · replace h := ev_ifp h c4
      refine ev_E.forget (L' := [none, some (vl (y2)), none, none]) ⟨rfl, trivial⟩ ?_
      exact hk _  h
    · replace h := ev_ifn h c4
      refine ev_lload_1 (pc := 12) dX8_off_12 ?_
      refine ev_aload_0 (pc := 13) dX8_off_13 ?_
      refine ev_iload_3 (pc := 14) dX8_off_14 ?_
      refine cl1_X8_154 (pc := 15) rfl dX8_off_15 (by decide) (Nat.le_of_ble_eq_true rfl) (c_X8_offAt mF i1 x3) ?_
      refine ev_i2l (pc := 18) dX8_off_18 ?_
      refine ev_ladd (pc := 19) dX8_off_19 ?_
      obtain ⟨y5, hy5, h⟩ := ev_letE h
      refine ev_topl (pc := 20) hy5 ?_
      refine ev_lstore_1 (pc := 20) dX8_off_20 (by decide) rfl ?_
      refine ev_iinc_3 (pc := 21) (y := x3 + 1) dX8_off_21 rfl (by decide) rfl ?_
      refine ev_goto (pc := 24) (tgt := 4) dX8_off_24 (by decide) ?_
      exact ih _ _ kx h hk
set_option maxRecDepth 20000 in
set_option maxHeartbeats 4000000 in
theorem e_X8_off {G : ev_G} {Q : Option ev_V → ev_M → Prop} {R : Option (Int64)} {mF : ev_m} (hR : ∀ x0 : Int64, (some (x0)) = R → Q (some (vl x0)) (ev_emb mF)) (hN : none ≠ R) {i0 : Nat} (h : f_X8_off mF i0 = R) : ev_E G K_X8_off B_X8_off (0, 0) 0 [some (vr 8 (i0)), none, none, none] [] (ev_emb mF) Q := by
  unfold f_X8_off at h
  refine ev_lconst (pc := 0) (v := 0) dX8_off_0 rfl ?_
  refine ev_lstore_1 (pc := 1) dX8_off_1 (by decide) rfl ?_
  refine ev_iconst (pc := 2) (v := 1) dX8_off_2 rfl ?_
  refine ev_istore_3 (pc := 3) dX8_off_3 (by decide) rfl ?_
  refine e_lp_X8_off_4 hR hN 4000 _ _ _ h (fun y6 h => ?_)
  refine ev_lload_1 (pc := 27) dX8_off_27 ?_
  exact ev_lret (pc := 28) dX8_off_28 rfl (hR _ h)
theorem c_X8_off {G : ev_G} {mF : ev_m} {i0 : Nat} {r : Int64} (h : f_X8_off mF i0 = some r) : ev_CF G K_X8_off B_X8_off [vr 8 (i0)] mF (some (vl (r))) mF :=
  ev_Ct_of rfl rfl (Nat.le_of_ble_eq_true rfl) (e_X8_off (R := some r) (fun x0 q => by cases q; exact ⟨rfl, rfl⟩) (fun q => by cases q) h)
set_option maxRecDepth 20000 in
set_option maxHeartbeats 4000000 in
theorem e_lp_X8_wear_4 {G : ev_G} {Q : Option ev_V → ev_M → Prop} {mF : ev_m} {R : Option (Int64)} (hR : ∀ x0 : Int64, (some (x0)) = R → Q (some (vl x0)) (ev_emb mF)) (hN : none ≠ R) {i1 : Nat} : ∀ (f : Nat) (y2 : Int64) (x3 : Int32) (kx : Int64 → Option (Int64)) (h : lp_X8_wear_4 mF i1 f y2 x3 kx = R) (hk : ∀ (y2' : Int64), kx y2' = R → ev_E G K_X8_wear B_X8_wear (0, 0) 27 [none, some (vl (y2')), none, none] [] (ev_emb mF) Q), ev_E G K_X8_wear B_X8_wear (0, 0) 4 [some (vr 8 (i1)), some (vl (y2)), none, some (vi (x3))] [] (ev_emb mF) Q := by
  intro f
  induction f with
  | zero => intro y2 x3 kx h hk; rw [lp_X8_wear_4] at h; exact absurd h hN
  | succ f ih =>
    intro y2 x3 kx h hk
    rw [lp_X8_wear_4] at h
    refine ev_iload_3 (pc := 4) dX8_wear_4 ?_
    refine ev_aload_0 (pc := 5) dX8_wear_5 ?_
    refine gt_X8_50 (pc := 6) rfl dX8_wear_6 ?_
    refine ev_icc_gt (pc := 9) (tgt := 27) dX8_wear_9 (by decide) (fun c4 => ?_) (fun c4 => ?_)
    · replace h := ev_ifp h c4
      refine ev_E.forget (L' := [none, some (vl (y2)), none, none]) ⟨rfl, trivial⟩ ?_
      exact hk _  h
    · replace h := ev_ifn h c4
      refine ev_lload_1 (pc := 12) dX8_wear_12 ?_
      refine ev_aload_0 (pc := 13) dX8_wear_13 ?_
      refine ev_iload_3 (pc := 14) dX8_wear_14 ?_
      refine cl1_X8_160 (pc := 15) rfl dX8_wear_15 (by decide) (Nat.le_of_ble_eq_true rfl) (c_X8_turnedAt mF i1 x3) ?_
      refine ev_i2l (pc := 18) dX8_wear_18 ?_
      refine ev_ladd (pc := 19) dX8_wear_19 ?_
      obtain ⟨y5, hy5, h⟩ := ev_letE h
      refine ev_topl (pc := 20) hy5 ?_
      refine ev_lstore_1 (pc := 20) dX8_wear_20 (by decide) rfl ?_
      refine ev_iinc_3 (pc := 21) (y := x3 + 1) dX8_wear_21 rfl (by decide) rfl ?_
      refine ev_goto (pc := 24) (tgt := 4) dX8_wear_24 (by decide) ?_
      exact ih _ _ kx h hk
set_option maxRecDepth 20000 in
set_option maxHeartbeats 4000000 in
theorem e_X8_wear {G : ev_G} {Q : Option ev_V → ev_M → Prop} {R : Option (Int64)} {mF : ev_m} (hR : ∀ x0 : Int64, (some (x0)) = R → Q (some (vl x0)) (ev_emb mF)) (hN : none ≠ R) {i0 : Nat} (h : f_X8_wear mF i0 = R) : ev_E G K_X8_wear B_X8_wear (0, 0) 0 [some (vr 8 (i0)), none, none, none] [] (ev_emb mF) Q := by
  unfold f_X8_wear at h
  refine ev_lconst (pc := 0) (v := 0) dX8_wear_0 rfl ?_
  refine ev_lstore_1 (pc := 1) dX8_wear_1 (by decide) rfl ?_
  refine ev_iconst (pc := 2) (v := 1) dX8_wear_2 rfl ?_
  refine ev_istore_3 (pc := 3) dX8_wear_3 (by decide) rfl ?_
  refine e_lp_X8_wear_4 hR hN 4000 _ _ _ h (fun y6 h => ?_)
  refine ev_lload_1 (pc := 27) dX8_wear_27 ?_
  exact ev_lret (pc := 28) dX8_wear_28 rfl (hR _ h)
theorem c_X8_wear {G : ev_G} {mF : ev_m} {i0 : Nat} {r : Int64} (h : f_X8_wear mF i0 = some r) : ev_CF G K_X8_wear B_X8_wear [vr 8 (i0)] mF (some (vl (r))) mF :=
  ev_Ct_of rfl rfl (Nat.le_of_ble_eq_true rfl) (e_X8_wear (R := some r) (fun x0 q => by cases q; exact ⟨rfl, rfl⟩) (fun q => by cases q) h)
set_option maxRecDepth 20000 in
set_option maxHeartbeats 4000000 in
theorem e_lp_X8_lost_4 {G : ev_G} {Q : Option ev_V → ev_M → Prop} {mF : ev_m} {R : Option (Int64)} (hR : ∀ x0 : Int64, (some (x0)) = R → Q (some (vl x0)) (ev_emb mF)) (hN : none ≠ R) {i1 : Nat} : ∀ (f : Nat) (y2 : Int64) (x3 : Int32) (kx : Int64 → Option (Int64)) (h : lp_X8_lost_4 mF i1 f y2 x3 kx = R) (hk : ∀ (y2' : Int64), kx y2' = R → ev_E G K_X8_lost B_X8_lost (0, 0) 37 [none, some (vl (y2')), none, none] [] (ev_emb mF) Q), ev_E G K_X8_lost B_X8_lost (0, 0) 4 [some (vr 8 (i1)), some (vl (y2)), none, some (vi (x3))] [] (ev_emb mF) Q := by
  intro f
  induction f with
  | zero => intro y2 x3 kx h hk; rw [lp_X8_lost_4] at h; exact absurd h hN
  | succ f ih =>
    intro y2 x3 kx h hk
    rw [lp_X8_lost_4] at h
    refine ev_iload_3 (pc := 4) dX8_lost_4 ?_
    refine ev_aload_0 (pc := 5) dX8_lost_5 ?_
    refine gt_X8_50 (pc := 6) rfl dX8_lost_6 ?_
    refine ev_icc_gt (pc := 9) (tgt := 37) dX8_lost_9 (by decide) (fun c4 => ?_) (fun c4 => ?_)
    · replace h := ev_ifp h c4
      refine ev_E.forget (L' := [none, some (vl (y2)), none, none]) ⟨rfl, trivial⟩ ?_
      exact hk _  h
    · replace h := ev_ifn h c4
      refine ev_lload_1 (pc := 12) dX8_lost_12 ?_
      refine ev_aload_0 (pc := 13) dX8_lost_13 ?_
      refine ev_iload_3 (pc := 14) dX8_lost_14 ?_
      refine cl1_X8_154 (pc := 15) rfl dX8_lost_15 (by decide) (Nat.le_of_ble_eq_true rfl) (c_X8_offAt mF i1 x3) ?_
      refine ev_aload_0 (pc := 18) dX8_lost_18 ?_
      refine ev_iload_3 (pc := 19) dX8_lost_19 ?_
      refine cl1_X8_154 (pc := 20) rfl dX8_lost_20 (by decide) (Nat.le_of_ble_eq_true rfl) (c_X8_offAt mF i1 x3) ?_
      refine ev_imul (pc := 23) dX8_lost_23 ?_
      refine ev_sipush (pc := 24) (v := 1000) dX8_lost_24 (by decide) ?_
      refine ev_idiv (pc := 27) dX8_lost_27 (by decide) ?_
      refine ev_i2l (pc := 28) dX8_lost_28 ?_
      refine ev_ladd (pc := 29) dX8_lost_29 ?_
      obtain ⟨y5, hy5, h⟩ := ev_letE h
      refine ev_topl (pc := 30) hy5 ?_
      refine ev_lstore_1 (pc := 30) dX8_lost_30 (by decide) rfl ?_
      refine ev_iinc_3 (pc := 31) (y := x3 + 1) dX8_lost_31 rfl (by decide) rfl ?_
      refine ev_goto (pc := 34) (tgt := 4) dX8_lost_34 (by decide) ?_
      exact ih _ _ kx h hk
set_option maxRecDepth 20000 in
set_option maxHeartbeats 4000000 in
theorem e_X8_lost {G : ev_G} {Q : Option ev_V → ev_M → Prop} {R : Option (Int64)} {mF : ev_m} (hR : ∀ x0 : Int64, (some (x0)) = R → Q (some (vl x0)) (ev_emb mF)) (hN : none ≠ R) {i0 : Nat} (h : f_X8_lost mF i0 = R) : ev_E G K_X8_lost B_X8_lost (0, 0) 0 [some (vr 8 (i0)), none, none, none] [] (ev_emb mF) Q := by
  unfold f_X8_lost at h
  refine ev_lconst (pc := 0) (v := 0) dX8_lost_0 rfl ?_
  refine ev_lstore_1 (pc := 1) dX8_lost_1 (by decide) rfl ?_
  refine ev_iconst (pc := 2) (v := 1) dX8_lost_2 rfl ?_
  refine ev_istore_3 (pc := 3) dX8_lost_3 (by decide) rfl ?_
  refine e_lp_X8_lost_4 hR hN 4000 _ _ _ h (fun y6 h => ?_)
  refine ev_lload_1 (pc := 37) dX8_lost_37 ?_
  exact ev_lret (pc := 38) dX8_lost_38 rfl (hR _ h)
theorem c_X8_lost {G : ev_G} {mF : ev_m} {i0 : Nat} {r : Int64} (h : f_X8_lost mF i0 = some r) : ev_CF G K_X8_lost B_X8_lost [vr 8 (i0)] mF (some (vl (r))) mF :=
  ev_Ct_of rfl rfl (Nat.le_of_ble_eq_true rfl) (e_X8_lost (R := some r) (fun x0 q => by cases q; exact ⟨rfl, rfl⟩) (fun q => by cases q) h)
set_option maxRecDepth 20000 in
set_option maxHeartbeats 4000000 in
theorem e_lp_X8_widest_4 {G : ev_G} {Q : Option ev_V → ev_M → Prop} {mF : ev_m} {R : Option (Int64)} (hR : ∀ x0 : Int64, (some (x0)) = R → Q (some (vl x0)) (ev_emb mF)) (hN : none ≠ R) {i1 : Nat} : ∀ (f : Nat) (x2 : Int32) (x3 : Int32) (kx : Int32 → Option (Int64)) (h : lp_X8_widest_4 mF i1 f x2 x3 kx = R) (hk : ∀ (x2' : Int32), kx x2' = R → ev_E G K_X8_widest B_X8_widest (0, 0) 28 [none, some (vi (x2')), none] [] (ev_emb mF) Q), ev_E G K_X8_widest B_X8_widest (0, 0) 4 [some (vr 8 (i1)), some (vi (x2)), some (vi (x3))] [] (ev_emb mF) Q := by
  intro f
  induction f with
  | zero => intro x2 x3 kx h hk; rw [lp_X8_widest_4] at h; exact absurd h hN
  | succ f ih =>
    intro x2 x3 kx h hk
    rw [lp_X8_widest_4] at h
    refine ev_iload_2 (pc := 4) dX8_widest_4 ?_
    refine ev_aload_0 (pc := 5) dX8_widest_5 ?_
    refine gt_X8_50 (pc := 6) rfl dX8_widest_6 ?_
    refine ev_icc_gt (pc := 9) (tgt := 28) dX8_widest_9 (by decide) (fun c4 => ?_) (fun c4 => ?_)
    · replace h := ev_ifp h c4
      refine ev_E.forget (L' := [none, some (vi (x2)), none]) ⟨rfl, trivial⟩ ?_
      exact hk _  h
    · replace h := ev_ifn h c4
      refine ev_iload_1 (pc := 12) dX8_widest_12 ?_
      refine ev_aload_0 (pc := 13) dX8_widest_13 ?_
      refine ev_iload_2 (pc := 14) dX8_widest_14 ?_
      refine cl1_X8_154 (pc := 15) rfl dX8_widest_15 (by decide) (Nat.le_of_ble_eq_true rfl) (c_X8_offAt mF i1 x3) ?_
      refine ev_mmax (pc := 18) mmax_X8_111 mmax_w (by decide) (Nat.le_of_ble_eq_true rfl) dX8_widest_18 ?_
      obtain ⟨x5, hx5, h⟩ := ev_letE h
      refine ev_topi (pc := 21) hx5 ?_
      refine ev_istore_1 (pc := 21) dX8_widest_21 (by decide) rfl ?_
      refine ev_iinc_2 (pc := 22) (y := x3 + 1) dX8_widest_22 rfl (by decide) rfl ?_
      refine ev_goto (pc := 25) (tgt := 4) dX8_widest_25 (by decide) ?_
      exact ih _ _ kx h hk
set_option maxRecDepth 20000 in
set_option maxHeartbeats 4000000 in
theorem e_X8_widest {G : ev_G} {Q : Option ev_V → ev_M → Prop} {R : Option (Int64)} {mF : ev_m} (hR : ∀ x0 : Int64, (some (x0)) = R → Q (some (vl x0)) (ev_emb mF)) (hN : none ≠ R) {i0 : Nat} (h : f_X8_widest mF i0 = R) : ev_E G K_X8_widest B_X8_widest (0, 0) 0 [some (vr 8 (i0)), none, none] [] (ev_emb mF) Q := by
  unfold f_X8_widest at h
  refine ev_iconst (pc := 0) (v := 0) dX8_widest_0 rfl ?_
  refine ev_istore_1 (pc := 1) dX8_widest_1 (by decide) rfl ?_
  refine ev_iconst (pc := 2) (v := 1) dX8_widest_2 rfl ?_
  refine ev_istore_2 (pc := 3) dX8_widest_3 (by decide) rfl ?_
  refine e_lp_X8_widest_4 hR hN 4000 _ _ _ h (fun x6 h => ?_)
  refine ev_iload_1 (pc := 28) dX8_widest_28 ?_
  refine ev_i2l (pc := 29) dX8_widest_29 ?_
  exact ev_lret (pc := 30) dX8_widest_30 rfl (hR _ h)
theorem c_X8_widest {G : ev_G} {mF : ev_m} {i0 : Nat} {r : Int64} (h : f_X8_widest mF i0 = some r) : ev_CF G K_X8_widest B_X8_widest [vr 8 (i0)] mF (some (vl (r))) mF :=
  ev_Ct_of rfl rfl (Nat.le_of_ble_eq_true rfl) (e_X8_widest (R := some r) (fun x0 q => by cases q; exact ⟨rfl, rfl⟩) (fun q => by cases q) h)
set_option maxRecDepth 20000 in
set_option maxHeartbeats 4000000 in
theorem e_lp_X8_drift_4 {G : ev_G} {Q : Option ev_V → ev_M → Prop} {mF : ev_m} {R : Option (Int64)} (hR : ∀ x0 : Int64, (some (x0)) = R → Q (some (vl x0)) (ev_emb mF)) (hN : none ≠ R) {i1 : Nat} : ∀ (f : Nat) (y2 : Int64) (x3 : Int32) (kx : Int64 → Option (Int64)) (h : lp_X8_drift_4 mF i1 f y2 x3 kx = R) (hk : ∀ (y2' : Int64), kx y2' = R → ev_E G K_X8_drift B_X8_drift (0, 0) 30 [none, some (vl (y2')), none, none] [] (ev_emb mF) Q), ev_E G K_X8_drift B_X8_drift (0, 0) 4 [some (vr 8 (i1)), some (vl (y2)), none, some (vi (x3))] [] (ev_emb mF) Q := by
  intro f
  induction f with
  | zero => intro y2 x3 kx h hk; rw [lp_X8_drift_4] at h; exact absurd h hN
  | succ f ih =>
    intro y2 x3 kx h hk
    rw [lp_X8_drift_4] at h
    refine ev_iload_3 (pc := 4) dX8_drift_4 ?_
    refine ev_aload_0 (pc := 5) dX8_drift_5 ?_
    refine gt_X8_50 (pc := 6) rfl dX8_drift_6 ?_
    refine ev_icc_gt (pc := 9) (tgt := 30) dX8_drift_9 (by decide) (fun c4 => ?_) (fun c4 => ?_)
    · replace h := ev_ifp h c4
      refine ev_E.forget (L' := [none, some (vl (y2)), none, none]) ⟨rfl, trivial⟩ ?_
      exact hk _  h
    · replace h := ev_ifn h c4
      refine ev_lload_1 (pc := 12) dX8_drift_12 ?_
      refine ev_aload_0 (pc := 13) dX8_drift_13 ?_
      refine gt_X8_9 (pc := 14) rfl dX8_drift_14 ?_
      refine ev_iload_3 (pc := 17) dX8_drift_17 ?_
      refine cl1_X8_77 (pc := 18) rfl dX8_drift_18 (by decide) (Nat.le_of_ble_eq_true rfl) (c_X9_at (r := 18) rfl (by decide)) ?_
      refine ev_i2l (pc := 21) dX8_drift_21 ?_
      refine ev_ladd (pc := 22) dX8_drift_22 ?_
      obtain ⟨y5, hy5, h⟩ := ev_letE h
      refine ev_topl (pc := 23) hy5 ?_
      refine ev_lstore_1 (pc := 23) dX8_drift_23 (by decide) rfl ?_
      refine ev_iinc_3 (pc := 24) (y := x3 + 1) dX8_drift_24 rfl (by decide) rfl ?_
      refine ev_goto (pc := 27) (tgt := 4) dX8_drift_27 (by decide) ?_
      exact ih _ _ kx h hk
set_option maxRecDepth 20000 in
set_option maxHeartbeats 4000000 in
theorem e_X8_drift {G : ev_G} {Q : Option ev_V → ev_M → Prop} {R : Option (Int64)} {mF : ev_m} (hR : ∀ x0 : Int64, (some (x0)) = R → Q (some (vl x0)) (ev_emb mF)) (hN : none ≠ R) {i0 : Nat} (h : f_X8_drift mF i0 = R) : ev_E G K_X8_drift B_X8_drift (0, 0) 0 [some (vr 8 (i0)), none, none, none] [] (ev_emb mF) Q := by
  unfold f_X8_drift at h
  refine ev_lconst (pc := 0) (v := 0) dX8_drift_0 rfl ?_
  refine ev_lstore_1 (pc := 1) dX8_drift_1 (by decide) rfl ?_
  refine ev_iconst (pc := 2) (v := 1) dX8_drift_2 rfl ?_
  refine ev_istore_3 (pc := 3) dX8_drift_3 (by decide) rfl ?_
  refine e_lp_X8_drift_4 hR hN 4000 _ _ _ h (fun y6 h => ?_)
  refine ev_lload_1 (pc := 30) dX8_drift_30 ?_
  exact ev_lret (pc := 31) dX8_drift_31 rfl (hR _ h)
theorem c_X8_drift {G : ev_G} {mF : ev_m} {i0 : Nat} {r : Int64} (h : f_X8_drift mF i0 = some r) : ev_CF G K_X8_drift B_X8_drift [vr 8 (i0)] mF (some (vl (r))) mF :=
  ev_Ct_of rfl rfl (Nat.le_of_ble_eq_true rfl) (e_X8_drift (R := some r) (fun x0 q => by cases q; exact ⟨rfl, rfl⟩) (fun q => by cases q) h)
set_option maxRecDepth 20000 in
set_option maxHeartbeats 4000000 in
theorem e_J6_compare_7cf53 {G : ev_G} {Q : Option ev_V → ev_M → Prop} {R : Int32} {mF : ev_m} (hR : ∀ x0 : Int32, x0 = R → Q (some (vi x0)) (ev_emb mF)) {x0_ : Int32} {x1_ : Int32} (h : s_J6_compare_7cf53 mF x0_ x1_ = R) : ev_E G K_J6_compare_7cf53 B_J6_compare_7cf53 (0, 0) 0 [some (vi (x0_)), some (vi (x1_))] [] (ev_emb mF) Q := by
  unfold s_J6_compare_7cf53 at h
  refine ev_iload_0 (pc := 0) dJ6_compare_7cf53_0 ?_
  refine ev_iload_1 (pc := 1) dJ6_compare_7cf53_1 ?_
  refine ev_icc_ge (pc := 2) (tgt := 9) dJ6_compare_7cf53_2 (by decide) (fun c1 => ?_) (fun c1 => ?_)
  · replace h := ev_ifn h c1
    refine ev_iload_0 (pc := 9) dJ6_compare_7cf53_9 ?_
    refine ev_iload_1 (pc := 10) dJ6_compare_7cf53_10 ?_
    refine ev_icc_ne (pc := 11) (tgt := 18) dJ6_compare_7cf53_11 (by decide) (fun c2 => ?_) (fun c2 => ?_)
    · replace h := ev_ifn h c2
      refine ev_iconst (pc := 18) (v := 1) dJ6_compare_7cf53_18 rfl ?_
      exact ev_iret (pc := 19) dJ6_compare_7cf53_19 rfl rfl (hR _ h)
    · replace h := ev_ifp h c2
      refine ev_iconst (pc := 14) (v := 0) dJ6_compare_7cf53_14 rfl ?_
      refine ev_goto (pc := 15) (tgt := 19) dJ6_compare_7cf53_15 (by decide) ?_
      exact ev_iret (pc := 19) dJ6_compare_7cf53_19 rfl rfl (hR _ h)
  · replace h := ev_ifp h c1
    refine ev_iconst (pc := 5) (v := (-1)) dJ6_compare_7cf53_5 rfl ?_
    refine ev_goto (pc := 6) (tgt := 19) dJ6_compare_7cf53_6 (by decide) ?_
    exact ev_iret (pc := 19) dJ6_compare_7cf53_19 rfl rfl (hR _ h)
theorem c_J6_compare_7cf53 {G : ev_G} (mF : ev_m) (x0_ : Int32) (x1_ : Int32) : ev_CF G K_J6_compare_7cf53 B_J6_compare_7cf53 [vi (x0_), vi (x1_)] mF (some (vi (s_J6_compare_7cf53 mF x0_ x1_))) mF :=
  ev_Ct_of rfl rfl (Nat.le_of_ble_eq_true rfl) (e_J6_compare_7cf53 (R := s_J6_compare_7cf53 mF x0_ x1_) (fun x0 q => ⟨by rw [← q], rfl⟩) rfl)
set_option maxRecDepth 20000 in
set_option maxHeartbeats 4000000 in
theorem e_X8_signAt {G : ev_G} {Q : Option ev_V → ev_M → Prop} {R : Int32} {mF : ev_m} (hR : ∀ x0 : Int32, x0 = R → Q (some (vi x0)) (ev_emb mF)) {i0 : Nat} {x1_ : Int32} (h : s_X8_signAt mF i0 x1_ = R) : ev_E G K_X8_signAt B_X8_signAt (0, 0) 0 [some (vr 8 (i0)), some (vi (x1_))] [] (ev_emb mF) Q := by
  unfold s_X8_signAt at h
  refine ev_aload_0 (pc := 0) dX8_signAt_0 ?_
  refine gt_X8_9 (pc := 1) rfl dX8_signAt_1 ?_
  refine ev_iload_1 (pc := 4) dX8_signAt_4 ?_
  refine cl1_X8_77 (pc := 5) rfl dX8_signAt_5 (by decide) (Nat.le_of_ble_eq_true rfl) (c_X9_at (r := 18) rfl (by decide)) ?_
  refine ev_iconst (pc := 8) (v := 0) dX8_signAt_8 rfl ?_
  refine cl1_X8_167 (pc := 9) rfl dX8_signAt_9 (by decide) (Nat.le_of_ble_eq_true rfl) (c_J6_compare_7cf53 mF (ev_at (mF.1 18 0) 401 x1_) 0) ?_
  exact ev_iret (pc := 12) dX8_signAt_12 rfl rfl (hR _ h)
theorem c_X8_signAt {G : ev_G} (mF : ev_m) (i0 : Nat) (x1_ : Int32) : ev_CF G K_X8_signAt B_X8_signAt [vr 8 (i0), vi (x1_)] mF (some (vi (s_X8_signAt mF i0 x1_))) mF :=
  ev_Ct_of rfl rfl (Nat.le_of_ble_eq_true rfl) (e_X8_signAt (R := s_X8_signAt mF i0 x1_) (fun x0 q => ⟨by rw [← q], rfl⟩) rfl)
set_option maxRecDepth 20000 in
set_option maxHeartbeats 4000000 in
theorem e_lp_X8_crossings_10 {G : ev_G} {Q : Option ev_V → ev_M → Prop} {mF : ev_m} {R : Option (Int64)} (hR : ∀ x0 : Int64, (some (x0)) = R → Q (some (vl x0)) (ev_emb mF)) (hN : none ≠ R) {i2 : Nat} : ∀ (f : Nat) (x3 : Int32) (x4 : Int32) (x5 : Int32) (kx : Int32 → Option (Int64)) (h : lp_X8_crossings_10 mF i2 f x3 x4 x5 kx = R) (hk : ∀ (x4' : Int32), kx x4' = R → ev_E G K_X8_crossings B_X8_crossings (0, 0) 55 [none, none, some (vi (x4')), none] [] (ev_emb mF) Q), ev_E G K_X8_crossings B_X8_crossings (0, 0) 10 [some (vr 8 (i2)), some (vi (x3)), some (vi (x4)), some (vi (x5))] [] (ev_emb mF) Q := by
  intro f
  induction f with
  | zero => intro x3 x4 x5 kx h hk; rw [lp_X8_crossings_10] at h; exact absurd h hN
  | succ f ih =>
    intro x3 x4 x5 kx h hk
    rw [lp_X8_crossings_10] at h
    refine ev_iload_3 (pc := 10) dX8_crossings_10 ?_
    refine ev_aload_0 (pc := 11) dX8_crossings_11 ?_
    refine gt_X8_50 (pc := 12) rfl dX8_crossings_12 ?_
    refine ev_icc_gt (pc := 15) (tgt := 55) dX8_crossings_15 (by decide) (fun c6 => ?_) (fun c6 => ?_)
    · replace h := ev_ifp h c6
      refine ev_E.forget (L' := [none, none, some (vi (x4)), none]) ⟨rfl, trivial⟩ ?_
      exact hk _  h
    · replace h := ev_ifn h c6
      refine ev_aload_0 (pc := 18) dX8_crossings_18 ?_
      refine ev_iload_3 (pc := 19) dX8_crossings_19 ?_
      refine cl1_X8_172 (pc := 20) rfl dX8_crossings_20 (by decide) (Nat.le_of_ble_eq_true rfl) (c_X8_signAt mF i2 x5) ?_
      refine ev_iload_1 (pc := 23) dX8_crossings_23 ?_
      refine ev_imul (pc := 24) dX8_crossings_24 ?_
      obtain ⟨x8, hx8, h⟩ := ev_letE h
      have hJ2 : ev_E G K_X8_crossings B_X8_crossings (0, 0) 31 [some (vr 8 (i2)), some (vi (x3)), some (vi (x8)), some (vi (x5))] [] (ev_emb mF) Q := by
        refine ev_aload_0 (pc := 31) dX8_crossings_31 ?_
        refine ev_iload_3 (pc := 32) dX8_crossings_32 ?_
        refine cl1_X8_172 (pc := 33) rfl dX8_crossings_33 (by decide) (Nat.le_of_ble_eq_true rfl) (c_X8_signAt mF i2 x5) ?_
        obtain ⟨x10, hx10, h⟩ := ev_letE h
        have hJ1 : ev_E G K_X8_crossings B_X8_crossings (0, 0) 48 [some (vr 8 (i2)), some (vi (x3)), some (vi (x8)), some (vi (x5))] [vi (x10)] (ev_emb mF) Q := by
          refine ev_istore_1 (pc := 48) dX8_crossings_48 (by decide) rfl ?_
          refine ev_iinc_3 (pc := 49) (y := x5 + 1) dX8_crossings_49 rfl (by decide) rfl ?_
          refine ev_goto (pc := 52) (tgt := 10) dX8_crossings_52 (by decide) ?_
          exact ih _ _ _ kx h hk
        refine ev_ifc_ne (pc := 36) (tgt := 43) dX8_crossings_36 (by decide) (fun c9 => ?_) (fun c9 => ?_)
        · refine ev_aload_0 (pc := 43) dX8_crossings_43 ?_
          refine ev_iload_3 (pc := 44) dX8_crossings_44 ?_
          refine cl1_X8_172 (pc := 45) rfl dX8_crossings_45 (by decide) (Nat.le_of_ble_eq_true rfl) (c_X8_signAt mF i2 x5) ?_
          replace hx10 := (hx10.trans (if_neg c9))
          subst hx10
          exact hJ1
        · refine ev_iload_1 (pc := 39) dX8_crossings_39 ?_
          refine ev_goto (pc := 40) (tgt := 48) dX8_crossings_40 (by decide) ?_
          replace hx10 := (hx10.trans (if_pos c9))
          subst hx10
          exact hJ1
      refine ev_ifc_ge (pc := 25) (tgt := 31) dX8_crossings_25 (by decide) (fun c7 => ?_) (fun c7 => ?_)
      · replace hx8 := (hx8.trans (if_neg c7))
        subst hx8
        exact hJ2
      · refine ev_iinc_2 (pc := 28) (y := x4 + 1) dX8_crossings_28 rfl (by decide) rfl ?_
        replace hx8 := (hx8.trans (if_pos c7))
        subst hx8
        exact hJ2
set_option maxRecDepth 20000 in
set_option maxHeartbeats 4000000 in
theorem e_X8_crossings {G : ev_G} {Q : Option ev_V → ev_M → Prop} {R : Option (Int64)} {mF : ev_m} (hR : ∀ x0 : Int64, (some (x0)) = R → Q (some (vl x0)) (ev_emb mF)) (hN : none ≠ R) {i0 : Nat} (h : f_X8_crossings mF i0 = R) : ev_E G K_X8_crossings B_X8_crossings (0, 0) 0 [some (vr 8 (i0)), none, none, none] [] (ev_emb mF) Q := by
  unfold f_X8_crossings at h
  refine ev_aload_0 (pc := 0) dX8_crossings_0 ?_
  refine ev_iconst (pc := 1) (v := 0) dX8_crossings_1 rfl ?_
  refine cl1_X8_172 (pc := 2) rfl dX8_crossings_2 (by decide) (Nat.le_of_ble_eq_true rfl) (c_X8_signAt mF i0 0) ?_
  obtain ⟨x1, hx1, h⟩ := ev_letE h
  refine ev_topi (pc := 5) hx1 ?_
  refine ev_istore_1 (pc := 5) dX8_crossings_5 (by decide) rfl ?_
  refine ev_iconst (pc := 6) (v := 0) dX8_crossings_6 rfl ?_
  refine ev_istore_2 (pc := 7) dX8_crossings_7 (by decide) rfl ?_
  refine ev_iconst (pc := 8) (v := 1) dX8_crossings_8 rfl ?_
  refine ev_istore_3 (pc := 9) dX8_crossings_9 (by decide) rfl ?_
  refine e_lp_X8_crossings_10 hR hN 4000 _ _ _ _ h (fun x11 h => ?_)
  refine ev_iload_2 (pc := 55) dX8_crossings_55 ?_
  refine ev_i2l (pc := 56) dX8_crossings_56 ?_
  exact ev_lret (pc := 57) dX8_crossings_57 rfl (hR _ h)
theorem c_X8_crossings {G : ev_G} {mF : ev_m} {i0 : Nat} {r : Int64} (h : f_X8_crossings mF i0 = some r) : ev_CF G K_X8_crossings B_X8_crossings [vr 8 (i0)] mF (some (vl (r))) mF :=
  ev_Ct_of rfl rfl (Nat.le_of_ble_eq_true rfl) (e_X8_crossings (R := some r) (fun x0 q => by cases q; exact ⟨rfl, rfl⟩) (fun q => by cases q) h)
set_option maxRecDepth 20000 in
set_option maxHeartbeats 4000000 in
theorem e_jn_X8_peakAt_48_14 {G : ev_G} {Q : Option ev_V → ev_M → Prop} {mF : ev_m} {R : Option (Int32)} (hR : ∀ x0 : Int32, (some (x0)) = R → Q (some (vi x0)) (ev_emb mF)) (hN : none ≠ R) {i2 : Nat} {x3 : Int32} {x10 : Int32} {x11 : Int32} {x12 : Int32} {x13 : Int32} {kb : Int32 → Int32 → Int32 → Int32 → Option (Int32)} {kx : Int32 → Int32 → Option (Int32)}  (h : jn_X8_peakAt_48_14 mF i2 x3 x10 x11 x12 x13 kb kx = R) (hkb : ∀ (x4' : Int32) (x5' : Int32) (x6' : Int32) (x7' : Int32), kb x4' x5' x6' x7' = R → ev_E G K_X8_peakAt B_X8_peakAt (0, 0) 14 [some (vr 8 (i2)), some (vi (x3)), some (vi (x4')), some (vi (x5')), some (vi (x6')), some (vi (x7'))] [] (ev_emb mF) Q) (hkx : ∀ (x5' : Int32) (x6' : Int32), kx x5' x6' = R → ev_E G K_X8_peakAt B_X8_peakAt (0, 0) 87 [none, some (vi (x3)), none, some (vi (x5')), some (vi (x6')), none] [] (ev_emb mF) Q) : ev_E G K_X8_peakAt B_X8_peakAt (0, 0) 48 [some (vr 8 (i2)), some (vi (x3)), some (vi (x10)), some (vi (x11)), some (vi (x12)), some (vi (x13))] [] (ev_emb mF) Q := by
  unfold jn_X8_peakAt_48_14 at h
  refine ev_aload_0 (pc := 48) dX8_peakAt_48 ?_
  refine ev_iload_5 (pc := 49) dX8_peakAt_49 ?_
  refine cl1_X8_172 (pc := 51) rfl dX8_peakAt_51 (by decide) (Nat.le_of_ble_eq_true rfl) (c_X8_signAt mF i2 x13) ?_
  obtain ⟨x15, hx15, h⟩ := ev_letE h
  have hJ1 : ev_E G K_X8_peakAt B_X8_peakAt (0, 0) 67 [some (vr 8 (i2)), some (vi (x3)), some (vi (x10)), some (vi (x11)), some (vi (x12)), some (vi (x13))] [vi (x15)] (ev_emb mF) Q := by
    refine ev_istore_2 (pc := 67) dX8_peakAt_67 (by decide) rfl ?_
    refine ev_iload_4 (pc := 68) dX8_peakAt_68 ?_
    refine ev_aload_0 (pc := 70) dX8_peakAt_70 ?_
    refine ev_iload_5 (pc := 71) dX8_peakAt_71 ?_
    refine cl1_X8_154 (pc := 73) rfl dX8_peakAt_73 (by decide) (Nat.le_of_ble_eq_true rfl) (c_X8_offAt mF i2 x13) ?_
    refine ev_mmax (pc := 76) mmax_X8_111 mmax_w (by decide) (Nat.le_of_ble_eq_true rfl) dX8_peakAt_76 ?_
    obtain ⟨x16, hx16, h⟩ := ev_letE h
    refine ev_topi (pc := 79) hx16 ?_
    refine ev_istore_4 (pc := 79) dX8_peakAt_79 (by decide) rfl ?_
    refine ev_iinc_5 (pc := 81) (y := x13 + 1) dX8_peakAt_81 rfl (by decide) rfl ?_
    refine ev_goto (pc := 84) (tgt := 14) dX8_peakAt_84 (by decide) ?_
    exact hkb _ _ _ _  h
  refine ev_ifc_ne (pc := 54) (tgt := 61) dX8_peakAt_54 (by decide) (fun c14 => ?_) (fun c14 => ?_)
  · refine ev_aload_0 (pc := 61) dX8_peakAt_61 ?_
    refine ev_iload_5 (pc := 62) dX8_peakAt_62 ?_
    refine cl1_X8_172 (pc := 64) rfl dX8_peakAt_64 (by decide) (Nat.le_of_ble_eq_true rfl) (c_X8_signAt mF i2 x13) ?_
    replace hx15 := (hx15.trans (if_neg c14))
    subst hx15
    exact hJ1
  · refine ev_iload_2 (pc := 57) dX8_peakAt_57 ?_
    refine ev_goto (pc := 58) (tgt := 67) dX8_peakAt_58 (by decide) ?_
    replace hx15 := (hx15.trans (if_pos c14))
    subst hx15
    exact hJ1
set_option maxRecDepth 20000 in
set_option maxHeartbeats 4000000 in
theorem e_lp_X8_peakAt_14 {G : ev_G} {Q : Option ev_V → ev_M → Prop} {mF : ev_m} {R : Option (Int32)} (hR : ∀ x0 : Int32, (some (x0)) = R → Q (some (vi x0)) (ev_emb mF)) (hN : none ≠ R) {i2 : Nat} {x3 : Int32} : ∀ (f : Nat) (x4 : Int32) (x5 : Int32) (x6 : Int32) (x7 : Int32) (kx : Int32 → Int32 → Option (Int32)) (h : lp_X8_peakAt_14 mF i2 x3 f x4 x5 x6 x7 kx = R) (hk : ∀ (x5' : Int32) (x6' : Int32), kx x5' x6' = R → ev_E G K_X8_peakAt B_X8_peakAt (0, 0) 87 [none, some (vi (x3)), none, some (vi (x5')), some (vi (x6')), none] [] (ev_emb mF) Q), ev_E G K_X8_peakAt B_X8_peakAt (0, 0) 14 [some (vr 8 (i2)), some (vi (x3)), some (vi (x4)), some (vi (x5)), some (vi (x6)), some (vi (x7))] [] (ev_emb mF) Q := by
  intro f
  induction f with
  | zero => intro x4 x5 x6 x7 kx h hk; rw [lp_X8_peakAt_14] at h; exact absurd h hN
  | succ f ih =>
    intro x4 x5 x6 x7 kx h hk
    rw [lp_X8_peakAt_14] at h
    refine ev_iload_5 (pc := 14) dX8_peakAt_14 ?_
    refine ev_aload_0 (pc := 16) dX8_peakAt_16 ?_
    refine gt_X8_50 (pc := 17) rfl dX8_peakAt_17 ?_
    refine ev_icc_gt (pc := 20) (tgt := 87) dX8_peakAt_20 (by decide) (fun c8 => ?_) (fun c8 => ?_)
    · replace h := ev_ifp h c8
      refine ev_E.forget (L' := [none, some (vi (x3)), none, some (vi (x5)), some (vi (x6)), none]) ⟨rfl, ⟨rfl, ⟨rfl, trivial⟩⟩⟩ ?_
      exact hk _ _  h
    · replace h := ev_ifn h c8
      refine ev_aload_0 (pc := 23) dX8_peakAt_23 ?_
      refine ev_iload_5 (pc := 24) dX8_peakAt_24 ?_
      refine cl1_X8_172 (pc := 26) rfl dX8_peakAt_26 (by decide) (Nat.le_of_ble_eq_true rfl) (c_X8_signAt mF i2 x7) ?_
      refine ev_iload_2 (pc := 29) dX8_peakAt_29 ?_
      refine ev_imul (pc := 30) dX8_peakAt_30 ?_
      refine ev_ifc_ge (pc := 31) (tgt := 48) dX8_peakAt_31 (by decide) (fun c9 => ?_) (fun c9 => ?_)
      · replace h := ev_ifn h c9
        exact e_jn_X8_peakAt_48_14 hR hN h (fun _ _ _ _ h => ih _ _ _ _ kx h hk) hk
      · replace h := ev_ifp h c9
        refine ev_iload_3 (pc := 34) dX8_peakAt_34 ?_
        refine ev_iload_1 (pc := 35) dX8_peakAt_35 ?_
        refine ev_icc_ne (pc := 36) (tgt := 42) dX8_peakAt_36 (by decide) (fun c17 => ?_) (fun c17 => ?_)
        · replace h := ev_ifn h c17
          refine ev_iinc_3 (pc := 42) (y := x5 + 1) dX8_peakAt_42 rfl (by decide) rfl ?_
          refine ev_iconst (pc := 45) (v := 0) dX8_peakAt_45 rfl ?_
          refine ev_istore_4 (pc := 46) dX8_peakAt_46 (by decide) rfl ?_
          exact e_jn_X8_peakAt_48_14 hR hN h (fun _ _ _ _ h => ih _ _ _ _ kx h hk) hk
        · replace h := ev_ifp h c17
          refine ev_iload_4 (pc := 39) dX8_peakAt_39 ?_
          exact ev_iret (pc := 41) dX8_peakAt_41 rfl rfl (hR _ h)
set_option maxRecDepth 20000 in
set_option maxHeartbeats 4000000 in
theorem e_X8_peakAt {G : ev_G} {Q : Option ev_V → ev_M → Prop} {R : Option (Int32)} {mF : ev_m} (hR : ∀ x0 : Int32, (some (x0)) = R → Q (some (vi x0)) (ev_emb mF)) (hN : none ≠ R) {i0 : Nat} {x1_ : Int32} (h : f_X8_peakAt mF i0 x1_ = R) : ev_E G K_X8_peakAt B_X8_peakAt (0, 0) 0 [some (vr 8 (i0)), some (vi (x1_)), none, none, none, none] [] (ev_emb mF) Q := by
  unfold f_X8_peakAt at h
  refine ev_aload_0 (pc := 0) dX8_peakAt_0 ?_
  refine ev_iconst (pc := 1) (v := 0) dX8_peakAt_1 rfl ?_
  refine cl1_X8_172 (pc := 2) rfl dX8_peakAt_2 (by decide) (Nat.le_of_ble_eq_true rfl) (c_X8_signAt mF i0 0) ?_
  obtain ⟨x1, hx1, h⟩ := ev_letE h
  refine ev_topi (pc := 5) hx1 ?_
  refine ev_istore_2 (pc := 5) dX8_peakAt_5 (by decide) rfl ?_
  refine ev_iconst (pc := 6) (v := 0) dX8_peakAt_6 rfl ?_
  refine ev_istore_3 (pc := 7) dX8_peakAt_7 (by decide) rfl ?_
  refine ev_iconst (pc := 8) (v := 0) dX8_peakAt_8 rfl ?_
  refine ev_istore_4 (pc := 9) dX8_peakAt_9 (by decide) rfl ?_
  refine ev_iconst (pc := 11) (v := 1) dX8_peakAt_11 rfl ?_
  refine ev_istore_5 (pc := 12) dX8_peakAt_12 (by decide) rfl ?_
  refine e_lp_X8_peakAt_14 hR hN 4000 _ _ _ _ _ h (fun x18 x19 h => ?_)
  refine ev_iload_3 (pc := 87) dX8_peakAt_87 ?_
  refine ev_iload_1 (pc := 88) dX8_peakAt_88 ?_
  refine ev_icc_ne (pc := 89) (tgt := 97) dX8_peakAt_89 (by decide) (fun c20 => ?_) (fun c20 => ?_)
  · replace h := ev_ifn h c20
    refine ev_iconst (pc := 97) (v := (-1)) dX8_peakAt_97 rfl ?_
    exact ev_iret (pc := 98) dX8_peakAt_98 rfl rfl (hR _ h)
  · replace h := ev_ifp h c20
    refine ev_iload_4 (pc := 92) dX8_peakAt_92 ?_
    refine ev_goto (pc := 94) (tgt := 98) dX8_peakAt_94 (by decide) ?_
    exact ev_iret (pc := 98) dX8_peakAt_98 rfl rfl (hR _ h)
theorem c_X8_peakAt {G : ev_G} {mF : ev_m} {i0 : Nat} {x1_ : Int32} {r : Int32} (h : f_X8_peakAt mF i0 x1_ = some r) : ev_CF G K_X8_peakAt B_X8_peakAt [vr 8 (i0), vi (x1_)] mF (some (vi (r))) mF :=
  ev_Ct_of rfl rfl (Nat.le_of_ble_eq_true rfl) (e_X8_peakAt (R := some r) (fun x0 q => by cases q; exact ⟨rfl, rfl⟩) (fun q => by cases q) h)
set_option maxRecDepth 20000 in
set_option maxHeartbeats 4000000 in
theorem e_X8_grows {G : ev_G} {Q : Option ev_V → ev_M → Prop} {R : Option (Bool)} {mF : ev_m} (hR : ∀ x0 : Bool, (some (x0)) = R → Q (some (vi (bi x0))) (ev_emb mF)) (hN : none ≠ R) {i0 : Nat} (h : f_X8_grows mF i0 = R) : ev_E G K_X8_grows B_X8_grows (0, 0) 0 [some (vr 8 (i0)), none] [] (ev_emb mF) Q := by
  unfold f_X8_grows at h
  refine ev_aload_0 (pc := 0) dX8_grows_0 ?_
  obtain ⟨x1, hx1, h⟩ := ev_bindE hN h
  refine cl1_X8_136 (pc := 1) rfl dX8_grows_1 (by decide) (Nat.le_of_ble_eq_true rfl) (c_X8_crossings hx1) ?_
  refine ev_l2i (pc := 4) dX8_grows_4 ?_
  refine ev_iconst (pc := 5) (v := 1) dX8_grows_5 rfl ?_
  refine ev_iadd (pc := 6) dX8_grows_6 ?_
  obtain ⟨x2, hx2, h⟩ := ev_letE h
  refine ev_topi (pc := 7) hx2 ?_
  refine ev_istore_1 (pc := 7) dX8_grows_7 (by decide) rfl ?_
  refine ev_iload_1 (pc := 8) dX8_grows_8 ?_
  refine ev_iconst (pc := 9) (v := 3) dX8_grows_9 rfl ?_
  refine ev_icc_lt (pc := 10) (tgt := 34) dX8_grows_10 (by decide) (fun c3 => ?_) (fun c3 => ?_)
  · replace h := ev_ifp h c3
    refine ev_iconst (pc := 34) (v := 0) dX8_grows_34 rfl ?_
    exact ev_iret (pc := 35) dX8_grows_35 rfl rfl (hR _ h)
  · replace h := ev_ifn h c3
    refine ev_aload_0 (pc := 13) dX8_grows_13 ?_
    refine ev_iload_1 (pc := 14) dX8_grows_14 ?_
    refine ev_iconst (pc := 15) (v := 2) dX8_grows_15 rfl ?_
    refine ev_isub (pc := 16) dX8_grows_16 ?_
    obtain ⟨x4, hx4, h⟩ := ev_bindE hN h
    refine cl1_X8_175 (pc := 17) rfl dX8_grows_17 (by decide) (Nat.le_of_ble_eq_true rfl) (c_X8_peakAt hx4) ?_
    refine ev_aload_0 (pc := 20) dX8_grows_20 ?_
    refine ev_iload_1 (pc := 21) dX8_grows_21 ?_
    refine ev_iconst (pc := 22) (v := 3) dX8_grows_22 rfl ?_
    refine ev_isub (pc := 23) dX8_grows_23 ?_
    obtain ⟨x5, hx5, h⟩ := ev_bindE hN h
    refine cl1_X8_175 (pc := 24) rfl dX8_grows_24 (by decide) (Nat.le_of_ble_eq_true rfl) (c_X8_peakAt hx5) ?_
    refine ev_icc_le (pc := 27) (tgt := 34) dX8_grows_27 (by decide) (fun c6 => ?_) (fun c6 => ?_)
    · replace h := ev_ifn h c6
      refine ev_iconst (pc := 34) (v := 0) dX8_grows_34 rfl ?_
      exact ev_iret (pc := 35) dX8_grows_35 rfl rfl (hR _ h)
    · replace h := ev_ifp h c6
      refine ev_iconst (pc := 30) (v := 1) dX8_grows_30 rfl ?_
      refine ev_goto (pc := 31) (tgt := 35) dX8_grows_31 (by decide) ?_
      exact ev_iret (pc := 35) dX8_grows_35 rfl rfl (hR _ h)
theorem c_X8_grows {G : ev_G} {mF : ev_m} {i0 : Nat} {r : Bool} (h : f_X8_grows mF i0 = some r) : ev_CF G K_X8_grows B_X8_grows [vr 8 (i0)] mF (some (vi (bi (r)))) mF :=
  ev_Ct_of rfl rfl (Nat.le_of_ble_eq_true rfl) (e_X8_grows (R := some r) (fun x0 q => by cases q; exact ⟨rfl, rfl⟩) (fun q => by cases q) h)
set_option maxRecDepth 20000 in
set_option maxHeartbeats 4000000 in
theorem e_lp_X8_spokes_4 {G : ev_G} {Q : Option ev_V → ev_M → Prop} {mF : ev_m} {R : Option (Int64)} (hR : ∀ x0 : Int64, (some (x0)) = R → Q (some (vl x0)) (ev_emb mF)) (hN : none ≠ R) {i1 : Nat} : ∀ (f : Nat) (x2 : Int32) (x3 : Int32) (kx : Int32 → Option (Int64)) (h : lp_X8_spokes_4 mF i1 f x2 x3 kx = R) (hk : ∀ (x2' : Int32), kx x2' = R → ev_E G K_X8_spokes B_X8_spokes (0, 0) 34 [none, some (vi (x2')), none] [] (ev_emb mF) Q), ev_E G K_X8_spokes B_X8_spokes (0, 0) 4 [some (vr 8 (i1)), some (vi (x2)), some (vi (x3))] [] (ev_emb mF) Q := by
  intro f
  induction f with
  | zero => intro x2 x3 kx h hk; rw [lp_X8_spokes_4] at h; exact absurd h hN
  | succ f ih =>
    intro x2 x3 kx h hk
    rw [lp_X8_spokes_4] at h
    refine ev_iload_2 (pc := 4) dX8_spokes_4 ?_
    refine ev_aload_0 (pc := 5) dX8_spokes_5 ?_
    refine gt_X8_50 (pc := 6) rfl dX8_spokes_6 ?_
    refine ev_icc_gt (pc := 9) (tgt := 34) dX8_spokes_9 (by decide) (fun c4 => ?_) (fun c4 => ?_)
    · replace h := ev_ifp h c4
      refine ev_E.forget (L' := [none, some (vi (x2)), none]) ⟨rfl, trivial⟩ ?_
      exact hk _  h
    · replace h := ev_ifn h c4
      refine ev_iload_1 (pc := 12) dX8_spokes_12 ?_
      refine ev_aload_0 (pc := 13) dX8_spokes_13 ?_
      refine ev_iload_2 (pc := 14) dX8_spokes_14 ?_
      refine cl1_X8_160 (pc := 15) rfl dX8_spokes_15 (by decide) (Nat.le_of_ble_eq_true rfl) (c_X8_turnedAt mF i1 x3) ?_
      obtain ⟨x6, hx6, h⟩ := ev_letE h
      have hJ1 : ev_E G K_X8_spokes B_X8_spokes (0, 0) 26 [some (vr 8 (i1)), some (vi (x2)), some (vi (x3))] [vi (x6), vi (x2)] (ev_emb mF) Q := by
        refine ev_iadd (pc := 26) dX8_spokes_26 ?_
        obtain ⟨x7, hx7, h⟩ := ev_letE h
        refine ev_topi (pc := 27) hx7 ?_
        refine ev_istore_1 (pc := 27) dX8_spokes_27 (by decide) rfl ?_
        refine ev_iinc_2 (pc := 28) (y := x3 + 1) dX8_spokes_28 rfl (by decide) rfl ?_
        refine ev_goto (pc := 31) (tgt := 4) dX8_spokes_31 (by decide) ?_
        exact ih _ _ kx h hk
      refine ev_ifc_eq (pc := 18) (tgt := 25) dX8_spokes_18 (by decide) (fun c5 => ?_) (fun c5 => ?_)
      · refine ev_iconst (pc := 25) (v := 0) dX8_spokes_25 rfl ?_
        replace hx6 := (hx6.trans (if_pos c5))
        subst hx6
        exact hJ1
      · refine ev_iconst (pc := 21) (v := 1) dX8_spokes_21 rfl ?_
        refine ev_goto (pc := 22) (tgt := 26) dX8_spokes_22 (by decide) ?_
        replace hx6 := (hx6.trans (if_neg c5))
        subst hx6
        exact hJ1
set_option maxRecDepth 20000 in
set_option maxHeartbeats 4000000 in
theorem e_X8_spokes {G : ev_G} {Q : Option ev_V → ev_M → Prop} {R : Option (Int64)} {mF : ev_m} (hR : ∀ x0 : Int64, (some (x0)) = R → Q (some (vl x0)) (ev_emb mF)) (hN : none ≠ R) {i0 : Nat} (h : f_X8_spokes mF i0 = R) : ev_E G K_X8_spokes B_X8_spokes (0, 0) 0 [some (vr 8 (i0)), none, none] [] (ev_emb mF) Q := by
  unfold f_X8_spokes at h
  refine ev_iconst (pc := 0) (v := 0) dX8_spokes_0 rfl ?_
  refine ev_istore_1 (pc := 1) dX8_spokes_1 (by decide) rfl ?_
  refine ev_iconst (pc := 2) (v := 1) dX8_spokes_2 rfl ?_
  refine ev_istore_2 (pc := 3) dX8_spokes_3 (by decide) rfl ?_
  refine e_lp_X8_spokes_4 hR hN 4000 _ _ _ h (fun x8 h => ?_)
  refine ev_iload_1 (pc := 34) dX8_spokes_34 ?_
  refine ev_i2l (pc := 35) dX8_spokes_35 ?_
  exact ev_lret (pc := 36) dX8_spokes_36 rfl (hR _ h)
theorem c_X8_spokes {G : ev_G} {mF : ev_m} {i0 : Nat} {r : Int64} (h : f_X8_spokes mF i0 = some r) : ev_CF G K_X8_spokes B_X8_spokes [vr 8 (i0)] mF (some (vl (r))) mF :=
  ev_Ct_of rfl rfl (Nat.le_of_ble_eq_true rfl) (e_X8_spokes (R := some r) (fun x0 q => by cases q; exact ⟨rfl, rfl⟩) (fun q => by cases q) h)
set_option maxRecDepth 20000 in
set_option maxHeartbeats 4000000 in
theorem e_lp_X8_waits_6 {G : ev_G} {Q : Option ev_V → ev_M → Prop} {mF : ev_m} {R : Option (Int64)} (hR : ∀ x0 : Int64, (some (x0)) = R → Q (some (vl x0)) (ev_emb mF)) (hN : none ≠ R) {i1 : Nat} : ∀ (f : Nat) (x2 : Int32) (x3 : Int32) (x4 : Int32) (kx : Int32 → Option (Int64)) (h : lp_X8_waits_6 mF i1 f x2 x3 x4 kx = R) (hk : ∀ (x2' : Int32), kx x2' = R → ev_E G K_X8_waits B_X8_waits (0, 0) 42 [none, some (vi (x2')), none, none] [] (ev_emb mF) Q), ev_E G K_X8_waits B_X8_waits (0, 0) 6 [some (vr 8 (i1)), some (vi (x2)), some (vi (x3)), some (vi (x4))] [] (ev_emb mF) Q := by
  intro f
  induction f with
  | zero => intro x2 x3 x4 kx h hk; rw [lp_X8_waits_6] at h; exact absurd h hN
  | succ f ih =>
    intro x2 x3 x4 kx h hk
    rw [lp_X8_waits_6] at h
    refine ev_iload_3 (pc := 6) dX8_waits_6 ?_
    refine ev_aload_0 (pc := 7) dX8_waits_7 ?_
    refine gt_X8_50 (pc := 8) rfl dX8_waits_8 ?_
    refine ev_icc_gt (pc := 11) (tgt := 42) dX8_waits_11 (by decide) (fun c5 => ?_) (fun c5 => ?_)
    · replace h := ev_ifp h c5
      refine ev_E.forget (L' := [none, some (vi (x2)), none, none]) ⟨rfl, trivial⟩ ?_
      exact hk _  h
    · replace h := ev_ifn h c5
      refine ev_aload_0 (pc := 14) dX8_waits_14 ?_
      refine ev_iload_3 (pc := 15) dX8_waits_15 ?_
      refine cl1_X8_160 (pc := 16) rfl dX8_waits_16 (by decide) (Nat.le_of_ble_eq_true rfl) (c_X8_turnedAt mF i1 x4) ?_
      obtain ⟨x7, hx7, h⟩ := ev_letE h
      have hJ1 : ev_E G K_X8_waits B_X8_waits (0, 0) 29 [some (vr 8 (i1)), some (vi (x2)), some (vi (x3)), some (vi (x4))] [vi (x7)] (ev_emb mF) Q := by
        refine ev_istore_2 (pc := 29) dX8_waits_29 (by decide) rfl ?_
        refine ev_iload_1 (pc := 30) dX8_waits_30 ?_
        refine ev_iload_2 (pc := 31) dX8_waits_31 ?_
        refine ev_mmax (pc := 32) mmax_X8_111 mmax_w (by decide) (Nat.le_of_ble_eq_true rfl) dX8_waits_32 ?_
        obtain ⟨x8, hx8, h⟩ := ev_letE h
        refine ev_topi (pc := 35) hx8 ?_
        refine ev_istore_1 (pc := 35) dX8_waits_35 (by decide) rfl ?_
        refine ev_iinc_3 (pc := 36) (y := x4 + 1) dX8_waits_36 rfl (by decide) rfl ?_
        refine ev_goto (pc := 39) (tgt := 6) dX8_waits_39 (by decide) ?_
        exact ih _ _ _ kx h hk
      refine ev_ifc_ne (pc := 19) (tgt := 28) dX8_waits_19 (by decide) (fun c6 => ?_) (fun c6 => ?_)
      · refine ev_iconst (pc := 28) (v := 0) dX8_waits_28 rfl ?_
        replace hx7 := (hx7.trans (if_neg c6))
        subst hx7
        exact hJ1
      · refine ev_iload_2 (pc := 22) dX8_waits_22 ?_
        refine ev_iconst (pc := 23) (v := 1) dX8_waits_23 rfl ?_
        refine ev_iadd (pc := 24) dX8_waits_24 ?_
        refine ev_goto (pc := 25) (tgt := 29) dX8_waits_25 (by decide) ?_
        replace hx7 := (hx7.trans (if_pos c6))
        subst hx7
        exact hJ1
set_option maxRecDepth 20000 in
set_option maxHeartbeats 4000000 in
theorem e_X8_waits {G : ev_G} {Q : Option ev_V → ev_M → Prop} {R : Option (Int64)} {mF : ev_m} (hR : ∀ x0 : Int64, (some (x0)) = R → Q (some (vl x0)) (ev_emb mF)) (hN : none ≠ R) {i0 : Nat} (h : f_X8_waits mF i0 = R) : ev_E G K_X8_waits B_X8_waits (0, 0) 0 [some (vr 8 (i0)), none, none, none] [] (ev_emb mF) Q := by
  unfold f_X8_waits at h
  refine ev_iconst (pc := 0) (v := 0) dX8_waits_0 rfl ?_
  refine ev_istore_1 (pc := 1) dX8_waits_1 (by decide) rfl ?_
  refine ev_iconst (pc := 2) (v := 0) dX8_waits_2 rfl ?_
  refine ev_istore_2 (pc := 3) dX8_waits_3 (by decide) rfl ?_
  refine ev_iconst (pc := 4) (v := 1) dX8_waits_4 rfl ?_
  refine ev_istore_3 (pc := 5) dX8_waits_5 (by decide) rfl ?_
  refine e_lp_X8_waits_6 hR hN 4000 _ _ _ _ h (fun x9 h => ?_)
  refine ev_iload_1 (pc := 42) dX8_waits_42 ?_
  refine ev_i2l (pc := 43) dX8_waits_43 ?_
  exact ev_lret (pc := 44) dX8_waits_44 rfl (hR _ h)
theorem c_X8_waits {G : ev_G} {mF : ev_m} {i0 : Nat} {r : Int64} (h : f_X8_waits mF i0 = some r) : ev_CF G K_X8_waits B_X8_waits [vr 8 (i0)] mF (some (vl (r))) mF :=
  ev_Ct_of rfl rfl (Nat.le_of_ble_eq_true rfl) (e_X8_waits (R := some r) (fun x0 q => by cases q; exact ⟨rfl, rfl⟩) (fun q => by cases q) h)
set_option maxRecDepth 20000 in
set_option maxHeartbeats 4000000 in
theorem e_X8_tally {G : ev_G} {Q : Option ev_V → ev_M → Prop} {R : Option (Int64)} {mF : ev_m} (hR : ∀ x0 : Int64, (some (x0)) = R → Q (some (vl x0)) (ev_emb mF)) (hN : none ≠ R) {i0 : Nat} {x1_ : Int32} (h : f_X8_tally mF i0 x1_ = R) : ev_E G K_X8_tally B_X8_tally (0, 0) 0 [some (vr 8 (i0)), some (vi (x1_))] [] (ev_emb mF) Q := by
  unfold f_X8_tally at h
  refine ev_iload_1 (pc := 0) dX8_tally_0 ?_
  by_cases c1 : x1_ = 0
  · replace h := ev_ifp h c1
    refine ev_tin (pc := 1) 0 (tgt := 56) c1 (by decide) dX8_tally_1 rfl (by decide) ?_
    refine ev_aload_0 (pc := 56) dX8_tally_56 ?_
    obtain ⟨x21, hx21, h⟩ := ev_bindE hN h
    refine cl1_X8_117 (pc := 57) rfl dX8_tally_57 (by decide) (Nat.le_of_ble_eq_true rfl) (c_X8_cost hx21) ?_
    exact ev_lret (pc := 60) dX8_tally_60 rfl (hR _ h)
  · replace h := ev_ifn h c1
    by_cases c2 : x1_ = 1
    · replace h := ev_ifp h c2
      refine ev_tin (pc := 1) 1 (tgt := 61) c2 (by decide) dX8_tally_1 rfl (by decide) ?_
      refine ev_aload_0 (pc := 61) dX8_tally_61 ?_
      obtain ⟨x20, hx20, h⟩ := ev_bindE hN h
      refine cl1_X8_121 (pc := 62) rfl dX8_tally_62 (by decide) (Nat.le_of_ble_eq_true rfl) (c_X8_off hx20) ?_
      exact ev_lret (pc := 65) dX8_tally_65 rfl (hR _ h)
    · replace h := ev_ifn h c2
      by_cases c3 : x1_ = 2
      · replace h := ev_ifp h c3
        refine ev_tin (pc := 1) 2 (tgt := 66) c3 (by decide) dX8_tally_1 rfl (by decide) ?_
        refine ev_aload_0 (pc := 66) dX8_tally_66 ?_
        obtain ⟨x19, hx19, h⟩ := ev_bindE hN h
        refine cl1_X8_124 (pc := 67) rfl dX8_tally_67 (by decide) (Nat.le_of_ble_eq_true rfl) (c_X8_wear hx19) ?_
        exact ev_lret (pc := 70) dX8_tally_70 rfl (hR _ h)
      · replace h := ev_ifn h c3
        by_cases c4 : x1_ = 3
        · replace h := ev_ifp h c4
          refine ev_tin (pc := 1) 3 (tgt := 71) c4 (by decide) dX8_tally_1 rfl (by decide) ?_
          refine ev_aload_0 (pc := 71) dX8_tally_71 ?_
          obtain ⟨x18, hx18, h⟩ := ev_bindE hN h
          refine cl1_X8_127 (pc := 72) rfl dX8_tally_72 (by decide) (Nat.le_of_ble_eq_true rfl) (c_X8_lost hx18) ?_
          exact ev_lret (pc := 75) dX8_tally_75 rfl (hR _ h)
        · replace h := ev_ifn h c4
          by_cases c5 : x1_ = 4
          · replace h := ev_ifp h c5
            refine ev_tin (pc := 1) 4 (tgt := 76) c5 (by decide) dX8_tally_1 rfl (by decide) ?_
            refine ev_aload_0 (pc := 76) dX8_tally_76 ?_
            obtain ⟨x17, hx17, h⟩ := ev_bindE hN h
            refine cl1_X8_130 (pc := 77) rfl dX8_tally_77 (by decide) (Nat.le_of_ble_eq_true rfl) (c_X8_widest hx17) ?_
            exact ev_lret (pc := 80) dX8_tally_80 rfl (hR _ h)
          · replace h := ev_ifn h c5
            by_cases c6 : x1_ = 5
            · replace h := ev_ifp h c6
              refine ev_tin (pc := 1) 5 (tgt := 81) c6 (by decide) dX8_tally_1 rfl (by decide) ?_
              refine ev_aload_0 (pc := 81) dX8_tally_81 ?_
              obtain ⟨x16, hx16, h⟩ := ev_bindE hN h
              refine cl1_X8_133 (pc := 82) rfl dX8_tally_82 (by decide) (Nat.le_of_ble_eq_true rfl) (c_X8_drift hx16) ?_
              exact ev_lret (pc := 85) dX8_tally_85 rfl (hR _ h)
            · replace h := ev_ifn h c6
              by_cases c7 : x1_ = 6
              · replace h := ev_ifp h c7
                refine ev_tin (pc := 1) 6 (tgt := 86) c7 (by decide) dX8_tally_1 rfl (by decide) ?_
                refine ev_aload_0 (pc := 86) dX8_tally_86 ?_
                obtain ⟨x15, hx15, h⟩ := ev_bindE hN h
                refine cl1_X8_136 (pc := 87) rfl dX8_tally_87 (by decide) (Nat.le_of_ble_eq_true rfl) (c_X8_crossings hx15) ?_
                exact ev_lret (pc := 90) dX8_tally_90 rfl (hR _ h)
              · replace h := ev_ifn h c7
                by_cases c8 : x1_ = 7
                · replace h := ev_ifp h c8
                  refine ev_tin (pc := 1) 7 (tgt := 91) c8 (by decide) dX8_tally_1 rfl (by decide) ?_
                  refine ev_aload_0 (pc := 91) dX8_tally_91 ?_
                  obtain ⟨x13, hx13, h⟩ := ev_bindE hN h
                  refine cl1_X8_139 (pc := 92) rfl dX8_tally_92 (by decide) (Nat.le_of_ble_eq_true rfl) (c_X8_grows hx13) ?_
                  refine ev_ifb_eq (pc := 95) (tgt := 102) dX8_tally_95 (by decide) (fun c14 => ?_) (fun c14 => ?_)
                  · replace h := ev_ifn h c14
                    refine ev_lconst (pc := 102) (v := 0) dX8_tally_102 rfl ?_
                    exact ev_lret (pc := 103) dX8_tally_103 rfl (hR _ h)
                  · replace h := ev_ifp h c14
                    refine ev_lconst (pc := 98) (v := 1) dX8_tally_98 rfl ?_
                    refine ev_goto (pc := 99) (tgt := 103) dX8_tally_99 (by decide) ?_
                    exact ev_lret (pc := 103) dX8_tally_103 rfl (hR _ h)
                · replace h := ev_ifn h c8
                  by_cases c9 : x1_ = 8
                  · replace h := ev_ifp h c9
                    refine ev_tin (pc := 1) 8 (tgt := 104) c9 (by decide) dX8_tally_1 rfl (by decide) ?_
                    refine ev_aload_0 (pc := 104) dX8_tally_104 ?_
                    obtain ⟨x12, hx12, h⟩ := ev_bindE hN h
                    refine cl1_X8_143 (pc := 105) rfl dX8_tally_105 (by decide) (Nat.le_of_ble_eq_true rfl) (c_X8_spokes hx12) ?_
                    exact ev_lret (pc := 108) dX8_tally_108 rfl (hR _ h)
                  · replace h := ev_ifn h c9
                    by_cases c10 : x1_ = 9
                    · replace h := ev_ifp h c10
                      refine ev_tin (pc := 1) 9 (tgt := 109) c10 (by decide) dX8_tally_1 rfl (by decide) ?_
                      refine ev_aload_0 (pc := 109) dX8_tally_109 ?_
                      obtain ⟨x11, hx11, h⟩ := ev_bindE hN h
                      refine cl1_X8_146 (pc := 110) rfl dX8_tally_110 (by decide) (Nat.le_of_ble_eq_true rfl) (c_X8_waits hx11) ?_
                      exact ev_lret (pc := 113) dX8_tally_113 rfl (hR _ h)
                    · replace h := ev_ifn h c10
                      refine ev_tout (pc := 1) 10 (tgt := 114) rfl (by decide) (lt_s (p := fun j => ¬ x1_ = nI j) (lt_s (p := fun j => ¬ x1_ = nI j) (lt_s (p := fun j => ¬ x1_ = nI j) (lt_s (p := fun j => ¬ x1_ = nI j) (lt_s (p := fun j => ¬ x1_ = nI j) (lt_s (p := fun j => ¬ x1_ = nI j) (lt_s (p := fun j => ¬ x1_ = nI j) (lt_s (p := fun j => ¬ x1_ = nI j) (lt_s (p := fun j => ¬ x1_ = nI j) (lt_s (p := fun j => ¬ x1_ = nI j) lt_0 c1) c2) c3) c4) c5) c6) c7) c8) c9) c10) dX8_tally_1 (by decide) ?_
                      refine ev_ldc2 (pc := 114) (v := (-9223372036854775808)) kl_X8_149 dX8_tally_114 ?_
                      exact ev_lret (pc := 117) dX8_tally_117 rfl (hR _ h)
theorem c_X8_tally {G : ev_G} {mF : ev_m} {i0 : Nat} {x1_ : Int32} {r : Int64} (h : f_X8_tally mF i0 x1_ = some r) : ev_CF G K_X8_tally B_X8_tally [vr 8 (i0), vi (x1_)] mF (some (vl (r))) mF :=
  ev_Ct_of rfl rfl (Nat.le_of_ble_eq_true rfl) (e_X8_tally (R := some r) (fun x0 q => by cases q; exact ⟨rfl, rfl⟩) (fun q => by cases q) h)
set_option maxRecDepth 20000 in
set_option maxHeartbeats 4000000 in
theorem e_lp_X8_earliestBeyond_2 {G : ev_G} {Q : Option ev_V → ev_M → Prop} {mF : ev_m} {R : Option (Int32)} (hR : ∀ x0 : Int32, (some (x0)) = R → Q (some (vi x0)) (ev_emb mF)) (hN : none ≠ R) {i1 : Nat} {x2 : Int32} : ∀ (f : Nat) (x3 : Int32) (kx : Unit → Option (Int32)) (h : lp_X8_earliestBeyond_2 mF i1 x2 f x3 kx = R) (hk : ∀ (u0 : Unit), kx u0 = R → ev_E G K_X8_earliestBeyond B_X8_earliestBeyond (0, 0) 27 [none, none, none] [] (ev_emb mF) Q), ev_E G K_X8_earliestBeyond B_X8_earliestBeyond (0, 0) 2 [some (vr 8 (i1)), some (vi (x2)), some (vi (x3))] [] (ev_emb mF) Q := by
  intro f
  induction f with
  | zero => intro x3 kx h hk; rw [lp_X8_earliestBeyond_2] at h; exact absurd h hN
  | succ f ih =>
    intro x3 kx h hk
    rw [lp_X8_earliestBeyond_2] at h
    refine ev_iload_2 (pc := 2) dX8_earliestBeyond_2 ?_
    refine ev_aload_0 (pc := 3) dX8_earliestBeyond_3 ?_
    refine gt_X8_50 (pc := 4) rfl dX8_earliestBeyond_4 ?_
    refine ev_icc_gt (pc := 7) (tgt := 27) dX8_earliestBeyond_7 (by decide) (fun c4 => ?_) (fun c4 => ?_)
    · replace h := ev_ifp h c4
      refine ev_E.forget (L' := [none, none, none]) trivial ?_
      exact hk _  h
    · replace h := ev_ifn h c4
      refine ev_aload_0 (pc := 10) dX8_earliestBeyond_10 ?_
      refine ev_iload_2 (pc := 11) dX8_earliestBeyond_11 ?_
      refine cl1_X8_154 (pc := 12) rfl dX8_earliestBeyond_12 (by decide) (Nat.le_of_ble_eq_true rfl) (c_X8_offAt mF i1 x3) ?_
      refine ev_iload_1 (pc := 15) dX8_earliestBeyond_15 ?_
      refine ev_icc_le (pc := 16) (tgt := 21) dX8_earliestBeyond_16 (by decide) (fun c5 => ?_) (fun c5 => ?_)
      · replace h := ev_ifn h c5
        refine ev_iinc_2 (pc := 21) (y := x3 + 1) dX8_earliestBeyond_21 rfl (by decide) rfl ?_
        refine ev_goto (pc := 24) (tgt := 2) dX8_earliestBeyond_24 (by decide) ?_
        exact ih _ kx h hk
      · replace h := ev_ifp h c5
        refine ev_iload_2 (pc := 19) dX8_earliestBeyond_19 ?_
        exact ev_iret (pc := 20) dX8_earliestBeyond_20 rfl rfl (hR _ h)
set_option maxRecDepth 20000 in
set_option maxHeartbeats 4000000 in
theorem e_X8_earliestBeyond {G : ev_G} {Q : Option ev_V → ev_M → Prop} {R : Option (Int32)} {mF : ev_m} (hR : ∀ x0 : Int32, (some (x0)) = R → Q (some (vi x0)) (ev_emb mF)) (hN : none ≠ R) {i0 : Nat} {x1_ : Int32} (h : f_X8_earliestBeyond mF i0 x1_ = R) : ev_E G K_X8_earliestBeyond B_X8_earliestBeyond (0, 0) 0 [some (vr 8 (i0)), some (vi (x1_)), none] [] (ev_emb mF) Q := by
  unfold f_X8_earliestBeyond at h
  refine ev_iconst (pc := 0) (v := 1) dX8_earliestBeyond_0 rfl ?_
  refine ev_istore_2 (pc := 1) dX8_earliestBeyond_1 (by decide) rfl ?_
  refine e_lp_X8_earliestBeyond_2 hR hN 4000 _ _ h (fun _ h => ?_)
  refine ev_iconst (pc := 27) (v := (-1)) dX8_earliestBeyond_27 rfl ?_
  exact ev_iret (pc := 28) dX8_earliestBeyond_28 rfl rfl (hR _ h)
theorem c_X8_earliestBeyond {G : ev_G} {mF : ev_m} {i0 : Nat} {x1_ : Int32} {r : Int32} (h : f_X8_earliestBeyond mF i0 x1_ = some r) : ev_CF G K_X8_earliestBeyond B_X8_earliestBeyond [vr 8 (i0), vi (x1_)] mF (some (vi (r))) mF :=
  ev_Ct_of rfl rfl (Nat.le_of_ble_eq_true rfl) (e_X8_earliestBeyond (R := some r) (fun x0 q => by cases q; exact ⟨rfl, rfl⟩) (fun q => by cases q) h)
set_option maxRecDepth 20000 in
set_option maxHeartbeats 4000000 in
theorem e_lp_X8_latestBeyond_5 {G : ev_G} {Q : Option ev_V → ev_M → Prop} {mF : ev_m} {R : Option (Int32)} (hR : ∀ x0 : Int32, (some (x0)) = R → Q (some (vi x0)) (ev_emb mF)) (hN : none ≠ R) {i2 : Nat} {x3 : Int32} : ∀ (f : Nat) (x4 : Int32) (kx : Unit → Option (Int32)) (h : lp_X8_latestBeyond_5 mF i2 x3 f x4 kx = R) (hk : ∀ (u0 : Unit), kx u0 = R → ev_E G K_X8_latestBeyond B_X8_latestBeyond (0, 0) 27 [none, none, none] [] (ev_emb mF) Q), ev_E G K_X8_latestBeyond B_X8_latestBeyond (0, 0) 5 [some (vr 8 (i2)), some (vi (x3)), some (vi (x4))] [] (ev_emb mF) Q := by
  intro f
  induction f with
  | zero => intro x4 kx h hk; rw [lp_X8_latestBeyond_5] at h; exact absurd h hN
  | succ f ih =>
    intro x4 kx h hk
    rw [lp_X8_latestBeyond_5] at h
    refine ev_iload_2 (pc := 5) dX8_latestBeyond_5 ?_
    refine ev_iconst (pc := 6) (v := 1) dX8_latestBeyond_6 rfl ?_
    refine ev_icc_lt (pc := 7) (tgt := 27) dX8_latestBeyond_7 (by decide) (fun c5 => ?_) (fun c5 => ?_)
    · replace h := ev_ifp h c5
      refine ev_E.forget (L' := [none, none, none]) trivial ?_
      exact hk _  h
    · replace h := ev_ifn h c5
      refine ev_aload_0 (pc := 10) dX8_latestBeyond_10 ?_
      refine ev_iload_2 (pc := 11) dX8_latestBeyond_11 ?_
      refine cl1_X8_154 (pc := 12) rfl dX8_latestBeyond_12 (by decide) (Nat.le_of_ble_eq_true rfl) (c_X8_offAt mF i2 x4) ?_
      refine ev_iload_1 (pc := 15) dX8_latestBeyond_15 ?_
      refine ev_icc_le (pc := 16) (tgt := 21) dX8_latestBeyond_16 (by decide) (fun c6 => ?_) (fun c6 => ?_)
      · replace h := ev_ifn h c6
        refine ev_iinc_2 (pc := 21) (y := x4 + (-1)) dX8_latestBeyond_21 rfl (by decide) rfl ?_
        refine ev_goto (pc := 24) (tgt := 5) dX8_latestBeyond_24 (by decide) ?_
        exact ih _ kx h hk
      · replace h := ev_ifp h c6
        refine ev_iload_2 (pc := 19) dX8_latestBeyond_19 ?_
        exact ev_iret (pc := 20) dX8_latestBeyond_20 rfl rfl (hR _ h)
set_option maxRecDepth 20000 in
set_option maxHeartbeats 4000000 in
theorem e_X8_latestBeyond {G : ev_G} {Q : Option ev_V → ev_M → Prop} {R : Option (Int32)} {mF : ev_m} (hR : ∀ x0 : Int32, (some (x0)) = R → Q (some (vi x0)) (ev_emb mF)) (hN : none ≠ R) {i0 : Nat} {x1_ : Int32} (h : f_X8_latestBeyond mF i0 x1_ = R) : ev_E G K_X8_latestBeyond B_X8_latestBeyond (0, 0) 0 [some (vr 8 (i0)), some (vi (x1_)), none] [] (ev_emb mF) Q := by
  unfold f_X8_latestBeyond at h
  refine ev_aload_0 (pc := 0) dX8_latestBeyond_0 ?_
  refine gt_X8_50 (pc := 1) rfl dX8_latestBeyond_1 ?_
  obtain ⟨x1, hx1, h⟩ := ev_letE h
  refine ev_topi (pc := 4) hx1 ?_
  refine ev_istore_2 (pc := 4) dX8_latestBeyond_4 (by decide) rfl ?_
  refine e_lp_X8_latestBeyond_5 hR hN 4000 _ _ h (fun _ h => ?_)
  refine ev_iconst (pc := 27) (v := 0) dX8_latestBeyond_27 rfl ?_
  exact ev_iret (pc := 28) dX8_latestBeyond_28 rfl rfl (hR _ h)
theorem c_X8_latestBeyond {G : ev_G} {mF : ev_m} {i0 : Nat} {x1_ : Int32} {r : Int32} (h : f_X8_latestBeyond mF i0 x1_ = some r) : ev_CF G K_X8_latestBeyond B_X8_latestBeyond [vr 8 (i0), vi (x1_)] mF (some (vi (r))) mF :=
  ev_Ct_of rfl rfl (Nat.le_of_ble_eq_true rfl) (e_X8_latestBeyond (R := some r) (fun x0 q => by cases q; exact ⟨rfl, rfl⟩) (fun q => by cases q) h)
set_option maxRecDepth 20000 in
set_option maxHeartbeats 4000000 in
theorem e_jn_X8_dearest_33_4 {G : ev_G} {Q : Option ev_V → ev_M → Prop} {mF : ev_m} {R : Option (Int32)} (hR : ∀ x0 : Int32, (some (x0)) = R → Q (some (vi x0)) (ev_emb mF)) (hN : none ≠ R) {i1 : Nat} {x7 : Int32} {x8 : Int32} {kb : Int32 → Int32 → Option (Int32)} {kx : Int32 → Option (Int32)}  (h : jn_X8_dearest_33_4 mF i1 x7 x8 kb kx = R) (hkb : ∀ (x2' : Int32) (x3' : Int32), kb x2' x3' = R → ev_E G K_X8_dearest B_X8_dearest (0, 0) 4 [some (vr 8 (i1)), some (vi (x2')), some (vi (x3'))] [] (ev_emb mF) Q) (hkx : ∀ (x2' : Int32), kx x2' = R → ev_E G K_X8_dearest B_X8_dearest (0, 0) 39 [none, some (vi (x2')), none] [] (ev_emb mF) Q) : ev_E G K_X8_dearest B_X8_dearest (0, 0) 33 [some (vr 8 (i1)), some (vi (x7)), some (vi (x8))] [] (ev_emb mF) Q := by
  unfold jn_X8_dearest_33_4 at h
  refine ev_iinc_2 (pc := 33) (y := x8 + 1) dX8_dearest_33 rfl (by decide) rfl ?_
  refine ev_goto (pc := 36) (tgt := 4) dX8_dearest_36 (by decide) ?_
  exact hkb _ _  h
set_option maxRecDepth 20000 in
set_option maxHeartbeats 4000000 in
theorem e_jn_X8_dearest_31_4 {G : ev_G} {Q : Option ev_V → ev_M → Prop} {mF : ev_m} {R : Option (Int32)} (hR : ∀ x0 : Int32, (some (x0)) = R → Q (some (vi x0)) (ev_emb mF)) (hN : none ≠ R) {i1 : Nat} {x6 : Int32} {kb : Int32 → Int32 → Option (Int32)} {kx : Int32 → Option (Int32)}  (h : jn_X8_dearest_31_4 mF i1 x6 kb kx = R) (hkb : ∀ (x2' : Int32) (x3' : Int32), kb x2' x3' = R → ev_E G K_X8_dearest B_X8_dearest (0, 0) 4 [some (vr 8 (i1)), some (vi (x2')), some (vi (x3'))] [] (ev_emb mF) Q) (hkx : ∀ (x2' : Int32), kx x2' = R → ev_E G K_X8_dearest B_X8_dearest (0, 0) 39 [none, some (vi (x2')), none] [] (ev_emb mF) Q) : ev_E G K_X8_dearest B_X8_dearest (0, 0) 31 [some (vr 8 (i1)), none, some (vi (x6))] [] (ev_emb mF) Q := by
  unfold jn_X8_dearest_31_4 at h
  refine ev_iload_2 (pc := 31) dX8_dearest_31 ?_
  refine ev_istore_1 (pc := 32) dX8_dearest_32 (by decide) rfl ?_
  exact e_jn_X8_dearest_33_4 hR hN h hkb hkx
set_option maxRecDepth 20000 in
set_option maxHeartbeats 4000000 in
theorem e_lp_X8_dearest_4 {G : ev_G} {Q : Option ev_V → ev_M → Prop} {mF : ev_m} {R : Option (Int32)} (hR : ∀ x0 : Int32, (some (x0)) = R → Q (some (vi x0)) (ev_emb mF)) (hN : none ≠ R) {i1 : Nat} : ∀ (f : Nat) (x2 : Int32) (x3 : Int32) (kx : Int32 → Option (Int32)) (h : lp_X8_dearest_4 mF i1 f x2 x3 kx = R) (hk : ∀ (x2' : Int32), kx x2' = R → ev_E G K_X8_dearest B_X8_dearest (0, 0) 39 [none, some (vi (x2')), none] [] (ev_emb mF) Q), ev_E G K_X8_dearest B_X8_dearest (0, 0) 4 [some (vr 8 (i1)), some (vi (x2)), some (vi (x3))] [] (ev_emb mF) Q := by
  intro f
  induction f with
  | zero => intro x2 x3 kx h hk; rw [lp_X8_dearest_4] at h; exact absurd h hN
  | succ f ih =>
    intro x2 x3 kx h hk
    rw [lp_X8_dearest_4] at h
    refine ev_iload_2 (pc := 4) dX8_dearest_4 ?_
    refine ev_aload_0 (pc := 5) dX8_dearest_5 ?_
    refine gt_X8_50 (pc := 6) rfl dX8_dearest_6 ?_
    refine ev_icc_gt (pc := 9) (tgt := 39) dX8_dearest_9 (by decide) (fun c4 => ?_) (fun c4 => ?_)
    · replace h := ev_ifp h c4
      refine ev_E.forget (L' := [none, some (vi (x2)), none]) ⟨rfl, trivial⟩ ?_
      exact hk _  h
    · replace h := ev_ifn h c4
      refine ev_iload_1 (pc := 12) dX8_dearest_12 ?_
      refine ev_iconst (pc := 13) (v := (-1)) dX8_dearest_13 rfl ?_
      refine ev_icc_eq (pc := 14) (tgt := 31) dX8_dearest_14 (by decide) (fun c5 => ?_) (fun c5 => ?_)
      · replace h := ev_ifp h c5
        refine ev_E.forget (L' := [some (vr 8 (i1)), none, some (vi (x3))]) ⟨rfl, ⟨rfl, trivial⟩⟩ ?_
        exact e_jn_X8_dearest_31_4 hR hN h (fun _ _ h => ih _ _ kx h hk) hk
      · replace h := ev_ifn h c5
        refine ev_aload_0 (pc := 17) dX8_dearest_17 ?_
        refine ev_iload_2 (pc := 18) dX8_dearest_18 ?_
        obtain ⟨x9, hx9, h⟩ := ev_bindE hN h
        refine cl1_X8_163 (pc := 19) rfl dX8_dearest_19 (by decide) (Nat.le_of_ble_eq_true rfl) (c_X8_costAt hx9) ?_
        refine ev_aload_0 (pc := 22) dX8_dearest_22 ?_
        refine ev_iload_1 (pc := 23) dX8_dearest_23 ?_
        obtain ⟨x10, hx10, h⟩ := ev_bindE hN h
        refine cl1_X8_163 (pc := 24) rfl dX8_dearest_24 (by decide) (Nat.le_of_ble_eq_true rfl) (c_X8_costAt hx10) ?_
        obtain ⟨x12, hx12, h⟩ := ev_letE h
        have hJ1 : ev_E G K_X8_dearest B_X8_dearest (0, 0) 33 [some (vr 8 (i1)), some (vi (x12)), some (vi (x3))] [] (ev_emb mF) Q := by
          refine ev_iinc_2 (pc := 33) (y := x3 + 1) dX8_dearest_33 rfl (by decide) rfl ?_
          refine ev_goto (pc := 36) (tgt := 4) dX8_dearest_36 (by decide) ?_
          exact ih _ _ kx h hk
        refine ev_lcc_le (pc := 27) (tgt := 33) dX8_dearest_27 dX8_dearest_28 (by decide) (fun c11 => ?_) (fun c11 => ?_)
        · replace hx12 := (hx12.trans (if_neg c11))
          subst hx12
          exact hJ1
        · refine ev_iload_2 (pc := 31) dX8_dearest_31 ?_
          refine ev_istore_1 (pc := 32) dX8_dearest_32 (by decide) rfl ?_
          replace hx12 := (hx12.trans (if_pos c11))
          subst hx12
          exact hJ1
set_option maxRecDepth 20000 in
set_option maxHeartbeats 4000000 in
theorem e_X8_dearest {G : ev_G} {Q : Option ev_V → ev_M → Prop} {R : Option (Int32)} {mF : ev_m} (hR : ∀ x0 : Int32, (some (x0)) = R → Q (some (vi x0)) (ev_emb mF)) (hN : none ≠ R) {i0 : Nat} (h : f_X8_dearest mF i0 = R) : ev_E G K_X8_dearest B_X8_dearest (0, 0) 0 [some (vr 8 (i0)), none, none] [] (ev_emb mF) Q := by
  unfold f_X8_dearest at h
  refine ev_iconst (pc := 0) (v := (-1)) dX8_dearest_0 rfl ?_
  refine ev_istore_1 (pc := 1) dX8_dearest_1 (by decide) rfl ?_
  refine ev_iconst (pc := 2) (v := 1) dX8_dearest_2 rfl ?_
  refine ev_istore_2 (pc := 3) dX8_dearest_3 (by decide) rfl ?_
  refine e_lp_X8_dearest_4 hR hN 4000 _ _ _ h (fun x13 h => ?_)
  refine ev_iload_1 (pc := 39) dX8_dearest_39 ?_
  exact ev_iret (pc := 40) dX8_dearest_40 rfl rfl (hR _ h)
theorem c_X8_dearest {G : ev_G} {mF : ev_m} {i0 : Nat} {r : Int32} (h : f_X8_dearest mF i0 = some r) : ev_CF G K_X8_dearest B_X8_dearest [vr 8 (i0)] mF (some (vi (r))) mF :=
  ev_Ct_of rfl rfl (Nat.le_of_ble_eq_true rfl) (e_X8_dearest (R := some r) (fun x0 q => by cases q; exact ⟨rfl, rfl⟩) (fun q => by cases q) h)
set_option maxRecDepth 20000 in
set_option maxHeartbeats 4000000 in
theorem e_lp_X8_halfway_10 {G : ev_G} {Q : Option ev_V → ev_M → Prop} {mF : ev_m} {R : Option (Int32)} (hR : ∀ x0 : Int32, (some (x0)) = R → Q (some (vi x0)) (ev_emb mF)) (hN : none ≠ R) {i2 : Nat} {y3 : Int64} : ∀ (f : Nat) (y4 : Int64) (x5 : Int32) (kx : Unit → Option (Int32)) (h : lp_X8_halfway_10 mF i2 y3 f y4 x5 kx = R) (hk : ∀ (u0 : Unit), kx u0 = R → ev_E G K_X8_halfway B_X8_halfway (0, 0) 47 [none, none, none, none, none, none] [] (ev_emb mF) Q), ev_E G K_X8_halfway B_X8_halfway (0, 0) 10 [some (vr 8 (i2)), some (vl (y3)), none, some (vl (y4)), none, some (vi (x5))] [] (ev_emb mF) Q := by
  intro f
  induction f with
  | zero => intro y4 x5 kx h hk; rw [lp_X8_halfway_10] at h; exact absurd h hN
  | succ f ih =>
    intro y4 x5 kx h hk
    rw [lp_X8_halfway_10] at h
    refine ev_iload_5 (pc := 10) dX8_halfway_10 ?_
    refine ev_aload_0 (pc := 12) dX8_halfway_12 ?_
    refine gt_X8_50 (pc := 13) rfl dX8_halfway_13 ?_
    refine ev_icc_gt (pc := 16) (tgt := 47) dX8_halfway_16 (by decide) (fun c6 => ?_) (fun c6 => ?_)
    · replace h := ev_ifp h c6
      refine ev_E.forget (L' := [none, none, none, none, none, none]) trivial ?_
      exact hk _  h
    · replace h := ev_ifn h c6
      refine ev_lload_3 (pc := 19) dX8_halfway_19 ?_
      refine ev_aload_0 (pc := 20) dX8_halfway_20 ?_
      refine ev_iload_5 (pc := 21) dX8_halfway_21 ?_
      obtain ⟨x7, hx7, h⟩ := ev_bindE hN h
      refine cl1_X8_163 (pc := 23) rfl dX8_halfway_23 (by decide) (Nat.le_of_ble_eq_true rfl) (c_X8_costAt hx7) ?_
      refine ev_ladd (pc := 26) dX8_halfway_26 ?_
      obtain ⟨y8, hy8, h⟩ := ev_letE h
      refine ev_topl (pc := 27) hy8 ?_
      refine ev_lstore_3 (pc := 27) dX8_halfway_27 (by decide) rfl ?_
      refine ev_ldc2 (pc := 28) (v := 2) kl_X8_178 dX8_halfway_28 ?_
      refine ev_lload_3 (pc := 31) dX8_halfway_31 ?_
      refine ev_lmul (pc := 32) dX8_halfway_32 ?_
      refine ev_lload_1 (pc := 33) dX8_halfway_33 ?_
      refine ev_lcc_lt (pc := 34) (tgt := 41) dX8_halfway_34 dX8_halfway_35 (by decide) (fun c9 => ?_) (fun c9 => ?_)
      · replace h := ev_ifp h c9
        refine ev_iinc_5 (pc := 41) (y := x5 + 1) dX8_halfway_41 rfl (by decide) rfl ?_
        refine ev_goto (pc := 44) (tgt := 10) dX8_halfway_44 (by decide) ?_
        exact ih _ _ kx h hk
      · replace h := ev_ifn h c9
        refine ev_iload_5 (pc := 38) dX8_halfway_38 ?_
        exact ev_iret (pc := 40) dX8_halfway_40 rfl rfl (hR _ h)
set_option maxRecDepth 20000 in
set_option maxHeartbeats 4000000 in
theorem e_X8_halfway {G : ev_G} {Q : Option ev_V → ev_M → Prop} {R : Option (Int32)} {mF : ev_m} (hR : ∀ x0 : Int32, (some (x0)) = R → Q (some (vi x0)) (ev_emb mF)) (hN : none ≠ R) {i0 : Nat} (h : f_X8_halfway mF i0 = R) : ev_E G K_X8_halfway B_X8_halfway (0, 0) 0 [some (vr 8 (i0)), none, none, none, none, none] [] (ev_emb mF) Q := by
  unfold f_X8_halfway at h
  refine ev_aload_0 (pc := 0) dX8_halfway_0 ?_
  obtain ⟨x1, hx1, h⟩ := ev_bindE hN h
  refine cl1_X8_117 (pc := 1) rfl dX8_halfway_1 (by decide) (Nat.le_of_ble_eq_true rfl) (c_X8_cost hx1) ?_
  refine ev_lstore_1 (pc := 4) dX8_halfway_4 (by decide) rfl ?_
  refine ev_lconst (pc := 5) (v := 0) dX8_halfway_5 rfl ?_
  refine ev_lstore_3 (pc := 6) dX8_halfway_6 (by decide) rfl ?_
  refine ev_iconst (pc := 7) (v := 1) dX8_halfway_7 rfl ?_
  refine ev_istore_5 (pc := 8) dX8_halfway_8 (by decide) rfl ?_
  refine e_lp_X8_halfway_10 hR hN 4000 _ _ _ h (fun _ h => ?_)
  refine ev_iconst (pc := 47) (v := (-1)) dX8_halfway_47 rfl ?_
  exact ev_iret (pc := 48) dX8_halfway_48 rfl rfl (hR _ h)
theorem c_X8_halfway {G : ev_G} {mF : ev_m} {i0 : Nat} {r : Int32} (h : f_X8_halfway mF i0 = some r) : ev_CF G K_X8_halfway B_X8_halfway [vr 8 (i0)] mF (some (vi (r))) mF :=
  ev_Ct_of rfl rfl (Nat.le_of_ble_eq_true rfl) (e_X8_halfway (R := some r) (fun x0 q => by cases q; exact ⟨rfl, rfl⟩) (fun q => by cases q) h)
set_option maxRecDepth 20000 in
set_option maxHeartbeats 4000000 in
theorem e_lp_X8_apartFrom_4 {G : ev_G} {Q : Option ev_V → ev_M → Prop} {mF : ev_m} {R : Option (Int32)} (hR : ∀ x0 : Int32, (some (x0)) = R → Q (some (vi x0)) (ev_emb mF)) (hN : none ≠ R) {i1 : Nat} {o2 : Option Nat} : ∀ (f : Nat) (x3 : Int32) (x4 : Int32) (kx : Int32 → Option (Int32)) (h : lp_X8_apartFrom_4 mF i1 o2 f x3 x4 kx = R) (hk : ∀ (x3' : Int32), kx x3' = R → ev_E G K_X8_apartFrom B_X8_apartFrom (0, 0) 47 [none, none, some (vi (x3')), none] [] (ev_emb mF) Q), ev_E G K_X8_apartFrom B_X8_apartFrom (0, 0) 4 [some (vr 8 (i1)), some (vo 5 (o2)), some (vi (x3)), some (vi (x4))] [] (ev_emb mF) Q := by
  intro f
  induction f with
  | zero => intro x3 x4 kx h hk; rw [lp_X8_apartFrom_4] at h; exact absurd h hN
  | succ f ih =>
    intro x3 x4 kx h hk
    rw [lp_X8_apartFrom_4] at h
    refine ev_aload_1 (pc := 4) dX8_apartFrom_4 ?_
    rcases o2 with _ | j5
    · replace h := ev_onN h
      show ev_E G K_X8_apartFrom B_X8_apartFrom (0, 0) 5 [some (vr 8 (i1)), some (vn), some (vi (x3)), some (vi (x4))] [vn] (ev_emb mF) Q
      refine ev_ifnull_n (pc := 5) (tgt := 47) dX8_apartFrom_5 (by decide) ?_
      refine ev_E.forget (L' := [none, none, some (vi (x3)), none]) ⟨rfl, trivial⟩ ?_
      exact hk _  h
    · replace h := ev_onS h
      show ev_E G K_X8_apartFrom B_X8_apartFrom (0, 0) 5 [some (vr 8 (i1)), some (vr 5 (j5)), some (vi (x3)), some (vi (x4))] [vr 5 (j5)] (ev_emb mF) Q
      refine ev_ifnull_r (pc := 5) dX8_apartFrom_5 ?_
      refine ev_iload_3 (pc := 8) dX8_apartFrom_8 ?_
      refine ev_aload_1 (pc := 9) dX8_apartFrom_9 ?_
      refine gt_X8_180 (pc := 10) rfl dX8_apartFrom_10 ?_
      refine ev_icc_ge (pc := 13) (tgt := 47) dX8_apartFrom_13 (by decide) (fun c6 => ?_) (fun c6 => ?_)
      · replace h := ev_ifn h c6
        refine ev_E.forget (L' := [none, none, some (vi (x3)), none]) ⟨rfl, trivial⟩ ?_
        exact hk _  h
      · replace h := ev_ifp h c6
        refine ev_iload_2 (pc := 16) dX8_apartFrom_16 ?_
        refine ev_aload_1 (pc := 17) dX8_apartFrom_17 ?_
        refine gt_X8_185 (pc := 18) rfl dX8_apartFrom_18 ?_
        refine ev_iload_3 (pc := 21) dX8_apartFrom_21 ?_
        refine cl1_X8_77 (pc := 22) rfl dX8_apartFrom_22 (by decide) (Nat.le_of_ble_eq_true rfl) (c_X9_at (r := 15) rfl (by decide)) ?_
        refine ev_aload_0 (pc := 25) dX8_apartFrom_25 ?_
        refine gt_X8_9 (pc := 26) rfl dX8_apartFrom_26 ?_
        refine ev_iload_3 (pc := 29) dX8_apartFrom_29 ?_
        refine ev_iconst (pc := 30) (v := 1) dX8_apartFrom_30 rfl ?_
        refine ev_iadd (pc := 31) dX8_apartFrom_31 ?_
        refine cl1_X8_77 (pc := 32) rfl dX8_apartFrom_32 (by decide) (Nat.le_of_ble_eq_true rfl) (c_X9_at (r := 18) rfl (by decide)) ?_
        refine ev_isub (pc := 35) dX8_apartFrom_35 ?_
        refine ev_mabs (pc := 36) mabs_X8_151 mabs_w (by decide) (Nat.le_of_ble_eq_true rfl) dX8_apartFrom_36 ?_
        refine ev_iadd (pc := 39) dX8_apartFrom_39 ?_
        obtain ⟨x7, hx7, h⟩ := ev_letE h
        refine ev_topi (pc := 40) hx7 ?_
        refine ev_istore_2 (pc := 40) dX8_apartFrom_40 (by decide) rfl ?_
        refine ev_iinc_3 (pc := 41) (y := x4 + 1) dX8_apartFrom_41 rfl (by decide) rfl ?_
        refine ev_goto (pc := 44) (tgt := 4) dX8_apartFrom_44 (by decide) ?_
        exact ih _ _ kx h hk
set_option maxRecDepth 20000 in
set_option maxHeartbeats 4000000 in
theorem e_X8_apartFrom {G : ev_G} {Q : Option ev_V → ev_M → Prop} {R : Option (Int32)} {mF : ev_m} (hR : ∀ x0 : Int32, (some (x0)) = R → Q (some (vi x0)) (ev_emb mF)) (hN : none ≠ R) {i0 : Nat} {o1_ : Option Nat} (h : f_X8_apartFrom mF i0 o1_ = R) : ev_E G K_X8_apartFrom B_X8_apartFrom (0, 0) 0 [some (vr 8 (i0)), some (vo 5 (o1_)), none, none] [] (ev_emb mF) Q := by
  unfold f_X8_apartFrom at h
  refine ev_iconst (pc := 0) (v := 0) dX8_apartFrom_0 rfl ?_
  refine ev_istore_2 (pc := 1) dX8_apartFrom_1 (by decide) rfl ?_
  refine ev_iconst (pc := 2) (v := 0) dX8_apartFrom_2 rfl ?_
  refine ev_istore_3 (pc := 3) dX8_apartFrom_3 (by decide) rfl ?_
  refine e_lp_X8_apartFrom_4 hR hN 4000 _ _ _ h (fun x8 h => ?_)
  refine ev_iload_2 (pc := 47) dX8_apartFrom_47 ?_
  exact ev_iret (pc := 48) dX8_apartFrom_48 rfl rfl (hR _ h)
theorem c_X8_apartFrom {G : ev_G} {mF : ev_m} {i0 : Nat} {o1_ : Option Nat} {r : Int32} (h : f_X8_apartFrom mF i0 o1_ = some r) : ev_CF G K_X8_apartFrom B_X8_apartFrom [vr 8 (i0), vo 5 (o1_)] mF (some (vi (r))) mF :=
  ev_Ct_of rfl rfl (Nat.le_of_ble_eq_true rfl) (e_X8_apartFrom (R := some r) (fun x0 q => by cases q; exact ⟨rfl, rfl⟩) (fun q => by cases q) h)
set_option maxRecDepth 20000 in
set_option maxHeartbeats 4000000 in
theorem e_lp_X8_alikeTo_2 {G : ev_G} {Q : Option ev_V → ev_M → Prop} {mF : ev_m} {R : Option (Int32)} (hR : ∀ x0 : Int32, (some (x0)) = R → Q (some (vi x0)) (ev_emb mF)) (hN : none ≠ R) {i1 : Nat} {o2 : Option Nat} : ∀ (f : Nat) (x3 : Int32) (kx : Int32 → Option (Int32)) (h : lp_X8_alikeTo_2 mF i1 o2 f x3 kx = R) (hk : ∀ (x3' : Int32), kx x3' = R → ev_E G K_X8_alikeTo B_X8_alikeTo (0, 0) 41 [none, none, some (vi (x3'))] [] (ev_emb mF) Q), ev_E G K_X8_alikeTo B_X8_alikeTo (0, 0) 2 [some (vr 8 (i1)), some (vo 5 (o2)), some (vi (x3))] [] (ev_emb mF) Q := by
  intro f
  induction f with
  | zero => intro x3 kx h hk; rw [lp_X8_alikeTo_2] at h; exact absurd h hN
  | succ f ih =>
    intro x3 kx h hk
    rw [lp_X8_alikeTo_2] at h
    refine ev_aload_1 (pc := 2) dX8_alikeTo_2 ?_
    rcases o2 with _ | j4
    · replace h := ev_onN h
      show ev_E G K_X8_alikeTo B_X8_alikeTo (0, 0) 3 [some (vr 8 (i1)), some (vn), some (vi (x3))] [vn] (ev_emb mF) Q
      refine ev_ifnull_n (pc := 3) (tgt := 41) dX8_alikeTo_3 (by decide) ?_
      refine ev_E.forget (L' := [none, none, some (vi (x3))]) ⟨rfl, trivial⟩ ?_
      exact hk _  h
    · replace h := ev_onS h
      show ev_E G K_X8_alikeTo B_X8_alikeTo (0, 0) 3 [some (vr 8 (i1)), some (vr 5 (j4)), some (vi (x3))] [vr 5 (j4)] (ev_emb mF) Q
      refine ev_ifnull_r (pc := 3) dX8_alikeTo_3 ?_
      refine ev_iload_2 (pc := 6) dX8_alikeTo_6 ?_
      refine ev_aload_1 (pc := 7) dX8_alikeTo_7 ?_
      refine gt_X8_180 (pc := 8) rfl dX8_alikeTo_8 ?_
      refine ev_icc_ge (pc := 11) (tgt := 41) dX8_alikeTo_11 (by decide) (fun c5 => ?_) (fun c5 => ?_)
      · replace h := ev_ifn h c5
        refine ev_E.forget (L' := [none, none, some (vi (x3))]) ⟨rfl, trivial⟩ ?_
        exact hk _  h
      · replace h := ev_ifp h c5
        refine ev_aload_1 (pc := 14) dX8_alikeTo_14 ?_
        refine gt_X8_185 (pc := 15) rfl dX8_alikeTo_15 ?_
        refine ev_iload_2 (pc := 18) dX8_alikeTo_18 ?_
        refine cl1_X8_77 (pc := 19) rfl dX8_alikeTo_19 (by decide) (Nat.le_of_ble_eq_true rfl) (c_X9_at (r := 15) rfl (by decide)) ?_
        refine ev_aload_0 (pc := 22) dX8_alikeTo_22 ?_
        refine gt_X8_9 (pc := 23) rfl dX8_alikeTo_23 ?_
        refine ev_iload_2 (pc := 26) dX8_alikeTo_26 ?_
        refine ev_iconst (pc := 27) (v := 1) dX8_alikeTo_27 rfl ?_
        refine ev_iadd (pc := 28) dX8_alikeTo_28 ?_
        refine cl1_X8_77 (pc := 29) rfl dX8_alikeTo_29 (by decide) (Nat.le_of_ble_eq_true rfl) (c_X9_at (r := 18) rfl (by decide)) ?_
        refine ev_icc_ne (pc := 32) (tgt := 41) dX8_alikeTo_32 (by decide) (fun c6 => ?_) (fun c6 => ?_)
        · replace h := ev_ifn h c6
          refine ev_E.forget (L' := [none, none, some (vi (x3))]) ⟨rfl, trivial⟩ ?_
          exact hk _  h
        · replace h := ev_ifp h c6
          refine ev_iinc_2 (pc := 35) (y := x3 + 1) dX8_alikeTo_35 rfl (by decide) rfl ?_
          refine ev_goto (pc := 38) (tgt := 2) dX8_alikeTo_38 (by decide) ?_
          exact ih _ kx h hk
set_option maxRecDepth 20000 in
set_option maxHeartbeats 4000000 in
theorem e_X8_alikeTo {G : ev_G} {Q : Option ev_V → ev_M → Prop} {R : Option (Int32)} {mF : ev_m} (hR : ∀ x0 : Int32, (some (x0)) = R → Q (some (vi x0)) (ev_emb mF)) (hN : none ≠ R) {i0 : Nat} {o1_ : Option Nat} (h : f_X8_alikeTo mF i0 o1_ = R) : ev_E G K_X8_alikeTo B_X8_alikeTo (0, 0) 0 [some (vr 8 (i0)), some (vo 5 (o1_)), none] [] (ev_emb mF) Q := by
  unfold f_X8_alikeTo at h
  refine ev_iconst (pc := 0) (v := 0) dX8_alikeTo_0 rfl ?_
  refine ev_istore_2 (pc := 1) dX8_alikeTo_1 (by decide) rfl ?_
  refine e_lp_X8_alikeTo_2 hR hN 4000 _ _ h (fun x7 h => ?_)
  refine ev_iload_2 (pc := 41) dX8_alikeTo_41 ?_
  exact ev_iret (pc := 42) dX8_alikeTo_42 rfl rfl (hR _ h)
theorem c_X8_alikeTo {G : ev_G} {mF : ev_m} {i0 : Nat} {o1_ : Option Nat} {r : Int32} (h : f_X8_alikeTo mF i0 o1_ = some r) : ev_CF G K_X8_alikeTo B_X8_alikeTo [vr 8 (i0), vo 5 (o1_)] mF (some (vi (r))) mF :=
  ev_Ct_of rfl rfl (Nat.le_of_ble_eq_true rfl) (e_X8_alikeTo (R := some r) (fun x0 q => by cases q; exact ⟨rfl, rfl⟩) (fun q => by cases q) h)
set_option maxRecDepth 20000 in
set_option maxHeartbeats 4000000 in
theorem e_X9_feed {G : ev_G} {Q : Option ev_V → ev_M → Prop} {R : Option (Int32 × ev_m)} {mF : ev_m} (hR : ∀ (x0 : Int32) (m0 : ev_m), (some ((x0, m0))) = R → Q (some (vi x0)) (ev_emb m0)) (hN : none ≠ R) {i0 : Nat} {x1_ : Int32} {x2_ : Int32} {x3_ : Int32} {x4_ : Int32} {x5_ : Int32} (h : f_X9_feed mF i0 x1_ x2_ x3_ x4_ x5_ = R) : ev_E G K_X9_feed B_X9_feed (0, 0) 0 [some (vr 0 (i0)), some (vi (x1_)), some (vi (x2_)), some (vi (x3_)), some (vi (x4_)), some (vi (x5_)), none] [] (ev_emb mF) Q := by
  unfold f_X9_feed at h
  refine ev_aload_0 (pc := 0) dX9_feed_0 ?_
  refine gt_X9_10 (pc := 1) rfl dX9_feed_1 ?_
  refine gt_X9_52 (pc := 4) rfl dX9_feed_4 ?_
  refine ev_astore_6 (pc := 7) dX9_feed_7 (by decide) rfl ?_
  refine ev_aload_6 (pc := 9) dX9_feed_9 ?_
  refine gt_X9_56 (pc := 11) rfl dX9_feed_11 ?_
  refine ev_sipush (pc := 14) (v := 580) dX9_feed_14 (by decide) ?_
  refine ev_icc_le (pc := 17) (tgt := 22) dX9_feed_17 (by decide) (fun c1 => ?_) (fun c1 => ?_)
  · replace h := ev_ifn h c1
    refine ev_aload_6 (pc := 22) dX9_feed_22 ?_
    refine ev_iload_1 (pc := 24) dX9_feed_24 ?_
    obtain ⟨m2, hm2, h⟩ := ev_bindE hN h
    refine cl0_X9_62 (pc := 25) rfl dX9_feed_25 (by decide) (Nat.le_of_ble_eq_true rfl) (c_X6_addWord hm2) ?_
    refine ev_aload_6 (pc := 28) dX9_feed_28 ?_
    refine ev_iload_2 (pc := 30) dX9_feed_30 ?_
    obtain ⟨m3, hm3, h⟩ := ev_bindE hN h
    refine cl0_X9_62 (pc := 31) rfl dX9_feed_31 (by decide) (Nat.le_of_ble_eq_true rfl) (c_X6_addWord hm3) ?_
    refine ev_aload_6 (pc := 34) dX9_feed_34 ?_
    refine ev_iload_3 (pc := 36) dX9_feed_36 ?_
    obtain ⟨m4, hm4, h⟩ := ev_bindE hN h
    refine cl0_X9_62 (pc := 37) rfl dX9_feed_37 (by decide) (Nat.le_of_ble_eq_true rfl) (c_X6_addWord hm4) ?_
    refine ev_aload_6 (pc := 40) dX9_feed_40 ?_
    refine ev_iload_4 (pc := 42) dX9_feed_42 ?_
    obtain ⟨m5, hm5, h⟩ := ev_bindE hN h
    refine cl0_X9_62 (pc := 44) rfl dX9_feed_44 (by decide) (Nat.le_of_ble_eq_true rfl) (c_X6_addWord hm5) ?_
    refine ev_aload_6 (pc := 47) dX9_feed_47 ?_
    refine ev_iload_5 (pc := 49) dX9_feed_49 ?_
    obtain ⟨m6, hm6, h⟩ := ev_bindE hN h
    refine cl0_X9_62 (pc := 51) rfl dX9_feed_51 (by decide) (Nat.le_of_ble_eq_true rfl) (c_X6_addWord hm6) ?_
    refine ev_aload_6 (pc := 54) dX9_feed_54 ?_
    refine gt_X9_56 (pc := 56) rfl dX9_feed_56 ?_
    exact ev_iret (pc := 59) dX9_feed_59 rfl rfl (hR _ _ h)
  · replace h := ev_ifp h c1
    refine ev_iconst (pc := 20) (v := (-1)) dX9_feed_20 rfl ?_
    exact ev_iret (pc := 21) dX9_feed_21 rfl rfl (hR _ _ h)
theorem c_X9_feed {G : ev_G} {mF : ev_m} {i0 : Nat} {x1_ : Int32} {x2_ : Int32} {x3_ : Int32} {x4_ : Int32} {x5_ : Int32} {r : Int32 × ev_m} (h : f_X9_feed mF i0 x1_ x2_ x3_ x4_ x5_ = some r) : ev_CF G K_X9_feed B_X9_feed [vr 0 (i0), vi (x1_), vi (x2_), vi (x3_), vi (x4_), vi (x5_)] mF (some (vi (r.1))) r.2 :=
  ev_Ct_of rfl rfl (Nat.le_of_ble_eq_true rfl) (e_X9_feed (R := some r) (fun x0 m0 q => by cases q; exact ⟨rfl, rfl⟩) (fun q => by cases q) h)
set_option maxRecDepth 20000 in
set_option maxHeartbeats 4000000 in
theorem e_X9_end {G : ev_G} {Q : Option ev_V → ev_M → Prop} {R : Int32 × ev_m} {mF : ev_m} (hR : ∀ (x0 : Int32) (m0 : ev_m), (x0, m0) = R → Q (some (vi x0)) (ev_emb m0)) {i0 : Nat} {x1_ : Int32} (h : s_X9_end mF i0 x1_ = R) : ev_E G K_X9_end B_X9_end (0, 0) 0 [some (vr 0 (i0)), some (vi (x1_))] [] (ev_emb mF) Q := by
  unfold s_X9_end at h
  refine ev_iload_1 (pc := 0) dX9_end_0 ?_
  refine ev_ifc_lt (pc := 1) (tgt := 18) dX9_end_1 (by decide) (fun c1 => ?_) (fun c1 => ?_)
  · replace h := ev_ifp h c1
    refine ev_iconst (pc := 18) (v := (-1)) dX9_end_18 rfl ?_
    exact ev_iret (pc := 19) dX9_end_19 rfl rfl (hR _ _ h)
  · replace h := ev_ifn h c1
    refine ev_iload_1 (pc := 4) dX9_end_4 ?_
    refine ev_aload_0 (pc := 5) dX9_end_5 ?_
    refine gt_X9_10 (pc := 6) rfl dX9_end_6 ?_
    refine gt_X9_52 (pc := 9) rfl dX9_end_9 ?_
    refine gt_X9_56 (pc := 12) rfl dX9_end_12 ?_
    refine ev_icc_le (pc := 15) (tgt := 20) dX9_end_15 (by decide) (fun c2 => ?_) (fun c2 => ?_)
    · replace h := ev_ifn h c2
      refine ev_aload_0 (pc := 20) dX9_end_20 ?_
      refine gt_X9_10 (pc := 21) rfl dX9_end_21 ?_
      refine gt_X9_52 (pc := 24) rfl dX9_end_24 ?_
      refine ev_iload_1 (pc := 27) dX9_end_27 ?_
      obtain ⟨m3, hm3, h⟩ := ev_letE h
      refine pt_X9_56 (pc := 28) rfl dX9_end_28 ?_
      refine ev_mem (pc := 31) hm3 ?_
      refine ev_iload_1 (pc := 31) dX9_end_31 ?_
      exact ev_iret (pc := 32) dX9_end_32 rfl rfl (hR _ _ h)
    · replace h := ev_ifp h c2
      refine ev_iconst (pc := 18) (v := (-1)) dX9_end_18 rfl ?_
      exact ev_iret (pc := 19) dX9_end_19 rfl rfl (hR _ _ h)
theorem c_X9_end {G : ev_G} (mF : ev_m) (i0 : Nat) (x1_ : Int32) : ev_CF G K_X9_end B_X9_end [vr 0 (i0), vi (x1_)] mF (some (vi ((s_X9_end mF i0 x1_).1))) (s_X9_end mF i0 x1_).2 :=
  ev_Ct_of rfl rfl (Nat.le_of_ble_eq_true rfl) (e_X9_end (R := s_X9_end mF i0 x1_) (fun x0 m0 q => ⟨by rw [← q], by rw [← q]⟩) rfl)
set_option maxRecDepth 20000 in
set_option maxHeartbeats 4000000 in
theorem e_X9_text {G : ev_G} {Q : Option ev_V → ev_M → Prop} {R : Option (Int32 × ev_m)} {mF : ev_m} (hR : ∀ (x0 : Int32) (m0 : ev_m), (some ((x0, m0))) = R → Q (some (vi x0)) (ev_emb m0)) (hN : none ≠ R) {i0 : Nat} {x1_ : Int32} {x2_ : Int32} (h : f_X9_text mF i0 x1_ x2_ = R) : ev_E G K_X9_text B_X9_text (0, 0) 0 [some (vr 0 (i0)), some (vi (x1_)), some (vi (x2_)), none] [] (ev_emb mF) Q := by
  unfold f_X9_text at h
  refine ev_aload_0 (pc := 0) dX9_text_0 ?_
  refine gt_X9_10 (pc := 1) rfl dX9_text_1 ?_
  refine ev_iload_1 (pc := 4) dX9_text_4 ?_
  refine ev_iload_2 (pc := 5) dX9_text_5 ?_
  refine cl1_X9_66 (pc := 6) rfl dX9_text_6 (by decide) (Nat.le_of_ble_eq_true rfl) (c_X0_placeFor mF 0 x1_ x2_) ?_
  obtain ⟨x1, hx1, h⟩ := ev_letE h
  refine ev_topi (pc := 9) hx1 ?_
  refine ev_istore_3 (pc := 9) dX9_text_9 (by decide) rfl ?_
  refine ev_iload_3 (pc := 10) dX9_text_10 ?_
  refine ev_bipush (pc := 11) (v := (-2)) dX9_text_11 (by decide) ?_
  refine ev_icc_ne (pc := 13) (tgt := 46) dX9_text_13 (by decide) (fun c2 => ?_) (fun c2 => ?_)
  · replace h := ev_ifn h c2
    refine ev_aload_0 (pc := 46) dX9_text_46 ?_
    refine gt_X9_27 (pc := 47) rfl dX9_text_47 ?_
    refine ev_iload_1 (pc := 50) dX9_text_50 ?_
    refine ev_aload_0 (pc := 51) dX9_text_51 ?_
    refine gt_X9_10 (pc := 52) rfl dX9_text_52 ?_
    refine gt_X9_52 (pc := 55) rfl dX9_text_55 ?_
    obtain ⟨m3, hm3, h⟩ := ev_bindE hN h
    refine cl0_X9_76 (pc := 58) rfl dX9_text_58 (by decide) (Nat.le_of_ble_eq_true rfl) (c_X4_take hm3) ?_
    refine ev_aload_0 (pc := 61) dX9_text_61 ?_
    refine gt_X9_10 (pc := 62) rfl dX9_text_62 ?_
    refine gt_X9_52 (pc := 65) rfl dX9_text_65 ?_
    refine ev_iconst (pc := 68) (v := 0) dX9_text_68 rfl ?_
    obtain ⟨m4, hm4, h⟩ := ev_letE h
    refine pt_X9_56 (pc := 69) rfl dX9_text_69 ?_
    refine ev_mem (pc := 72) hm4 ?_
    refine ev_aload_0 (pc := 72) dX9_text_72 ?_
    refine gt_X9_10 (pc := 73) rfl dX9_text_73 ?_
    refine ev_aload_0 (pc := 76) dX9_text_76 ?_
    refine gt_X9_27 (pc := 77) rfl dX9_text_77 ?_
    refine gt_X9_80 (pc := 80) rfl dX9_text_80 ?_
    obtain ⟨m5, hm5, h⟩ := ev_letE h
    refine pt_X9_70 (pc := 83) rfl dX9_text_83 ?_
    refine ev_mem (pc := 86) hm5 ?_
    refine ev_aload_0 (pc := 86) dX9_text_86 ?_
    refine gt_X9_10 (pc := 87) rfl dX9_text_87 ?_
    refine ev_aload_0 (pc := 90) dX9_text_90 ?_
    refine gt_X9_27 (pc := 91) rfl dX9_text_91 ?_
    refine gt_X9_81 (pc := 94) rfl dX9_text_94 ?_
    obtain ⟨m6, hm6, h⟩ := ev_letE h
    refine pt_X9_73 (pc := 97) rfl dX9_text_97 ?_
    refine ev_mem (pc := 100) hm6 ?_
    refine ev_aload_0 (pc := 100) dX9_text_100 ?_
    refine gt_X9_27 (pc := 101) rfl dX9_text_101 ?_
    refine gt_X9_80 (pc := 104) rfl dX9_text_104 ?_
    refine ev_ifc_eq (pc := 107) (tgt := 112) dX9_text_107 (by decide) (fun c7 => ?_) (fun c7 => ?_)
    · replace h := ev_ifp h c7
      refine ev_aload_0 (pc := 112) dX9_text_112 ?_
      refine gt_X9_10 (pc := 113) rfl dX9_text_113 ?_
      refine ev_iload_1 (pc := 116) dX9_text_116 ?_
      refine ev_iload_3 (pc := 117) dX9_text_117 ?_
      refine ev_aload_0 (pc := 118) dX9_text_118 ?_
      refine gt_X9_27 (pc := 119) rfl dX9_text_119 ?_
      obtain ⟨m8, hm8, h⟩ := ev_bindE hN h
      refine cl0_X9_82 (pc := 122) rfl dX9_text_122 (by decide) (Nat.le_of_ble_eq_true rfl) (c_X0_keep hm8) ?_
      refine ev_iload_3 (pc := 125) dX9_text_125 ?_
      exact ev_iret (pc := 126) dX9_text_126 rfl rfl (hR _ _ h)
    · replace h := ev_ifn h c7
      refine ev_iconst (pc := 110) (v := (-1)) dX9_text_110 rfl ?_
      exact ev_iret (pc := 111) dX9_text_111 rfl rfl (hR _ _ h)
  · replace h := ev_ifp h c2
    refine ev_aload_0 (pc := 16) dX9_text_16 ?_
    refine gt_X9_10 (pc := 17) rfl dX9_text_17 ?_
    refine gt_X9_52 (pc := 20) rfl dX9_text_20 ?_
    refine ev_iconst (pc := 23) (v := 0) dX9_text_23 rfl ?_
    obtain ⟨m9, hm9, h⟩ := ev_letE h
    refine pt_X9_56 (pc := 24) rfl dX9_text_24 ?_
    refine ev_mem (pc := 27) hm9 ?_
    refine ev_aload_0 (pc := 27) dX9_text_27 ?_
    refine gt_X9_10 (pc := 28) rfl dX9_text_28 ?_
    refine ev_iconst (pc := 31) (v := 0) dX9_text_31 rfl ?_
    obtain ⟨m10, hm10, h⟩ := ev_letE h
    refine pt_X9_70 (pc := 32) rfl dX9_text_32 ?_
    refine ev_mem (pc := 35) hm10 ?_
    refine ev_aload_0 (pc := 35) dX9_text_35 ?_
    refine gt_X9_10 (pc := 36) rfl dX9_text_36 ?_
    refine ev_iconst (pc := 39) (v := (-1)) dX9_text_39 rfl ?_
    obtain ⟨m11, hm11, h⟩ := ev_letE h
    refine pt_X9_73 (pc := 40) rfl dX9_text_40 ?_
    refine ev_mem (pc := 43) hm11 ?_
    refine ev_bipush (pc := 43) (v := (-2)) dX9_text_43 (by decide) ?_
    exact ev_iret (pc := 45) dX9_text_45 rfl rfl (hR _ _ h)
theorem c_X9_text {G : ev_G} {mF : ev_m} {i0 : Nat} {x1_ : Int32} {x2_ : Int32} {r : Int32 × ev_m} (h : f_X9_text mF i0 x1_ x2_ = some r) : ev_CF G K_X9_text B_X9_text [vr 0 (i0), vi (x1_), vi (x2_)] mF (some (vi (r.1))) r.2 :=
  ev_Ct_of rfl rfl (Nat.le_of_ble_eq_true rfl) (e_X9_text (R := some r) (fun x0 m0 q => by cases q; exact ⟨rfl, rfl⟩) (fun q => by cases q) h)
set_option maxRecDepth 20000 in
set_option maxHeartbeats 4000000 in
theorem e_X9_fault {G : ev_G} {Q : Option ev_V → ev_M → Prop} {R : Int32} {mF : ev_m} (hR : ∀ x0 : Int32, x0 = R → Q (some (vi x0)) (ev_emb mF)) {i0 : Nat} {x1_ : Int32} (h : s_X9_fault mF i0 x1_ = R) : ev_E G K_X9_fault B_X9_fault (0, 0) 0 [some (vr 0 (i0)), some (vi (x1_))] [] (ev_emb mF) Q := by
  unfold s_X9_fault at h
  refine ev_iload_1 (pc := 0) dX9_fault_0 ?_
  refine ev_ifc_ne (pc := 1) (tgt := 14) dX9_fault_1 (by decide) (fun c1 => ?_) (fun c1 => ?_)
  · replace h := ev_ifn h c1
    refine ev_iload_1 (pc := 14) dX9_fault_14 ?_
    refine ev_iconst (pc := 15) (v := 1) dX9_fault_15 rfl ?_
    refine ev_icc_ne (pc := 16) (tgt := 29) dX9_fault_16 (by decide) (fun c2 => ?_) (fun c2 => ?_)
    · replace h := ev_ifn h c2
      refine ev_iconst (pc := 29) (v := (-1)) dX9_fault_29 rfl ?_
      exact ev_iret (pc := 30) dX9_fault_30 rfl rfl (hR _ h)
    · replace h := ev_ifp h c2
      refine ev_aload_0 (pc := 19) dX9_fault_19 ?_
      refine gt_X9_10 (pc := 20) rfl dX9_fault_20 ?_
      refine gt_X9_73 (pc := 23) rfl dX9_fault_23 ?_
      refine ev_goto (pc := 26) (tgt := 30) dX9_fault_26 (by decide) ?_
      exact ev_iret (pc := 30) dX9_fault_30 rfl rfl (hR _ h)
  · replace h := ev_ifp h c1
    refine ev_aload_0 (pc := 4) dX9_fault_4 ?_
    refine gt_X9_10 (pc := 5) rfl dX9_fault_5 ?_
    refine gt_X9_70 (pc := 8) rfl dX9_fault_8 ?_
    refine ev_goto (pc := 11) (tgt := 30) dX9_fault_11 (by decide) ?_
    exact ev_iret (pc := 30) dX9_fault_30 rfl rfl (hR _ h)
theorem c_X9_fault {G : ev_G} (mF : ev_m) (i0 : Nat) (x1_ : Int32) : ev_CF G K_X9_fault B_X9_fault [vr 0 (i0), vi (x1_)] mF (some (vi (s_X9_fault mF i0 x1_))) mF :=
  ev_Ct_of rfl rfl (Nat.le_of_ble_eq_true rfl) (e_X9_fault (R := s_X9_fault mF i0 x1_) (fun x0 q => ⟨by rw [← q], rfl⟩) rfl)
set_option maxRecDepth 20000 in
set_option maxHeartbeats 4000000 in
theorem e_X9_ship {G : ev_G} {Q : Option ev_V → ev_M → Prop} {R : Option (Int32)} {mF : ev_m} (hR : ∀ x0 : Int32, (some (x0)) = R → Q (some (vi x0)) (ev_emb mF)) (hN : none ≠ R) {i0 : Nat} {x1_ : Int32} {x2_ : Int32} (h : f_X9_ship mF i0 x1_ x2_ = R) : ev_E G K_X9_ship B_X9_ship (0, 0) 0 [some (vr 0 (i0)), some (vi (x1_)), some (vi (x2_)), none] [] (ev_emb mF) Q := by
  unfold f_X9_ship at h
  refine ev_aload_0 (pc := 0) dX9_ship_0 ?_
  refine gt_X9_10 (pc := 1) rfl dX9_ship_1 ?_
  refine ev_iload_1 (pc := 4) dX9_ship_4 ?_
  obtain ⟨x1, hx1, h⟩ := ev_bindE hN h
  refine cl1_X9_86 (pc := 5) rfl dX9_ship_5 (by decide) (Nat.le_of_ble_eq_true rfl) (c_X0_shipAt hx1) ?_
  refine ev_astore_3 (pc := 8) dX9_ship_8 (by decide) rfl ?_
  refine ev_aload_3 (pc := 9) dX9_ship_9 ?_
  rcases x1 with _ | j2
  · replace h := ev_onN h
    show ev_E G K_X9_ship B_X9_ship (0, 0) 10 [some (vr 0 (i0)), some (vi (x1_)), some (vi (x2_)), some (vn)] [vn] (ev_emb mF) Q
    refine ev_ifnonnull_n (pc := 10) dX9_ship_10 ?_
    refine ev_ldc (pc := 13) (v := (-100000)) kc_X9_90 dX9_ship_13 ?_
    refine ev_goto (pc := 15) (tgt := 23) dX9_ship_15 (by decide) ?_
    exact ev_iret (pc := 23) dX9_ship_23 rfl rfl (hR _ h)
  · replace h := ev_onS h
    show ev_E G K_X9_ship B_X9_ship (0, 0) 10 [some (vr 0 (i0)), some (vi (x1_)), some (vi (x2_)), some (vr 3 (j2))] [vr 3 (j2)] (ev_emb mF) Q
    refine ev_ifnonnull_r (pc := 10) (tgt := 18) dX9_ship_10 (by decide) ?_
    refine ev_aload_3 (pc := 18) dX9_ship_18 ?_
    refine ev_iload_2 (pc := 19) dX9_ship_19 ?_
    refine cl1_X9_91 (pc := 20) rfl dX9_ship_20 (by decide) (Nat.le_of_ble_eq_true rfl) (c_X5_look mF j2 x2_) ?_
    exact ev_iret (pc := 23) dX9_ship_23 rfl rfl (hR _ h)
theorem c_X9_ship {G : ev_G} {mF : ev_m} {i0 : Nat} {x1_ : Int32} {x2_ : Int32} {r : Int32} (h : f_X9_ship mF i0 x1_ x2_ = some r) : ev_CF G K_X9_ship B_X9_ship [vr 0 (i0), vi (x1_), vi (x2_)] mF (some (vi (r))) mF :=
  ev_Ct_of rfl rfl (Nat.le_of_ble_eq_true rfl) (e_X9_ship (R := some r) (fun x0 q => by cases q; exact ⟨rfl, rfl⟩) (fun q => by cases q) h)
set_option maxRecDepth 20000 in
set_option maxHeartbeats 4000000 in
theorem e_X9_hand {G : ev_G} {Q : Option ev_V → ev_M → Prop} {R : Option (Int32)} {mF : ev_m} (hR : ∀ x0 : Int32, (some (x0)) = R → Q (some (vi x0)) (ev_emb mF)) (hN : none ≠ R) {i0 : Nat} {x1_ : Int32} {x2_ : Int32} (h : f_X9_hand mF i0 x1_ x2_ = R) : ev_E G K_X9_hand B_X9_hand (0, 0) 0 [some (vr 0 (i0)), some (vi (x1_)), some (vi (x2_)), none] [] (ev_emb mF) Q := by
  unfold f_X9_hand at h
  refine ev_aload_0 (pc := 0) dX9_hand_0 ?_
  refine gt_X9_10 (pc := 1) rfl dX9_hand_1 ?_
  refine ev_iload_1 (pc := 4) dX9_hand_4 ?_
  obtain ⟨x1, hx1, h⟩ := ev_bindE hN h
  refine cl1_X9_95 (pc := 5) rfl dX9_hand_5 (by decide) (Nat.le_of_ble_eq_true rfl) (c_X0_handAt hx1) ?_
  refine ev_astore_3 (pc := 8) dX9_hand_8 (by decide) rfl ?_
  refine ev_aload_3 (pc := 9) dX9_hand_9 ?_
  rcases x1 with _ | j2
  · replace h := ev_onN h
    show ev_E G K_X9_hand B_X9_hand (0, 0) 10 [some (vr 0 (i0)), some (vi (x1_)), some (vi (x2_)), some (vn)] [vn] (ev_emb mF) Q
    refine ev_ifnonnull_n (pc := 10) dX9_hand_10 ?_
    refine ev_iconst (pc := 13) (v := (-1)) dX9_hand_13 rfl ?_
    refine ev_goto (pc := 14) (tgt := 22) dX9_hand_14 (by decide) ?_
    exact ev_iret (pc := 22) dX9_hand_22 rfl rfl (hR _ h)
  · replace h := ev_onS h
    show ev_E G K_X9_hand B_X9_hand (0, 0) 10 [some (vr 0 (i0)), some (vi (x1_)), some (vi (x2_)), some (vr 4 (j2))] [vr 4 (j2)] (ev_emb mF) Q
    refine ev_ifnonnull_r (pc := 10) (tgt := 17) dX9_hand_10 (by decide) ?_
    refine ev_aload_3 (pc := 17) dX9_hand_17 ?_
    refine ev_iload_2 (pc := 18) dX9_hand_18 ?_
    refine cl1_X9_99 (pc := 19) rfl dX9_hand_19 (by decide) (Nat.le_of_ble_eq_true rfl) (c_X1_look mF j2 x2_) ?_
    exact ev_iret (pc := 22) dX9_hand_22 rfl rfl (hR _ h)
theorem c_X9_hand {G : ev_G} {mF : ev_m} {i0 : Nat} {x1_ : Int32} {x2_ : Int32} {r : Int32} (h : f_X9_hand mF i0 x1_ x2_ = some r) : ev_CF G K_X9_hand B_X9_hand [vr 0 (i0), vi (x1_), vi (x2_)] mF (some (vi (r))) mF :=
  ev_Ct_of rfl rfl (Nat.le_of_ble_eq_true rfl) (e_X9_hand (R := some r) (fun x0 q => by cases q; exact ⟨rfl, rfl⟩) (fun q => by cases q) h)
set_option maxRecDepth 20000 in
set_option maxHeartbeats 4000000 in
theorem e_X9_paper {G : ev_G} {Q : Option ev_V → ev_M → Prop} {R : Option (Int32)} {mF : ev_m} (hR : ∀ x0 : Int32, (some (x0)) = R → Q (some (vi x0)) (ev_emb mF)) (hN : none ≠ R) {i0 : Nat} {x1_ : Int32} {x2_ : Int32} (h : f_X9_paper mF i0 x1_ x2_ = R) : ev_E G K_X9_paper B_X9_paper (0, 0) 0 [some (vr 0 (i0)), some (vi (x1_)), some (vi (x2_)), none] [] (ev_emb mF) Q := by
  unfold f_X9_paper at h
  refine ev_aload_0 (pc := 0) dX9_paper_0 ?_
  refine gt_X9_10 (pc := 1) rfl dX9_paper_1 ?_
  refine ev_iload_1 (pc := 4) dX9_paper_4 ?_
  obtain ⟨x1, hx1, h⟩ := ev_bindE hN h
  refine cl1_X9_100 (pc := 5) rfl dX9_paper_5 (by decide) (Nat.le_of_ble_eq_true rfl) (c_X0_paperAt hx1) ?_
  refine ev_astore_3 (pc := 8) dX9_paper_8 (by decide) rfl ?_
  refine ev_aload_3 (pc := 9) dX9_paper_9 ?_
  rcases x1 with _ | j2
  · replace h := ev_onN h
    show ev_E G K_X9_paper B_X9_paper (0, 0) 10 [some (vr 0 (i0)), some (vi (x1_)), some (vi (x2_)), some (vn)] [vn] (ev_emb mF) Q
    refine ev_ifnull_n (pc := 10) (tgt := 26) dX9_paper_10 (by decide) ?_
    refine ev_ldc (pc := 26) (v := (-100000)) kc_X9_90 dX9_paper_26 ?_
    exact ev_iret (pc := 28) dX9_paper_28 rfl rfl (hR _ h)
  · replace h := ev_onS h
    show ev_E G K_X9_paper B_X9_paper (0, 0) 10 [some (vr 0 (i0)), some (vi (x1_)), some (vi (x2_)), some (vr 5 (j2))] [vr 5 (j2)] (ev_emb mF) Q
    refine ev_ifnull_r (pc := 10) dX9_paper_10 ?_
    refine ev_iload_2 (pc := 13) dX9_paper_13 ?_
    refine ev_iconst (pc := 14) (v := (-1)) dX9_paper_14 rfl ?_
    refine ev_icc_lt (pc := 15) (tgt := 26) dX9_paper_15 (by decide) (fun c3 => ?_) (fun c3 => ?_)
    · replace h := ev_ifp h c3
      refine ev_ldc (pc := 26) (v := (-100000)) kc_X9_90 dX9_paper_26 ?_
      exact ev_iret (pc := 28) dX9_paper_28 rfl rfl (hR _ h)
    · replace h := ev_ifn h c3
      refine ev_iload_2 (pc := 18) dX9_paper_18 ?_
      refine ev_aload_3 (pc := 19) dX9_paper_19 ?_
      refine gt_X9_104 (pc := 20) rfl dX9_paper_20 ?_
      refine ev_icc_lt (pc := 23) (tgt := 29) dX9_paper_23 (by decide) (fun c4 => ?_) (fun c4 => ?_)
      · replace h := ev_ifp h c4
        refine ev_iload_2 (pc := 29) dX9_paper_29 ?_
        refine ev_iconst (pc := 30) (v := (-1)) dX9_paper_30 rfl ?_
        refine ev_icc_ne (pc := 31) (tgt := 41) dX9_paper_31 (by decide) (fun c5 => ?_) (fun c5 => ?_)
        · replace h := ev_ifn h c5
          refine ev_aload_3 (pc := 41) dX9_paper_41 ?_
          refine gt_X9_109 (pc := 42) rfl dX9_paper_42 ?_
          refine ev_iload_2 (pc := 45) dX9_paper_45 ?_
          refine cl1_X9_113 (pc := 46) rfl dX9_paper_46 (by decide) (Nat.le_of_ble_eq_true rfl) (c_X9_at (r := 15) rfl (by decide)) ?_
          exact ev_iret (pc := 49) dX9_paper_49 rfl rfl (hR _ h)
        · replace h := ev_ifp h c5
          refine ev_aload_3 (pc := 34) dX9_paper_34 ?_
          refine gt_X9_104 (pc := 35) rfl dX9_paper_35 ?_
          refine ev_goto (pc := 38) (tgt := 49) dX9_paper_38 (by decide) ?_
          exact ev_iret (pc := 49) dX9_paper_49 rfl rfl (hR _ h)
      · replace h := ev_ifn h c4
        refine ev_ldc (pc := 26) (v := (-100000)) kc_X9_90 dX9_paper_26 ?_
        exact ev_iret (pc := 28) dX9_paper_28 rfl rfl (hR _ h)
theorem c_X9_paper {G : ev_G} {mF : ev_m} {i0 : Nat} {x1_ : Int32} {x2_ : Int32} {r : Int32} (h : f_X9_paper mF i0 x1_ x2_ = some r) : ev_CF G K_X9_paper B_X9_paper [vr 0 (i0), vi (x1_), vi (x2_)] mF (some (vi (r))) mF :=
  ev_Ct_of rfl rfl (Nat.le_of_ble_eq_true rfl) (e_X9_paper (R := some r) (fun x0 q => by cases q; exact ⟨rfl, rfl⟩) (fun q => by cases q) h)
