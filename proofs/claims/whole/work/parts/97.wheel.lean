/-! wheel and reader -/
abbrev B_X8_init : ev_B := (2, 40, 6, 1612)
def mk_X8_a (M : ev_M) : ev_M := (ev_pq (ev_mk (ev_pq (ev_mk (ev_pq (ev_mk (ev_pq (ev_mk (ev_pq (ev_mk M 18 0) 8 0 2 (some (18, 0))) 19 0) 8 0 3 (some (19, 0))) 20 0) 8 0 4 (some (20, 0))) 21 0) 8 0 5 (some (21, 0))) 9 0) 8 0 7 (some (9, 0)))
theorem N_X8_a {M : ev_M} (n0 : M.2.2.2 = 50) : (mk_X8_a M).2.2.2 = 55 := by
  show M.2.2.2 + 1 + 1 + 1 + 1 + 1 = 55
  rw [n0]
set_option maxRecDepth 20000 in
set_option maxHeartbeats 4000000 in
theorem g_X8_a {G : ev_G} {M : ev_M} {Q : Option ev_V → ev_M → Prop} (n0 : M.2.2.2 = 50) (kk : ev_E G K_X8_init B_X8_init (5, 1608) 51 [some (vr 8 0)] [] (mk_X8_a M) Q) : ev_E G K_X8_init B_X8_init (0, 0) 0 [some (vr 8 0)] [] M Q := by
  refine ev_aload_0 (pc := 0) dX8_init_0 ?_
  refine ev_oini (pc := 1) wl_X8_3 wo_in wo_co ⟨Nat.le_of_ble_eq_true rfl, Nat.le_of_ble_eq_true rfl⟩ (Nat.le_of_ble_eq_true rfl) dX8_init_1 ?_
  refine ev_aload_0 (pc := 4) dX8_init_4 ?_
  refine ev_sipush (pc := 5) (v := 401) dX8_init_5 (by decide) ?_
  refine ev_newa (pc := 8) (r := 18) (i := 0) (t := 0) (aty := .int) rfl (by decide) (by decide) (by rw [n0]; rfl) (by decide) (Or.inl (by decide)) rfl wa_int (by decide) (by decide) (Nat.le_of_ble_eq_true rfl) dX8_init_8 ⟨Nat.le_of_ble_eq_true rfl, Nat.le_of_ble_eq_true rfl⟩ ?_
  generalize h1 : ev_mk M 18 0 = M1
  have n1 : M1.2.2.2 = 51 := by
    rw [← h1]
    show M.2.2.2 + 1 = 51
    rw [n0]
  refine ev_putq (pc := 10) (r := 8) (i := 0) (ci := 8) (j := 2) (o := some (18, 0)) fl_X8_9 rfl rfl (Or.inr ⟨rfl, rfl, rfl⟩) (Or.inr ⟨_, rfl⟩) dX8_init_10 (by rw [n1]; exact Nat.le_of_ble_eq_true rfl) ?_
  generalize h2 : ev_pq M1 8 0 2 (some (18, 0)) = M2
  have n2 : M2.2.2.2 = 51 := by
    rw [← h2]
    show M1.2.2.2 = 51
    rw [n1]
  refine ev_aload_0 (pc := 13) dX8_init_13 ?_
  refine ev_sipush (pc := 14) (v := 401) dX8_init_14 (by decide) ?_
  refine ev_newa (pc := 17) (r := 19) (i := 0) (t := 0) (aty := .int) rfl (by decide) (by decide) (by rw [n2]; rfl) (by decide) (Or.inl (by decide)) rfl wa_int (by decide) (by decide) (Nat.le_of_ble_eq_true rfl) dX8_init_17 ⟨Nat.le_of_ble_eq_true rfl, Nat.le_of_ble_eq_true rfl⟩ ?_
  generalize h3 : ev_mk M2 19 0 = M3
  have n3 : M3.2.2.2 = 52 := by
    rw [← h3]
    show M2.2.2.2 + 1 = 52
    rw [n2]
  refine ev_putq (pc := 19) (r := 8) (i := 0) (ci := 8) (j := 3) (o := some (19, 0)) fl_X8_15 rfl rfl (Or.inr ⟨rfl, rfl, rfl⟩) (Or.inr ⟨_, rfl⟩) dX8_init_19 (by rw [n3]; exact Nat.le_of_ble_eq_true rfl) ?_
  generalize h4 : ev_pq M3 8 0 3 (some (19, 0)) = M4
  have n4 : M4.2.2.2 = 52 := by
    rw [← h4]
    show M3.2.2.2 = 52
    rw [n3]
  refine ev_aload_0 (pc := 22) dX8_init_22 ?_
  refine ev_sipush (pc := 23) (v := 401) dX8_init_23 (by decide) ?_
  refine ev_newa (pc := 26) (r := 20) (i := 0) (t := 0) (aty := .int) rfl (by decide) (by decide) (by rw [n4]; rfl) (by decide) (Or.inl (by decide)) rfl wa_int (by decide) (by decide) (Nat.le_of_ble_eq_true rfl) dX8_init_26 ⟨Nat.le_of_ble_eq_true rfl, Nat.le_of_ble_eq_true rfl⟩ ?_
  generalize h5 : ev_mk M4 20 0 = M5
  have n5 : M5.2.2.2 = 53 := by
    rw [← h5]
    show M4.2.2.2 + 1 = 53
    rw [n4]
  refine ev_putq (pc := 28) (r := 8) (i := 0) (ci := 8) (j := 4) (o := some (20, 0)) fl_X8_18 rfl rfl (Or.inr ⟨rfl, rfl, rfl⟩) (Or.inr ⟨_, rfl⟩) dX8_init_28 (by rw [n5]; exact Nat.le_of_ble_eq_true rfl) ?_
  generalize h6 : ev_pq M5 8 0 4 (some (20, 0)) = M6
  have n6 : M6.2.2.2 = 53 := by
    rw [← h6]
    show M5.2.2.2 = 53
    rw [n5]
  refine ev_aload_0 (pc := 31) dX8_init_31 ?_
  refine ev_sipush (pc := 32) (v := 401) dX8_init_32 (by decide) ?_
  refine ev_newa (pc := 35) (r := 21) (i := 0) (t := 0) (aty := .int) rfl (by decide) (by decide) (by rw [n6]; rfl) (by decide) (Or.inl (by decide)) rfl wa_int (by decide) (by decide) (Nat.le_of_ble_eq_true rfl) dX8_init_35 ⟨Nat.le_of_ble_eq_true rfl, Nat.le_of_ble_eq_true rfl⟩ ?_
  generalize h7 : ev_mk M6 21 0 = M7
  have n7 : M7.2.2.2 = 54 := by
    rw [← h7]
    show M6.2.2.2 + 1 = 54
    rw [n6]
  refine ev_putq (pc := 37) (r := 8) (i := 0) (ci := 8) (j := 5) (o := some (21, 0)) fl_X8_21 rfl rfl (Or.inr ⟨rfl, rfl, rfl⟩) (Or.inr ⟨_, rfl⟩) dX8_init_37 (by rw [n7]; exact Nat.le_of_ble_eq_true rfl) ?_
  generalize h8 : ev_pq M7 8 0 5 (some (21, 0)) = M8
  have n8 : M8.2.2.2 = 54 := by
    rw [← h8]
    show M7.2.2.2 = 54
    rw [n7]
  refine ev_aload_0 (pc := 40) dX8_init_40 ?_
  refine ev_new (pc := 41) (r := 9) (i := 0) (ci := 2) rfl (by decide) (by rw [n8]; rfl) wk_X8_24 wn_X2 wi_X2 dX8_init_41 ⟨Nat.le_of_ble_eq_true rfl, Nat.le_of_ble_eq_true rfl⟩ ?_
  generalize h9 : ev_mk M8 9 0 = M9
  have n9 : M9.2.2.2 = 55 := by
    rw [← h9]
    show M8.2.2.2 + 1 = 55
    rw [n8]
  refine ev_dup_r (pc := 44) dX8_init_44 ?_
  refine ev_ctCN (k' := K_X2_init) (pc := 45) (host := "HelmHand") (b' := B_X2_init) (List.mem_of_getElem? (i := 12) rfl) mi_X2_init rfl dX8_init_45 ⟨⟨Nat.le_of_ble_eq_true rfl, Nat.le_of_ble_eq_true rfl⟩, Nat.le_of_ble_eq_true rfl, Nat.le_of_ble_eq_true rfl⟩ (Nat.le_of_ble_eq_true rfl) (c_X2_init (M := M9) (i := 0) (by decide) (by rw [n9]; exact Nat.le_of_ble_eq_true rfl)) ?_
  refine ev_putq (pc := 48) (r := 8) (i := 0) (ci := 8) (j := 7) (o := some (9, 0)) fl_X8_27 rfl rfl (Or.inr ⟨rfl, rfl, rfl⟩) (Or.inl ⟨_, rfl⟩) dX8_init_48 (by rw [n9]; exact Nat.le_of_ble_eq_true rfl) ?_
  generalize h10 : ev_pq M9 8 0 7 (some (9, 0)) = M10
  have n10 : M10.2.2.2 = 55 := by
    rw [← h10]
    show M9.2.2.2 = 55
    rw [n9]
  rw [← h10, ← h9, ← h8, ← h7, ← h6, ← h5, ← h4, ← h3, ← h2, ← h1]
  exact kk
def mk_X8_b (M : ev_M) : ev_M := (ev_pq (ev_mk M 9 1) 8 0 8 (some (9, 1)))
theorem N_X8_b {M : ev_M} (n0 : M.2.2.2 = 55) : (mk_X8_b M).2.2.2 = 56 := by
  show M.2.2.2 + 1 = 56
  rw [n0]
set_option maxRecDepth 20000 in
set_option maxHeartbeats 4000000 in
theorem g_X8_b {G : ev_G} {M : ev_M} {Q : Option ev_V → ev_M → Prop} (n0 : M.2.2.2 = 55) (kk : ev_E G K_X8_init B_X8_init (6, 1612) 62 [some (vr 8 0)] [] (mk_X8_b M) Q) : ev_E G K_X8_init B_X8_init (5, 1608) 51 [some (vr 8 0)] [] M Q := by
  refine ev_aload_0 (pc := 51) dX8_init_51 ?_
  refine ev_new (pc := 52) (r := 9) (i := 1) (ci := 2) rfl (by decide) (by rw [n0]; rfl) wk_X8_24 wn_X2 wi_X2 dX8_init_52 ⟨Nat.le_of_ble_eq_true rfl, Nat.le_of_ble_eq_true rfl⟩ ?_
  generalize h1 : ev_mk M 9 1 = M1
  have n1 : M1.2.2.2 = 56 := by
    rw [← h1]
    show M.2.2.2 + 1 = 56
    rw [n0]
  refine ev_dup_r (pc := 55) dX8_init_55 ?_
  refine ev_ctCN (k' := K_X2_init) (pc := 56) (host := "HelmHand") (b' := B_X2_init) (List.mem_of_getElem? (i := 12) rfl) mi_X2_init rfl dX8_init_56 ⟨⟨Nat.le_of_ble_eq_true rfl, Nat.le_of_ble_eq_true rfl⟩, Nat.le_of_ble_eq_true rfl, Nat.le_of_ble_eq_true rfl⟩ (Nat.le_of_ble_eq_true rfl) (c_X2_init (M := M1) (i := 1) (by decide) (by rw [n1]; exact Nat.le_of_ble_eq_true rfl)) ?_
  refine ev_putq (pc := 59) (r := 8) (i := 0) (ci := 8) (j := 8) (o := some (9, 1)) fl_X8_31 rfl rfl (Or.inr ⟨rfl, rfl, rfl⟩) (Or.inl ⟨_, rfl⟩) dX8_init_59 (by rw [n1]; exact Nat.le_of_ble_eq_true rfl) ?_
  generalize h2 : ev_pq M1 8 0 8 (some (9, 1)) = M2
  have n2 : M2.2.2.2 = 56 := by
    rw [← h2]
    show M1.2.2.2 = 56
    rw [n1]
  rw [← h2, ← h1]
  exact kk
def mk_X8 (M : ev_M) : ev_M := (mk_X8_b (mk_X8_a M))
theorem N_X8 {M : ev_M} (n0 : M.2.2.2 = 50) : (mk_X8 M).2.2.2 = 56 := (N_X8_b (N_X8_a n0))
theorem c_X8_init_0 {G : ev_G} {M : ev_M} (n0 : M.2.2.2 = 50) : ev_CI G K_X8_init B_X8_init 8 0 M (mk_X8 M) := by
  refine ev_Ct_of (L0 := [some (vr 8 0)]) rfl rfl (Nat.le_of_ble_eq_true rfl) ?_
  refine g_X8_a n0 ?_
  refine g_X8_b (N_X8_a n0) ?_
  exact ev_vret (pc := 62) dX8_init_62 rfl ⟨rfl, rfl⟩
abbrev B_X4_init : ev_B := (2, 40, 12, 727)
def mk_X4_a (M : ev_M) : ev_M := (ev_mk (ev_pq (mk_X3 8 (ev_mk (ev_pq (mk_X1 17 (ev_mk (ev_pq (mk_X5 9 (ev_mk M 3 9)) 7 0 0 (some (3, 9))) 4 17)) 7 0 1 (some (4, 17))) 5 8)) 7 0 2 (some (5, 8))) 6 8)
theorem N_X4_a {M : ev_M} (n0 : M.2.2.2 = 37) : (mk_X4_a M).2.2.2 = 45 := by
  show M.2.2.2 + 1 + 1 + 1 + 1 + 1 + 1 + 1 + 1 = 45
  rw [n0]
set_option maxRecDepth 20000 in
set_option maxHeartbeats 4000000 in
theorem g_X4_a {G : ev_G} {M : ev_M} {Q : Option ev_V → ev_M → Prop} (n0 : M.2.2.2 = 37) (kk : ev_E G K_X4_init B_X4_init (8, 109) 41 [some (vr 7 0)] [vr 6 8, vr 7 0] (mk_X4_a M) Q) : ev_E G K_X4_init B_X4_init (0, 0) 0 [some (vr 7 0)] [] M Q := by
  refine ev_aload_0 (pc := 0) dX4_init_0 ?_
  refine ev_oini (pc := 1) wl_X4_3 wo_in wo_co ⟨Nat.le_of_ble_eq_true rfl, Nat.le_of_ble_eq_true rfl⟩ (Nat.le_of_ble_eq_true rfl) dX4_init_1 ?_
  refine ev_aload_0 (pc := 4) dX4_init_4 ?_
  refine ev_new (pc := 5) (r := 3) (i := 9) (ci := 5) rfl (by decide) (by rw [n0]; rfl) wk_X4_9 wn_X5 wi_X5 dX4_init_5 ⟨Nat.le_of_ble_eq_true rfl, Nat.le_of_ble_eq_true rfl⟩ ?_
  generalize h1 : ev_mk M 3 9 = M1
  have n1 : M1.2.2.2 = 38 := by
    rw [← h1]
    show M.2.2.2 + 1 = 38
    rw [n0]
  refine ev_dup_r (pc := 8) dX4_init_8 ?_
  refine ev_ctCN (k' := K_X5_init) (pc := 9) (host := "HelmHand") (b' := B_X5_init) (List.mem_of_getElem? (i := 6) rfl) mi_X5_init rfl dX4_init_9 ⟨⟨Nat.le_of_ble_eq_true rfl, Nat.le_of_ble_eq_true rfl⟩, Nat.le_of_ble_eq_true rfl, Nat.le_of_ble_eq_true rfl⟩ (Nat.le_of_ble_eq_true rfl) (c_X5_init (M := M1) (i := 9) (by decide) (by rw [n1]; exact Nat.le_of_ble_eq_true rfl) (by rw [n1]; rfl)) ?_
  generalize h2 : mk_X5 9 M1 = M2
  have n2 : M2.2.2.2 = 39 := by
    rw [← h2]
    show M1.2.2.2 + 1 = 39
    rw [n1]
  refine ev_putq (pc := 12) (r := 7) (i := 0) (ci := 4) (j := 0) (o := some (3, 9)) fl_X4_12 rfl rfl (Or.inr ⟨rfl, rfl, rfl⟩) (Or.inl ⟨_, rfl⟩) dX4_init_12 (by rw [n2]; exact Nat.le_of_ble_eq_true rfl) ?_
  generalize h3 : ev_pq M2 7 0 0 (some (3, 9)) = M3
  have n3 : M3.2.2.2 = 39 := by
    rw [← h3]
    show M2.2.2.2 = 39
    rw [n2]
  refine ev_aload_0 (pc := 15) dX4_init_15 ?_
  refine ev_new (pc := 16) (r := 4) (i := 17) (ci := 1) rfl (by decide) (by rw [n3]; rfl) wk_X4_18 wn_X1 wi_X1 dX4_init_16 ⟨Nat.le_of_ble_eq_true rfl, Nat.le_of_ble_eq_true rfl⟩ ?_
  generalize h4 : ev_mk M3 4 17 = M4
  have n4 : M4.2.2.2 = 40 := by
    rw [← h4]
    show M3.2.2.2 + 1 = 40
    rw [n3]
  refine ev_dup_r (pc := 19) dX4_init_19 ?_
  refine ev_ctCN (k' := K_X1_init) (pc := 20) (host := "HelmHand") (b' := B_X1_init) (List.mem_of_getElem? (i := 7) rfl) mi_X1_init rfl dX4_init_20 ⟨⟨Nat.le_of_ble_eq_true rfl, Nat.le_of_ble_eq_true rfl⟩, Nat.le_of_ble_eq_true rfl, Nat.le_of_ble_eq_true rfl⟩ (Nat.le_of_ble_eq_true rfl) (c_X1_init (M := M4) (i := 17) (by decide) (by rw [n4]; exact Nat.le_of_ble_eq_true rfl) (by rw [n4]; rfl) (by rw [n4]; rfl)) ?_
  generalize h5 : mk_X1 17 M4 = M5
  have n5 : M5.2.2.2 = 42 := by
    rw [← h5]
    show M4.2.2.2 + 1 + 1 = 42
    rw [n4]
  refine ev_putq (pc := 23) (r := 7) (i := 0) (ci := 4) (j := 1) (o := some (4, 17)) fl_X4_21 rfl rfl (Or.inr ⟨rfl, rfl, rfl⟩) (Or.inl ⟨_, rfl⟩) dX4_init_23 (by rw [n5]; exact Nat.le_of_ble_eq_true rfl) ?_
  generalize h6 : ev_pq M5 7 0 1 (some (4, 17)) = M6
  have n6 : M6.2.2.2 = 42 := by
    rw [← h6]
    show M5.2.2.2 = 42
    rw [n5]
  refine ev_aload_0 (pc := 26) dX4_init_26 ?_
  refine ev_new (pc := 27) (r := 5) (i := 8) (ci := 3) rfl (by decide) (by rw [n6]; rfl) wk_X4_25 wn_X3 wi_X3 dX4_init_27 ⟨Nat.le_of_ble_eq_true rfl, Nat.le_of_ble_eq_true rfl⟩ ?_
  generalize h7 : ev_mk M6 5 8 = M7
  have n7 : M7.2.2.2 = 43 := by
    rw [← h7]
    show M6.2.2.2 + 1 = 43
    rw [n6]
  refine ev_dup_r (pc := 30) dX4_init_30 ?_
  refine ev_ctCN (k' := K_X3_init) (pc := 31) (host := "HelmHand") (b' := B_X3_init) (List.mem_of_getElem? (i := 8) rfl) mi_X3_init rfl dX4_init_31 ⟨⟨Nat.le_of_ble_eq_true rfl, Nat.le_of_ble_eq_true rfl⟩, Nat.le_of_ble_eq_true rfl, Nat.le_of_ble_eq_true rfl⟩ (Nat.le_of_ble_eq_true rfl) (c_X3_init (M := M7) (i := 8) (by decide) (by rw [n7]; exact Nat.le_of_ble_eq_true rfl) (by rw [n7]; rfl)) ?_
  generalize h8 : mk_X3 8 M7 = M8
  have n8 : M8.2.2.2 = 44 := by
    rw [← h8]
    show M7.2.2.2 + 1 = 44
    rw [n7]
  refine ev_putq (pc := 34) (r := 7) (i := 0) (ci := 4) (j := 2) (o := some (5, 8)) fl_X4_28 rfl rfl (Or.inr ⟨rfl, rfl, rfl⟩) (Or.inl ⟨_, rfl⟩) dX4_init_34 (by rw [n8]; exact Nat.le_of_ble_eq_true rfl) ?_
  generalize h9 : ev_pq M8 7 0 2 (some (5, 8)) = M9
  have n9 : M9.2.2.2 = 44 := by
    rw [← h9]
    show M8.2.2.2 = 44
    rw [n8]
  refine ev_aload_0 (pc := 37) dX4_init_37 ?_
  refine ev_new (pc := 38) (r := 6) (i := 8) (ci := 7) rfl (by decide) (by rw [n9]; rfl) wk_X4_32 wn_X7 wi_X7 dX4_init_38 ⟨Nat.le_of_ble_eq_true rfl, Nat.le_of_ble_eq_true rfl⟩ ?_
  generalize h10 : ev_mk M9 6 8 = M10
  have n10 : M10.2.2.2 = 45 := by
    rw [← h10]
    show M9.2.2.2 + 1 = 45
    rw [n9]
  rw [← h10, ← h9, ← h8, ← h7, ← h6, ← h5, ← h4, ← h3, ← h2, ← h1]
  exact kk
def mk_X4_b (M : ev_M) : ev_M := (ev_pq (mk_X6 4 (ev_mk (ev_pq (mk_X7 8 M) 7 0 3 (some (6, 8))) 2 4)) 7 0 6 (some (2, 4)))
theorem N_X4_b {M : ev_M} (n0 : M.2.2.2 = 45) : (mk_X4_b M).2.2.2 = 49 := by
  show M.2.2.2 + 1 + 1 + 1 + 1 = 49
  rw [n0]
set_option maxRecDepth 20000 in
set_option maxHeartbeats 4000000 in
theorem g_X4_b {G : ev_G} {M : ev_M} {Q : Option ev_V → ev_M → Prop} (n0 : M.2.2.2 = 45) (kk : ev_E G K_X4_init B_X4_init (12, 727) 59 [some (vr 7 0)] [] (mk_X4_b M) Q) : ev_E G K_X4_init B_X4_init (8, 109) 41 [some (vr 7 0)] [vr 6 8, vr 7 0] M Q := by
  refine ev_dup_r (pc := 41) dX4_init_41 ?_
  refine ev_ctCN (k' := K_X7_init) (pc := 42) (host := "HelmHand") (b' := B_X7_init) (List.mem_of_getElem? (i := 9) rfl) mi_X7_init rfl dX4_init_42 ⟨⟨Nat.le_of_ble_eq_true rfl, Nat.le_of_ble_eq_true rfl⟩, Nat.le_of_ble_eq_true rfl, Nat.le_of_ble_eq_true rfl⟩ (Nat.le_of_ble_eq_true rfl) (c_X7_init (M := M) (i := 8) (by decide) (by rw [n0]; exact Nat.le_of_ble_eq_true rfl) (by rw [n0]; rfl) (by rw [n0]; rfl)) ?_
  generalize h1 : mk_X7 8 M = M1
  have n1 : M1.2.2.2 = 47 := by
    rw [← h1]
    show M.2.2.2 + 1 + 1 = 47
    rw [n0]
  refine ev_putq (pc := 45) (r := 7) (i := 0) (ci := 4) (j := 3) (o := some (6, 8)) fl_X4_35 rfl rfl (Or.inr ⟨rfl, rfl, rfl⟩) (Or.inl ⟨_, rfl⟩) dX4_init_45 (by rw [n1]; exact Nat.le_of_ble_eq_true rfl) ?_
  generalize h2 : ev_pq M1 7 0 3 (some (6, 8)) = M2
  have n2 : M2.2.2.2 = 47 := by
    rw [← h2]
    show M1.2.2.2 = 47
    rw [n1]
  refine ev_aload_0 (pc := 48) dX4_init_48 ?_
  refine ev_new (pc := 49) (r := 2) (i := 4) (ci := 6) rfl (by decide) (by rw [n2]; rfl) wk_X4_39 wn_X6 wi_X6 dX4_init_49 ⟨Nat.le_of_ble_eq_true rfl, Nat.le_of_ble_eq_true rfl⟩ ?_
  generalize h3 : ev_mk M2 2 4 = M3
  have n3 : M3.2.2.2 = 48 := by
    rw [← h3]
    show M2.2.2.2 + 1 = 48
    rw [n2]
  refine ev_dup_r (pc := 52) dX4_init_52 ?_
  refine ev_ctCN (k' := K_X6_init) (pc := 53) (host := "HelmHand") (b' := B_X6_init) (List.mem_of_getElem? (i := 10) rfl) mi_X6_init rfl dX4_init_53 ⟨⟨Nat.le_of_ble_eq_true rfl, Nat.le_of_ble_eq_true rfl⟩, Nat.le_of_ble_eq_true rfl, Nat.le_of_ble_eq_true rfl⟩ (Nat.le_of_ble_eq_true rfl) (c_X6_init (M := M3) (i := 4) (by decide) (by rw [n3]; exact Nat.le_of_ble_eq_true rfl) (by rw [n3]; rfl)) ?_
  generalize h4 : mk_X6 4 M3 = M4
  have n4 : M4.2.2.2 = 49 := by
    rw [← h4]
    show M3.2.2.2 + 1 = 49
    rw [n3]
  refine ev_putq (pc := 56) (r := 7) (i := 0) (ci := 4) (j := 6) (o := some (2, 4)) fl_X4_42 rfl rfl (Or.inr ⟨rfl, rfl, rfl⟩) (Or.inl ⟨_, rfl⟩) dX4_init_56 (by rw [n4]; exact Nat.le_of_ble_eq_true rfl) ?_
  generalize h5 : ev_pq M4 7 0 6 (some (2, 4)) = M5
  have n5 : M5.2.2.2 = 49 := by
    rw [← h5]
    show M4.2.2.2 = 49
    rw [n4]
  rw [← h5, ← h4, ← h3, ← h2, ← h1]
  exact kk
def mk_X4 (M : ev_M) : ev_M := (mk_X4_b (mk_X4_a M))
theorem N_X4 {M : ev_M} (n0 : M.2.2.2 = 37) : (mk_X4 M).2.2.2 = 49 := (N_X4_b (N_X4_a n0))
theorem c_X4_init_0 {G : ev_G} {M : ev_M} (n0 : M.2.2.2 = 37) : ev_CI G K_X4_init B_X4_init 7 0 M (mk_X4 M) := by
  refine ev_Ct_of (L0 := [some (vr 7 0)]) rfl rfl (Nat.le_of_ble_eq_true rfl) ?_
  refine g_X4_a n0 ?_
  refine g_X4_b (N_X4_a n0) ?_
  exact ev_vret (pc := 59) dX4_init_59 rfl ⟨rfl, rfl⟩
