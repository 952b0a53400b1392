/-! the model and the reference -/
abbrev B_X9_init : ev_B := (3, 61, 159, 6062)
def mk_X9_a (M : ev_M) : ev_M := (ev_pq (mk_X4 (ev_mk (ev_pq (ev_mk (ev_pq (ev_mk (ev_pq (mk_X0_0 (ev_mk M 1 0)) 0 0 0 (some (1, 0))) 23 0) 0 0 1 (some (23, 0))) 22 0) 0 0 2 (some (22, 0))) 7 0)) 0 0 3 (some (7, 0)))
theorem N_X9_a {M : ev_M} (n0 : M.2.2.2 = 1) : (mk_X9_a M).2.2.2 = 49 := by
  have a0 : (ev_mk M 1 0).2.2.2 = 2 := by
    exact congrArg (fun z => z + 1) n0
  have a1 : (mk_X0_0 (ev_mk M 1 0)).2.2.2 = 34 := N_X0_0 a0
  have a2 : (ev_pq (mk_X0_0 (ev_mk M 1 0)) 0 0 0 (some (1, 0))).2.2.2 = 34 := by
    exact congrArg (fun z => z) a1
  have a3 : (ev_mk (ev_pq (mk_X0_0 (ev_mk M 1 0)) 0 0 0 (some (1, 0))) 23 0).2.2.2 = 35 := by
    exact congrArg (fun z => z + 1) a2
  have a4 : (ev_pq (ev_mk (ev_pq (mk_X0_0 (ev_mk M 1 0)) 0 0 0 (some (1, 0))) 23 0) 0 0 1 (some (23, 0))).2.2.2 = 35 := by
    exact congrArg (fun z => z) a3
  have a5 : (ev_mk (ev_pq (ev_mk (ev_pq (mk_X0_0 (ev_mk M 1 0)) 0 0 0 (some (1, 0))) 23 0) 0 0 1 (some (23, 0))) 22 0).2.2.2 = 36 := by
    exact congrArg (fun z => z + 1) a4
  have a6 : (ev_pq (ev_mk (ev_pq (ev_mk (ev_pq (mk_X0_0 (ev_mk M 1 0)) 0 0 0 (some (1, 0))) 23 0) 0 0 1 (some (23, 0))) 22 0) 0 0 2 (some (22, 0))).2.2.2 = 36 := by
    exact congrArg (fun z => z) a5
  have a7 : (ev_mk (ev_pq (ev_mk (ev_pq (ev_mk (ev_pq (mk_X0_0 (ev_mk M 1 0)) 0 0 0 (some (1, 0))) 23 0) 0 0 1 (some (23, 0))) 22 0) 0 0 2 (some (22, 0))) 7 0).2.2.2 = 37 := by
    exact congrArg (fun z => z + 1) a6
  have a8 : (mk_X4 (ev_mk (ev_pq (ev_mk (ev_pq (ev_mk (ev_pq (mk_X0_0 (ev_mk M 1 0)) 0 0 0 (some (1, 0))) 23 0) 0 0 1 (some (23, 0))) 22 0) 0 0 2 (some (22, 0))) 7 0)).2.2.2 = 49 := N_X4 a7
  have a9 : (ev_pq (mk_X4 (ev_mk (ev_pq (ev_mk (ev_pq (ev_mk (ev_pq (mk_X0_0 (ev_mk M 1 0)) 0 0 0 (some (1, 0))) 23 0) 0 0 1 (some (23, 0))) 22 0) 0 0 2 (some (22, 0))) 7 0)) 0 0 3 (some (7, 0))).2.2.2 = 49 := by
    exact congrArg (fun z => z) a8
  exact a9
theorem F_X9_a (M : ev_M) : FI_ (mk_X9_a M) := rfl
set_option maxRecDepth 20000 in
set_option maxHeartbeats 4000000 in
theorem g_X9_a {G : ev_G} {M : ev_M} {Q : Option ev_V → ev_M → Prop} (n0 : M.2.2.2 = 1) (kk : ev_E G K_X9_init B_X9_init (48, 1658) 41 [some (vr 0 0), none] [] (mk_X9_a M) Q) : ev_E G K_X9_init B_X9_init (0, 0) 0 [some (vr 0 0), none] [] M Q := by
  refine ev_aload_0 (pc := 0) dX9_init_0 ?_
  refine ev_oini (pc := 1) wl_X9_1 wo_in wo_co ⟨Nat.le_of_ble_eq_true rfl, Nat.le_of_ble_eq_true rfl⟩ (Nat.le_of_ble_eq_true rfl) dX9_init_1 ?_
  refine ev_aload_0 (pc := 4) dX9_init_4 ?_
  refine ev_new (pc := 5) (r := 1) (i := 0) (ci := 0) rfl (by decide) (by rw [n0]; rfl) wk_X9_7 wn_X0 wi_X0 dX9_init_5 ⟨Nat.le_of_ble_eq_true rfl, Nat.le_of_ble_eq_true rfl⟩ ?_
  generalize h1 : ev_mk M 1 0 = M1
  have n1 : M1.2.2.2 = 2 := by
    rw [← h1]
    show M.2.2.2 + 1 = 2
    rw [n0]
  refine ev_dup_r (pc := 8) dX9_init_8 ?_
  refine ev_ctC (k' := K_X0_init) (pc := 9) (b' := B_X0_init) wl_X9_9 mi_X0_init rfl dX9_init_9 ⟨⟨Nat.le_of_ble_eq_true rfl, Nat.le_of_ble_eq_true rfl⟩, Nat.le_of_ble_eq_true rfl, Nat.le_of_ble_eq_true rfl⟩ (Nat.le_of_ble_eq_true rfl) (c_X0_init_0 n1) ?_
  generalize h2 : mk_X0_0 M1 = M2
  have n2 : M2.2.2.2 = 34 := by
    rw [← h2]
    exact N_X0_0 n1
  refine ev_putq (pc := 12) (r := 0) (i := 0) (ci := 9) (j := 0) (o := some (1, 0)) fl_X9_10 rfl rfl (Or.inr ⟨rfl, rfl, rfl⟩) (Or.inl ⟨_, rfl⟩) dX9_init_12 (by rw [n2]; exact Nat.le_of_ble_eq_true rfl) ?_
  generalize h3 : ev_pq M2 0 0 0 (some (1, 0)) = M3
  have n3 : M3.2.2.2 = 34 := by
    rw [← h3]
    show M2.2.2.2 = 34
    rw [n2]
  refine ev_aload_0 (pc := 15) dX9_init_15 ?_
  refine ev_iconst (pc := 16) (v := 3) dX9_init_16 rfl ?_
  refine ev_newq (pc := 17) (r := 23) (i := 0) (t := 3) (C := "HelmHand$Book") rfl (by decide) (by decide) (by decide) (by rw [n3]; rfl) (by decide) rfl (by decide) wk_X9_7 (by decide) (by decide) (Nat.le_of_ble_eq_true rfl) dX9_init_17 ⟨Nat.le_of_ble_eq_true rfl, Nat.le_of_ble_eq_true rfl⟩ ?_
  generalize h4 : ev_mk M3 23 0 = M4
  have n4 : M4.2.2.2 = 35 := by
    rw [← h4]
    show M3.2.2.2 + 1 = 35
    rw [n3]
  refine ev_putq (pc := 20) (r := 0) (i := 0) (ci := 9) (j := 1) (o := some (23, 0)) fl_X9_16 rfl rfl (Or.inr ⟨rfl, rfl, rfl⟩) (Or.inr ⟨_, rfl⟩) dX9_init_20 (by rw [n4]; exact Nat.le_of_ble_eq_true rfl) ?_
  generalize h5 : ev_pq M4 0 0 1 (some (23, 0)) = M5
  have n5 : M5.2.2.2 = 35 := by
    rw [← h5]
    show M4.2.2.2 = 35
    rw [n4]
  have f5 : FI_ M5 := by
    rw [← h5]
    rfl
  refine ev_aload_0 (pc := 23) dX9_init_23 ?_
  refine ev_iconst (pc := 24) (v := 3) dX9_init_24 rfl ?_
  refine ev_newa (pc := 25) (r := 22) (i := 0) (t := 2) (aty := .boolean) rfl (by decide) (by decide) (by rw [n5]; rfl) (by decide) (Or.inl (by decide)) rfl wa_boolean (by decide) (by decide) (Nat.le_of_ble_eq_true rfl) dX9_init_25 ⟨Nat.le_of_ble_eq_true rfl, Nat.le_of_ble_eq_true rfl⟩ ?_
  generalize h6 : ev_mk M5 22 0 = M6
  have n6 : M6.2.2.2 = 36 := by
    rw [← h6]
    show M5.2.2.2 + 1 = 36
    rw [n5]
  have f6 : FI_ M6 := by
    rw [← h6]
    exact f5
  refine ev_putq (pc := 27) (r := 0) (i := 0) (ci := 9) (j := 2) (o := some (22, 0)) fl_X9_20 rfl rfl (Or.inr ⟨rfl, rfl, rfl⟩) (Or.inr ⟨_, rfl⟩) dX9_init_27 (by rw [n6]; exact Nat.le_of_ble_eq_true rfl) ?_
  generalize h7 : ev_pq M6 0 0 2 (some (22, 0)) = M7
  have n7 : M7.2.2.2 = 36 := by
    rw [← h7]
    show M6.2.2.2 = 36
    rw [n6]
  have f7 : FI_ M7 := by
    rw [← h7]
    exact f6
  refine ev_aload_0 (pc := 30) dX9_init_30 ?_
  refine ev_new (pc := 31) (r := 7) (i := 0) (ci := 4) rfl (by decide) (by rw [n7]; rfl) wk_X9_24 wn_X4 wi_X4 dX9_init_31 ⟨Nat.le_of_ble_eq_true rfl, Nat.le_of_ble_eq_true rfl⟩ ?_
  generalize h8 : ev_mk M7 7 0 = M8
  have n8 : M8.2.2.2 = 37 := by
    rw [← h8]
    show M7.2.2.2 + 1 = 37
    rw [n7]
  have f8 : FI_ M8 := by
    rw [← h8]
    exact f7
  refine ev_dup_r (pc := 34) dX9_init_34 ?_
  refine ev_ctCN (k' := K_X4_init) (pc := 35) (host := "HelmHand") (b' := B_X4_init) (List.mem_of_getElem? (i := 5) rfl) mi_X4_init rfl dX9_init_35 ⟨⟨Nat.le_of_ble_eq_true rfl, Nat.le_of_ble_eq_true rfl⟩, Nat.le_of_ble_eq_true rfl, Nat.le_of_ble_eq_true rfl⟩ (Nat.le_of_ble_eq_true rfl) (c_X4_init_0 n8) ?_
  generalize h9 : mk_X4 M8 = M9
  have n9 : M9.2.2.2 = 49 := by
    rw [← h9]
    exact N_X4 n8
  have f9 : FI_ M9 := by
    rw [← h9]
    exact f8
  refine ev_putq (pc := 38) (r := 0) (i := 0) (ci := 9) (j := 3) (o := some (7, 0)) fl_X9_27 rfl rfl (Or.inr ⟨rfl, rfl, rfl⟩) (Or.inl ⟨_, rfl⟩) dX9_init_38 (by rw [n9]; exact Nat.le_of_ble_eq_true rfl) ?_
  generalize h10 : ev_pq M9 0 0 3 (some (7, 0)) = M10
  have n10 : M10.2.2.2 = 49 := by
    rw [← h10]
    show M9.2.2.2 = 49
    rw [n9]
  have f10 : FI_ M10 := by
    rw [← h10]
    exact f9
  rw [← h10, ← h9, ← h8, ← h7, ← h6, ← h5, ← h4, ← h3, ← h2, ← h1]
  exact kk
def mk_X9_b (M : ev_M) : ev_M := (ev_mk (ev_pq (mk_X1 16 (ev_mk (ev_pq (mk_X5 8 (ev_mk (ev_pq (mk_X8 (ev_mk M 8 0)) 0 0 4 (some (8, 0))) 3 8)) 0 0 5 (some (3, 8))) 4 16)) 0 0 6 (some (4, 16))) 1 1)
theorem N_X9_b {M : ev_M} (n0 : M.2.2.2 = 49) : (mk_X9_b M).2.2.2 = 62 := by
  have a0 : (ev_mk M 8 0).2.2.2 = 50 := by
    exact congrArg (fun z => z + 1) n0
  have a1 : (mk_X8 (ev_mk M 8 0)).2.2.2 = 56 := N_X8 a0
  have a2 : (ev_pq (mk_X8 (ev_mk M 8 0)) 0 0 4 (some (8, 0))).2.2.2 = 56 := by
    exact congrArg (fun z => z) a1
  have a3 : (ev_mk (ev_pq (mk_X8 (ev_mk M 8 0)) 0 0 4 (some (8, 0))) 3 8).2.2.2 = 57 := by
    exact congrArg (fun z => z + 1) a2
  have a4 : (mk_X5 8 (ev_mk (ev_pq (mk_X8 (ev_mk M 8 0)) 0 0 4 (some (8, 0))) 3 8)).2.2.2 = 58 := by
    exact congrArg (fun z => z + 1) a3
  have a5 : (ev_pq (mk_X5 8 (ev_mk (ev_pq (mk_X8 (ev_mk M 8 0)) 0 0 4 (some (8, 0))) 3 8)) 0 0 5 (some (3, 8))).2.2.2 = 58 := by
    exact congrArg (fun z => z) a4
  have a6 : (ev_mk (ev_pq (mk_X5 8 (ev_mk (ev_pq (mk_X8 (ev_mk M 8 0)) 0 0 4 (some (8, 0))) 3 8)) 0 0 5 (some (3, 8))) 4 16).2.2.2 = 59 := by
    exact congrArg (fun z => z + 1) a5
  have a7 : (mk_X1 16 (ev_mk (ev_pq (mk_X5 8 (ev_mk (ev_pq (mk_X8 (ev_mk M 8 0)) 0 0 4 (some (8, 0))) 3 8)) 0 0 5 (some (3, 8))) 4 16)).2.2.2 = 61 := by
    exact congrArg (fun z => z + 1 + 1) a6
  have a8 : (ev_pq (mk_X1 16 (ev_mk (ev_pq (mk_X5 8 (ev_mk (ev_pq (mk_X8 (ev_mk M 8 0)) 0 0 4 (some (8, 0))) 3 8)) 0 0 5 (some (3, 8))) 4 16)) 0 0 6 (some (4, 16))).2.2.2 = 61 := by
    exact congrArg (fun z => z) a7
  have a9 : (ev_mk (ev_pq (mk_X1 16 (ev_mk (ev_pq (mk_X5 8 (ev_mk (ev_pq (mk_X8 (ev_mk M 8 0)) 0 0 4 (some (8, 0))) 3 8)) 0 0 5 (some (3, 8))) 4 16)) 0 0 6 (some (4, 16))) 1 1).2.2.2 = 62 := by
    exact congrArg (fun z => z + 1) a8
  exact a9
theorem F_X9_b {M : ev_M} (f0 : FI_ M) : FI_ (mk_X9_b M) := f0
set_option maxRecDepth 20000 in
set_option maxHeartbeats 4000000 in
theorem g_X9_b {G : ev_G} {M : ev_M} {Q : Option ev_V → ev_M → Prop} (n0 : M.2.2.2 = 49) (f0 : FI_ M) (kk : ev_E G K_X9_init B_X9_init (61, 3334) 89 [some (vr 0 0), some (vi 0)] [vr 1 1, vi 0, vr 23 0] (mk_X9_b M) Q) : ev_E G K_X9_init B_X9_init (48, 1658) 41 [some (vr 0 0), none] [] M Q := by
  refine ev_aload_0 (pc := 41) dX9_init_41 ?_
  refine ev_new (pc := 42) (r := 8) (i := 0) (ci := 8) rfl (by decide) (by rw [n0]; rfl) wk_X9_31 wn_X8 wi_X8 dX9_init_42 ⟨Nat.le_of_ble_eq_true rfl, Nat.le_of_ble_eq_true rfl⟩ ?_
  generalize h1 : ev_mk M 8 0 = M1
  have n1 : M1.2.2.2 = 50 := by
    rw [← h1]
    show M.2.2.2 + 1 = 50
    rw [n0]
  have f1 : FI_ M1 := by
    rw [← h1]
    exact f0
  refine ev_dup_r (pc := 45) dX9_init_45 ?_
  refine ev_ctCN (k' := K_X8_init) (pc := 46) (host := "HelmHand") (b' := B_X8_init) (List.mem_of_getElem? (i := 11) rfl) mi_X8_init rfl dX9_init_46 ⟨⟨Nat.le_of_ble_eq_true rfl, Nat.le_of_ble_eq_true rfl⟩, Nat.le_of_ble_eq_true rfl, Nat.le_of_ble_eq_true rfl⟩ (Nat.le_of_ble_eq_true rfl) (c_X8_init_0 n1) ?_
  generalize h2 : mk_X8 M1 = M2
  have n2 : M2.2.2.2 = 56 := by
    rw [← h2]
    exact N_X8 n1
  have f2 : FI_ M2 := by
    rw [← h2]
    exact f1
  refine ev_putq (pc := 49) (r := 0) (i := 0) (ci := 9) (j := 4) (o := some (8, 0)) fl_X9_34 rfl rfl (Or.inr ⟨rfl, rfl, rfl⟩) (Or.inl ⟨_, rfl⟩) dX9_init_49 (by rw [n2]; exact Nat.le_of_ble_eq_true rfl) ?_
  generalize h3 : ev_pq M2 0 0 4 (some (8, 0)) = M3
  have n3 : M3.2.2.2 = 56 := by
    rw [← h3]
    show M2.2.2.2 = 56
    rw [n2]
  have f3 : FI_ M3 := by
    rw [← h3]
    exact f2
  refine ev_aload_0 (pc := 52) dX9_init_52 ?_
  refine ev_new (pc := 53) (r := 3) (i := 8) (ci := 5) rfl (by decide) (by rw [n3]; rfl) wk_X9_38 wn_X5 wi_X5 dX9_init_53 ⟨Nat.le_of_ble_eq_true rfl, Nat.le_of_ble_eq_true rfl⟩ ?_
  generalize h4 : ev_mk M3 3 8 = M4
  have n4 : M4.2.2.2 = 57 := by
    rw [← h4]
    show M3.2.2.2 + 1 = 57
    rw [n3]
  have f4 : FI_ M4 := by
    rw [← h4]
    exact f3
  refine ev_dup_r (pc := 56) dX9_init_56 ?_
  refine ev_ctCN (k' := K_X5_init) (pc := 57) (host := "HelmHand") (b' := B_X5_init) (List.mem_of_getElem? (i := 13) rfl) mi_X5_init rfl dX9_init_57 ⟨⟨Nat.le_of_ble_eq_true rfl, Nat.le_of_ble_eq_true rfl⟩, Nat.le_of_ble_eq_true rfl, Nat.le_of_ble_eq_true rfl⟩ (Nat.le_of_ble_eq_true rfl) (c_X5_init (M := M4) (i := 8) (by decide) (by rw [n4]; exact Nat.le_of_ble_eq_true rfl) (by rw [n4]; rfl)) ?_
  generalize h5 : mk_X5 8 M4 = M5
  have n5 : M5.2.2.2 = 58 := by
    rw [← h5]
    show M4.2.2.2 + 1 = 58
    rw [n4]
  have f5 : FI_ M5 := by
    rw [← h5]
    exact f4
  refine ev_putq (pc := 60) (r := 0) (i := 0) (ci := 9) (j := 5) (o := some (3, 8)) fl_X9_41 rfl rfl (Or.inr ⟨rfl, rfl, rfl⟩) (Or.inl ⟨_, rfl⟩) dX9_init_60 (by rw [n5]; exact Nat.le_of_ble_eq_true rfl) ?_
  generalize h6 : ev_pq M5 0 0 5 (some (3, 8)) = M6
  have n6 : M6.2.2.2 = 58 := by
    rw [← h6]
    show M5.2.2.2 = 58
    rw [n5]
  have f6 : FI_ M6 := by
    rw [← h6]
    exact f5
  refine ev_aload_0 (pc := 63) dX9_init_63 ?_
  refine ev_new (pc := 64) (r := 4) (i := 16) (ci := 1) rfl (by decide) (by rw [n6]; rfl) wk_X9_45 wn_X1 wi_X1 dX9_init_64 ⟨Nat.le_of_ble_eq_true rfl, Nat.le_of_ble_eq_true rfl⟩ ?_
  generalize h7 : ev_mk M6 4 16 = M7
  have n7 : M7.2.2.2 = 59 := by
    rw [← h7]
    show M6.2.2.2 + 1 = 59
    rw [n6]
  have f7 : FI_ M7 := by
    rw [← h7]
    exact f6
  refine ev_dup_r (pc := 67) dX9_init_67 ?_
  refine ev_ctCN (k' := K_X1_init) (pc := 68) (host := "HelmHand") (b' := B_X1_init) (List.mem_of_getElem? (i := 14) rfl) mi_X1_init rfl dX9_init_68 ⟨⟨Nat.le_of_ble_eq_true rfl, Nat.le_of_ble_eq_true rfl⟩, Nat.le_of_ble_eq_true rfl, Nat.le_of_ble_eq_true rfl⟩ (Nat.le_of_ble_eq_true rfl) (c_X1_init (M := M7) (i := 16) (by decide) (by rw [n7]; exact Nat.le_of_ble_eq_true rfl) (by rw [n7]; rfl) (by rw [n7]; rfl)) ?_
  generalize h8 : mk_X1 16 M7 = M8
  have n8 : M8.2.2.2 = 61 := by
    rw [← h8]
    show M7.2.2.2 + 1 + 1 = 61
    rw [n7]
  have f8 : FI_ M8 := by
    rw [← h8]
    exact f7
  refine ev_putq (pc := 71) (r := 0) (i := 0) (ci := 9) (j := 6) (o := some (4, 16)) fl_X9_48 rfl rfl (Or.inr ⟨rfl, rfl, rfl⟩) (Or.inl ⟨_, rfl⟩) dX9_init_71 (by rw [n8]; exact Nat.le_of_ble_eq_true rfl) ?_
  generalize h9 : ev_pq M8 0 0 6 (some (4, 16)) = M9
  have n9 : M9.2.2.2 = 61 := by
    rw [← h9]
    show M8.2.2.2 = 61
    rw [n8]
  have f9 : FI_ M9 := by
    rw [← h9]
    exact f8
  refine ev_iconst (pc := 74) (v := 0) dX9_init_74 rfl ?_
  refine ev_istore_1 (pc := 75) dX9_init_75 (by decide) rfl ?_
  refine ev_iload_1 (pc := 76) dX9_init_76 ?_
  refine ev_iconst (pc := 77) (v := 3) dX9_init_77 rfl ?_
  refine ev_icc_ge (pc := 78) (tgt := 100) dX9_init_78 (by decide) (fun z => absurd (show (0 : Int32) < 3 by decide) z) (fun _ => ?_)
  refine ev_aload_0 (pc := 81) dX9_init_81 ?_
  refine ev_getqr (pc := 82) (r := 0) (i := 0) (ci := 9) (j := 1) (r2 := 23) (i2 := 0) fl_X9_16 rfl rfl dX9_init_82 (by rw [n9]; exact Nat.le_of_ble_eq_true rfl) f9 ?_
  refine ev_iload_1 (pc := 85) dX9_init_85 ?_
  refine ev_new (pc := 86) (r := 1) (i := 1) (ci := 0) rfl (by decide) (by rw [n9]; rfl) wk_X9_7 wn_X0 wi_X0 dX9_init_86 ⟨Nat.le_of_ble_eq_true rfl, Nat.le_of_ble_eq_true rfl⟩ ?_
  generalize h10 : ev_mk M9 1 1 = M10
  have n10 : M10.2.2.2 = 62 := by
    rw [← h10]
    show M9.2.2.2 + 1 = 62
    rw [n9]
  have f10 : FI_ M10 := by
    rw [← h10]
    exact f9
  rw [← h10, ← h9, ← h8, ← h7, ← h6, ← h5, ← h4, ← h3, ← h2, ← h1]
  exact kk
def mk_X9_c (M : ev_M) : ev_M := (ev_pq (mk_X0_3 (ev_mk (ev_pq (mk_X0_2 (ev_mk (ev_pq (mk_X0_1 M) 23 0 (0 : Int32).toNatClampNeg (some (1, 1))) 1 2)) 23 0 (1 : Int32).toNatClampNeg (some (1, 2))) 1 3)) 23 0 (2 : Int32).toNatClampNeg (some (1, 3)))
theorem N_X9_c {M : ev_M} (n0 : M.2.2.2 = 62) : (mk_X9_c M).2.2.2 = 160 := by
  have a0 : (mk_X0_1 M).2.2.2 = 94 := N_X0_1 n0
  have a1 : (ev_pq (mk_X0_1 M) 23 0 (0 : Int32).toNatClampNeg (some (1, 1))).2.2.2 = 94 := by
    exact congrArg (fun z => z) a0
  have a2 : (ev_mk (ev_pq (mk_X0_1 M) 23 0 (0 : Int32).toNatClampNeg (some (1, 1))) 1 2).2.2.2 = 95 := by
    exact congrArg (fun z => z + 1) a1
  have a3 : (mk_X0_2 (ev_mk (ev_pq (mk_X0_1 M) 23 0 (0 : Int32).toNatClampNeg (some (1, 1))) 1 2)).2.2.2 = 127 := N_X0_2 a2
  have a4 : (ev_pq (mk_X0_2 (ev_mk (ev_pq (mk_X0_1 M) 23 0 (0 : Int32).toNatClampNeg (some (1, 1))) 1 2)) 23 0 (1 : Int32).toNatClampNeg (some (1, 2))).2.2.2 = 127 := by
    exact congrArg (fun z => z) a3
  have a5 : (ev_mk (ev_pq (mk_X0_2 (ev_mk (ev_pq (mk_X0_1 M) 23 0 (0 : Int32).toNatClampNeg (some (1, 1))) 1 2)) 23 0 (1 : Int32).toNatClampNeg (some (1, 2))) 1 3).2.2.2 = 128 := by
    exact congrArg (fun z => z + 1) a4
  have a6 : (mk_X0_3 (ev_mk (ev_pq (mk_X0_2 (ev_mk (ev_pq (mk_X0_1 M) 23 0 (0 : Int32).toNatClampNeg (some (1, 1))) 1 2)) 23 0 (1 : Int32).toNatClampNeg (some (1, 2))) 1 3)).2.2.2 = 160 := N_X0_3 a5
  have a7 : (ev_pq (mk_X0_3 (ev_mk (ev_pq (mk_X0_2 (ev_mk (ev_pq (mk_X0_1 M) 23 0 (0 : Int32).toNatClampNeg (some (1, 1))) 1 2)) 23 0 (1 : Int32).toNatClampNeg (some (1, 2))) 1 3)) 23 0 (2 : Int32).toNatClampNeg (some (1, 3))).2.2.2 = 160 := by
    exact congrArg (fun z => z) a6
  exact a7
set_option maxRecDepth 20000 in
set_option maxHeartbeats 4000000 in
theorem g_X9_c {G : ev_G} {M : ev_M} {Q : Option ev_V → ev_M → Prop} (n0 : M.2.2.2 = 62) (f0 : FI_ M) (kk : ev_E G K_X9_init B_X9_init (159, 6062) 100 [some (vr 0 0), some (vi 3)] [] (mk_X9_c M) Q) : ev_E G K_X9_init B_X9_init (61, 3334) 89 [some (vr 0 0), some (vi 0)] [vr 1 1, vi 0, vr 23 0] M Q := by
  refine ev_dup_r (pc := 89) dX9_init_89 ?_
  refine ev_ctC (k' := K_X0_init) (pc := 90) (b' := B_X0_init) wl_X9_9 mi_X0_init rfl dX9_init_90 ⟨⟨Nat.le_of_ble_eq_true rfl, Nat.le_of_ble_eq_true rfl⟩, Nat.le_of_ble_eq_true rfl, Nat.le_of_ble_eq_true rfl⟩ (Nat.le_of_ble_eq_true rfl) (c_X0_init_1 n0) ?_
  generalize h1 : mk_X0_1 M = M1
  have n1 : M1.2.2.2 = 94 := by
    rw [← h1]
    exact N_X0_1 n0
  have f1 : FI_ M1 := by
    rw [← h1]
    exact f0
  refine ev_aast (pc := 93) (r := 23) (i := 0) (t := 3) (r2 := 1) (i2 := 1) (ci := 0) (x := 0) rfl rfl rfl (by decide) (by decide) (show ¬ ((0 : Int32) < 0 ∨ ev_len 23 ≤ (0 : Int32).toNatClampNeg) by decide) dX9_init_93 (by rw [n1]; exact Nat.le_of_ble_eq_true rfl) (by rw [n1]; exact Nat.le_of_ble_eq_true rfl) ?_
  generalize h2 : ev_pq M1 23 0 (0 : Int32).toNatClampNeg (some (1, 1)) = M2
  have n2 : M2.2.2.2 = 94 := by
    rw [← h2]
    show M1.2.2.2 = 94
    rw [n1]
  have f2 : FI_ M2 := by
    rw [← h2]
    exact f1
  refine ev_iinc_1 (pc := 94) (y := 1) dX9_init_94 rfl (by decide) rfl ?_
  refine ev_goto (pc := 97) (tgt := 76) dX9_init_97 (by decide) ?_
  refine ev_iload_1 (pc := 76) dX9_init_76 ?_
  refine ev_iconst (pc := 77) (v := 3) dX9_init_77 rfl ?_
  refine ev_icc_ge (pc := 78) (tgt := 100) dX9_init_78 (by decide) (fun z => absurd (show (1 : Int32) < 3 by decide) z) (fun _ => ?_)
  refine ev_aload_0 (pc := 81) dX9_init_81 ?_
  refine ev_getqr (pc := 82) (r := 0) (i := 0) (ci := 9) (j := 1) (r2 := 23) (i2 := 0) fl_X9_16 rfl rfl dX9_init_82 (by rw [n2]; exact Nat.le_of_ble_eq_true rfl) f2 ?_
  refine ev_iload_1 (pc := 85) dX9_init_85 ?_
  refine ev_new (pc := 86) (r := 1) (i := 2) (ci := 0) rfl (by decide) (by rw [n2]; rfl) wk_X9_7 wn_X0 wi_X0 dX9_init_86 ⟨Nat.le_of_ble_eq_true rfl, Nat.le_of_ble_eq_true rfl⟩ ?_
  generalize h3 : ev_mk M2 1 2 = M3
  have n3 : M3.2.2.2 = 95 := by
    rw [← h3]
    show M2.2.2.2 + 1 = 95
    rw [n2]
  have f3 : FI_ M3 := by
    rw [← h3]
    exact f2
  refine ev_dup_r (pc := 89) dX9_init_89 ?_
  refine ev_ctC (k' := K_X0_init) (pc := 90) (b' := B_X0_init) wl_X9_9 mi_X0_init rfl dX9_init_90 ⟨⟨Nat.le_of_ble_eq_true rfl, Nat.le_of_ble_eq_true rfl⟩, Nat.le_of_ble_eq_true rfl, Nat.le_of_ble_eq_true rfl⟩ (Nat.le_of_ble_eq_true rfl) (c_X0_init_2 n3) ?_
  generalize h4 : mk_X0_2 M3 = M4
  have n4 : M4.2.2.2 = 127 := by
    rw [← h4]
    exact N_X0_2 n3
  have f4 : FI_ M4 := by
    rw [← h4]
    exact f3
  refine ev_aast (pc := 93) (r := 23) (i := 0) (t := 3) (r2 := 1) (i2 := 2) (ci := 0) (x := 1) rfl rfl rfl (by decide) (by decide) (show ¬ ((1 : Int32) < 0 ∨ ev_len 23 ≤ (1 : Int32).toNatClampNeg) by decide) dX9_init_93 (by rw [n4]; exact Nat.le_of_ble_eq_true rfl) (by rw [n4]; exact Nat.le_of_ble_eq_true rfl) ?_
  generalize h5 : ev_pq M4 23 0 (1 : Int32).toNatClampNeg (some (1, 2)) = M5
  have n5 : M5.2.2.2 = 127 := by
    rw [← h5]
    show M4.2.2.2 = 127
    rw [n4]
  have f5 : FI_ M5 := by
    rw [← h5]
    exact f4
  refine ev_iinc_1 (pc := 94) (y := 2) dX9_init_94 rfl (by decide) rfl ?_
  refine ev_goto (pc := 97) (tgt := 76) dX9_init_97 (by decide) ?_
  refine ev_iload_1 (pc := 76) dX9_init_76 ?_
  refine ev_iconst (pc := 77) (v := 3) dX9_init_77 rfl ?_
  refine ev_icc_ge (pc := 78) (tgt := 100) dX9_init_78 (by decide) (fun z => absurd (show (2 : Int32) < 3 by decide) z) (fun _ => ?_)
  refine ev_aload_0 (pc := 81) dX9_init_81 ?_
  refine ev_getqr (pc := 82) (r := 0) (i := 0) (ci := 9) (j := 1) (r2 := 23) (i2 := 0) fl_X9_16 rfl rfl dX9_init_82 (by rw [n5]; exact Nat.le_of_ble_eq_true rfl) f5 ?_
  refine ev_iload_1 (pc := 85) dX9_init_85 ?_
  refine ev_new (pc := 86) (r := 1) (i := 3) (ci := 0) rfl (by decide) (by rw [n5]; rfl) wk_X9_7 wn_X0 wi_X0 dX9_init_86 ⟨Nat.le_of_ble_eq_true rfl, Nat.le_of_ble_eq_true rfl⟩ ?_
  generalize h6 : ev_mk M5 1 3 = M6
  have n6 : M6.2.2.2 = 128 := by
    rw [← h6]
    show M5.2.2.2 + 1 = 128
    rw [n5]
  have f6 : FI_ M6 := by
    rw [← h6]
    exact f5
  refine ev_dup_r (pc := 89) dX9_init_89 ?_
  refine ev_ctC (k' := K_X0_init) (pc := 90) (b' := B_X0_init) wl_X9_9 mi_X0_init rfl dX9_init_90 ⟨⟨Nat.le_of_ble_eq_true rfl, Nat.le_of_ble_eq_true rfl⟩, Nat.le_of_ble_eq_true rfl, Nat.le_of_ble_eq_true rfl⟩ (Nat.le_of_ble_eq_true rfl) (c_X0_init_3 n6) ?_
  generalize h7 : mk_X0_3 M6 = M7
  have n7 : M7.2.2.2 = 160 := by
    rw [← h7]
    exact N_X0_3 n6
  have f7 : FI_ M7 := by
    rw [← h7]
    exact f6
  refine ev_aast (pc := 93) (r := 23) (i := 0) (t := 3) (r2 := 1) (i2 := 3) (ci := 0) (x := 2) rfl rfl rfl (by decide) (by decide) (show ¬ ((2 : Int32) < 0 ∨ ev_len 23 ≤ (2 : Int32).toNatClampNeg) by decide) dX9_init_93 (by rw [n7]; exact Nat.le_of_ble_eq_true rfl) (by rw [n7]; exact Nat.le_of_ble_eq_true rfl) ?_
  generalize h8 : ev_pq M7 23 0 (2 : Int32).toNatClampNeg (some (1, 3)) = M8
  have n8 : M8.2.2.2 = 160 := by
    rw [← h8]
    show M7.2.2.2 = 160
    rw [n7]
  have f8 : FI_ M8 := by
    rw [← h8]
    exact f7
  refine ev_iinc_1 (pc := 94) (y := 3) dX9_init_94 rfl (by decide) rfl ?_
  refine ev_goto (pc := 97) (tgt := 76) dX9_init_97 (by decide) ?_
  refine ev_iload_1 (pc := 76) dX9_init_76 ?_
  refine ev_iconst (pc := 77) (v := 3) dX9_init_77 rfl ?_
  refine ev_icc_ge (pc := 78) (tgt := 100) dX9_init_78 (by decide) (fun _ => ?_) (fun z => absurd z (by decide))
  rw [← h8, ← h7, ← h6, ← h5, ← h4, ← h3, ← h2, ← h1]
  exact kk
def mk_X9 (M : ev_M) : ev_M := (mk_X9_c (mk_X9_b (mk_X9_a M)))
theorem N_X9 {M : ev_M} (n0 : M.2.2.2 = 1) : (mk_X9 M).2.2.2 = 160 := (N_X9_c (N_X9_b (N_X9_a n0)))
theorem c_X9_init_0 {G : ev_G} {M : ev_M} (n0 : M.2.2.2 = 1) : ev_CI G K_X9_init B_X9_init 0 0 M (mk_X9 M) := by
  refine ev_Ct_of (L0 := [some (vr 0 0), none]) rfl rfl (Nat.le_of_ble_eq_true rfl) ?_
  refine g_X9_a n0 ?_
  refine g_X9_b (N_X9_a n0) (F_X9_a _) ?_
  refine g_X9_c (N_X9_b (N_X9_a n0)) (F_X9_b (F_X9_a _)) ?_
  exact ev_vret (pc := 100) dX9_init_100 rfl ⟨rfl, rfl⟩
abbrev B_X10_init : ev_B := (1, 20, 23, 5666)
def mk_X10_a (M : ev_M) : ev_M := (ev_pq (ev_mk (ev_pq (ev_mk (ev_pq (ev_mk (ev_pq (ev_mk (ev_pq (ev_mk M 30 0) 10 0 1 (some (30, 0))) 31 0) 10 0 2 (some (31, 0))) 32 0) 10 0 3 (some (32, 0))) 33 0) 10 0 4 (some (33, 0))) 34 0) 10 0 5 (some (34, 0)))
theorem N_X10_a {M : ev_M} (n0 : M.2.2.2 = 161) : (mk_X10_a M).2.2.2 = 166 := by
  show M.2.2.2 + 1 + 1 + 1 + 1 + 1 = 166
  rw [n0]
theorem F_X10_a (M : ev_M) : FM_ (mk_X10_a M) := rfl
set_option maxRecDepth 20000 in
set_option maxHeartbeats 4000000 in
theorem g_X10_a {G : ev_G} {M : ev_M} {Q : Option ev_V → ev_M → Prop} (n0 : M.2.2.2 = 161) (kk : ev_E G K_X10_init B_X10_init (5, 2428) 42 [some (vr 10 0)] [] (mk_X10_a M) Q) : ev_E G K_X10_init B_X10_init (0, 0) 0 [some (vr 10 0)] [] M Q := by
  refine ev_aload_0 (pc := 0) dX10_init_0 ?_
  refine ev_oini (pc := 1) wl_X10_1 wo_in wo_co ⟨Nat.le_of_ble_eq_true rfl, Nat.le_of_ble_eq_true rfl⟩ (Nat.le_of_ble_eq_true rfl) dX10_init_1 ?_
  refine ev_aload_0 (pc := 4) dX10_init_4 ?_
  refine ev_sipush (pc := 5) (v := 2400) dX10_init_5 (by decide) ?_
  refine ev_newa (pc := 8) (r := 30) (i := 0) (t := 1) (aty := .byte) rfl (by decide) (by decide) (by rw [n0]; rfl) (by decide) (Or.inr (by decide)) rfl wa_byte (by decide) (by decide) (Nat.le_of_ble_eq_true rfl) dX10_init_8 ⟨Nat.le_of_ble_eq_true rfl, Nat.le_of_ble_eq_true rfl⟩ ?_
  generalize h1 : ev_mk M 30 0 = M1
  have n1 : M1.2.2.2 = 162 := by
    rw [← h1]
    show M.2.2.2 + 1 = 162
    rw [n0]
  refine ev_putq (pc := 10) (r := 10) (i := 0) (ci := 10) (j := 1) (o := some (30, 0)) fl_X10_7 rfl rfl (Or.inr ⟨rfl, rfl, rfl⟩) (Or.inr ⟨_, rfl⟩) dX10_init_10 (by rw [n1]; exact Nat.le_of_ble_eq_true rfl) ?_
  generalize h2 : ev_pq M1 10 0 1 (some (30, 0)) = M2
  have n2 : M2.2.2.2 = 162 := by
    rw [← h2]
    show M1.2.2.2 = 162
    rw [n1]
  refine ev_aload_0 (pc := 13) dX10_init_13 ?_
  refine ev_iconst (pc := 14) (v := 4) dX10_init_14 rfl ?_
  refine ev_newa (pc := 15) (r := 31) (i := 0) (t := 0) (aty := .int) rfl (by decide) (by decide) (by rw [n2]; rfl) (by decide) (Or.inr (by decide)) rfl wa_int (by decide) (by decide) (Nat.le_of_ble_eq_true rfl) dX10_init_15 ⟨Nat.le_of_ble_eq_true rfl, Nat.le_of_ble_eq_true rfl⟩ ?_
  generalize h3 : ev_mk M2 31 0 = M3
  have n3 : M3.2.2.2 = 163 := by
    rw [← h3]
    show M2.2.2.2 + 1 = 163
    rw [n2]
  refine ev_putq (pc := 17) (r := 10) (i := 0) (ci := 10) (j := 2) (o := some (31, 0)) fl_X10_13 rfl rfl (Or.inr ⟨rfl, rfl, rfl⟩) (Or.inr ⟨_, rfl⟩) dX10_init_17 (by rw [n3]; exact Nat.le_of_ble_eq_true rfl) ?_
  generalize h4 : ev_pq M3 10 0 2 (some (31, 0)) = M4
  have n4 : M4.2.2.2 = 163 := by
    rw [← h4]
    show M3.2.2.2 = 163
    rw [n3]
  refine ev_aload_0 (pc := 20) dX10_init_20 ?_
  refine ev_iconst (pc := 21) (v := 4) dX10_init_21 rfl ?_
  refine ev_newa (pc := 22) (r := 32) (i := 0) (t := 0) (aty := .int) rfl (by decide) (by decide) (by rw [n4]; rfl) (by decide) (Or.inr (by decide)) rfl wa_int (by decide) (by decide) (Nat.le_of_ble_eq_true rfl) dX10_init_22 ⟨Nat.le_of_ble_eq_true rfl, Nat.le_of_ble_eq_true rfl⟩ ?_
  generalize h5 : ev_mk M4 32 0 = M5
  have n5 : M5.2.2.2 = 164 := by
    rw [← h5]
    show M4.2.2.2 + 1 = 164
    rw [n4]
  refine ev_putq (pc := 24) (r := 10) (i := 0) (ci := 10) (j := 3) (o := some (32, 0)) fl_X10_17 rfl rfl (Or.inr ⟨rfl, rfl, rfl⟩) (Or.inr ⟨_, rfl⟩) dX10_init_24 (by rw [n5]; exact Nat.le_of_ble_eq_true rfl) ?_
  generalize h6 : ev_pq M5 10 0 3 (some (32, 0)) = M6
  have n6 : M6.2.2.2 = 164 := by
    rw [← h6]
    show M5.2.2.2 = 164
    rw [n5]
  refine ev_aload_0 (pc := 27) dX10_init_27 ?_
  refine ev_iconst (pc := 28) (v := 4) dX10_init_28 rfl ?_
  refine ev_newa (pc := 29) (r := 33) (i := 0) (t := 0) (aty := .int) rfl (by decide) (by decide) (by rw [n6]; rfl) (by decide) (Or.inr (by decide)) rfl wa_int (by decide) (by decide) (Nat.le_of_ble_eq_true rfl) dX10_init_29 ⟨Nat.le_of_ble_eq_true rfl, Nat.le_of_ble_eq_true rfl⟩ ?_
  generalize h7 : ev_mk M6 33 0 = M7
  have n7 : M7.2.2.2 = 165 := by
    rw [← h7]
    show M6.2.2.2 + 1 = 165
    rw [n6]
  refine ev_putq (pc := 31) (r := 10) (i := 0) (ci := 10) (j := 4) (o := some (33, 0)) fl_X10_20 rfl rfl (Or.inr ⟨rfl, rfl, rfl⟩) (Or.inr ⟨_, rfl⟩) dX10_init_31 (by rw [n7]; exact Nat.le_of_ble_eq_true rfl) ?_
  generalize h8 : ev_pq M7 10 0 4 (some (33, 0)) = M8
  have n8 : M8.2.2.2 = 165 := by
    rw [← h8]
    show M7.2.2.2 = 165
    rw [n7]
  have f8 : FM_ M8 := by
    rw [← h8]
    rfl
  refine ev_aload_0 (pc := 34) dX10_init_34 ?_
  refine ev_bipush (pc := 35) (v := 16) dX10_init_35 (by decide) ?_
  refine ev_newa (pc := 37) (r := 34) (i := 0) (t := 0) (aty := .int) rfl (by decide) (by decide) (by rw [n8]; rfl) (by decide) (Or.inr (by decide)) rfl wa_int (by decide) (by decide) (Nat.le_of_ble_eq_true rfl) dX10_init_37 ⟨Nat.le_of_ble_eq_true rfl, Nat.le_of_ble_eq_true rfl⟩ ?_
  generalize h9 : ev_mk M8 34 0 = M9
  have n9 : M9.2.2.2 = 166 := by
    rw [← h9]
    show M8.2.2.2 + 1 = 166
    rw [n8]
  have f9 : FM_ M9 := by
    rw [← h9]
    exact f8
  refine ev_putq (pc := 39) (r := 10) (i := 0) (ci := 10) (j := 5) (o := some (34, 0)) fl_X10_23 rfl rfl (Or.inr ⟨rfl, rfl, rfl⟩) (Or.inr ⟨_, rfl⟩) dX10_init_39 (by rw [n9]; exact Nat.le_of_ble_eq_true rfl) ?_
  generalize h10 : ev_pq M9 10 0 5 (some (34, 0)) = M10
  have n10 : M10.2.2.2 = 166 := by
    rw [← h10]
    show M9.2.2.2 = 166
    rw [n9]
  have f10 : FM_ M10 := by
    rw [← h10]
    exact f9
  rw [← h10, ← h9, ← h8, ← h7, ← h6, ← h5, ← h4, ← h3, ← h2, ← h1]
  exact kk
def mk_X10_b (M : ev_M) : ev_M := (ev_pq (ev_mk (ev_pq (ev_mk (ev_pq (ev_mk (ev_pq (ev_mk (ev_pq (ev_mk M 35 0) 10 0 6 (some (35, 0))) 36 0) 10 0 7 (some (36, 0))) 37 0) 10 0 8 (some (37, 0))) 38 0) 10 0 9 (some (38, 0))) 39 0) 10 0 19 (some (39, 0)))
theorem N_X10_b {M : ev_M} (n0 : M.2.2.2 = 166) : (mk_X10_b M).2.2.2 = 171 := by
  show M.2.2.2 + 1 + 1 + 1 + 1 + 1 = 171
  rw [n0]
theorem F_X10_b {M : ev_M} (f0 : FM_ M) : FM_ (mk_X10_b M) := f0
set_option maxRecDepth 20000 in
set_option maxHeartbeats 4000000 in
theorem g_X10_b {G : ev_G} {M : ev_M} {Q : Option ev_V → ev_M → Prop} (n0 : M.2.2.2 = 166) (f0 : FM_ M) (kk : ev_E G K_X10_init B_X10_init (10, 3585) 86 [some (vr 10 0)] [] (mk_X10_b M) Q) : ev_E G K_X10_init B_X10_init (5, 2428) 42 [some (vr 10 0)] [] M Q := by
  refine ev_aload_0 (pc := 42) dX10_init_42 ?_
  refine ev_sipush (pc := 43) (v := 184) dX10_init_43 (by decide) ?_
  refine ev_newa (pc := 46) (r := 35) (i := 0) (t := 0) (aty := .int) rfl (by decide) (by decide) (by rw [n0]; rfl) (by decide) (Or.inr (by decide)) rfl wa_int (by decide) (by decide) (Nat.le_of_ble_eq_true rfl) dX10_init_46 ⟨Nat.le_of_ble_eq_true rfl, Nat.le_of_ble_eq_true rfl⟩ ?_
  generalize h1 : ev_mk M 35 0 = M1
  have n1 : M1.2.2.2 = 167 := by
    rw [← h1]
    show M.2.2.2 + 1 = 167
    rw [n0]
  have f1 : FM_ M1 := by
    rw [← h1]
    exact f0
  refine ev_putq (pc := 48) (r := 10) (i := 0) (ci := 10) (j := 6) (o := some (35, 0)) fl_X10_26 rfl rfl (Or.inr ⟨rfl, rfl, rfl⟩) (Or.inr ⟨_, rfl⟩) dX10_init_48 (by rw [n1]; exact Nat.le_of_ble_eq_true rfl) ?_
  generalize h2 : ev_pq M1 10 0 6 (some (35, 0)) = M2
  have n2 : M2.2.2.2 = 167 := by
    rw [← h2]
    show M1.2.2.2 = 167
    rw [n1]
  have f2 : FM_ M2 := by
    rw [← h2]
    exact f1
  refine ev_aload_0 (pc := 51) dX10_init_51 ?_
  refine ev_sipush (pc := 52) (v := 288) dX10_init_52 (by decide) ?_
  refine ev_newa (pc := 55) (r := 36) (i := 0) (t := 0) (aty := .int) rfl (by decide) (by decide) (by rw [n2]; rfl) (by decide) (Or.inr (by decide)) rfl wa_int (by decide) (by decide) (Nat.le_of_ble_eq_true rfl) dX10_init_55 ⟨Nat.le_of_ble_eq_true rfl, Nat.le_of_ble_eq_true rfl⟩ ?_
  generalize h3 : ev_mk M2 36 0 = M3
  have n3 : M3.2.2.2 = 168 := by
    rw [← h3]
    show M2.2.2.2 + 1 = 168
    rw [n2]
  have f3 : FM_ M3 := by
    rw [← h3]
    exact f2
  refine ev_putq (pc := 57) (r := 10) (i := 0) (ci := 10) (j := 7) (o := some (36, 0)) fl_X10_29 rfl rfl (Or.inr ⟨rfl, rfl, rfl⟩) (Or.inr ⟨_, rfl⟩) dX10_init_57 (by rw [n3]; exact Nat.le_of_ble_eq_true rfl) ?_
  generalize h4 : ev_pq M3 10 0 7 (some (36, 0)) = M4
  have n4 : M4.2.2.2 = 168 := by
    rw [← h4]
    show M3.2.2.2 = 168
    rw [n3]
  have f4 : FM_ M4 := by
    rw [← h4]
    exact f3
  refine ev_aload_0 (pc := 60) dX10_init_60 ?_
  refine ev_sipush (pc := 61) (v := 488) dX10_init_61 (by decide) ?_
  refine ev_newa (pc := 64) (r := 37) (i := 0) (t := 0) (aty := .int) rfl (by decide) (by decide) (by rw [n4]; rfl) (by decide) (Or.inr (by decide)) rfl wa_int (by decide) (by decide) (Nat.le_of_ble_eq_true rfl) dX10_init_64 ⟨Nat.le_of_ble_eq_true rfl, Nat.le_of_ble_eq_true rfl⟩ ?_
  generalize h5 : ev_mk M4 37 0 = M5
  have n5 : M5.2.2.2 = 169 := by
    rw [← h5]
    show M4.2.2.2 + 1 = 169
    rw [n4]
  have f5 : FM_ M5 := by
    rw [← h5]
    exact f4
  refine ev_putq (pc := 66) (r := 10) (i := 0) (ci := 10) (j := 8) (o := some (37, 0)) fl_X10_32 rfl rfl (Or.inr ⟨rfl, rfl, rfl⟩) (Or.inr ⟨_, rfl⟩) dX10_init_66 (by rw [n5]; exact Nat.le_of_ble_eq_true rfl) ?_
  generalize h6 : ev_pq M5 10 0 8 (some (37, 0)) = M6
  have n6 : M6.2.2.2 = 169 := by
    rw [← h6]
    show M5.2.2.2 = 169
    rw [n5]
  have f6 : FM_ M6 := by
    rw [← h6]
    exact f5
  refine ev_aload_0 (pc := 69) dX10_init_69 ?_
  refine ev_sipush (pc := 70) (v := 136) dX10_init_70 (by decide) ?_
  refine ev_newa (pc := 73) (r := 38) (i := 0) (t := 0) (aty := .int) rfl (by decide) (by decide) (by rw [n6]; rfl) (by decide) (Or.inr (by decide)) rfl wa_int (by decide) (by decide) (Nat.le_of_ble_eq_true rfl) dX10_init_73 ⟨Nat.le_of_ble_eq_true rfl, Nat.le_of_ble_eq_true rfl⟩ ?_
  generalize h7 : ev_mk M6 38 0 = M7
  have n7 : M7.2.2.2 = 170 := by
    rw [← h7]
    show M6.2.2.2 + 1 = 170
    rw [n6]
  have f7 : FM_ M7 := by
    rw [← h7]
    exact f6
  refine ev_putq (pc := 75) (r := 10) (i := 0) (ci := 10) (j := 9) (o := some (38, 0)) fl_X10_35 rfl rfl (Or.inr ⟨rfl, rfl, rfl⟩) (Or.inr ⟨_, rfl⟩) dX10_init_75 (by rw [n7]; exact Nat.le_of_ble_eq_true rfl) ?_
  generalize h8 : ev_pq M7 10 0 9 (some (38, 0)) = M8
  have n8 : M8.2.2.2 = 170 := by
    rw [← h8]
    show M7.2.2.2 = 170
    rw [n7]
  have f8 : FM_ M8 := by
    rw [← h8]
    exact f7
  refine ev_aload_0 (pc := 78) dX10_init_78 ?_
  refine ev_bipush (pc := 79) (v := 61) dX10_init_79 (by decide) ?_
  refine ev_newa (pc := 81) (r := 39) (i := 0) (t := 0) (aty := .int) rfl (by decide) (by decide) (by rw [n8]; rfl) (by decide) (Or.inr (by decide)) rfl wa_int (by decide) (by decide) (Nat.le_of_ble_eq_true rfl) dX10_init_81 ⟨Nat.le_of_ble_eq_true rfl, Nat.le_of_ble_eq_true rfl⟩ ?_
  generalize h9 : ev_mk M8 39 0 = M9
  have n9 : M9.2.2.2 = 171 := by
    rw [← h9]
    show M8.2.2.2 + 1 = 171
    rw [n8]
  have f9 : FM_ M9 := by
    rw [← h9]
    exact f8
  refine ev_putq (pc := 83) (r := 10) (i := 0) (ci := 10) (j := 19) (o := some (39, 0)) fl_X10_38 rfl rfl (Or.inr ⟨rfl, rfl, rfl⟩) (Or.inr ⟨_, rfl⟩) dX10_init_83 (by rw [n9]; exact Nat.le_of_ble_eq_true rfl) ?_
  generalize h10 : ev_pq M9 10 0 19 (some (39, 0)) = M10
  have n10 : M10.2.2.2 = 171 := by
    rw [← h10]
    show M9.2.2.2 = 171
    rw [n9]
  have f10 : FM_ M10 := by
    rw [← h10]
    exact f9
  rw [← h10, ← h9, ← h8, ← h7, ← h6, ← h5, ← h4, ← h3, ← h2, ← h1]
  exact kk
def mk_X10_c (M : ev_M) : ev_M := (ev_pq (ev_mk (ev_pq (ev_mk (ev_pq (ev_mk (ev_pq (ev_mk (ev_pq (ev_mk M 40 0) 10 0 21 (some (40, 0))) 41 0) 10 0 22 (some (41, 0))) 42 0) 10 0 23 (some (42, 0))) 43 0) 10 0 24 (some (43, 0))) 44 0) 10 0 25 (some (44, 0)))
theorem N_X10_c {M : ev_M} (n0 : M.2.2.2 = 171) : (mk_X10_c M).2.2.2 = 176 := by
  show M.2.2.2 + 1 + 1 + 1 + 1 + 1 = 176
  rw [n0]
theorem F_X10_c {M : ev_M} (f0 : FM_ M) : FM_ (mk_X10_c M) := f0
set_option maxRecDepth 20000 in
set_option maxHeartbeats 4000000 in
theorem g_X10_c {G : ev_G} {M : ev_M} {Q : Option ev_V → ev_M → Prop} (n0 : M.2.2.2 = 171) (f0 : FM_ M) (kk : ev_E G K_X10_init B_X10_init (15, 3650) 123 [some (vr 10 0)] [] (mk_X10_c M) Q) : ev_E G K_X10_init B_X10_init (10, 3585) 86 [some (vr 10 0)] [] M Q := by
  refine ev_aload_0 (pc := 86) dX10_init_86 ?_
  refine ev_bipush (pc := 87) (v := 23) dX10_init_87 (by decide) ?_
  refine ev_newa (pc := 89) (r := 40) (i := 0) (t := 0) (aty := .int) rfl (by decide) (by decide) (by rw [n0]; rfl) (by decide) (Or.inr (by decide)) rfl wa_int (by decide) (by decide) (Nat.le_of_ble_eq_true rfl) dX10_init_89 ⟨Nat.le_of_ble_eq_true rfl, Nat.le_of_ble_eq_true rfl⟩ ?_
  generalize h1 : ev_mk M 40 0 = M1
  have n1 : M1.2.2.2 = 172 := by
    rw [← h1]
    show M.2.2.2 + 1 = 172
    rw [n0]
  have f1 : FM_ M1 := by
    rw [← h1]
    exact f0
  refine ev_putq (pc := 91) (r := 10) (i := 0) (ci := 10) (j := 21) (o := some (40, 0)) fl_X10_41 rfl rfl (Or.inr ⟨rfl, rfl, rfl⟩) (Or.inr ⟨_, rfl⟩) dX10_init_91 (by rw [n1]; exact Nat.le_of_ble_eq_true rfl) ?_
  generalize h2 : ev_pq M1 10 0 21 (some (40, 0)) = M2
  have n2 : M2.2.2.2 = 172 := by
    rw [← h2]
    show M1.2.2.2 = 172
    rw [n1]
  have f2 : FM_ M2 := by
    rw [← h2]
    exact f1
  refine ev_aload_0 (pc := 94) dX10_init_94 ?_
  refine ev_bipush (pc := 95) (v := 36) dX10_init_95 (by decide) ?_
  refine ev_newa (pc := 97) (r := 41) (i := 0) (t := 0) (aty := .int) rfl (by decide) (by decide) (by rw [n2]; rfl) (by decide) (Or.inr (by decide)) rfl wa_int (by decide) (by decide) (Nat.le_of_ble_eq_true rfl) dX10_init_97 ⟨Nat.le_of_ble_eq_true rfl, Nat.le_of_ble_eq_true rfl⟩ ?_
  generalize h3 : ev_mk M2 41 0 = M3
  have n3 : M3.2.2.2 = 173 := by
    rw [← h3]
    show M2.2.2.2 + 1 = 173
    rw [n2]
  have f3 : FM_ M3 := by
    rw [← h3]
    exact f2
  refine ev_putq (pc := 99) (r := 10) (i := 0) (ci := 10) (j := 22) (o := some (41, 0)) fl_X10_44 rfl rfl (Or.inr ⟨rfl, rfl, rfl⟩) (Or.inr ⟨_, rfl⟩) dX10_init_99 (by rw [n3]; exact Nat.le_of_ble_eq_true rfl) ?_
  generalize h4 : ev_pq M3 10 0 22 (some (41, 0)) = M4
  have n4 : M4.2.2.2 = 173 := by
    rw [← h4]
    show M3.2.2.2 = 173
    rw [n3]
  have f4 : FM_ M4 := by
    rw [← h4]
    exact f3
  refine ev_aload_0 (pc := 102) dX10_init_102 ?_
  refine ev_iconst (pc := 103) (v := 2) dX10_init_103 rfl ?_
  refine ev_newa (pc := 104) (r := 42) (i := 0) (t := 0) (aty := .int) rfl (by decide) (by decide) (by rw [n4]; rfl) (by decide) (Or.inr (by decide)) rfl wa_int (by decide) (by decide) (Nat.le_of_ble_eq_true rfl) dX10_init_104 ⟨Nat.le_of_ble_eq_true rfl, Nat.le_of_ble_eq_true rfl⟩ ?_
  generalize h5 : ev_mk M4 42 0 = M5
  have n5 : M5.2.2.2 = 174 := by
    rw [← h5]
    show M4.2.2.2 + 1 = 174
    rw [n4]
  have f5 : FM_ M5 := by
    rw [← h5]
    exact f4
  refine ev_putq (pc := 106) (r := 10) (i := 0) (ci := 10) (j := 23) (o := some (42, 0)) fl_X10_47 rfl rfl (Or.inr ⟨rfl, rfl, rfl⟩) (Or.inr ⟨_, rfl⟩) dX10_init_106 (by rw [n5]; exact Nat.le_of_ble_eq_true rfl) ?_
  generalize h6 : ev_pq M5 10 0 23 (some (42, 0)) = M6
  have n6 : M6.2.2.2 = 174 := by
    rw [← h6]
    show M5.2.2.2 = 174
    rw [n5]
  have f6 : FM_ M6 := by
    rw [← h6]
    exact f5
  refine ev_aload_0 (pc := 109) dX10_init_109 ?_
  refine ev_iconst (pc := 110) (v := 2) dX10_init_110 rfl ?_
  refine ev_newa (pc := 111) (r := 43) (i := 0) (t := 0) (aty := .int) rfl (by decide) (by decide) (by rw [n6]; rfl) (by decide) (Or.inr (by decide)) rfl wa_int (by decide) (by decide) (Nat.le_of_ble_eq_true rfl) dX10_init_111 ⟨Nat.le_of_ble_eq_true rfl, Nat.le_of_ble_eq_true rfl⟩ ?_
  generalize h7 : ev_mk M6 43 0 = M7
  have n7 : M7.2.2.2 = 175 := by
    rw [← h7]
    show M6.2.2.2 + 1 = 175
    rw [n6]
  have f7 : FM_ M7 := by
    rw [← h7]
    exact f6
  refine ev_putq (pc := 113) (r := 10) (i := 0) (ci := 10) (j := 24) (o := some (43, 0)) fl_X10_50 rfl rfl (Or.inr ⟨rfl, rfl, rfl⟩) (Or.inr ⟨_, rfl⟩) dX10_init_113 (by rw [n7]; exact Nat.le_of_ble_eq_true rfl) ?_
  generalize h8 : ev_pq M7 10 0 24 (some (43, 0)) = M8
  have n8 : M8.2.2.2 = 175 := by
    rw [← h8]
    show M7.2.2.2 = 175
    rw [n7]
  have f8 : FM_ M8 := by
    rw [← h8]
    exact f7
  refine ev_aload_0 (pc := 116) dX10_init_116 ?_
  refine ev_iconst (pc := 117) (v := 2) dX10_init_117 rfl ?_
  refine ev_newa (pc := 118) (r := 44) (i := 0) (t := 0) (aty := .int) rfl (by decide) (by decide) (by rw [n8]; rfl) (by decide) (Or.inr (by decide)) rfl wa_int (by decide) (by decide) (Nat.le_of_ble_eq_true rfl) dX10_init_118 ⟨Nat.le_of_ble_eq_true rfl, Nat.le_of_ble_eq_true rfl⟩ ?_
  generalize h9 : ev_mk M8 44 0 = M9
  have n9 : M9.2.2.2 = 176 := by
    rw [← h9]
    show M8.2.2.2 + 1 = 176
    rw [n8]
  have f9 : FM_ M9 := by
    rw [← h9]
    exact f8
  refine ev_putq (pc := 120) (r := 10) (i := 0) (ci := 10) (j := 25) (o := some (44, 0)) fl_X10_53 rfl rfl (Or.inr ⟨rfl, rfl, rfl⟩) (Or.inr ⟨_, rfl⟩) dX10_init_120 (by rw [n9]; exact Nat.le_of_ble_eq_true rfl) ?_
  generalize h10 : ev_pq M9 10 0 25 (some (44, 0)) = M10
  have n10 : M10.2.2.2 = 176 := by
    rw [← h10]
    show M9.2.2.2 = 176
    rw [n9]
  have f10 : FM_ M10 := by
    rw [← h10]
    exact f9
  rw [← h10, ← h9, ← h8, ← h7, ← h6, ← h5, ← h4, ← h3, ← h2, ← h1]
  exact kk
def mk_X10_d (M : ev_M) : ev_M := (ev_pq (ev_mk (ev_pq (ev_mk (ev_pq (ev_mk (ev_pq (ev_mk (ev_pq (ev_mk M 45 0) 10 0 27 (some (45, 0))) 46 0) 10 0 28 (some (46, 0))) 47 0) 10 0 29 (some (47, 0))) 48 0) 10 0 30 (some (48, 0))) 49 0) 10 0 31 (some (49, 0)))
theorem N_X10_d {M : ev_M} (n0 : M.2.2.2 = 176) : (mk_X10_d M).2.2.2 = 181 := by
  show M.2.2.2 + 1 + 1 + 1 + 1 + 1 = 181
  rw [n0]
theorem F_X10_d {M : ev_M} (f0 : FM_ M) : FM_ (mk_X10_d M) := f0
set_option maxRecDepth 20000 in
set_option maxHeartbeats 4000000 in
theorem g_X10_d {G : ev_G} {M : ev_M} {Q : Option ev_V → ev_M → Prop} (n0 : M.2.2.2 = 176) (f0 : FM_ M) (kk : ev_E G K_X10_init B_X10_init (20, 5655) 168 [some (vr 10 0)] [] (mk_X10_d M) Q) : ev_E G K_X10_init B_X10_init (15, 3650) 123 [some (vr 10 0)] [] M Q := by
  refine ev_aload_0 (pc := 123) dX10_init_123 ?_
  refine ev_sipush (pc := 124) (v := 401) dX10_init_124 (by decide) ?_
  refine ev_newa (pc := 127) (r := 45) (i := 0) (t := 0) (aty := .int) rfl (by decide) (by decide) (by rw [n0]; rfl) (by decide) (Or.inr (by decide)) rfl wa_int (by decide) (by decide) (Nat.le_of_ble_eq_true rfl) dX10_init_127 ⟨Nat.le_of_ble_eq_true rfl, Nat.le_of_ble_eq_true rfl⟩ ?_
  generalize h1 : ev_mk M 45 0 = M1
  have n1 : M1.2.2.2 = 177 := by
    rw [← h1]
    show M.2.2.2 + 1 = 177
    rw [n0]
  have f1 : FM_ M1 := by
    rw [← h1]
    exact f0
  refine ev_putq (pc := 129) (r := 10) (i := 0) (ci := 10) (j := 27) (o := some (45, 0)) fl_X10_56 rfl rfl (Or.inr ⟨rfl, rfl, rfl⟩) (Or.inr ⟨_, rfl⟩) dX10_init_129 (by rw [n1]; exact Nat.le_of_ble_eq_true rfl) ?_
  generalize h2 : ev_pq M1 10 0 27 (some (45, 0)) = M2
  have n2 : M2.2.2.2 = 177 := by
    rw [← h2]
    show M1.2.2.2 = 177
    rw [n1]
  have f2 : FM_ M2 := by
    rw [← h2]
    exact f1
  refine ev_aload_0 (pc := 132) dX10_init_132 ?_
  refine ev_sipush (pc := 133) (v := 401) dX10_init_133 (by decide) ?_
  refine ev_newa (pc := 136) (r := 46) (i := 0) (t := 0) (aty := .int) rfl (by decide) (by decide) (by rw [n2]; rfl) (by decide) (Or.inr (by decide)) rfl wa_int (by decide) (by decide) (Nat.le_of_ble_eq_true rfl) dX10_init_136 ⟨Nat.le_of_ble_eq_true rfl, Nat.le_of_ble_eq_true rfl⟩ ?_
  generalize h3 : ev_mk M2 46 0 = M3
  have n3 : M3.2.2.2 = 178 := by
    rw [← h3]
    show M2.2.2.2 + 1 = 178
    rw [n2]
  have f3 : FM_ M3 := by
    rw [← h3]
    exact f2
  refine ev_putq (pc := 138) (r := 10) (i := 0) (ci := 10) (j := 28) (o := some (46, 0)) fl_X10_59 rfl rfl (Or.inr ⟨rfl, rfl, rfl⟩) (Or.inr ⟨_, rfl⟩) dX10_init_138 (by rw [n3]; exact Nat.le_of_ble_eq_true rfl) ?_
  generalize h4 : ev_pq M3 10 0 28 (some (46, 0)) = M4
  have n4 : M4.2.2.2 = 178 := by
    rw [← h4]
    show M3.2.2.2 = 178
    rw [n3]
  have f4 : FM_ M4 := by
    rw [← h4]
    exact f3
  refine ev_aload_0 (pc := 141) dX10_init_141 ?_
  refine ev_sipush (pc := 142) (v := 401) dX10_init_142 (by decide) ?_
  refine ev_newa (pc := 145) (r := 47) (i := 0) (t := 0) (aty := .int) rfl (by decide) (by decide) (by rw [n4]; rfl) (by decide) (Or.inr (by decide)) rfl wa_int (by decide) (by decide) (Nat.le_of_ble_eq_true rfl) dX10_init_145 ⟨Nat.le_of_ble_eq_true rfl, Nat.le_of_ble_eq_true rfl⟩ ?_
  generalize h5 : ev_mk M4 47 0 = M5
  have n5 : M5.2.2.2 = 179 := by
    rw [← h5]
    show M4.2.2.2 + 1 = 179
    rw [n4]
  have f5 : FM_ M5 := by
    rw [← h5]
    exact f4
  refine ev_putq (pc := 147) (r := 10) (i := 0) (ci := 10) (j := 29) (o := some (47, 0)) fl_X10_62 rfl rfl (Or.inr ⟨rfl, rfl, rfl⟩) (Or.inr ⟨_, rfl⟩) dX10_init_147 (by rw [n5]; exact Nat.le_of_ble_eq_true rfl) ?_
  generalize h6 : ev_pq M5 10 0 29 (some (47, 0)) = M6
  have n6 : M6.2.2.2 = 179 := by
    rw [← h6]
    show M5.2.2.2 = 179
    rw [n5]
  have f6 : FM_ M6 := by
    rw [← h6]
    exact f5
  refine ev_aload_0 (pc := 150) dX10_init_150 ?_
  refine ev_sipush (pc := 151) (v := 401) dX10_init_151 (by decide) ?_
  refine ev_newa (pc := 154) (r := 48) (i := 0) (t := 0) (aty := .int) rfl (by decide) (by decide) (by rw [n6]; rfl) (by decide) (Or.inr (by decide)) rfl wa_int (by decide) (by decide) (Nat.le_of_ble_eq_true rfl) dX10_init_154 ⟨Nat.le_of_ble_eq_true rfl, Nat.le_of_ble_eq_true rfl⟩ ?_
  generalize h7 : ev_mk M6 48 0 = M7
  have n7 : M7.2.2.2 = 180 := by
    rw [← h7]
    show M6.2.2.2 + 1 = 180
    rw [n6]
  have f7 : FM_ M7 := by
    rw [← h7]
    exact f6
  refine ev_putq (pc := 156) (r := 10) (i := 0) (ci := 10) (j := 30) (o := some (48, 0)) fl_X10_65 rfl rfl (Or.inr ⟨rfl, rfl, rfl⟩) (Or.inr ⟨_, rfl⟩) dX10_init_156 (by rw [n7]; exact Nat.le_of_ble_eq_true rfl) ?_
  generalize h8 : ev_pq M7 10 0 30 (some (48, 0)) = M8
  have n8 : M8.2.2.2 = 180 := by
    rw [← h8]
    show M7.2.2.2 = 180
    rw [n7]
  have f8 : FM_ M8 := by
    rw [← h8]
    exact f7
  refine ev_aload_0 (pc := 159) dX10_init_159 ?_
  refine ev_sipush (pc := 160) (v := 401) dX10_init_160 (by decide) ?_
  refine ev_newa (pc := 163) (r := 49) (i := 0) (t := 0) (aty := .int) rfl (by decide) (by decide) (by rw [n8]; rfl) (by decide) (Or.inr (by decide)) rfl wa_int (by decide) (by decide) (Nat.le_of_ble_eq_true rfl) dX10_init_163 ⟨Nat.le_of_ble_eq_true rfl, Nat.le_of_ble_eq_true rfl⟩ ?_
  generalize h9 : ev_mk M8 49 0 = M9
  have n9 : M9.2.2.2 = 181 := by
    rw [← h9]
    show M8.2.2.2 + 1 = 181
    rw [n8]
  have f9 : FM_ M9 := by
    rw [← h9]
    exact f8
  refine ev_putq (pc := 165) (r := 10) (i := 0) (ci := 10) (j := 31) (o := some (49, 0)) fl_X10_68 rfl rfl (Or.inr ⟨rfl, rfl, rfl⟩) (Or.inr ⟨_, rfl⟩) dX10_init_165 (by rw [n9]; exact Nat.le_of_ble_eq_true rfl) ?_
  generalize h10 : ev_pq M9 10 0 31 (some (49, 0)) = M10
  have n10 : M10.2.2.2 = 181 := by
    rw [← h10]
    show M9.2.2.2 = 181
    rw [n9]
  have f10 : FM_ M10 := by
    rw [← h10]
    exact f9
  rw [← h10, ← h9, ← h8, ← h7, ← h6, ← h5, ← h4, ← h3, ← h2, ← h1]
  exact kk
def mk_X10_e (M : ev_M) : ev_M := (ev_pi (ev_pq (ev_mk (ev_pq (ev_mk (ev_pq (ev_mk M 50 0) 10 0 43 (some (50, 0))) 51 0) 10 0 44 (some (51, 0))) 52 0) 10 0 45 (some (52, 0))) 33 0 (0 : Int32).toNatClampNeg (-1))
theorem N_X10_e {M : ev_M} (n0 : M.2.2.2 = 181) : (mk_X10_e M).2.2.2 = 184 := by
  show M.2.2.2 + 1 + 1 + 1 = 184
  rw [n0]
set_option maxRecDepth 20000 in
set_option maxHeartbeats 4000000 in
theorem g_X10_e {G : ev_G} {M : ev_M} {Q : Option ev_V → ev_M → Prop} (n0 : M.2.2.2 = 181) (f0 : FM_ M) (kk : ev_E G K_X10_init B_X10_init (23, 5666) 196 [some (vr 10 0)] [] (mk_X10_e M) Q) : ev_E G K_X10_init B_X10_init (20, 5655) 168 [some (vr 10 0)] [] M Q := by
  refine ev_aload_0 (pc := 168) dX10_init_168 ?_
  refine ev_iconst (pc := 169) (v := 4) dX10_init_169 rfl ?_
  refine ev_newa (pc := 170) (r := 50) (i := 0) (t := 0) (aty := .int) rfl (by decide) (by decide) (by rw [n0]; rfl) (by decide) (Or.inr (by decide)) rfl wa_int (by decide) (by decide) (Nat.le_of_ble_eq_true rfl) dX10_init_170 ⟨Nat.le_of_ble_eq_true rfl, Nat.le_of_ble_eq_true rfl⟩ ?_
  generalize h1 : ev_mk M 50 0 = M1
  have n1 : M1.2.2.2 = 182 := by
    rw [← h1]
    show M.2.2.2 + 1 = 182
    rw [n0]
  have f1 : FM_ M1 := by
    rw [← h1]
    exact f0
  refine ev_putq (pc := 172) (r := 10) (i := 0) (ci := 10) (j := 43) (o := some (50, 0)) fl_X10_71 rfl rfl (Or.inr ⟨rfl, rfl, rfl⟩) (Or.inr ⟨_, rfl⟩) dX10_init_172 (by rw [n1]; exact Nat.le_of_ble_eq_true rfl) ?_
  generalize h2 : ev_pq M1 10 0 43 (some (50, 0)) = M2
  have n2 : M2.2.2.2 = 182 := by
    rw [← h2]
    show M1.2.2.2 = 182
    rw [n1]
  have f2 : FM_ M2 := by
    rw [← h2]
    exact f1
  refine ev_aload_0 (pc := 175) dX10_init_175 ?_
  refine ev_iconst (pc := 176) (v := 4) dX10_init_176 rfl ?_
  refine ev_newa (pc := 177) (r := 51) (i := 0) (t := 0) (aty := .int) rfl (by decide) (by decide) (by rw [n2]; rfl) (by decide) (Or.inr (by decide)) rfl wa_int (by decide) (by decide) (Nat.le_of_ble_eq_true rfl) dX10_init_177 ⟨Nat.le_of_ble_eq_true rfl, Nat.le_of_ble_eq_true rfl⟩ ?_
  generalize h3 : ev_mk M2 51 0 = M3
  have n3 : M3.2.2.2 = 183 := by
    rw [← h3]
    show M2.2.2.2 + 1 = 183
    rw [n2]
  have f3 : FM_ M3 := by
    rw [← h3]
    exact f2
  refine ev_putq (pc := 179) (r := 10) (i := 0) (ci := 10) (j := 44) (o := some (51, 0)) fl_X10_74 rfl rfl (Or.inr ⟨rfl, rfl, rfl⟩) (Or.inr ⟨_, rfl⟩) dX10_init_179 (by rw [n3]; exact Nat.le_of_ble_eq_true rfl) ?_
  generalize h4 : ev_pq M3 10 0 44 (some (51, 0)) = M4
  have n4 : M4.2.2.2 = 183 := by
    rw [← h4]
    show M3.2.2.2 = 183
    rw [n3]
  have f4 : FM_ M4 := by
    rw [← h4]
    exact f3
  refine ev_aload_0 (pc := 182) dX10_init_182 ?_
  refine ev_iconst (pc := 183) (v := 3) dX10_init_183 rfl ?_
  refine ev_newa (pc := 184) (r := 52) (i := 0) (t := 2) (aty := .boolean) rfl (by decide) (by decide) (by rw [n4]; rfl) (by decide) (Or.inr (by decide)) rfl wa_boolean (by decide) (by decide) (Nat.le_of_ble_eq_true rfl) dX10_init_184 ⟨Nat.le_of_ble_eq_true rfl, Nat.le_of_ble_eq_true rfl⟩ ?_
  generalize h5 : ev_mk M4 52 0 = M5
  have n5 : M5.2.2.2 = 184 := by
    rw [← h5]
    show M4.2.2.2 + 1 = 184
    rw [n4]
  have f5 : FM_ M5 := by
    rw [← h5]
    exact f4
  refine ev_putq (pc := 186) (r := 10) (i := 0) (ci := 10) (j := 45) (o := some (52, 0)) fl_X10_77 rfl rfl (Or.inr ⟨rfl, rfl, rfl⟩) (Or.inr ⟨_, rfl⟩) dX10_init_186 (by rw [n5]; exact Nat.le_of_ble_eq_true rfl) ?_
  generalize h6 : ev_pq M5 10 0 45 (some (52, 0)) = M6
  have n6 : M6.2.2.2 = 184 := by
    rw [← h6]
    show M5.2.2.2 = 184
    rw [n5]
  have f6 : FM_ M6 := by
    rw [← h6]
    exact f5
  refine ev_aload_0 (pc := 189) dX10_init_189 ?_
  refine ev_getqr (pc := 190) (r := 10) (i := 0) (ci := 10) (j := 4) (r2 := 33) (i2 := 0) fl_X10_20 rfl rfl dX10_init_190 (by rw [n6]; exact Nat.le_of_ble_eq_true rfl) f6 ?_
  refine ev_iconst (pc := 193) (v := 0) dX10_init_193 rfl ?_
  refine ev_iconst (pc := 194) (v := (-1)) dX10_init_194 rfl ?_
  refine ev_iast (pc := 195) (r := 33) (i := 0) (x := 0) (y := (-1)) rfl (by decide) (Or.inr (by decide)) (show ¬ ((0 : Int32) < 0 ∨ ev_len 33 ≤ (0 : Int32).toNatClampNeg) by decide) dX10_init_195 (by rw [n6]; exact Nat.le_of_ble_eq_true rfl) ?_
  generalize h7 : ev_pi M6 33 0 (0 : Int32).toNatClampNeg (-1) = M7
  have n7 : M7.2.2.2 = 184 := by
    rw [← h7]
    show M6.2.2.2 = 184
    rw [n6]
  have f7 : FM_ M7 := by
    rw [← h7]
    exact f6
  rw [← h7, ← h6, ← h5, ← h4, ← h3, ← h2, ← h1]
  exact kk
def mk_X10 (M : ev_M) : ev_M := (mk_X10_e (mk_X10_d (mk_X10_c (mk_X10_b (mk_X10_a M)))))
theorem N_X10 {M : ev_M} (n0 : M.2.2.2 = 161) : (mk_X10 M).2.2.2 = 184 := (N_X10_e (N_X10_d (N_X10_c (N_X10_b (N_X10_a n0)))))
theorem c_X10_init_0 {G : ev_G} {M : ev_M} (n0 : M.2.2.2 = 161) : ev_CI G K_X10_init B_X10_init 10 0 M (mk_X10 M) := by
  refine ev_Ct_of (L0 := [some (vr 10 0)]) rfl rfl (Nat.le_of_ble_eq_true rfl) ?_
  refine g_X10_a n0 ?_
  refine g_X10_b (N_X10_a n0) (F_X10_a _) ?_
  refine g_X10_c (N_X10_b (N_X10_a n0)) (F_X10_b (F_X10_a _)) ?_
  refine g_X10_d (N_X10_c (N_X10_b (N_X10_a n0))) (F_X10_c (F_X10_b (F_X10_a _))) ?_
  refine g_X10_e (N_X10_d (N_X10_c (N_X10_b (N_X10_a n0)))) (F_X10_d (F_X10_c (F_X10_b (F_X10_a _)))) ?_
  exact ev_vret (pc := 196) dX10_init_196 rfl ⟨rfl, rfl⟩
