/-! a book -/
def mk_X0_3_a (M : ev_M) : ev_M := (ev_pq (ev_mk (ev_pq (ev_mk (ev_pq (ev_mk (ev_pq (ev_mk (ev_pi (ev_pq (mk_X6 3 (ev_mk M 2 3)) 1 3 0 (some (2, 3))) 1 3 2 (-1)) 24 3) 1 3 7 (some (24, 3))) 25 3) 1 3 8 (some (25, 3))) 26 3) 1 3 9 (some (26, 3))) 27 3) 1 3 10 (some (27, 3)))
theorem N_X0_3_a {M : ev_M} (n0 : M.2.2.2 = 128) : (mk_X0_3_a M).2.2.2 = 134 := by
  show M.2.2.2 + 1 + 1 + 1 + 1 + 1 + 1 = 134
  rw [n0]
theorem F_X0_3_a (M : ev_M) : FB_ 3 (mk_X0_3_a M) := ⟨rfl, rfl, rfl, rfl⟩
set_option maxRecDepth 20000 in
set_option maxHeartbeats 4000000 in
theorem g_X0_3_a {G : ev_G} {M : ev_M} {Q : Option ev_V → ev_M → Prop} (n0 : M.2.2.2 = 128) (kk : ev_E G K_X0_init B_X0_init (6, 612) 52 [some (vr 1 3), none] [] (mk_X0_3_a M) Q) : ev_E G K_X0_init B_X0_init (0, 0) 0 [some (vr 1 3), none] [] M Q := by
  refine ev_aload_0 (pc := 0) dX0_init_0 ?_
  refine ev_oini (pc := 1) wl_X0_3 wo_in wo_co ⟨Nat.le_of_ble_eq_true rfl, Nat.le_of_ble_eq_true rfl⟩ (Nat.le_of_ble_eq_true rfl) dX0_init_1 ?_
  refine ev_aload_0 (pc := 4) dX0_init_4 ?_
  refine ev_new (pc := 5) (r := 2) (i := 3) (ci := 6) rfl (by decide) (by rw [n0]; rfl) wk_X0_9 wn_X6 wi_X6 dX0_init_5 ⟨Nat.le_of_ble_eq_true rfl, Nat.le_of_ble_eq_true rfl⟩ ?_
  generalize h1 : ev_mk M 2 3 = M1
  have n1 : M1.2.2.2 = 129 := by
    rw [← h1]
    show M.2.2.2 + 1 = 129
    rw [n0]
  refine ev_dup_r (pc := 8) dX0_init_8 ?_
  refine ev_ctCN (k' := K_X6_init) (pc := 9) (host := "HelmHand") (b' := B_X6_init) (List.mem_of_getElem? (i := 0) rfl) mi_X6_init rfl dX0_init_9 ⟨⟨Nat.le_of_ble_eq_true rfl, Nat.le_of_ble_eq_true rfl⟩, Nat.le_of_ble_eq_true rfl, Nat.le_of_ble_eq_true rfl⟩ (Nat.le_of_ble_eq_true rfl) (c_X6_init (M := M1) (i := 3) (by decide) (by rw [n1]; exact Nat.le_of_ble_eq_true rfl) (by rw [n1]; rfl)) ?_
  generalize h2 : mk_X6 3 M1 = M2
  have n2 : M2.2.2.2 = 130 := by
    rw [← h2]
    show M1.2.2.2 + 1 = 130
    rw [n1]
  refine ev_putq (pc := 12) (r := 1) (i := 3) (ci := 0) (j := 0) (o := some (2, 3)) fl_X0_12 rfl rfl (Or.inr ⟨rfl, rfl, rfl⟩) (Or.inl ⟨_, rfl⟩) dX0_init_12 (by rw [n2]; exact Nat.le_of_ble_eq_true rfl) ?_
  generalize h3 : ev_pq M2 1 3 0 (some (2, 3)) = M3
  have n3 : M3.2.2.2 = 130 := by
    rw [← h3]
    show M2.2.2.2 = 130
    rw [n2]
  refine ev_aload_0 (pc := 15) dX0_init_15 ?_
  refine ev_iconst (pc := 16) (v := (-1)) dX0_init_16 rfl ?_
  refine ev_puti (pc := 17) (r := 1) (i := 3) (ci := 0) (j := 2) (x := (-1)) fl_X0_18 rfl rfl rfl rfl rfl dX0_init_17 (by rw [n3]; exact Nat.le_of_ble_eq_true rfl) ?_
  generalize h4 : ev_pi M3 1 3 2 (-1) = M4
  have n4 : M4.2.2.2 = 130 := by
    rw [← h4]
    show M3.2.2.2 = 130
    rw [n3]
  refine ev_aload_0 (pc := 20) dX0_init_20 ?_
  refine ev_iconst (pc := 21) (v := 2) dX0_init_21 rfl ?_
  refine ev_newq (pc := 22) (r := 24) (i := 3) (t := 4) (C := "HelmHand$Ship") rfl (by decide) (by decide) (by decide) (by rw [n4]; rfl) (by decide) rfl (by decide) wk_X0_22 (by decide) (by decide) (Nat.le_of_ble_eq_true rfl) dX0_init_22 ⟨Nat.le_of_ble_eq_true rfl, Nat.le_of_ble_eq_true rfl⟩ ?_
  generalize h5 : ev_mk M4 24 3 = M5
  have n5 : M5.2.2.2 = 131 := by
    rw [← h5]
    show M4.2.2.2 + 1 = 131
    rw [n4]
  refine ev_putq (pc := 25) (r := 1) (i := 3) (ci := 0) (j := 7) (o := some (24, 3)) fl_X0_24 rfl rfl (Or.inr ⟨rfl, rfl, rfl⟩) (Or.inr ⟨_, rfl⟩) dX0_init_25 (by rw [n5]; exact Nat.le_of_ble_eq_true rfl) ?_
  generalize h6 : ev_pq M5 1 3 7 (some (24, 3)) = M6
  have n6 : M6.2.2.2 = 131 := by
    rw [← h6]
    show M5.2.2.2 = 131
    rw [n5]
  refine ev_aload_0 (pc := 28) dX0_init_28 ?_
  refine ev_iconst (pc := 29) (v := 4) dX0_init_29 rfl ?_
  refine ev_newq (pc := 30) (r := 25) (i := 3) (t := 5) (C := "HelmHand$Hand") rfl (by decide) (by decide) (by decide) (by rw [n6]; rfl) (by decide) rfl (by decide) wk_X0_28 (by decide) (by decide) (Nat.le_of_ble_eq_true rfl) dX0_init_30 ⟨Nat.le_of_ble_eq_true rfl, Nat.le_of_ble_eq_true rfl⟩ ?_
  generalize h7 : ev_mk M6 25 3 = M7
  have n7 : M7.2.2.2 = 132 := by
    rw [← h7]
    show M6.2.2.2 + 1 = 132
    rw [n6]
  refine ev_putq (pc := 33) (r := 1) (i := 3) (ci := 0) (j := 8) (o := some (25, 3)) fl_X0_30 rfl rfl (Or.inr ⟨rfl, rfl, rfl⟩) (Or.inr ⟨_, rfl⟩) dX0_init_33 (by rw [n7]; exact Nat.le_of_ble_eq_true rfl) ?_
  generalize h8 : ev_pq M7 1 3 8 (some (25, 3)) = M8
  have n8 : M8.2.2.2 = 132 := by
    rw [← h8]
    show M7.2.2.2 = 132
    rw [n7]
  refine ev_aload_0 (pc := 36) dX0_init_36 ?_
  refine ev_iconst (pc := 37) (v := 2) dX0_init_37 rfl ?_
  refine ev_newq (pc := 38) (r := 26) (i := 3) (t := 6) (C := "HelmHand$Paper") rfl (by decide) (by decide) (by decide) (by rw [n8]; rfl) (by decide) rfl (by decide) wk_X0_34 (by decide) (by decide) (Nat.le_of_ble_eq_true rfl) dX0_init_38 ⟨Nat.le_of_ble_eq_true rfl, Nat.le_of_ble_eq_true rfl⟩ ?_
  generalize h9 : ev_mk M8 26 3 = M9
  have n9 : M9.2.2.2 = 133 := by
    rw [← h9]
    show M8.2.2.2 + 1 = 133
    rw [n8]
  refine ev_putq (pc := 41) (r := 1) (i := 3) (ci := 0) (j := 9) (o := some (26, 3)) fl_X0_36 rfl rfl (Or.inr ⟨rfl, rfl, rfl⟩) (Or.inr ⟨_, rfl⟩) dX0_init_41 (by rw [n9]; exact Nat.le_of_ble_eq_true rfl) ?_
  generalize h10 : ev_pq M9 1 3 9 (some (26, 3)) = M10
  have n10 : M10.2.2.2 = 133 := by
    rw [← h10]
    show M9.2.2.2 = 133
    rw [n9]
  refine ev_aload_0 (pc := 44) dX0_init_44 ?_
  refine ev_iconst (pc := 45) (v := 2) dX0_init_45 rfl ?_
  refine ev_newq (pc := 46) (r := 27) (i := 3) (t := 7) (C := "HelmHand$Watch") rfl (by decide) (by decide) (by decide) (by rw [n10]; rfl) (by decide) rfl (by decide) wk_X0_40 (by decide) (by decide) (Nat.le_of_ble_eq_true rfl) dX0_init_46 ⟨Nat.le_of_ble_eq_true rfl, Nat.le_of_ble_eq_true rfl⟩ ?_
  generalize h11 : ev_mk M10 27 3 = M11
  have n11 : M11.2.2.2 = 134 := by
    rw [← h11]
    show M10.2.2.2 + 1 = 134
    rw [n10]
  refine ev_putq (pc := 49) (r := 1) (i := 3) (ci := 0) (j := 10) (o := some (27, 3)) fl_X0_42 rfl rfl (Or.inr ⟨rfl, rfl, rfl⟩) (Or.inr ⟨_, rfl⟩) dX0_init_49 (by rw [n11]; exact Nat.le_of_ble_eq_true rfl) ?_
  generalize h12 : ev_pq M11 1 3 10 (some (27, 3)) = M12
  have n12 : M12.2.2.2 = 134 := by
    rw [← h12]
    show M11.2.2.2 = 134
    rw [n11]
  have f12 : FB_ 3 M12 := by
    rw [← h12, ← h11, ← h10, ← h9, ← h8, ← h7, ← h6, ← h5, ← h4, ← h3, ← h2, ← h1]
    exact ⟨rfl, rfl, rfl, rfl⟩
  rw [← h12, ← h11, ← h10, ← h9, ← h8, ← h7, ← h6, ← h5, ← h4, ← h3, ← h2, ← h1]
  exact kk
def mk_X0_3_b (M : ev_M) : ev_M := (ev_mk (ev_pq (mk_X1 12 (ev_mk (ev_pq (mk_X5 7 (ev_mk (ev_pq (mk_X5 6 (ev_mk M 3 6)) 24 3 (0 : Int32).toNatClampNeg (some (3, 6))) 3 7)) 24 3 (1 : Int32).toNatClampNeg (some (3, 7))) 4 12)) 25 3 (0 : Int32).toNatClampNeg (some (4, 12))) 4 13)
theorem N_X0_3_b {M : ev_M} (n0 : M.2.2.2 = 134) : (mk_X0_3_b M).2.2.2 = 142 := by
  show M.2.2.2 + 1 + 1 + 1 + 1 + 1 + 1 + 1 + 1 = 142
  rw [n0]
theorem F_X0_3_b {M : ev_M} (f0 : FB_ 3 M) : FB_ 3 (mk_X0_3_b M) := f0
set_option maxRecDepth 20000 in
set_option maxHeartbeats 4000000 in
theorem g_X0_3_b {G : ev_G} {M : ev_M} {Q : Option ev_V → ev_M → Prop} (n0 : M.2.2.2 = 134) (f0 : FB_ 3 M) (kk : ev_E G K_X0_init B_X0_init (14, 692) 101 [some (vr 1 3), some (vi 1)] [vr 4 13, vi 1, vr 25 3] (mk_X0_3_b M) Q) : ev_E G K_X0_init B_X0_init (6, 612) 52 [some (vr 1 3), none] [] M Q := by
  refine ev_iconst (pc := 52) (v := 0) dX0_init_52 rfl ?_
  refine ev_istore_1 (pc := 53) dX0_init_53 (by decide) rfl ?_
  refine ev_iload_1 (pc := 54) dX0_init_54 ?_
  refine ev_aload_0 (pc := 55) dX0_init_55 ?_
  refine ev_getqr (pc := 56) (r := 1) (i := 3) (ci := 0) (j := 7) (r2 := 24) (i2 := 3) fl_X0_24 rfl rfl dX0_init_56 (by rw [n0]; exact Nat.le_of_ble_eq_true rfl) f0.1 ?_
  refine ev_alen (pc := 59) (r := 24) (i := 3) (t := 4) (y := 2) rfl (by decide) dX0_init_59 (fun _ => (by rw [n0]; exact Nat.le_of_ble_eq_true rfl)) (fun h => absurd h (by decide)) ?_
  refine ev_icc_ge (pc := 60) (tgt := 82) dX0_init_60 (by decide) (fun z => absurd (show (0 : Int32) < 2 by decide) z) (fun _ => ?_)
  refine ev_aload_0 (pc := 63) dX0_init_63 ?_
  refine ev_getqr (pc := 64) (r := 1) (i := 3) (ci := 0) (j := 7) (r2 := 24) (i2 := 3) fl_X0_24 rfl rfl dX0_init_64 (by rw [n0]; exact Nat.le_of_ble_eq_true rfl) f0.1 ?_
  refine ev_iload_1 (pc := 67) dX0_init_67 ?_
  refine ev_new (pc := 68) (r := 3) (i := 6) (ci := 5) rfl (by decide) (by rw [n0]; rfl) wk_X0_22 wn_X5 wi_X5 dX0_init_68 ⟨Nat.le_of_ble_eq_true rfl, Nat.le_of_ble_eq_true rfl⟩ ?_
  generalize h1 : ev_mk M 3 6 = M1
  have n1 : M1.2.2.2 = 135 := by
    rw [← h1]
    show M.2.2.2 + 1 = 135
    rw [n0]
  have f1 : FB_ 3 M1 := by
    rw [← h1]
    exact f0
  refine ev_dup_r (pc := 71) dX0_init_71 ?_
  refine ev_ctCN (k' := K_X5_init) (pc := 72) (host := "HelmHand") (b' := B_X5_init) (List.mem_of_getElem? (i := 1) rfl) mi_X5_init rfl dX0_init_72 ⟨⟨Nat.le_of_ble_eq_true rfl, Nat.le_of_ble_eq_true rfl⟩, Nat.le_of_ble_eq_true rfl, Nat.le_of_ble_eq_true rfl⟩ (Nat.le_of_ble_eq_true rfl) (c_X5_init (M := M1) (i := 6) (by decide) (by rw [n1]; exact Nat.le_of_ble_eq_true rfl) (by rw [n1]; rfl)) ?_
  generalize h2 : mk_X5 6 M1 = M2
  have n2 : M2.2.2.2 = 136 := by
    rw [← h2]
    show M1.2.2.2 + 1 = 136
    rw [n1]
  have f2 : FB_ 3 M2 := by
    rw [← h2]
    exact f1
  refine ev_aast (pc := 75) (r := 24) (i := 3) (t := 4) (r2 := 3) (i2 := 6) (ci := 5) (x := 0) rfl rfl rfl (by decide) (by decide) (show ¬ ((0 : Int32) < 0 ∨ ev_len 24 ≤ (0 : Int32).toNatClampNeg) by decide) dX0_init_75 (by rw [n2]; exact Nat.le_of_ble_eq_true rfl) (by rw [n2]; exact Nat.le_of_ble_eq_true rfl) ?_
  generalize h3 : ev_pq M2 24 3 (0 : Int32).toNatClampNeg (some (3, 6)) = M3
  have n3 : M3.2.2.2 = 136 := by
    rw [← h3]
    show M2.2.2.2 = 136
    rw [n2]
  have f3 : FB_ 3 M3 := by
    rw [← h3]
    exact f2
  refine ev_iinc_1 (pc := 76) (y := 1) dX0_init_76 rfl (by decide) rfl ?_
  refine ev_goto (pc := 79) (tgt := 54) dX0_init_79 (by decide) ?_
  refine ev_iload_1 (pc := 54) dX0_init_54 ?_
  refine ev_aload_0 (pc := 55) dX0_init_55 ?_
  refine ev_getqr (pc := 56) (r := 1) (i := 3) (ci := 0) (j := 7) (r2 := 24) (i2 := 3) fl_X0_24 rfl rfl dX0_init_56 (by rw [n3]; exact Nat.le_of_ble_eq_true rfl) f3.1 ?_
  refine ev_alen (pc := 59) (r := 24) (i := 3) (t := 4) (y := 2) rfl (by decide) dX0_init_59 (fun _ => (by rw [n3]; exact Nat.le_of_ble_eq_true rfl)) (fun h => absurd h (by decide)) ?_
  refine ev_icc_ge (pc := 60) (tgt := 82) dX0_init_60 (by decide) (fun z => absurd (show (1 : Int32) < 2 by decide) z) (fun _ => ?_)
  refine ev_aload_0 (pc := 63) dX0_init_63 ?_
  refine ev_getqr (pc := 64) (r := 1) (i := 3) (ci := 0) (j := 7) (r2 := 24) (i2 := 3) fl_X0_24 rfl rfl dX0_init_64 (by rw [n3]; exact Nat.le_of_ble_eq_true rfl) f3.1 ?_
  refine ev_iload_1 (pc := 67) dX0_init_67 ?_
  refine ev_new (pc := 68) (r := 3) (i := 7) (ci := 5) rfl (by decide) (by rw [n3]; rfl) wk_X0_22 wn_X5 wi_X5 dX0_init_68 ⟨Nat.le_of_ble_eq_true rfl, Nat.le_of_ble_eq_true rfl⟩ ?_
  generalize h4 : ev_mk M3 3 7 = M4
  have n4 : M4.2.2.2 = 137 := by
    rw [← h4]
    show M3.2.2.2 + 1 = 137
    rw [n3]
  have f4 : FB_ 3 M4 := by
    rw [← h4]
    exact f3
  refine ev_dup_r (pc := 71) dX0_init_71 ?_
  refine ev_ctCN (k' := K_X5_init) (pc := 72) (host := "HelmHand") (b' := B_X5_init) (List.mem_of_getElem? (i := 1) rfl) mi_X5_init rfl dX0_init_72 ⟨⟨Nat.le_of_ble_eq_true rfl, Nat.le_of_ble_eq_true rfl⟩, Nat.le_of_ble_eq_true rfl, Nat.le_of_ble_eq_true rfl⟩ (Nat.le_of_ble_eq_true rfl) (c_X5_init (M := M4) (i := 7) (by decide) (by rw [n4]; exact Nat.le_of_ble_eq_true rfl) (by rw [n4]; rfl)) ?_
  generalize h5 : mk_X5 7 M4 = M5
  have n5 : M5.2.2.2 = 138 := by
    rw [← h5]
    show M4.2.2.2 + 1 = 138
    rw [n4]
  have f5 : FB_ 3 M5 := by
    rw [← h5]
    exact f4
  refine ev_aast (pc := 75) (r := 24) (i := 3) (t := 4) (r2 := 3) (i2 := 7) (ci := 5) (x := 1) rfl rfl rfl (by decide) (by decide) (show ¬ ((1 : Int32) < 0 ∨ ev_len 24 ≤ (1 : Int32).toNatClampNeg) by decide) dX0_init_75 (by rw [n5]; exact Nat.le_of_ble_eq_true rfl) (by rw [n5]; exact Nat.le_of_ble_eq_true rfl) ?_
  generalize h6 : ev_pq M5 24 3 (1 : Int32).toNatClampNeg (some (3, 7)) = M6
  have n6 : M6.2.2.2 = 138 := by
    rw [← h6]
    show M5.2.2.2 = 138
    rw [n5]
  have f6 : FB_ 3 M6 := by
    rw [← h6]
    exact f5
  refine ev_iinc_1 (pc := 76) (y := 2) dX0_init_76 rfl (by decide) rfl ?_
  refine ev_goto (pc := 79) (tgt := 54) dX0_init_79 (by decide) ?_
  refine ev_iload_1 (pc := 54) dX0_init_54 ?_
  refine ev_aload_0 (pc := 55) dX0_init_55 ?_
  refine ev_getqr (pc := 56) (r := 1) (i := 3) (ci := 0) (j := 7) (r2 := 24) (i2 := 3) fl_X0_24 rfl rfl dX0_init_56 (by rw [n6]; exact Nat.le_of_ble_eq_true rfl) f6.1 ?_
  refine ev_alen (pc := 59) (r := 24) (i := 3) (t := 4) (y := 2) rfl (by decide) dX0_init_59 (fun _ => (by rw [n6]; exact Nat.le_of_ble_eq_true rfl)) (fun h => absurd h (by decide)) ?_
  refine ev_icc_ge (pc := 60) (tgt := 82) dX0_init_60 (by decide) (fun _ => ?_) (fun z => absurd z (by decide))
  refine ev_iconst (pc := 82) (v := 0) dX0_init_82 rfl ?_
  refine ev_istore_1 (pc := 83) dX0_init_83 (by decide) rfl ?_
  refine ev_iload_1 (pc := 84) dX0_init_84 ?_
  refine ev_aload_0 (pc := 85) dX0_init_85 ?_
  refine ev_getqr (pc := 86) (r := 1) (i := 3) (ci := 0) (j := 8) (r2 := 25) (i2 := 3) fl_X0_30 rfl rfl dX0_init_86 (by rw [n6]; exact Nat.le_of_ble_eq_true rfl) f6.2.1 ?_
  refine ev_alen (pc := 89) (r := 25) (i := 3) (t := 5) (y := 4) rfl (by decide) dX0_init_89 (fun _ => (by rw [n6]; exact Nat.le_of_ble_eq_true rfl)) (fun h => absurd h (by decide)) ?_
  refine ev_icc_ge (pc := 90) (tgt := 112) dX0_init_90 (by decide) (fun z => absurd (show (0 : Int32) < 4 by decide) z) (fun _ => ?_)
  refine ev_aload_0 (pc := 93) dX0_init_93 ?_
  refine ev_getqr (pc := 94) (r := 1) (i := 3) (ci := 0) (j := 8) (r2 := 25) (i2 := 3) fl_X0_30 rfl rfl dX0_init_94 (by rw [n6]; exact Nat.le_of_ble_eq_true rfl) f6.2.1 ?_
  refine ev_iload_1 (pc := 97) dX0_init_97 ?_
  refine ev_new (pc := 98) (r := 4) (i := 12) (ci := 1) rfl (by decide) (by rw [n6]; rfl) wk_X0_28 wn_X1 wi_X1 dX0_init_98 ⟨Nat.le_of_ble_eq_true rfl, Nat.le_of_ble_eq_true rfl⟩ ?_
  generalize h7 : ev_mk M6 4 12 = M7
  have n7 : M7.2.2.2 = 139 := by
    rw [← h7]
    show M6.2.2.2 + 1 = 139
    rw [n6]
  have f7 : FB_ 3 M7 := by
    rw [← h7]
    exact f6
  refine ev_dup_r (pc := 101) dX0_init_101 ?_
  refine ev_ctCN (k' := K_X1_init) (pc := 102) (host := "HelmHand") (b' := B_X1_init) (List.mem_of_getElem? (i := 2) rfl) mi_X1_init rfl dX0_init_102 ⟨⟨Nat.le_of_ble_eq_true rfl, Nat.le_of_ble_eq_true rfl⟩, Nat.le_of_ble_eq_true rfl, Nat.le_of_ble_eq_true rfl⟩ (Nat.le_of_ble_eq_true rfl) (c_X1_init (M := M7) (i := 12) (by decide) (by rw [n7]; exact Nat.le_of_ble_eq_true rfl) (by rw [n7]; rfl) (by rw [n7]; rfl)) ?_
  generalize h8 : mk_X1 12 M7 = M8
  have n8 : M8.2.2.2 = 141 := by
    rw [← h8]
    show M7.2.2.2 + 1 + 1 = 141
    rw [n7]
  have f8 : FB_ 3 M8 := by
    rw [← h8]
    exact f7
  refine ev_aast (pc := 105) (r := 25) (i := 3) (t := 5) (r2 := 4) (i2 := 12) (ci := 1) (x := 0) rfl rfl rfl (by decide) (by decide) (show ¬ ((0 : Int32) < 0 ∨ ev_len 25 ≤ (0 : Int32).toNatClampNeg) by decide) dX0_init_105 (by rw [n8]; exact Nat.le_of_ble_eq_true rfl) (by rw [n8]; exact Nat.le_of_ble_eq_true rfl) ?_
  generalize h9 : ev_pq M8 25 3 (0 : Int32).toNatClampNeg (some (4, 12)) = M9
  have n9 : M9.2.2.2 = 141 := by
    rw [← h9]
    show M8.2.2.2 = 141
    rw [n8]
  have f9 : FB_ 3 M9 := by
    rw [← h9]
    exact f8
  refine ev_iinc_1 (pc := 106) (y := 1) dX0_init_106 rfl (by decide) rfl ?_
  refine ev_goto (pc := 109) (tgt := 84) dX0_init_109 (by decide) ?_
  refine ev_iload_1 (pc := 84) dX0_init_84 ?_
  refine ev_aload_0 (pc := 85) dX0_init_85 ?_
  refine ev_getqr (pc := 86) (r := 1) (i := 3) (ci := 0) (j := 8) (r2 := 25) (i2 := 3) fl_X0_30 rfl rfl dX0_init_86 (by rw [n9]; exact Nat.le_of_ble_eq_true rfl) f9.2.1 ?_
  refine ev_alen (pc := 89) (r := 25) (i := 3) (t := 5) (y := 4) rfl (by decide) dX0_init_89 (fun _ => (by rw [n9]; exact Nat.le_of_ble_eq_true rfl)) (fun h => absurd h (by decide)) ?_
  refine ev_icc_ge (pc := 90) (tgt := 112) dX0_init_90 (by decide) (fun z => absurd (show (1 : Int32) < 4 by decide) z) (fun _ => ?_)
  refine ev_aload_0 (pc := 93) dX0_init_93 ?_
  refine ev_getqr (pc := 94) (r := 1) (i := 3) (ci := 0) (j := 8) (r2 := 25) (i2 := 3) fl_X0_30 rfl rfl dX0_init_94 (by rw [n9]; exact Nat.le_of_ble_eq_true rfl) f9.2.1 ?_
  refine ev_iload_1 (pc := 97) dX0_init_97 ?_
  refine ev_new (pc := 98) (r := 4) (i := 13) (ci := 1) rfl (by decide) (by rw [n9]; rfl) wk_X0_28 wn_X1 wi_X1 dX0_init_98 ⟨Nat.le_of_ble_eq_true rfl, Nat.le_of_ble_eq_true rfl⟩ ?_
  generalize h10 : ev_mk M9 4 13 = M10
  have n10 : M10.2.2.2 = 142 := by
    rw [← h10]
    show M9.2.2.2 + 1 = 142
    rw [n9]
  have f10 : FB_ 3 M10 := by
    rw [← h10]
    exact f9
  rw [← h10, ← h9, ← h8, ← h7, ← h6, ← h5, ← h4, ← h3, ← h2, ← h1]
  exact kk
def mk_X0_3_c (M : ev_M) : ev_M := (mk_X3 6 (ev_mk (ev_pq (mk_X1 15 (ev_mk (ev_pq (mk_X1 14 (ev_mk (ev_pq (mk_X1 13 M) 25 3 (1 : Int32).toNatClampNeg (some (4, 13))) 4 14)) 25 3 (2 : Int32).toNatClampNeg (some (4, 14))) 4 15)) 25 3 (3 : Int32).toNatClampNeg (some (4, 15))) 5 6))
theorem N_X0_3_c {M : ev_M} (n0 : M.2.2.2 = 142) : (mk_X0_3_c M).2.2.2 = 152 := by
  show M.2.2.2 + 1 + 1 + 1 + 1 + 1 + 1 + 1 + 1 + 1 + 1 = 152
  rw [n0]
theorem F_X0_3_c {M : ev_M} (f0 : FB_ 3 M) : FB_ 3 (mk_X0_3_c M) := f0
set_option maxRecDepth 20000 in
set_option maxHeartbeats 4000000 in
theorem g_X0_3_c {G : ev_G} {M : ev_M} {Q : Option ev_V → ev_M → Prop} (n0 : M.2.2.2 = 142) (f0 : FB_ 3 M) (kk : ev_E G K_X0_init B_X0_init (24, 802) 135 [some (vr 1 3), some (vi 0)] [vr 5 6, vi 0, vr 26 3] (mk_X0_3_c M) Q) : ev_E G K_X0_init B_X0_init (14, 692) 101 [some (vr 1 3), some (vi 1)] [vr 4 13, vi 1, vr 25 3] M Q := by
  refine ev_dup_r (pc := 101) dX0_init_101 ?_
  refine ev_ctCN (k' := K_X1_init) (pc := 102) (host := "HelmHand") (b' := B_X1_init) (List.mem_of_getElem? (i := 2) rfl) mi_X1_init rfl dX0_init_102 ⟨⟨Nat.le_of_ble_eq_true rfl, Nat.le_of_ble_eq_true rfl⟩, Nat.le_of_ble_eq_true rfl, Nat.le_of_ble_eq_true rfl⟩ (Nat.le_of_ble_eq_true rfl) (c_X1_init (M := M) (i := 13) (by decide) (by rw [n0]; exact Nat.le_of_ble_eq_true rfl) (by rw [n0]; rfl) (by rw [n0]; rfl)) ?_
  generalize h1 : mk_X1 13 M = M1
  have n1 : M1.2.2.2 = 144 := by
    rw [← h1]
    show M.2.2.2 + 1 + 1 = 144
    rw [n0]
  have f1 : FB_ 3 M1 := by
    rw [← h1]
    exact f0
  refine ev_aast (pc := 105) (r := 25) (i := 3) (t := 5) (r2 := 4) (i2 := 13) (ci := 1) (x := 1) rfl rfl rfl (by decide) (by decide) (show ¬ ((1 : Int32) < 0 ∨ ev_len 25 ≤ (1 : Int32).toNatClampNeg) by decide) dX0_init_105 (by rw [n1]; exact Nat.le_of_ble_eq_true rfl) (by rw [n1]; exact Nat.le_of_ble_eq_true rfl) ?_
  generalize h2 : ev_pq M1 25 3 (1 : Int32).toNatClampNeg (some (4, 13)) = M2
  have n2 : M2.2.2.2 = 144 := by
    rw [← h2]
    show M1.2.2.2 = 144
    rw [n1]
  have f2 : FB_ 3 M2 := by
    rw [← h2]
    exact f1
  refine ev_iinc_1 (pc := 106) (y := 2) dX0_init_106 rfl (by decide) rfl ?_
  refine ev_goto (pc := 109) (tgt := 84) dX0_init_109 (by decide) ?_
  refine ev_iload_1 (pc := 84) dX0_init_84 ?_
  refine ev_aload_0 (pc := 85) dX0_init_85 ?_
  refine ev_getqr (pc := 86) (r := 1) (i := 3) (ci := 0) (j := 8) (r2 := 25) (i2 := 3) fl_X0_30 rfl rfl dX0_init_86 (by rw [n2]; exact Nat.le_of_ble_eq_true rfl) f2.2.1 ?_
  refine ev_alen (pc := 89) (r := 25) (i := 3) (t := 5) (y := 4) rfl (by decide) dX0_init_89 (fun _ => (by rw [n2]; exact Nat.le_of_ble_eq_true rfl)) (fun h => absurd h (by decide)) ?_
  refine ev_icc_ge (pc := 90) (tgt := 112) dX0_init_90 (by decide) (fun z => absurd (show (2 : Int32) < 4 by decide) z) (fun _ => ?_)
  refine ev_aload_0 (pc := 93) dX0_init_93 ?_
  refine ev_getqr (pc := 94) (r := 1) (i := 3) (ci := 0) (j := 8) (r2 := 25) (i2 := 3) fl_X0_30 rfl rfl dX0_init_94 (by rw [n2]; exact Nat.le_of_ble_eq_true rfl) f2.2.1 ?_
  refine ev_iload_1 (pc := 97) dX0_init_97 ?_
  refine ev_new (pc := 98) (r := 4) (i := 14) (ci := 1) rfl (by decide) (by rw [n2]; rfl) wk_X0_28 wn_X1 wi_X1 dX0_init_98 ⟨Nat.le_of_ble_eq_true rfl, Nat.le_of_ble_eq_true rfl⟩ ?_
  generalize h3 : ev_mk M2 4 14 = M3
  have n3 : M3.2.2.2 = 145 := by
    rw [← h3]
    show M2.2.2.2 + 1 = 145
    rw [n2]
  have f3 : FB_ 3 M3 := by
    rw [← h3]
    exact f2
  refine ev_dup_r (pc := 101) dX0_init_101 ?_
  refine ev_ctCN (k' := K_X1_init) (pc := 102) (host := "HelmHand") (b' := B_X1_init) (List.mem_of_getElem? (i := 2) rfl) mi_X1_init rfl dX0_init_102 ⟨⟨Nat.le_of_ble_eq_true rfl, Nat.le_of_ble_eq_true rfl⟩, Nat.le_of_ble_eq_true rfl, Nat.le_of_ble_eq_true rfl⟩ (Nat.le_of_ble_eq_true rfl) (c_X1_init (M := M3) (i := 14) (by decide) (by rw [n3]; exact Nat.le_of_ble_eq_true rfl) (by rw [n3]; rfl) (by rw [n3]; rfl)) ?_
  generalize h4 : mk_X1 14 M3 = M4
  have n4 : M4.2.2.2 = 147 := by
    rw [← h4]
    show M3.2.2.2 + 1 + 1 = 147
    rw [n3]
  have f4 : FB_ 3 M4 := by
    rw [← h4]
    exact f3
  refine ev_aast (pc := 105) (r := 25) (i := 3) (t := 5) (r2 := 4) (i2 := 14) (ci := 1) (x := 2) rfl rfl rfl (by decide) (by decide) (show ¬ ((2 : Int32) < 0 ∨ ev_len 25 ≤ (2 : Int32).toNatClampNeg) by decide) dX0_init_105 (by rw [n4]; exact Nat.le_of_ble_eq_true rfl) (by rw [n4]; exact Nat.le_of_ble_eq_true rfl) ?_
  generalize h5 : ev_pq M4 25 3 (2 : Int32).toNatClampNeg (some (4, 14)) = M5
  have n5 : M5.2.2.2 = 147 := by
    rw [← h5]
    show M4.2.2.2 = 147
    rw [n4]
  have f5 : FB_ 3 M5 := by
    rw [← h5]
    exact f4
  refine ev_iinc_1 (pc := 106) (y := 3) dX0_init_106 rfl (by decide) rfl ?_
  refine ev_goto (pc := 109) (tgt := 84) dX0_init_109 (by decide) ?_
  refine ev_iload_1 (pc := 84) dX0_init_84 ?_
  refine ev_aload_0 (pc := 85) dX0_init_85 ?_
  refine ev_getqr (pc := 86) (r := 1) (i := 3) (ci := 0) (j := 8) (r2 := 25) (i2 := 3) fl_X0_30 rfl rfl dX0_init_86 (by rw [n5]; exact Nat.le_of_ble_eq_true rfl) f5.2.1 ?_
  refine ev_alen (pc := 89) (r := 25) (i := 3) (t := 5) (y := 4) rfl (by decide) dX0_init_89 (fun _ => (by rw [n5]; exact Nat.le_of_ble_eq_true rfl)) (fun h => absurd h (by decide)) ?_
  refine ev_icc_ge (pc := 90) (tgt := 112) dX0_init_90 (by decide) (fun z => absurd (show (3 : Int32) < 4 by decide) z) (fun _ => ?_)
  refine ev_aload_0 (pc := 93) dX0_init_93 ?_
  refine ev_getqr (pc := 94) (r := 1) (i := 3) (ci := 0) (j := 8) (r2 := 25) (i2 := 3) fl_X0_30 rfl rfl dX0_init_94 (by rw [n5]; exact Nat.le_of_ble_eq_true rfl) f5.2.1 ?_
  refine ev_iload_1 (pc := 97) dX0_init_97 ?_
  refine ev_new (pc := 98) (r := 4) (i := 15) (ci := 1) rfl (by decide) (by rw [n5]; rfl) wk_X0_28 wn_X1 wi_X1 dX0_init_98 ⟨Nat.le_of_ble_eq_true rfl, Nat.le_of_ble_eq_true rfl⟩ ?_
  generalize h6 : ev_mk M5 4 15 = M6
  have n6 : M6.2.2.2 = 148 := by
    rw [← h6]
    show M5.2.2.2 + 1 = 148
    rw [n5]
  have f6 : FB_ 3 M6 := by
    rw [← h6]
    exact f5
  refine ev_dup_r (pc := 101) dX0_init_101 ?_
  refine ev_ctCN (k' := K_X1_init) (pc := 102) (host := "HelmHand") (b' := B_X1_init) (List.mem_of_getElem? (i := 2) rfl) mi_X1_init rfl dX0_init_102 ⟨⟨Nat.le_of_ble_eq_true rfl, Nat.le_of_ble_eq_true rfl⟩, Nat.le_of_ble_eq_true rfl, Nat.le_of_ble_eq_true rfl⟩ (Nat.le_of_ble_eq_true rfl) (c_X1_init (M := M6) (i := 15) (by decide) (by rw [n6]; exact Nat.le_of_ble_eq_true rfl) (by rw [n6]; rfl) (by rw [n6]; rfl)) ?_
  generalize h7 : mk_X1 15 M6 = M7
  have n7 : M7.2.2.2 = 150 := by
    rw [← h7]
    show M6.2.2.2 + 1 + 1 = 150
    rw [n6]
  have f7 : FB_ 3 M7 := by
    rw [← h7]
    exact f6
  refine ev_aast (pc := 105) (r := 25) (i := 3) (t := 5) (r2 := 4) (i2 := 15) (ci := 1) (x := 3) rfl rfl rfl (by decide) (by decide) (show ¬ ((3 : Int32) < 0 ∨ ev_len 25 ≤ (3 : Int32).toNatClampNeg) by decide) dX0_init_105 (by rw [n7]; exact Nat.le_of_ble_eq_true rfl) (by rw [n7]; exact Nat.le_of_ble_eq_true rfl) ?_
  generalize h8 : ev_pq M7 25 3 (3 : Int32).toNatClampNeg (some (4, 15)) = M8
  have n8 : M8.2.2.2 = 150 := by
    rw [← h8]
    show M7.2.2.2 = 150
    rw [n7]
  have f8 : FB_ 3 M8 := by
    rw [← h8]
    exact f7
  refine ev_iinc_1 (pc := 106) (y := 4) dX0_init_106 rfl (by decide) rfl ?_
  refine ev_goto (pc := 109) (tgt := 84) dX0_init_109 (by decide) ?_
  refine ev_iload_1 (pc := 84) dX0_init_84 ?_
  refine ev_aload_0 (pc := 85) dX0_init_85 ?_
  refine ev_getqr (pc := 86) (r := 1) (i := 3) (ci := 0) (j := 8) (r2 := 25) (i2 := 3) fl_X0_30 rfl rfl dX0_init_86 (by rw [n8]; exact Nat.le_of_ble_eq_true rfl) f8.2.1 ?_
  refine ev_alen (pc := 89) (r := 25) (i := 3) (t := 5) (y := 4) rfl (by decide) dX0_init_89 (fun _ => (by rw [n8]; exact Nat.le_of_ble_eq_true rfl)) (fun h => absurd h (by decide)) ?_
  refine ev_icc_ge (pc := 90) (tgt := 112) dX0_init_90 (by decide) (fun _ => ?_) (fun z => absurd z (by decide))
  refine ev_iconst (pc := 112) (v := 0) dX0_init_112 rfl ?_
  refine ev_istore_1 (pc := 113) dX0_init_113 (by decide) rfl ?_
  refine ev_iload_1 (pc := 114) dX0_init_114 ?_
  refine ev_aload_0 (pc := 115) dX0_init_115 ?_
  refine ev_getqr (pc := 116) (r := 1) (i := 3) (ci := 0) (j := 9) (r2 := 26) (i2 := 3) fl_X0_36 rfl rfl dX0_init_116 (by rw [n8]; exact Nat.le_of_ble_eq_true rfl) f8.2.2.1 ?_
  refine ev_alen (pc := 119) (r := 26) (i := 3) (t := 6) (y := 2) rfl (by decide) dX0_init_119 (fun _ => (by rw [n8]; exact Nat.le_of_ble_eq_true rfl)) (fun h => absurd h (by decide)) ?_
  refine ev_icc_ge (pc := 120) (tgt := 142) dX0_init_120 (by decide) (fun z => absurd (show (0 : Int32) < 2 by decide) z) (fun _ => ?_)
  refine ev_aload_0 (pc := 123) dX0_init_123 ?_
  refine ev_getqr (pc := 124) (r := 1) (i := 3) (ci := 0) (j := 9) (r2 := 26) (i2 := 3) fl_X0_36 rfl rfl dX0_init_124 (by rw [n8]; exact Nat.le_of_ble_eq_true rfl) f8.2.2.1 ?_
  refine ev_iload_1 (pc := 127) dX0_init_127 ?_
  refine ev_new (pc := 128) (r := 5) (i := 6) (ci := 3) rfl (by decide) (by rw [n8]; rfl) wk_X0_34 wn_X3 wi_X3 dX0_init_128 ⟨Nat.le_of_ble_eq_true rfl, Nat.le_of_ble_eq_true rfl⟩ ?_
  generalize h9 : ev_mk M8 5 6 = M9
  have n9 : M9.2.2.2 = 151 := by
    rw [← h9]
    show M8.2.2.2 + 1 = 151
    rw [n8]
  have f9 : FB_ 3 M9 := by
    rw [← h9]
    exact f8
  refine ev_dup_r (pc := 131) dX0_init_131 ?_
  refine ev_ctCN (k' := K_X3_init) (pc := 132) (host := "HelmHand") (b' := B_X3_init) (List.mem_of_getElem? (i := 3) rfl) mi_X3_init rfl dX0_init_132 ⟨⟨Nat.le_of_ble_eq_true rfl, Nat.le_of_ble_eq_true rfl⟩, Nat.le_of_ble_eq_true rfl, Nat.le_of_ble_eq_true rfl⟩ (Nat.le_of_ble_eq_true rfl) (c_X3_init (M := M9) (i := 6) (by decide) (by rw [n9]; exact Nat.le_of_ble_eq_true rfl) (by rw [n9]; rfl)) ?_
  generalize h10 : mk_X3 6 M9 = M10
  have n10 : M10.2.2.2 = 152 := by
    rw [← h10]
    show M9.2.2.2 + 1 = 152
    rw [n9]
  have f10 : FB_ 3 M10 := by
    rw [← h10]
    exact f9
  rw [← h10, ← h9, ← h8, ← h7, ← h6, ← h5, ← h4, ← h3, ← h2, ← h1]
  exact kk
def mk_X0_3_d (M : ev_M) : ev_M := (ev_pq (mk_X7 7 (ev_mk (ev_pq (mk_X7 6 (ev_mk (ev_pq (mk_X3 7 (ev_mk (ev_pq M 26 3 (0 : Int32).toNatClampNeg (some (5, 6))) 5 7)) 26 3 (1 : Int32).toNatClampNeg (some (5, 7))) 6 6)) 27 3 (0 : Int32).toNatClampNeg (some (6, 6))) 6 7)) 27 3 (1 : Int32).toNatClampNeg (some (6, 7)))
theorem N_X0_3_d {M : ev_M} (n0 : M.2.2.2 = 152) : (mk_X0_3_d M).2.2.2 = 160 := by
  show M.2.2.2 + 1 + 1 + 1 + 1 + 1 + 1 + 1 + 1 = 160
  rw [n0]
theorem F_X0_3_d {M : ev_M} (f0 : FB_ 3 M) : FB_ 3 (mk_X0_3_d M) := f0
set_option maxRecDepth 20000 in
set_option maxHeartbeats 4000000 in
theorem g_X0_3_d {G : ev_G} {M : ev_M} {Q : Option ev_V → ev_M → Prop} (n0 : M.2.2.2 = 152) (f0 : FB_ 3 M) (kk : ev_E G K_X0_init B_X0_init (32, 902) 166 [some (vr 1 3), some (vi 1)] [] (mk_X0_3_d M) Q) : ev_E G K_X0_init B_X0_init (24, 802) 135 [some (vr 1 3), some (vi 0)] [vr 5 6, vi 0, vr 26 3] M Q := by
  refine ev_aast (pc := 135) (r := 26) (i := 3) (t := 6) (r2 := 5) (i2 := 6) (ci := 3) (x := 0) rfl rfl rfl (by decide) (by decide) (show ¬ ((0 : Int32) < 0 ∨ ev_len 26 ≤ (0 : Int32).toNatClampNeg) by decide) dX0_init_135 (by rw [n0]; exact Nat.le_of_ble_eq_true rfl) (by rw [n0]; exact Nat.le_of_ble_eq_true rfl) ?_
  generalize h1 : ev_pq M 26 3 (0 : Int32).toNatClampNeg (some (5, 6)) = M1
  have n1 : M1.2.2.2 = 152 := by
    rw [← h1]
    show M.2.2.2 = 152
    rw [n0]
  have f1 : FB_ 3 M1 := by
    rw [← h1]
    exact f0
  refine ev_iinc_1 (pc := 136) (y := 1) dX0_init_136 rfl (by decide) rfl ?_
  refine ev_goto (pc := 139) (tgt := 114) dX0_init_139 (by decide) ?_
  refine ev_iload_1 (pc := 114) dX0_init_114 ?_
  refine ev_aload_0 (pc := 115) dX0_init_115 ?_
  refine ev_getqr (pc := 116) (r := 1) (i := 3) (ci := 0) (j := 9) (r2 := 26) (i2 := 3) fl_X0_36 rfl rfl dX0_init_116 (by rw [n1]; exact Nat.le_of_ble_eq_true rfl) f1.2.2.1 ?_
  refine ev_alen (pc := 119) (r := 26) (i := 3) (t := 6) (y := 2) rfl (by decide) dX0_init_119 (fun _ => (by rw [n1]; exact Nat.le_of_ble_eq_true rfl)) (fun h => absurd h (by decide)) ?_
  refine ev_icc_ge (pc := 120) (tgt := 142) dX0_init_120 (by decide) (fun z => absurd (show (1 : Int32) < 2 by decide) z) (fun _ => ?_)
  refine ev_aload_0 (pc := 123) dX0_init_123 ?_
  refine ev_getqr (pc := 124) (r := 1) (i := 3) (ci := 0) (j := 9) (r2 := 26) (i2 := 3) fl_X0_36 rfl rfl dX0_init_124 (by rw [n1]; exact Nat.le_of_ble_eq_true rfl) f1.2.2.1 ?_
  refine ev_iload_1 (pc := 127) dX0_init_127 ?_
  refine ev_new (pc := 128) (r := 5) (i := 7) (ci := 3) rfl (by decide) (by rw [n1]; rfl) wk_X0_34 wn_X3 wi_X3 dX0_init_128 ⟨Nat.le_of_ble_eq_true rfl, Nat.le_of_ble_eq_true rfl⟩ ?_
  generalize h2 : ev_mk M1 5 7 = M2
  have n2 : M2.2.2.2 = 153 := by
    rw [← h2]
    show M1.2.2.2 + 1 = 153
    rw [n1]
  have f2 : FB_ 3 M2 := by
    rw [← h2]
    exact f1
  refine ev_dup_r (pc := 131) dX0_init_131 ?_
  refine ev_ctCN (k' := K_X3_init) (pc := 132) (host := "HelmHand") (b' := B_X3_init) (List.mem_of_getElem? (i := 3) rfl) mi_X3_init rfl dX0_init_132 ⟨⟨Nat.le_of_ble_eq_true rfl, Nat.le_of_ble_eq_true rfl⟩, Nat.le_of_ble_eq_true rfl, Nat.le_of_ble_eq_true rfl⟩ (Nat.le_of_ble_eq_true rfl) (c_X3_init (M := M2) (i := 7) (by decide) (by rw [n2]; exact Nat.le_of_ble_eq_true rfl) (by rw [n2]; rfl)) ?_
  generalize h3 : mk_X3 7 M2 = M3
  have n3 : M3.2.2.2 = 154 := by
    rw [← h3]
    show M2.2.2.2 + 1 = 154
    rw [n2]
  have f3 : FB_ 3 M3 := by
    rw [← h3]
    exact f2
  refine ev_aast (pc := 135) (r := 26) (i := 3) (t := 6) (r2 := 5) (i2 := 7) (ci := 3) (x := 1) rfl rfl rfl (by decide) (by decide) (show ¬ ((1 : Int32) < 0 ∨ ev_len 26 ≤ (1 : Int32).toNatClampNeg) by decide) dX0_init_135 (by rw [n3]; exact Nat.le_of_ble_eq_true rfl) (by rw [n3]; exact Nat.le_of_ble_eq_true rfl) ?_
  generalize h4 : ev_pq M3 26 3 (1 : Int32).toNatClampNeg (some (5, 7)) = M4
  have n4 : M4.2.2.2 = 154 := by
    rw [← h4]
    show M3.2.2.2 = 154
    rw [n3]
  have f4 : FB_ 3 M4 := by
    rw [← h4]
    exact f3
  refine ev_iinc_1 (pc := 136) (y := 2) dX0_init_136 rfl (by decide) rfl ?_
  refine ev_goto (pc := 139) (tgt := 114) dX0_init_139 (by decide) ?_
  refine ev_iload_1 (pc := 114) dX0_init_114 ?_
  refine ev_aload_0 (pc := 115) dX0_init_115 ?_
  refine ev_getqr (pc := 116) (r := 1) (i := 3) (ci := 0) (j := 9) (r2 := 26) (i2 := 3) fl_X0_36 rfl rfl dX0_init_116 (by rw [n4]; exact Nat.le_of_ble_eq_true rfl) f4.2.2.1 ?_
  refine ev_alen (pc := 119) (r := 26) (i := 3) (t := 6) (y := 2) rfl (by decide) dX0_init_119 (fun _ => (by rw [n4]; exact Nat.le_of_ble_eq_true rfl)) (fun h => absurd h (by decide)) ?_
  refine ev_icc_ge (pc := 120) (tgt := 142) dX0_init_120 (by decide) (fun _ => ?_) (fun z => absurd z (by decide))
  refine ev_iconst (pc := 142) (v := 0) dX0_init_142 rfl ?_
  refine ev_istore_1 (pc := 143) dX0_init_143 (by decide) rfl ?_
  refine ev_iload_1 (pc := 144) dX0_init_144 ?_
  refine ev_aload_0 (pc := 145) dX0_init_145 ?_
  refine ev_getqr (pc := 146) (r := 1) (i := 3) (ci := 0) (j := 10) (r2 := 27) (i2 := 3) fl_X0_42 rfl rfl dX0_init_146 (by rw [n4]; exact Nat.le_of_ble_eq_true rfl) f4.2.2.2 ?_
  refine ev_alen (pc := 149) (r := 27) (i := 3) (t := 7) (y := 2) rfl (by decide) dX0_init_149 (fun _ => (by rw [n4]; exact Nat.le_of_ble_eq_true rfl)) (fun h => absurd h (by decide)) ?_
  refine ev_icc_ge (pc := 150) (tgt := 172) dX0_init_150 (by decide) (fun z => absurd (show (0 : Int32) < 2 by decide) z) (fun _ => ?_)
  refine ev_aload_0 (pc := 153) dX0_init_153 ?_
  refine ev_getqr (pc := 154) (r := 1) (i := 3) (ci := 0) (j := 10) (r2 := 27) (i2 := 3) fl_X0_42 rfl rfl dX0_init_154 (by rw [n4]; exact Nat.le_of_ble_eq_true rfl) f4.2.2.2 ?_
  refine ev_iload_1 (pc := 157) dX0_init_157 ?_
  refine ev_new (pc := 158) (r := 6) (i := 6) (ci := 7) rfl (by decide) (by rw [n4]; rfl) wk_X0_40 wn_X7 wi_X7 dX0_init_158 ⟨Nat.le_of_ble_eq_true rfl, Nat.le_of_ble_eq_true rfl⟩ ?_
  generalize h5 : ev_mk M4 6 6 = M5
  have n5 : M5.2.2.2 = 155 := by
    rw [← h5]
    show M4.2.2.2 + 1 = 155
    rw [n4]
  have f5 : FB_ 3 M5 := by
    rw [← h5]
    exact f4
  refine ev_dup_r (pc := 161) dX0_init_161 ?_
  refine ev_ctCN (k' := K_X7_init) (pc := 162) (host := "HelmHand") (b' := B_X7_init) (List.mem_of_getElem? (i := 4) rfl) mi_X7_init rfl dX0_init_162 ⟨⟨Nat.le_of_ble_eq_true rfl, Nat.le_of_ble_eq_true rfl⟩, Nat.le_of_ble_eq_true rfl, Nat.le_of_ble_eq_true rfl⟩ (Nat.le_of_ble_eq_true rfl) (c_X7_init (M := M5) (i := 6) (by decide) (by rw [n5]; exact Nat.le_of_ble_eq_true rfl) (by rw [n5]; rfl) (by rw [n5]; rfl)) ?_
  generalize h6 : mk_X7 6 M5 = M6
  have n6 : M6.2.2.2 = 157 := by
    rw [← h6]
    show M5.2.2.2 + 1 + 1 = 157
    rw [n5]
  have f6 : FB_ 3 M6 := by
    rw [← h6]
    exact f5
  refine ev_aast (pc := 165) (r := 27) (i := 3) (t := 7) (r2 := 6) (i2 := 6) (ci := 7) (x := 0) rfl rfl rfl (by decide) (by decide) (show ¬ ((0 : Int32) < 0 ∨ ev_len 27 ≤ (0 : Int32).toNatClampNeg) by decide) dX0_init_165 (by rw [n6]; exact Nat.le_of_ble_eq_true rfl) (by rw [n6]; exact Nat.le_of_ble_eq_true rfl) ?_
  generalize h7 : ev_pq M6 27 3 (0 : Int32).toNatClampNeg (some (6, 6)) = M7
  have n7 : M7.2.2.2 = 157 := by
    rw [← h7]
    show M6.2.2.2 = 157
    rw [n6]
  have f7 : FB_ 3 M7 := by
    rw [← h7]
    exact f6
  refine ev_iinc_1 (pc := 166) (y := 1) dX0_init_166 rfl (by decide) rfl ?_
  refine ev_goto (pc := 169) (tgt := 144) dX0_init_169 (by decide) ?_
  refine ev_iload_1 (pc := 144) dX0_init_144 ?_
  refine ev_aload_0 (pc := 145) dX0_init_145 ?_
  refine ev_getqr (pc := 146) (r := 1) (i := 3) (ci := 0) (j := 10) (r2 := 27) (i2 := 3) fl_X0_42 rfl rfl dX0_init_146 (by rw [n7]; exact Nat.le_of_ble_eq_true rfl) f7.2.2.2 ?_
  refine ev_alen (pc := 149) (r := 27) (i := 3) (t := 7) (y := 2) rfl (by decide) dX0_init_149 (fun _ => (by rw [n7]; exact Nat.le_of_ble_eq_true rfl)) (fun h => absurd h (by decide)) ?_
  refine ev_icc_ge (pc := 150) (tgt := 172) dX0_init_150 (by decide) (fun z => absurd (show (1 : Int32) < 2 by decide) z) (fun _ => ?_)
  refine ev_aload_0 (pc := 153) dX0_init_153 ?_
  refine ev_getqr (pc := 154) (r := 1) (i := 3) (ci := 0) (j := 10) (r2 := 27) (i2 := 3) fl_X0_42 rfl rfl dX0_init_154 (by rw [n7]; exact Nat.le_of_ble_eq_true rfl) f7.2.2.2 ?_
  refine ev_iload_1 (pc := 157) dX0_init_157 ?_
  refine ev_new (pc := 158) (r := 6) (i := 7) (ci := 7) rfl (by decide) (by rw [n7]; rfl) wk_X0_40 wn_X7 wi_X7 dX0_init_158 ⟨Nat.le_of_ble_eq_true rfl, Nat.le_of_ble_eq_true rfl⟩ ?_
  generalize h8 : ev_mk M7 6 7 = M8
  have n8 : M8.2.2.2 = 158 := by
    rw [← h8]
    show M7.2.2.2 + 1 = 158
    rw [n7]
  have f8 : FB_ 3 M8 := by
    rw [← h8]
    exact f7
  refine ev_dup_r (pc := 161) dX0_init_161 ?_
  refine ev_ctCN (k' := K_X7_init) (pc := 162) (host := "HelmHand") (b' := B_X7_init) (List.mem_of_getElem? (i := 4) rfl) mi_X7_init rfl dX0_init_162 ⟨⟨Nat.le_of_ble_eq_true rfl, Nat.le_of_ble_eq_true rfl⟩, Nat.le_of_ble_eq_true rfl, Nat.le_of_ble_eq_true rfl⟩ (Nat.le_of_ble_eq_true rfl) (c_X7_init (M := M8) (i := 7) (by decide) (by rw [n8]; exact Nat.le_of_ble_eq_true rfl) (by rw [n8]; rfl) (by rw [n8]; rfl)) ?_
  generalize h9 : mk_X7 7 M8 = M9
  have n9 : M9.2.2.2 = 160 := by
    rw [← h9]
    show M8.2.2.2 + 1 + 1 = 160
    rw [n8]
  have f9 : FB_ 3 M9 := by
    rw [← h9]
    exact f8
  refine ev_aast (pc := 165) (r := 27) (i := 3) (t := 7) (r2 := 6) (i2 := 7) (ci := 7) (x := 1) rfl rfl rfl (by decide) (by decide) (show ¬ ((1 : Int32) < 0 ∨ ev_len 27 ≤ (1 : Int32).toNatClampNeg) by decide) dX0_init_165 (by rw [n9]; exact Nat.le_of_ble_eq_true rfl) (by rw [n9]; exact Nat.le_of_ble_eq_true rfl) ?_
  generalize h10 : ev_pq M9 27 3 (1 : Int32).toNatClampNeg (some (6, 7)) = M10
  have n10 : M10.2.2.2 = 160 := by
    rw [← h10]
    show M9.2.2.2 = 160
    rw [n9]
  have f10 : FB_ 3 M10 := by
    rw [← h10]
    exact f9
  rw [← h10, ← h9, ← h8, ← h7, ← h6, ← h5, ← h4, ← h3, ← h2, ← h1]
  exact kk
def mk_X0_3_e (M : ev_M) : ev_M := M
theorem N_X0_3_e {M : ev_M} (n0 : M.2.2.2 = 160) : (mk_X0_3_e M).2.2.2 = 160 := by
  show M.2.2.2 = 160
  rw [n0]
set_option maxRecDepth 20000 in
set_option maxHeartbeats 4000000 in
theorem g_X0_3_e {G : ev_G} {M : ev_M} {Q : Option ev_V → ev_M → Prop} (n0 : M.2.2.2 = 160) (f0 : FB_ 3 M) (kk : ev_E G K_X0_init B_X0_init (32, 902) 172 [some (vr 1 3), some (vi 2)] [] (mk_X0_3_e M) Q) : ev_E G K_X0_init B_X0_init (32, 902) 166 [some (vr 1 3), some (vi 1)] [] M Q := by
  refine ev_iinc_1 (pc := 166) (y := 2) dX0_init_166 rfl (by decide) rfl ?_
  refine ev_goto (pc := 169) (tgt := 144) dX0_init_169 (by decide) ?_
  refine ev_iload_1 (pc := 144) dX0_init_144 ?_
  refine ev_aload_0 (pc := 145) dX0_init_145 ?_
  refine ev_getqr (pc := 146) (r := 1) (i := 3) (ci := 0) (j := 10) (r2 := 27) (i2 := 3) fl_X0_42 rfl rfl dX0_init_146 (by rw [n0]; exact Nat.le_of_ble_eq_true rfl) f0.2.2.2 ?_
  refine ev_alen (pc := 149) (r := 27) (i := 3) (t := 7) (y := 2) rfl (by decide) dX0_init_149 (fun _ => (by rw [n0]; exact Nat.le_of_ble_eq_true rfl)) (fun h => absurd h (by decide)) ?_
  refine ev_icc_ge (pc := 150) (tgt := 172) dX0_init_150 (by decide) (fun _ => ?_) (fun z => absurd z (by decide))
  exact kk
def mk_X0_3 (M : ev_M) : ev_M := (mk_X0_3_e (mk_X0_3_d (mk_X0_3_c (mk_X0_3_b (mk_X0_3_a M)))))
theorem N_X0_3 {M : ev_M} (n0 : M.2.2.2 = 128) : (mk_X0_3 M).2.2.2 = 160 := (N_X0_3_e (N_X0_3_d (N_X0_3_c (N_X0_3_b (N_X0_3_a n0)))))
theorem c_X0_init_3 {G : ev_G} {M : ev_M} (n0 : M.2.2.2 = 128) : ev_CI G K_X0_init B_X0_init 1 3 M (mk_X0_3 M) := by
  refine ev_Ct_of (L0 := [some (vr 1 3), none]) rfl rfl (Nat.le_of_ble_eq_true rfl) ?_
  refine g_X0_3_a n0 ?_
  refine g_X0_3_b (N_X0_3_a n0) (F_X0_3_a _) ?_
  refine g_X0_3_c (N_X0_3_b (N_X0_3_a n0)) (F_X0_3_b (F_X0_3_a _)) ?_
  refine g_X0_3_d (N_X0_3_c (N_X0_3_b (N_X0_3_a n0))) (F_X0_3_c (F_X0_3_b (F_X0_3_a _))) ?_
  refine g_X0_3_e (N_X0_3_d (N_X0_3_c (N_X0_3_b (N_X0_3_a n0)))) (F_X0_3_d (F_X0_3_c (F_X0_3_b (F_X0_3_a _)))) ?_
  exact ev_vret (pc := 172) dX0_init_172 rfl ⟨rfl, rfl⟩
