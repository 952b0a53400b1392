/-! the constructors -/
theorem ev_getqr {G : ev_G} {k : ev_K} {b : ev_B} {u : Nat × Nat} {pc : Nat} {L : List (Option ev_V)} {st : List ev_V} {M : ev_M} {Q : Option ev_V → ev_M → Prop} {r i ci idx j r2 i2 : Nat} (hf : ev_FL k.2.1.cls idx ci j) (hr : ev_rk r = .inl ci) (hk : ev_fk r j = 2) (d : decode k.1 pc = .ok (.getfield idx, 3)) (ha : ev_od r i < M.2.2.2) (h : M.2.2.1 r i j = some (r2, i2)) (kk : ev_E G k b u (pc + 3) L (vr r2 i2 :: st) M Q) : ev_E G k b u pc L (vr r i :: st) M Q :=
  ev_getq hf hr hk d ha (by rw [h]; exact kk)
/-- what a book under way, the class's object, the reference's object hold -/
def FB_ (i : Nat) (M : ev_M) : Prop := M.2.2.1 1 i 7 = some (24, i) ∧ M.2.2.1 1 i 8 = some (25, i) ∧ M.2.2.1 1 i 9 = some (26, i) ∧ M.2.2.1 1 i 10 = some (27, i)
def FI_ (M : ev_M) : Prop := M.2.2.1 0 0 1 = some (23, 0)
def FM_ (M : ev_M) : Prop := M.2.2.1 10 0 4 = some (33, 0)
def mk_X6 (i : Nat) (M : ev_M) : ev_M := (ev_pq (ev_mk M 11 i) 2 i 0 (some (11, i)))
abbrev B_X6_init : ev_B := (1, 20, 1, 600)
theorem c_X6_init {G : ev_G} {M : ev_M} {i : Nat} (hi : i < 5) (ha : ev_od 2 i < M.2.2.2) (ho0 : ev_od 11 i = M.2.2.2) : ev_CI G K_X6_init B_X6_init 2 i M (mk_X6 i M) := by
  refine ev_Ct_of (L0 := [some (vr 2 i)]) rfl rfl (Nat.le_of_ble_eq_true rfl) ?_
  refine ev_aload_0 (pc := 0) dX6_init_0 ?_
  refine ev_oini (pc := 1) wl_X6_3 wo_in wo_co ⟨Nat.le_of_ble_eq_true rfl, Nat.le_of_ble_eq_true rfl⟩ (Nat.le_of_ble_eq_true rfl) dX6_init_1 ?_
  refine ev_aload_0 (pc := 4) dX6_init_4 ?_
  refine ev_sipush (pc := 5) (v := 600) dX6_init_5 (by decide) ?_
  refine ev_newa (pc := 8) (r := 11) (i := i) (t := 1) (aty := .byte) rfl (by decide) hi ho0 (by decide) (Or.inl (by decide)) rfl wa_byte (by decide) (by decide) (Nat.le_of_ble_eq_true rfl) dX6_init_8 ⟨Nat.le_of_ble_eq_true rfl, Nat.le_of_ble_eq_true rfl⟩ ?_
  refine ev_putq (pc := 10) (r := 2) (i := i) (ci := 6) (j := 0) (o := some (11, i)) fl_X6_9 rfl rfl (Or.inr ⟨rfl, rfl, rfl⟩) (Or.inr ⟨_, rfl⟩) dX6_init_10 (by show ev_od 2 i < M.2.2.2 + 1; omega) ?_
  exact ev_vret (pc := 13) dX6_init_13 rfl ⟨rfl, rfl⟩
def mk_X5 (i : Nat) (M : ev_M) : ev_M := (ev_pq (ev_mk M 12 i) 3 i 11 (some (12, i)))
abbrev B_X5_init : ev_B := (1, 20, 1, 12)
theorem c_X5_init {G : ev_G} {M : ev_M} {i : Nat} (hi : i < 10) (ha : ev_od 3 i < M.2.2.2) (ho0 : ev_od 12 i = M.2.2.2) : ev_CI G K_X5_init B_X5_init 3 i M (mk_X5 i M) := by
  refine ev_Ct_of (L0 := [some (vr 3 i)]) rfl rfl (Nat.le_of_ble_eq_true rfl) ?_
  refine ev_aload_0 (pc := 0) dX5_init_0 ?_
  refine ev_oini (pc := 1) wl_X5_3 wo_in wo_co ⟨Nat.le_of_ble_eq_true rfl, Nat.le_of_ble_eq_true rfl⟩ (Nat.le_of_ble_eq_true rfl) dX5_init_1 ?_
  refine ev_aload_0 (pc := 4) dX5_init_4 ?_
  refine ev_bipush (pc := 5) (v := 12) dX5_init_5 (by decide) ?_
  refine ev_newa (pc := 7) (r := 12) (i := i) (t := 0) (aty := .int) rfl (by decide) hi ho0 (by decide) (Or.inl (by decide)) rfl wa_int (by decide) (by decide) (Nat.le_of_ble_eq_true rfl) dX5_init_7 ⟨Nat.le_of_ble_eq_true rfl, Nat.le_of_ble_eq_true rfl⟩ ?_
  refine ev_putq (pc := 9) (r := 3) (i := i) (ci := 5) (j := 11) (o := some (12, i)) fl_X5_9 rfl rfl (Or.inr ⟨rfl, rfl, rfl⟩) (Or.inr ⟨_, rfl⟩) dX5_init_9 (by show ev_od 3 i < M.2.2.2 + 1; omega) ?_
  exact ev_vret (pc := 12) dX5_init_12 rfl ⟨rfl, rfl⟩
def mk_X1 (i : Nat) (M : ev_M) : ev_M := (ev_pq (ev_mk (ev_pq (ev_mk M 13 i) 4 i 10 (some (13, i))) 14 i) 4 i 11 (some (14, i)))
abbrev B_X1_init : ev_B := (1, 20, 2, 8)
theorem c_X1_init {G : ev_G} {M : ev_M} {i : Nat} (hi : i < 18) (ha : ev_od 4 i < M.2.2.2) (ho0 : ev_od 13 i = M.2.2.2) (ho1 : ev_od 14 i = M.2.2.2 + 1) : ev_CI G K_X1_init B_X1_init 4 i M (mk_X1 i M) := by
  refine ev_Ct_of (L0 := [some (vr 4 i)]) rfl rfl (Nat.le_of_ble_eq_true rfl) ?_
  refine ev_aload_0 (pc := 0) dX1_init_0 ?_
  refine ev_oini (pc := 1) wl_X1_3 wo_in wo_co ⟨Nat.le_of_ble_eq_true rfl, Nat.le_of_ble_eq_true rfl⟩ (Nat.le_of_ble_eq_true rfl) dX1_init_1 ?_
  refine ev_aload_0 (pc := 4) dX1_init_4 ?_
  refine ev_iconst (pc := 5) (v := 4) dX1_init_5 rfl ?_
  refine ev_newa (pc := 6) (r := 13) (i := i) (t := 0) (aty := .int) rfl (by decide) hi ho0 (by decide) (Or.inl (by decide)) rfl wa_int (by decide) (by decide) (Nat.le_of_ble_eq_true rfl) dX1_init_6 ⟨Nat.le_of_ble_eq_true rfl, Nat.le_of_ble_eq_true rfl⟩ ?_
  refine ev_putq (pc := 8) (r := 4) (i := i) (ci := 1) (j := 10) (o := some (13, i)) fl_X1_9 rfl rfl (Or.inr ⟨rfl, rfl, rfl⟩) (Or.inr ⟨_, rfl⟩) dX1_init_8 (by show ev_od 4 i < M.2.2.2 + 1; omega) ?_
  refine ev_aload_0 (pc := 11) dX1_init_11 ?_
  refine ev_iconst (pc := 12) (v := 4) dX1_init_12 rfl ?_
  refine ev_newa (pc := 13) (r := 14) (i := i) (t := 0) (aty := .int) rfl (by decide) hi ho1 (by decide) (Or.inl (by decide)) rfl wa_int (by decide) (by decide) (Nat.le_of_ble_eq_true rfl) dX1_init_13 ⟨Nat.le_of_ble_eq_true rfl, Nat.le_of_ble_eq_true rfl⟩ ?_
  refine ev_putq (pc := 15) (r := 4) (i := i) (ci := 1) (j := 11) (o := some (14, i)) fl_X1_15 rfl rfl (Or.inr ⟨rfl, rfl, rfl⟩) (Or.inr ⟨_, rfl⟩) dX1_init_15 (by show ev_od 4 i < M.2.2.2 + 2; omega) ?_
  exact ev_vret (pc := 18) dX1_init_18 rfl ⟨rfl, rfl⟩
def mk_X3 (i : Nat) (M : ev_M) : ev_M := (ev_pq (ev_mk M 15 i) 5 i 0 (some (15, i)))
abbrev B_X3_init : ev_B := (1, 20, 1, 60)
theorem c_X3_init {G : ev_G} {M : ev_M} {i : Nat} (hi : i < 9) (ha : ev_od 5 i < M.2.2.2) (ho0 : ev_od 15 i = M.2.2.2) : ev_CI G K_X3_init B_X3_init 5 i M (mk_X3 i M) := by
  refine ev_Ct_of (L0 := [some (vr 5 i)]) rfl rfl (Nat.le_of_ble_eq_true rfl) ?_
  refine ev_aload_0 (pc := 0) dX3_init_0 ?_
  refine ev_oini (pc := 1) wl_X3_3 wo_in wo_co ⟨Nat.le_of_ble_eq_true rfl, Nat.le_of_ble_eq_true rfl⟩ (Nat.le_of_ble_eq_true rfl) dX3_init_1 ?_
  refine ev_aload_0 (pc := 4) dX3_init_4 ?_
  refine ev_bipush (pc := 5) (v := 60) dX3_init_5 (by decide) ?_
  refine ev_newa (pc := 7) (r := 15) (i := i) (t := 0) (aty := .int) rfl (by decide) hi ho0 (by decide) (Or.inl (by decide)) rfl wa_int (by decide) (by decide) (Nat.le_of_ble_eq_true rfl) dX3_init_7 ⟨Nat.le_of_ble_eq_true rfl, Nat.le_of_ble_eq_true rfl⟩ ?_
  refine ev_putq (pc := 9) (r := 5) (i := i) (ci := 3) (j := 0) (o := some (15, i)) fl_X3_9 rfl rfl (Or.inr ⟨rfl, rfl, rfl⟩) (Or.inr ⟨_, rfl⟩) dX3_init_9 (by show ev_od 5 i < M.2.2.2 + 1; omega) ?_
  exact ev_vret (pc := 12) dX3_init_12 rfl ⟨rfl, rfl⟩
def mk_X7 (i : Nat) (M : ev_M) : ev_M := (ev_pq (ev_mk (ev_pq (ev_mk M 16 i) 6 i 0 (some (16, i))) 17 i) 6 i 1 (some (17, i)))
abbrev B_X7_init : ev_B := (1, 20, 2, 16)
theorem c_X7_init {G : ev_G} {M : ev_M} {i : Nat} (hi : i < 9) (ha : ev_od 6 i < M.2.2.2) (ho0 : ev_od 16 i = M.2.2.2) (ho1 : ev_od 17 i = M.2.2.2 + 1) : ev_CI G K_X7_init B_X7_init 6 i M (mk_X7 i M) := by
  refine ev_Ct_of (L0 := [some (vr 6 i)]) rfl rfl (Nat.le_of_ble_eq_true rfl) ?_
  refine ev_aload_0 (pc := 0) dX7_init_0 ?_
  refine ev_oini (pc := 1) wl_X7_3 wo_in wo_co ⟨Nat.le_of_ble_eq_true rfl, Nat.le_of_ble_eq_true rfl⟩ (Nat.le_of_ble_eq_true rfl) dX7_init_1 ?_
  refine ev_aload_0 (pc := 4) dX7_init_4 ?_
  refine ev_bipush (pc := 5) (v := 8) dX7_init_5 (by decide) ?_
  refine ev_newa (pc := 7) (r := 16) (i := i) (t := 0) (aty := .int) rfl (by decide) hi ho0 (by decide) (Or.inl (by decide)) rfl wa_int (by decide) (by decide) (Nat.le_of_ble_eq_true rfl) dX7_init_7 ⟨Nat.le_of_ble_eq_true rfl, Nat.le_of_ble_eq_true rfl⟩ ?_
  refine ev_putq (pc := 9) (r := 6) (i := i) (ci := 7) (j := 0) (o := some (16, i)) fl_X7_9 rfl rfl (Or.inr ⟨rfl, rfl, rfl⟩) (Or.inr ⟨_, rfl⟩) dX7_init_9 (by show ev_od 6 i < M.2.2.2 + 1; omega) ?_
  refine ev_aload_0 (pc := 12) dX7_init_12 ?_
  refine ev_bipush (pc := 13) (v := 8) dX7_init_13 (by decide) ?_
  refine ev_newa (pc := 15) (r := 17) (i := i) (t := 0) (aty := .int) rfl (by decide) hi ho1 (by decide) (Or.inl (by decide)) rfl wa_int (by decide) (by decide) (Nat.le_of_ble_eq_true rfl) dX7_init_15 ⟨Nat.le_of_ble_eq_true rfl, Nat.le_of_ble_eq_true rfl⟩ ?_
  refine ev_putq (pc := 17) (r := 6) (i := i) (ci := 7) (j := 1) (o := some (17, i)) fl_X7_15 rfl rfl (Or.inr ⟨rfl, rfl, rfl⟩) (Or.inr ⟨_, rfl⟩) dX7_init_17 (by show ev_od 6 i < M.2.2.2 + 2; omega) ?_
  exact ev_vret (pc := 20) dX7_init_20 rfl ⟨rfl, rfl⟩
def mk_X2 (i : Nat) (M : ev_M) : ev_M := M
abbrev B_X2_init : ev_B := (1, 20, 0, 0)
theorem c_X2_init {G : ev_G} {M : ev_M} {i : Nat} (hi : i < 2) (ha : ev_od 9 i < M.2.2.2) : ev_CI G K_X2_init B_X2_init 9 i M (mk_X2 i M) := by
  refine ev_Ct_of (L0 := [some (vr 9 i)]) rfl rfl (Nat.le_of_ble_eq_true rfl) ?_
  refine ev_aload_0 (pc := 0) dX2_init_0 ?_
  refine ev_oini (pc := 1) wl_X2_1 wo_in wo_co ⟨Nat.le_of_ble_eq_true rfl, Nat.le_of_ble_eq_true rfl⟩ (Nat.le_of_ble_eq_true rfl) dX2_init_1 ?_
  exact ev_vret (pc := 4) dX2_init_4 rfl ⟨rfl, rfl⟩
def mk_X0_0 (M : ev_M) : ev_M := (ev_pq (mk_X7 1 (ev_mk (ev_pq (mk_X7 0 (ev_mk (ev_pq (mk_X3 1 (ev_mk (ev_pq (mk_X3 0 (ev_mk (ev_pq (mk_X1 3 (ev_mk (ev_pq (mk_X1 2 (ev_mk (ev_pq (mk_X1 1 (ev_mk (ev_pq (mk_X1 0 (ev_mk (ev_pq (mk_X5 1 (ev_mk (ev_pq (mk_X5 0 (ev_mk (ev_pq (ev_mk (ev_pq (ev_mk (ev_pq (ev_mk (ev_pq (ev_mk (ev_pi (ev_pq (mk_X6 0 (ev_mk M 2 0)) 1 0 0 (some (2, 0))) 1 0 2 (-1)) 24 0) 1 0 7 (some (24, 0))) 25 0) 1 0 8 (some (25, 0))) 26 0) 1 0 9 (some (26, 0))) 27 0) 1 0 10 (some (27, 0))) 3 0)) 24 0 0 (some (3, 0))) 3 1)) 24 0 1 (some (3, 1))) 4 0)) 25 0 0 (some (4, 0))) 4 1)) 25 0 1 (some (4, 1))) 4 2)) 25 0 2 (some (4, 2))) 4 3)) 25 0 3 (some (4, 3))) 5 0)) 26 0 0 (some (5, 0))) 5 1)) 26 0 1 (some (5, 1))) 6 0)) 27 0 0 (some (6, 0))) 6 1)) 27 0 1 (some (6, 1)))
abbrev B_X0_init : ev_B := (2, 40, 32, 902)
set_option maxRecDepth 20000 in
set_option maxHeartbeats 4000000 in
theorem c_X0_init_0 {G : ev_G} {M : ev_M} (n0 : M.2.2.2 = 2) : ev_CI G K_X0_init B_X0_init 1 0 M (mk_X0_0 M) := by
  refine ev_Ct_of (L0 := [some (vr 1 0), none]) rfl rfl (Nat.le_of_ble_eq_true rfl) ?_
  refine ev_aload_0 (pc := 0) dX0_init_0 ?_
  refine ev_oini (pc := 1) wl_X0_3 wo_in wo_co ⟨Nat.le_of_ble_eq_true rfl, Nat.le_of_ble_eq_true rfl⟩ (Nat.le_of_ble_eq_true rfl) dX0_init_1 ?_
  refine ev_aload_0 (pc := 4) dX0_init_4 ?_
  refine ev_new (pc := 5) (r := 2) (i := 0) (ci := 6) rfl (by decide) (by rw [n0]; rfl) wk_X0_9 wn_X6 wi_X6 dX0_init_5 ⟨Nat.le_of_ble_eq_true rfl, Nat.le_of_ble_eq_true rfl⟩ ?_
  generalize h1 : ev_mk M 2 0 = M1
  have n1 : M1.2.2.2 = 3 := by
    rw [← h1]
    show M.2.2.2 + 1 = 3
    rw [n0]
  refine ev_dup_r (pc := 8) dX0_init_8 ?_
  refine ev_ctCN (pc := 9) (host := "HelmHand") (b' := B_X6_init) (List.mem_of_getElem? (i := 0) rfl) mi_X6_init rfl dX0_init_9 ⟨⟨Nat.le_of_ble_eq_true rfl, Nat.le_of_ble_eq_true rfl⟩, Nat.le_of_ble_eq_true rfl, Nat.le_of_ble_eq_true rfl⟩ (Nat.le_of_ble_eq_true rfl) (c_X6_init (M := M1) (i := 0) (by decide) (by rw [n1]; exact Nat.le_of_ble_eq_true rfl) (by rw [n1]; rfl)) ?_
  generalize h2 : mk_X6 0 M1 = M2
  have n2 : M2.2.2.2 = 4 := by
    rw [← h2]
    show M1.2.2.2 + 1 = 4
    rw [n1]
  refine ev_putq (pc := 12) (r := 1) (i := 0) (ci := 0) (j := 0) (o := some (2, 0)) fl_X0_12 rfl rfl (Or.inr ⟨rfl, rfl, rfl⟩) (Or.inl ⟨_, rfl⟩) dX0_init_12 (by rw [n2]; exact Nat.le_of_ble_eq_true rfl) ?_
  generalize h3 : ev_pq M2 1 0 0 (some (2, 0)) = M3
  have n3 : M3.2.2.2 = 4 := by
    rw [← h3]
    show M2.2.2.2 = 4
    rw [n2]
  refine ev_aload_0 (pc := 15) dX0_init_15 ?_
  refine ev_iconst (pc := 16) (v := (-1)) dX0_init_16 rfl ?_
  refine ev_puti (pc := 17) (r := 1) (i := 0) (ci := 0) (j := 2) (x := (-1)) fl_X0_18 rfl rfl rfl rfl rfl dX0_init_17 (by rw [n3]; exact Nat.le_of_ble_eq_true rfl) ?_
  generalize h4 : ev_pi M3 1 0 2 (-1) = M4
  have n4 : M4.2.2.2 = 4 := by
    rw [← h4]
    show M3.2.2.2 = 4
    rw [n3]
  refine ev_aload_0 (pc := 20) dX0_init_20 ?_
  refine ev_iconst (pc := 21) (v := 2) dX0_init_21 rfl ?_
  refine ev_newq (pc := 22) (r := 24) (i := 0) (t := 4) (C := "HelmHand$Ship") rfl (by decide) (by decide) (by decide) (by rw [n4]; rfl) (by decide) rfl (by decide) wk_X0_22 (by decide) (by decide) (Nat.le_of_ble_eq_true rfl) dX0_init_22 ⟨Nat.le_of_ble_eq_true rfl, Nat.le_of_ble_eq_true rfl⟩ ?_
  generalize h5 : ev_mk M4 24 0 = M5
  have n5 : M5.2.2.2 = 5 := by
    rw [← h5]
    show M4.2.2.2 + 1 = 5
    rw [n4]
  refine ev_putq (pc := 25) (r := 1) (i := 0) (ci := 0) (j := 7) (o := some (24, 0)) fl_X0_24 rfl rfl (Or.inr ⟨rfl, rfl, rfl⟩) (Or.inr ⟨_, rfl⟩) dX0_init_25 (by rw [n5]; exact Nat.le_of_ble_eq_true rfl) ?_
  generalize h6 : ev_pq M5 1 0 7 (some (24, 0)) = M6
  have n6 : M6.2.2.2 = 5 := by
    rw [← h6]
    show M5.2.2.2 = 5
    rw [n5]
  refine ev_aload_0 (pc := 28) dX0_init_28 ?_
  refine ev_iconst (pc := 29) (v := 4) dX0_init_29 rfl ?_
  refine ev_newq (pc := 30) (r := 25) (i := 0) (t := 5) (C := "HelmHand$Hand") rfl (by decide) (by decide) (by decide) (by rw [n6]; rfl) (by decide) rfl (by decide) wk_X0_28 (by decide) (by decide) (Nat.le_of_ble_eq_true rfl) dX0_init_30 ⟨Nat.le_of_ble_eq_true rfl, Nat.le_of_ble_eq_true rfl⟩ ?_
  generalize h7 : ev_mk M6 25 0 = M7
  have n7 : M7.2.2.2 = 6 := by
    rw [← h7]
    show M6.2.2.2 + 1 = 6
    rw [n6]
  refine ev_putq (pc := 33) (r := 1) (i := 0) (ci := 0) (j := 8) (o := some (25, 0)) fl_X0_30 rfl rfl (Or.inr ⟨rfl, rfl, rfl⟩) (Or.inr ⟨_, rfl⟩) dX0_init_33 (by rw [n7]; exact Nat.le_of_ble_eq_true rfl) ?_
  generalize h8 : ev_pq M7 1 0 8 (some (25, 0)) = M8
  have n8 : M8.2.2.2 = 6 := by
    rw [← h8]
    show M7.2.2.2 = 6
    rw [n7]
  refine ev_aload_0 (pc := 36) dX0_init_36 ?_
  refine ev_iconst (pc := 37) (v := 2) dX0_init_37 rfl ?_
  refine ev_newq (pc := 38) (r := 26) (i := 0) (t := 6) (C := "HelmHand$Paper") rfl (by decide) (by decide) (by decide) (by rw [n8]; rfl) (by decide) rfl (by decide) wk_X0_34 (by decide) (by decide) (Nat.le_of_ble_eq_true rfl) dX0_init_38 ⟨Nat.le_of_ble_eq_true rfl, Nat.le_of_ble_eq_true rfl⟩ ?_
  generalize h9 : ev_mk M8 26 0 = M9
  have n9 : M9.2.2.2 = 7 := by
    rw [← h9]
    show M8.2.2.2 + 1 = 7
    rw [n8]
  refine ev_putq (pc := 41) (r := 1) (i := 0) (ci := 0) (j := 9) (o := some (26, 0)) fl_X0_36 rfl rfl (Or.inr ⟨rfl, rfl, rfl⟩) (Or.inr ⟨_, rfl⟩) dX0_init_41 (by rw [n9]; exact Nat.le_of_ble_eq_true rfl) ?_
  generalize h10 : ev_pq M9 1 0 9 (some (26, 0)) = M10
  have n10 : M10.2.2.2 = 7 := by
    rw [← h10]
    show M9.2.2.2 = 7
    rw [n9]
  refine ev_aload_0 (pc := 44) dX0_init_44 ?_
  refine ev_iconst (pc := 45) (v := 2) dX0_init_45 rfl ?_
  refine ev_newq (pc := 46) (r := 27) (i := 0) (t := 7) (C := "HelmHand$Watch") rfl (by decide) (by decide) (by decide) (by rw [n10]; rfl) (by decide) rfl (by decide) wk_X0_40 (by decide) (by decide) (Nat.le_of_ble_eq_true rfl) dX0_init_46 ⟨Nat.le_of_ble_eq_true rfl, Nat.le_of_ble_eq_true rfl⟩ ?_
  generalize h11 : ev_mk M10 27 0 = M11
  have n11 : M11.2.2.2 = 8 := by
    rw [← h11]
    show M10.2.2.2 + 1 = 8
    rw [n10]
  refine ev_putq (pc := 49) (r := 1) (i := 0) (ci := 0) (j := 10) (o := some (27, 0)) fl_X0_42 rfl rfl (Or.inr ⟨rfl, rfl, rfl⟩) (Or.inr ⟨_, rfl⟩) dX0_init_49 (by rw [n11]; exact Nat.le_of_ble_eq_true rfl) ?_
  generalize h12 : ev_pq M11 1 0 10 (some (27, 0)) = M12
  have n12 : M12.2.2.2 = 8 := by
    rw [← h12]
    show M11.2.2.2 = 8
    rw [n11]
  have f12 : FB_ 0 M12 := by
    rw [← h12, ← h11, ← h10, ← h9, ← h8, ← h7, ← h6, ← h5, ← h4, ← h3, ← h2, ← h1]
    exact ⟨rfl, rfl, rfl, rfl⟩
  refine ev_iconst (pc := 52) (v := 0) dX0_init_52 rfl ?_
  refine ev_istore_1 (pc := 53) dX0_init_53 (by decide) rfl ?_
  refine ev_iload_1 (pc := 54) dX0_init_54 ?_
  refine ev_aload_0 (pc := 55) dX0_init_55 ?_
  refine ev_getqr (pc := 56) (r := 1) (i := 0) (ci := 0) (j := 7) (r2 := 24) (i2 := 0) fl_X0_24 rfl rfl dX0_init_56 (by rw [n12]; exact Nat.le_of_ble_eq_true rfl) f12.1 ?_
  refine ev_alen (pc := 59) (r := 24) (i := 0) (t := 4) (y := 2) rfl (by decide) dX0_init_59 (fun _ => (by rw [n12]; exact Nat.le_of_ble_eq_true rfl)) (fun h => absurd h (by decide)) ?_
  refine ev_icc_ge (pc := 60) (tgt := 82) dX0_init_60 (by decide) (fun z => absurd (show (0 : Int32) < 2 by decide) z) (fun _ => ?_)
  refine ev_aload_0 (pc := 63) dX0_init_63 ?_
  refine ev_getqr (pc := 64) (r := 1) (i := 0) (ci := 0) (j := 7) (r2 := 24) (i2 := 0) fl_X0_24 rfl rfl dX0_init_64 (by rw [n12]; exact Nat.le_of_ble_eq_true rfl) f12.1 ?_
  refine ev_iload_1 (pc := 67) dX0_init_67 ?_
  refine ev_new (pc := 68) (r := 3) (i := 0) (ci := 5) rfl (by decide) (by rw [n12]; rfl) wk_X0_22 wn_X5 wi_X5 dX0_init_68 ⟨Nat.le_of_ble_eq_true rfl, Nat.le_of_ble_eq_true rfl⟩ ?_
  generalize h13 : ev_mk M12 3 0 = M13
  have n13 : M13.2.2.2 = 9 := by
    rw [← h13]
    show M12.2.2.2 + 1 = 9
    rw [n12]
  have f13 : FB_ 0 M13 := by
    rw [← h13]
    exact f12
  refine ev_dup_r (pc := 71) dX0_init_71 ?_
  refine ev_ctCN (pc := 72) (host := "HelmHand") (b' := B_X5_init) (List.mem_of_getElem? (i := 1) rfl) mi_X5_init rfl dX0_init_72 ⟨⟨Nat.le_of_ble_eq_true rfl, Nat.le_of_ble_eq_true rfl⟩, Nat.le_of_ble_eq_true rfl, Nat.le_of_ble_eq_true rfl⟩ (Nat.le_of_ble_eq_true rfl) (c_X5_init (M := M13) (i := 0) (by decide) (by rw [n13]; exact Nat.le_of_ble_eq_true rfl) (by rw [n13]; rfl)) ?_
  generalize h14 : mk_X5 0 M13 = M14
  have n14 : M14.2.2.2 = 10 := by
    rw [← h14]
    show M13.2.2.2 + 1 = 10
    rw [n13]
  have f14 : FB_ 0 M14 := by
    rw [← h14]
    exact f13
  refine ev_aast (pc := 75) (r := 24) (i := 0) (t := 4) (r2 := 3) (i2 := 0) (ci := 5) (x := 0) rfl rfl rfl (by decide) (by decide) (by decide) dX0_init_75 (by rw [n14]; exact Nat.le_of_ble_eq_true rfl) (by rw [n14]; exact Nat.le_of_ble_eq_true rfl) ?_
  generalize h15 : ev_pq M14 24 0 (0 : Int32).toNatClampNeg (some (3, 0)) = M15
  have n15 : M15.2.2.2 = 10 := by
    rw [← h15]
    show M14.2.2.2 = 10
    rw [n14]
  have f15 : FB_ 0 M15 := by
    rw [← h15]
    exact f14
  refine ev_iinc_1 (pc := 76) (y := 1) dX0_init_76 rfl (by decide) rfl ?_
  refine ev_goto (pc := 79) (tgt := 54) dX0_init_79 (by decide) ?_
  refine ev_iload_1 (pc := 54) dX0_init_54 ?_
  refine ev_aload_0 (pc := 55) dX0_init_55 ?_
  refine ev_getqr (pc := 56) (r := 1) (i := 0) (ci := 0) (j := 7) (r2 := 24) (i2 := 0) fl_X0_24 rfl rfl dX0_init_56 (by rw [n15]; exact Nat.le_of_ble_eq_true rfl) f15.1 ?_
  refine ev_alen (pc := 59) (r := 24) (i := 0) (t := 4) (y := 2) rfl (by decide) dX0_init_59 (fun _ => (by rw [n15]; exact Nat.le_of_ble_eq_true rfl)) (fun h => absurd h (by decide)) ?_
  refine ev_icc_ge (pc := 60) (tgt := 82) dX0_init_60 (by decide) (fun z => absurd (show (1 : Int32) < 2 by decide) z) (fun _ => ?_)
  refine ev_aload_0 (pc := 63) dX0_init_63 ?_
  refine ev_getqr (pc := 64) (r := 1) (i := 0) (ci := 0) (j := 7) (r2 := 24) (i2 := 0) fl_X0_24 rfl rfl dX0_init_64 (by rw [n15]; exact Nat.le_of_ble_eq_true rfl) f15.1 ?_
  refine ev_iload_1 (pc := 67) dX0_init_67 ?_
  refine ev_new (pc := 68) (r := 3) (i := 1) (ci := 5) rfl (by decide) (by rw [n15]; rfl) wk_X0_22 wn_X5 wi_X5 dX0_init_68 ⟨Nat.le_of_ble_eq_true rfl, Nat.le_of_ble_eq_true rfl⟩ ?_
  generalize h16 : ev_mk M15 3 1 = M16
  have n16 : M16.2.2.2 = 11 := by
    rw [← h16]
    show M15.2.2.2 + 1 = 11
    rw [n15]
  have f16 : FB_ 0 M16 := by
    rw [← h16]
    exact f15
  refine ev_dup_r (pc := 71) dX0_init_71 ?_
  refine ev_ctCN (pc := 72) (host := "HelmHand") (b' := B_X5_init) (List.mem_of_getElem? (i := 1) rfl) mi_X5_init rfl dX0_init_72 ⟨⟨Nat.le_of_ble_eq_true rfl, Nat.le_of_ble_eq_true rfl⟩, Nat.le_of_ble_eq_true rfl, Nat.le_of_ble_eq_true rfl⟩ (Nat.le_of_ble_eq_true rfl) (c_X5_init (M := M16) (i := 1) (by decide) (by rw [n16]; exact Nat.le_of_ble_eq_true rfl) (by rw [n16]; rfl)) ?_
  generalize h17 : mk_X5 1 M16 = M17
  have n17 : M17.2.2.2 = 12 := by
    rw [← h17]
    show M16.2.2.2 + 1 = 12
    rw [n16]
  have f17 : FB_ 0 M17 := by
    rw [← h17]
    exact f16
  refine ev_aast (pc := 75) (r := 24) (i := 0) (t := 4) (r2 := 3) (i2 := 1) (ci := 5) (x := 1) rfl rfl rfl (by decide) (by decide) (by decide) dX0_init_75 (by rw [n17]; exact Nat.le_of_ble_eq_true rfl) (by rw [n17]; exact Nat.le_of_ble_eq_true rfl) ?_
  generalize h18 : ev_pq M17 24 0 (1 : Int32).toNatClampNeg (some (3, 1)) = M18
  have n18 : M18.2.2.2 = 12 := by
    rw [← h18]
    show M17.2.2.2 = 12
    rw [n17]
  have f18 : FB_ 0 M18 := by
    rw [← h18]
    exact f17
  refine ev_iinc_1 (pc := 76) (y := 2) dX0_init_76 rfl (by decide) rfl ?_
  refine ev_goto (pc := 79) (tgt := 54) dX0_init_79 (by decide) ?_
  refine ev_iload_1 (pc := 54) dX0_init_54 ?_
  refine ev_aload_0 (pc := 55) dX0_init_55 ?_
  refine ev_getqr (pc := 56) (r := 1) (i := 0) (ci := 0) (j := 7) (r2 := 24) (i2 := 0) fl_X0_24 rfl rfl dX0_init_56 (by rw [n18]; exact Nat.le_of_ble_eq_true rfl) f18.1 ?_
  refine ev_alen (pc := 59) (r := 24) (i := 0) (t := 4) (y := 2) rfl (by decide) dX0_init_59 (fun _ => (by rw [n18]; exact Nat.le_of_ble_eq_true rfl)) (fun h => absurd h (by decide)) ?_
  refine ev_icc_ge (pc := 60) (tgt := 82) dX0_init_60 (by decide) (fun _ => ?_) (fun z => absurd z (by decide))
  refine ev_iconst (pc := 82) (v := 0) dX0_init_82 rfl ?_
  refine ev_istore_1 (pc := 83) dX0_init_83 (by decide) rfl ?_
  refine ev_iload_1 (pc := 84) dX0_init_84 ?_
  refine ev_aload_0 (pc := 85) dX0_init_85 ?_
  refine ev_getqr (pc := 86) (r := 1) (i := 0) (ci := 0) (j := 8) (r2 := 25) (i2 := 0) fl_X0_30 rfl rfl dX0_init_86 (by rw [n18]; exact Nat.le_of_ble_eq_true rfl) f18.2.1 ?_
  refine ev_alen (pc := 89) (r := 25) (i := 0) (t := 5) (y := 4) rfl (by decide) dX0_init_89 (fun _ => (by rw [n18]; exact Nat.le_of_ble_eq_true rfl)) (fun h => absurd h (by decide)) ?_
  refine ev_icc_ge (pc := 90) (tgt := 112) dX0_init_90 (by decide) (fun z => absurd (show (0 : Int32) < 4 by decide) z) (fun _ => ?_)
  refine ev_aload_0 (pc := 93) dX0_init_93 ?_
  refine ev_getqr (pc := 94) (r := 1) (i := 0) (ci := 0) (j := 8) (r2 := 25) (i2 := 0) fl_X0_30 rfl rfl dX0_init_94 (by rw [n18]; exact Nat.le_of_ble_eq_true rfl) f18.2.1 ?_
  refine ev_iload_1 (pc := 97) dX0_init_97 ?_
  refine ev_new (pc := 98) (r := 4) (i := 0) (ci := 1) rfl (by decide) (by rw [n18]; rfl) wk_X0_28 wn_X1 wi_X1 dX0_init_98 ⟨Nat.le_of_ble_eq_true rfl, Nat.le_of_ble_eq_true rfl⟩ ?_
  generalize h19 : ev_mk M18 4 0 = M19
  have n19 : M19.2.2.2 = 13 := by
    rw [← h19]
    show M18.2.2.2 + 1 = 13
    rw [n18]
  have f19 : FB_ 0 M19 := by
    rw [← h19]
    exact f18
  refine ev_dup_r (pc := 101) dX0_init_101 ?_
  refine ev_ctCN (pc := 102) (host := "HelmHand") (b' := B_X1_init) (List.mem_of_getElem? (i := 2) rfl) mi_X1_init rfl dX0_init_102 ⟨⟨Nat.le_of_ble_eq_true rfl, Nat.le_of_ble_eq_true rfl⟩, Nat.le_of_ble_eq_true rfl, Nat.le_of_ble_eq_true rfl⟩ (Nat.le_of_ble_eq_true rfl) (c_X1_init (M := M19) (i := 0) (by decide) (by rw [n19]; exact Nat.le_of_ble_eq_true rfl) (by rw [n19]; rfl) (by rw [n19]; rfl)) ?_
  generalize h20 : mk_X1 0 M19 = M20
  have n20 : M20.2.2.2 = 15 := by
    rw [← h20]
    show M19.2.2.2 + 1 + 1 = 15
    rw [n19]
  have f20 : FB_ 0 M20 := by
    rw [← h20]
    exact f19
  refine ev_aast (pc := 105) (r := 25) (i := 0) (t := 5) (r2 := 4) (i2 := 0) (ci := 1) (x := 0) rfl rfl rfl (by decide) (by decide) (by decide) dX0_init_105 (by rw [n20]; exact Nat.le_of_ble_eq_true rfl) (by rw [n20]; exact Nat.le_of_ble_eq_true rfl) ?_
  generalize h21 : ev_pq M20 25 0 (0 : Int32).toNatClampNeg (some (4, 0)) = M21
  have n21 : M21.2.2.2 = 15 := by
    rw [← h21]
    show M20.2.2.2 = 15
    rw [n20]
  have f21 : FB_ 0 M21 := by
    rw [← h21]
    exact f20
  refine ev_iinc_1 (pc := 106) (y := 1) dX0_init_106 rfl (by decide) rfl ?_
  refine ev_goto (pc := 109) (tgt := 84) dX0_init_109 (by decide) ?_
  refine ev_iload_1 (pc := 84) dX0_init_84 ?_
  refine ev_aload_0 (pc := 85) dX0_init_85 ?_
  refine ev_getqr (pc := 86) (r := 1) (i := 0) (ci := 0) (j := 8) (r2 := 25) (i2 := 0) fl_X0_30 rfl rfl dX0_init_86 (by rw [n21]; exact Nat.le_of_ble_eq_true rfl) f21.2.1 ?_
  refine ev_alen (pc := 89) (r := 25) (i := 0) (t := 5) (y := 4) rfl (by decide) dX0_init_89 (fun _ => (by rw [n21]; exact Nat.le_of_ble_eq_true rfl)) (fun h => absurd h (by decide)) ?_
  refine ev_icc_ge (pc := 90) (tgt := 112) dX0_init_90 (by decide) (fun z => absurd (show (1 : Int32) < 4 by decide) z) (fun _ => ?_)
  refine ev_aload_0 (pc := 93) dX0_init_93 ?_
  refine ev_getqr (pc := 94) (r := 1) (i := 0) (ci := 0) (j := 8) (r2 := 25) (i2 := 0) fl_X0_30 rfl rfl dX0_init_94 (by rw [n21]; exact Nat.le_of_ble_eq_true rfl) f21.2.1 ?_
  refine ev_iload_1 (pc := 97) dX0_init_97 ?_
  refine ev_new (pc := 98) (r := 4) (i := 1) (ci := 1) rfl (by decide) (by rw [n21]; rfl) wk_X0_28 wn_X1 wi_X1 dX0_init_98 ⟨Nat.le_of_ble_eq_true rfl, Nat.le_of_ble_eq_true rfl⟩ ?_
  generalize h22 : ev_mk M21 4 1 = M22
  have n22 : M22.2.2.2 = 16 := by
    rw [← h22]
    show M21.2.2.2 + 1 = 16
    rw [n21]
  have f22 : FB_ 0 M22 := by
    rw [← h22]
    exact f21
  refine ev_dup_r (pc := 101) dX0_init_101 ?_
  refine ev_ctCN (pc := 102) (host := "HelmHand") (b' := B_X1_init) (List.mem_of_getElem? (i := 2) rfl) mi_X1_init rfl dX0_init_102 ⟨⟨Nat.le_of_ble_eq_true rfl, Nat.le_of_ble_eq_true rfl⟩, Nat.le_of_ble_eq_true rfl, Nat.le_of_ble_eq_true rfl⟩ (Nat.le_of_ble_eq_true rfl) (c_X1_init (M := M22) (i := 1) (by decide) (by rw [n22]; exact Nat.le_of_ble_eq_true rfl) (by rw [n22]; rfl) (by rw [n22]; rfl)) ?_
  generalize h23 : mk_X1 1 M22 = M23
  have n23 : M23.2.2.2 = 18 := by
    rw [← h23]
    show M22.2.2.2 + 1 + 1 = 18
    rw [n22]
  have f23 : FB_ 0 M23 := by
    rw [← h23]
    exact f22
  refine ev_aast (pc := 105) (r := 25) (i := 0) (t := 5) (r2 := 4) (i2 := 1) (ci := 1) (x := 1) rfl rfl rfl (by decide) (by decide) (by decide) dX0_init_105 (by rw [n23]; exact Nat.le_of_ble_eq_true rfl) (by rw [n23]; exact Nat.le_of_ble_eq_true rfl) ?_
  generalize h24 : ev_pq M23 25 0 (1 : Int32).toNatClampNeg (some (4, 1)) = M24
  have n24 : M24.2.2.2 = 18 := by
    rw [← h24]
    show M23.2.2.2 = 18
    rw [n23]
  have f24 : FB_ 0 M24 := by
    rw [← h24]
    exact f23
  refine ev_iinc_1 (pc := 106) (y := 2) dX0_init_106 rfl (by decide) rfl ?_
  refine ev_goto (pc := 109) (tgt := 84) dX0_init_109 (by decide) ?_
  refine ev_iload_1 (pc := 84) dX0_init_84 ?_
  refine ev_aload_0 (pc := 85) dX0_init_85 ?_
  refine ev_getqr (pc := 86) (r := 1) (i := 0) (ci := 0) (j := 8) (r2 := 25) (i2 := 0) fl_X0_30 rfl rfl dX0_init_86 (by rw [n24]; exact Nat.le_of_ble_eq_true rfl) f24.2.1 ?_
  refine ev_alen (pc := 89) (r := 25) (i := 0) (t := 5) (y := 4) rfl (by decide) dX0_init_89 (fun _ => (by rw [n24]; exact Nat.le_of_ble_eq_true rfl)) (fun h => absurd h (by decide)) ?_
  refine ev_icc_ge (pc := 90) (tgt := 112) dX0_init_90 (by decide) (fun z => absurd (show (2 : Int32) < 4 by decide) z) (fun _ => ?_)
  refine ev_aload_0 (pc := 93) dX0_init_93 ?_
  refine ev_getqr (pc := 94) (r := 1) (i := 0) (ci := 0) (j := 8) (r2 := 25) (i2 := 0) fl_X0_30 rfl rfl dX0_init_94 (by rw [n24]; exact Nat.le_of_ble_eq_true rfl) f24.2.1 ?_
  refine ev_iload_1 (pc := 97) dX0_init_97 ?_
  refine ev_new (pc := 98) (r := 4) (i := 2) (ci := 1) rfl (by decide) (by rw [n24]; rfl) wk_X0_28 wn_X1 wi_X1 dX0_init_98 ⟨Nat.le_of_ble_eq_true rfl, Nat.le_of_ble_eq_true rfl⟩ ?_
  generalize h25 : ev_mk M24 4 2 = M25
  have n25 : M25.2.2.2 = 19 := by
    rw [← h25]
    show M24.2.2.2 + 1 = 19
    rw [n24]
  have f25 : FB_ 0 M25 := by
    rw [← h25]
    exact f24
  refine ev_dup_r (pc := 101) dX0_init_101 ?_
  refine ev_ctCN (pc := 102) (host := "HelmHand") (b' := B_X1_init) (List.mem_of_getElem? (i := 2) rfl) mi_X1_init rfl dX0_init_102 ⟨⟨Nat.le_of_ble_eq_true rfl, Nat.le_of_ble_eq_true rfl⟩, Nat.le_of_ble_eq_true rfl, Nat.le_of_ble_eq_true rfl⟩ (Nat.le_of_ble_eq_true rfl) (c_X1_init (M := M25) (i := 2) (by decide) (by rw [n25]; exact Nat.le_of_ble_eq_true rfl) (by rw [n25]; rfl) (by rw [n25]; rfl)) ?_
  generalize h26 : mk_X1 2 M25 = M26
  have n26 : M26.2.2.2 = 21 := by
    rw [← h26]
    show M25.2.2.2 + 1 + 1 = 21
    rw [n25]
  have f26 : FB_ 0 M26 := by
    rw [← h26]
    exact f25
  refine ev_aast (pc := 105) (r := 25) (i := 0) (t := 5) (r2 := 4) (i2 := 2) (ci := 1) (x := 2) rfl rfl rfl (by decide) (by decide) (by decide) dX0_init_105 (by rw [n26]; exact Nat.le_of_ble_eq_true rfl) (by rw [n26]; exact Nat.le_of_ble_eq_true rfl) ?_
  generalize h27 : ev_pq M26 25 0 (2 : Int32).toNatClampNeg (some (4, 2)) = M27
  have n27 : M27.2.2.2 = 21 := by
    rw [← h27]
    show M26.2.2.2 = 21
    rw [n26]
  have f27 : FB_ 0 M27 := by
    rw [← h27]
    exact f26
  refine ev_iinc_1 (pc := 106) (y := 3) dX0_init_106 rfl (by decide) rfl ?_
  refine ev_goto (pc := 109) (tgt := 84) dX0_init_109 (by decide) ?_
  refine ev_iload_1 (pc := 84) dX0_init_84 ?_
  refine ev_aload_0 (pc := 85) dX0_init_85 ?_
  refine ev_getqr (pc := 86) (r := 1) (i := 0) (ci := 0) (j := 8) (r2 := 25) (i2 := 0) fl_X0_30 rfl rfl dX0_init_86 (by rw [n27]; exact Nat.le_of_ble_eq_true rfl) f27.2.1 ?_
  refine ev_alen (pc := 89) (r := 25) (i := 0) (t := 5) (y := 4) rfl (by decide) dX0_init_89 (fun _ => (by rw [n27]; exact Nat.le_of_ble_eq_true rfl)) (fun h => absurd h (by decide)) ?_
  refine ev_icc_ge (pc := 90) (tgt := 112) dX0_init_90 (by decide) (fun z => absurd (show (3 : Int32) < 4 by decide) z) (fun _ => ?_)
  refine ev_aload_0 (pc := 93) dX0_init_93 ?_
  refine ev_getqr (pc := 94) (r := 1) (i := 0) (ci := 0) (j := 8) (r2 := 25) (i2 := 0) fl_X0_30 rfl rfl dX0_init_94 (by rw [n27]; exact Nat.le_of_ble_eq_true rfl) f27.2.1 ?_
  refine ev_iload_1 (pc := 97) dX0_init_97 ?_
  refine ev_new (pc := 98) (r := 4) (i := 3) (ci := 1) rfl (by decide) (by rw [n27]; rfl) wk_X0_28 wn_X1 wi_X1 dX0_init_98 ⟨Nat.le_of_ble_eq_true rfl, Nat.le_of_ble_eq_true rfl⟩ ?_
  generalize h28 : ev_mk M27 4 3 = M28
  have n28 : M28.2.2.2 = 22 := by
    rw [← h28]
    show M27.2.2.2 + 1 = 22
    rw [n27]
  have f28 : FB_ 0 M28 := by
    rw [← h28]
    exact f27
  refine ev_dup_r (pc := 101) dX0_init_101 ?_
  refine ev_ctCN (pc := 102) (host := "HelmHand") (b' := B_X1_init) (List.mem_of_getElem? (i := 2) rfl) mi_X1_init rfl dX0_init_102 ⟨⟨Nat.le_of_ble_eq_true rfl, Nat.le_of_ble_eq_true rfl⟩, Nat.le_of_ble_eq_true rfl, Nat.le_of_ble_eq_true rfl⟩ (Nat.le_of_ble_eq_true rfl) (c_X1_init (M := M28) (i := 3) (by decide) (by rw [n28]; exact Nat.le_of_ble_eq_true rfl) (by rw [n28]; rfl) (by rw [n28]; rfl)) ?_
  generalize h29 : mk_X1 3 M28 = M29
  have n29 : M29.2.2.2 = 24 := by
    rw [← h29]
    show M28.2.2.2 + 1 + 1 = 24
    rw [n28]
  have f29 : FB_ 0 M29 := by
    rw [← h29]
    exact f28
  refine ev_aast (pc := 105) (r := 25) (i := 0) (t := 5) (r2 := 4) (i2 := 3) (ci := 1) (x := 3) rfl rfl rfl (by decide) (by decide) (by decide) dX0_init_105 (by rw [n29]; exact Nat.le_of_ble_eq_true rfl) (by rw [n29]; exact Nat.le_of_ble_eq_true rfl) ?_
  generalize h30 : ev_pq M29 25 0 (3 : Int32).toNatClampNeg (some (4, 3)) = M30
  have n30 : M30.2.2.2 = 24 := by
    rw [← h30]
    show M29.2.2.2 = 24
    rw [n29]
  have f30 : FB_ 0 M30 := by
    rw [← h30]
    exact f29
  refine ev_iinc_1 (pc := 106) (y := 4) dX0_init_106 rfl (by decide) rfl ?_
  refine ev_goto (pc := 109) (tgt := 84) dX0_init_109 (by decide) ?_
  refine ev_iload_1 (pc := 84) dX0_init_84 ?_
  refine ev_aload_0 (pc := 85) dX0_init_85 ?_
  refine ev_getqr (pc := 86) (r := 1) (i := 0) (ci := 0) (j := 8) (r2 := 25) (i2 := 0) fl_X0_30 rfl rfl dX0_init_86 (by rw [n30]; exact Nat.le_of_ble_eq_true rfl) f30.2.1 ?_
  refine ev_alen (pc := 89) (r := 25) (i := 0) (t := 5) (y := 4) rfl (by decide) dX0_init_89 (fun _ => (by rw [n30]; exact Nat.le_of_ble_eq_true rfl)) (fun h => absurd h (by decide)) ?_
  refine ev_icc_ge (pc := 90) (tgt := 112) dX0_init_90 (by decide) (fun _ => ?_) (fun z => absurd z (by decide))
  refine ev_iconst (pc := 112) (v := 0) dX0_init_112 rfl ?_
  refine ev_istore_1 (pc := 113) dX0_init_113 (by decide) rfl ?_
  refine ev_iload_1 (pc := 114) dX0_init_114 ?_
  refine ev_aload_0 (pc := 115) dX0_init_115 ?_
  refine ev_getqr (pc := 116) (r := 1) (i := 0) (ci := 0) (j := 9) (r2 := 26) (i2 := 0) fl_X0_36 rfl rfl dX0_init_116 (by rw [n30]; exact Nat.le_of_ble_eq_true rfl) f30.2.2.1 ?_
  refine ev_alen (pc := 119) (r := 26) (i := 0) (t := 6) (y := 2) rfl (by decide) dX0_init_119 (fun _ => (by rw [n30]; exact Nat.le_of_ble_eq_true rfl)) (fun h => absurd h (by decide)) ?_
  refine ev_icc_ge (pc := 120) (tgt := 142) dX0_init_120 (by decide) (fun z => absurd (show (0 : Int32) < 2 by decide) z) (fun _ => ?_)
  refine ev_aload_0 (pc := 123) dX0_init_123 ?_
  refine ev_getqr (pc := 124) (r := 1) (i := 0) (ci := 0) (j := 9) (r2 := 26) (i2 := 0) fl_X0_36 rfl rfl dX0_init_124 (by rw [n30]; exact Nat.le_of_ble_eq_true rfl) f30.2.2.1 ?_
  refine ev_iload_1 (pc := 127) dX0_init_127 ?_
  refine ev_new (pc := 128) (r := 5) (i := 0) (ci := 3) rfl (by decide) (by rw [n30]; rfl) wk_X0_34 wn_X3 wi_X3 dX0_init_128 ⟨Nat.le_of_ble_eq_true rfl, Nat.le_of_ble_eq_true rfl⟩ ?_
  generalize h31 : ev_mk M30 5 0 = M31
  have n31 : M31.2.2.2 = 25 := by
    rw [← h31]
    show M30.2.2.2 + 1 = 25
    rw [n30]
  have f31 : FB_ 0 M31 := by
    rw [← h31]
    exact f30
  refine ev_dup_r (pc := 131) dX0_init_131 ?_
  refine ev_ctCN (pc := 132) (host := "HelmHand") (b' := B_X3_init) (List.mem_of_getElem? (i := 3) rfl) mi_X3_init rfl dX0_init_132 ⟨⟨Nat.le_of_ble_eq_true rfl, Nat.le_of_ble_eq_true rfl⟩, Nat.le_of_ble_eq_true rfl, Nat.le_of_ble_eq_true rfl⟩ (Nat.le_of_ble_eq_true rfl) (c_X3_init (M := M31) (i := 0) (by decide) (by rw [n31]; exact Nat.le_of_ble_eq_true rfl) (by rw [n31]; rfl)) ?_
  generalize h32 : mk_X3 0 M31 = M32
  have n32 : M32.2.2.2 = 26 := by
    rw [← h32]
    show M31.2.2.2 + 1 = 26
    rw [n31]
  have f32 : FB_ 0 M32 := by
    rw [← h32]
    exact f31
  refine ev_aast (pc := 135) (r := 26) (i := 0) (t := 6) (r2 := 5) (i2 := 0) (ci := 3) (x := 0) rfl rfl rfl (by decide) (by decide) (by decide) dX0_init_135 (by rw [n32]; exact Nat.le_of_ble_eq_true rfl) (by rw [n32]; exact Nat.le_of_ble_eq_true rfl) ?_
  generalize h33 : ev_pq M32 26 0 (0 : Int32).toNatClampNeg (some (5, 0)) = M33
  have n33 : M33.2.2.2 = 26 := by
    rw [← h33]
    show M32.2.2.2 = 26
    rw [n32]
  have f33 : FB_ 0 M33 := by
    rw [← h33]
    exact f32
  refine ev_iinc_1 (pc := 136) (y := 1) dX0_init_136 rfl (by decide) rfl ?_
  refine ev_goto (pc := 139) (tgt := 114) dX0_init_139 (by decide) ?_
  refine ev_iload_1 (pc := 114) dX0_init_114 ?_
  refine ev_aload_0 (pc := 115) dX0_init_115 ?_
  refine ev_getqr (pc := 116) (r := 1) (i := 0) (ci := 0) (j := 9) (r2 := 26) (i2 := 0) fl_X0_36 rfl rfl dX0_init_116 (by rw [n33]; exact Nat.le_of_ble_eq_true rfl) f33.2.2.1 ?_
  refine ev_alen (pc := 119) (r := 26) (i := 0) (t := 6) (y := 2) rfl (by decide) dX0_init_119 (fun _ => (by rw [n33]; exact Nat.le_of_ble_eq_true rfl)) (fun h => absurd h (by decide)) ?_
  refine ev_icc_ge (pc := 120) (tgt := 142) dX0_init_120 (by decide) (fun z => absurd (show (1 : Int32) < 2 by decide) z) (fun _ => ?_)
  refine ev_aload_0 (pc := 123) dX0_init_123 ?_
  refine ev_getqr (pc := 124) (r := 1) (i := 0) (ci := 0) (j := 9) (r2 := 26) (i2 := 0) fl_X0_36 rfl rfl dX0_init_124 (by rw [n33]; exact Nat.le_of_ble_eq_true rfl) f33.2.2.1 ?_
  refine ev_iload_1 (pc := 127) dX0_init_127 ?_
  refine ev_new (pc := 128) (r := 5) (i := 1) (ci := 3) rfl (by decide) (by rw [n33]; rfl) wk_X0_34 wn_X3 wi_X3 dX0_init_128 ⟨Nat.le_of_ble_eq_true rfl, Nat.le_of_ble_eq_true rfl⟩ ?_
  generalize h34 : ev_mk M33 5 1 = M34
  have n34 : M34.2.2.2 = 27 := by
    rw [← h34]
    show M33.2.2.2 + 1 = 27
    rw [n33]
  have f34 : FB_ 0 M34 := by
    rw [← h34]
    exact f33
  refine ev_dup_r (pc := 131) dX0_init_131 ?_
  refine ev_ctCN (pc := 132) (host := "HelmHand") (b' := B_X3_init) (List.mem_of_getElem? (i := 3) rfl) mi_X3_init rfl dX0_init_132 ⟨⟨Nat.le_of_ble_eq_true rfl, Nat.le_of_ble_eq_true rfl⟩, Nat.le_of_ble_eq_true rfl, Nat.le_of_ble_eq_true rfl⟩ (Nat.le_of_ble_eq_true rfl) (c_X3_init (M := M34) (i := 1) (by decide) (by rw [n34]; exact Nat.le_of_ble_eq_true rfl) (by rw [n34]; rfl)) ?_
  generalize h35 : mk_X3 1 M34 = M35
  have n35 : M35.2.2.2 = 28 := by
    rw [← h35]
    show M34.2.2.2 + 1 = 28
    rw [n34]
  have f35 : FB_ 0 M35 := by
    rw [← h35]
    exact f34
  refine ev_aast (pc := 135) (r := 26) (i := 0) (t := 6) (r2 := 5) (i2 := 1) (ci := 3) (x := 1) rfl rfl rfl (by decide) (by decide) (by decide) dX0_init_135 (by rw [n35]; exact Nat.le_of_ble_eq_true rfl) (by rw [n35]; exact Nat.le_of_ble_eq_true rfl) ?_
  generalize h36 : ev_pq M35 26 0 (1 : Int32).toNatClampNeg (some (5, 1)) = M36
  have n36 : M36.2.2.2 = 28 := by
    rw [← h36]
    show M35.2.2.2 = 28
    rw [n35]
  have f36 : FB_ 0 M36 := by
    rw [← h36]
    exact f35
  refine ev_iinc_1 (pc := 136) (y := 2) dX0_init_136 rfl (by decide) rfl ?_
  refine ev_goto (pc := 139) (tgt := 114) dX0_init_139 (by decide) ?_
  refine ev_iload_1 (pc := 114) dX0_init_114 ?_
  refine ev_aload_0 (pc := 115) dX0_init_115 ?_
  refine ev_getqr (pc := 116) (r := 1) (i := 0) (ci := 0) (j := 9) (r2 := 26) (i2 := 0) fl_X0_36 rfl rfl dX0_init_116 (by rw [n36]; exact Nat.le_of_ble_eq_true rfl) f36.2.2.1 ?_
  refine ev_alen (pc := 119) (r := 26) (i := 0) (t := 6) (y := 2) rfl (by decide) dX0_init_119 (fun _ => (by rw [n36]; exact Nat.le_of_ble_eq_true rfl)) (fun h => absurd h (by decide)) ?_
  refine ev_icc_ge (pc := 120) (tgt := 142) dX0_init_120 (by decide) (fun _ => ?_) (fun z => absurd z (by decide))
  refine ev_iconst (pc := 142) (v := 0) dX0_init_142 rfl ?_
  refine ev_istore_1 (pc := 143) dX0_init_143 (by decide) rfl ?_
  refine ev_iload_1 (pc := 144) dX0_init_144 ?_
  refine ev_aload_0 (pc := 145) dX0_init_145 ?_
  refine ev_getqr (pc := 146) (r := 1) (i := 0) (ci := 0) (j := 10) (r2 := 27) (i2 := 0) fl_X0_42 rfl rfl dX0_init_146 (by rw [n36]; exact Nat.le_of_ble_eq_true rfl) f36.2.2.2 ?_
  refine ev_alen (pc := 149) (r := 27) (i := 0) (t := 7) (y := 2) rfl (by decide) dX0_init_149 (fun _ => (by rw [n36]; exact Nat.le_of_ble_eq_true rfl)) (fun h => absurd h (by decide)) ?_
  refine ev_icc_ge (pc := 150) (tgt := 172) dX0_init_150 (by decide) (fun z => absurd (show (0 : Int32) < 2 by decide) z) (fun _ => ?_)
  refine ev_aload_0 (pc := 153) dX0_init_153 ?_
  refine ev_getqr (pc := 154) (r := 1) (i := 0) (ci := 0) (j := 10) (r2 := 27) (i2 := 0) fl_X0_42 rfl rfl dX0_init_154 (by rw [n36]; exact Nat.le_of_ble_eq_true rfl) f36.2.2.2 ?_
  refine ev_iload_1 (pc := 157) dX0_init_157 ?_
  refine ev_new (pc := 158) (r := 6) (i := 0) (ci := 7) rfl (by decide) (by rw [n36]; rfl) wk_X0_40 wn_X7 wi_X7 dX0_init_158 ⟨Nat.le_of_ble_eq_true rfl, Nat.le_of_ble_eq_true rfl⟩ ?_
  generalize h37 : ev_mk M36 6 0 = M37
  have n37 : M37.2.2.2 = 29 := by
    rw [← h37]
    show M36.2.2.2 + 1 = 29
    rw [n36]
  have f37 : FB_ 0 M37 := by
    rw [← h37]
    exact f36
  refine ev_dup_r (pc := 161) dX0_init_161 ?_
  refine ev_ctCN (pc := 162) (host := "HelmHand") (b' := B_X7_init) (List.mem_of_getElem? (i := 4) rfl) mi_X7_init rfl dX0_init_162 ⟨⟨Nat.le_of_ble_eq_true rfl, Nat.le_of_ble_eq_true rfl⟩, Nat.le_of_ble_eq_true rfl, Nat.le_of_ble_eq_true rfl⟩ (Nat.le_of_ble_eq_true rfl) (c_X7_init (M := M37) (i := 0) (by decide) (by rw [n37]; exact Nat.le_of_ble_eq_true rfl) (by rw [n37]; rfl) (by rw [n37]; rfl)) ?_
  generalize h38 : mk_X7 0 M37 = M38
  have n38 : M38.2.2.2 = 31 := by
    rw [← h38]
    show M37.2.2.2 + 1 + 1 = 31
    rw [n37]
  have f38 : FB_ 0 M38 := by
    rw [← h38]
    exact f37
  refine ev_aast (pc := 165) (r := 27) (i := 0) (t := 7) (r2 := 6) (i2 := 0) (ci := 7) (x := 0) rfl rfl rfl (by decide) (by decide) (by decide) dX0_init_165 (by rw [n38]; exact Nat.le_of_ble_eq_true rfl) (by rw [n38]; exact Nat.le_of_ble_eq_true rfl) ?_
  generalize h39 : ev_pq M38 27 0 (0 : Int32).toNatClampNeg (some (6, 0)) = M39
  have n39 : M39.2.2.2 = 31 := by
    rw [← h39]
    show M38.2.2.2 = 31
    rw [n38]
  have f39 : FB_ 0 M39 := by
    rw [← h39]
    exact f38
  refine ev_iinc_1 (pc := 166) (y := 1) dX0_init_166 rfl (by decide) rfl ?_
  refine ev_goto (pc := 169) (tgt := 144) dX0_init_169 (by decide) ?_
  refine ev_iload_1 (pc := 144) dX0_init_144 ?_
  refine ev_aload_0 (pc := 145) dX0_init_145 ?_
  refine ev_getqr (pc := 146) (r := 1) (i := 0) (ci := 0) (j := 10) (r2 := 27) (i2 := 0) fl_X0_42 rfl rfl dX0_init_146 (by rw [n39]; exact Nat.le_of_ble_eq_true rfl) f39.2.2.2 ?_
  refine ev_alen (pc := 149) (r := 27) (i := 0) (t := 7) (y := 2) rfl (by decide) dX0_init_149 (fun _ => (by rw [n39]; exact Nat.le_of_ble_eq_true rfl)) (fun h => absurd h (by decide)) ?_
  refine ev_icc_ge (pc := 150) (tgt := 172) dX0_init_150 (by decide) (fun z => absurd (show (1 : Int32) < 2 by decide) z) (fun _ => ?_)
  refine ev_aload_0 (pc := 153) dX0_init_153 ?_
  refine ev_getqr (pc := 154) (r := 1) (i := 0) (ci := 0) (j := 10) (r2 := 27) (i2 := 0) fl_X0_42 rfl rfl dX0_init_154 (by rw [n39]; exact Nat.le_of_ble_eq_true rfl) f39.2.2.2 ?_
  refine ev_iload_1 (pc := 157) dX0_init_157 ?_
  refine ev_new (pc := 158) (r := 6) (i := 1) (ci := 7) rfl (by decide) (by rw [n39]; rfl) wk_X0_40 wn_X7 wi_X7 dX0_init_158 ⟨Nat.le_of_ble_eq_true rfl, Nat.le_of_ble_eq_true rfl⟩ ?_
  generalize h40 : ev_mk M39 6 1 = M40
  have n40 : M40.2.2.2 = 32 := by
    rw [← h40]
    show M39.2.2.2 + 1 = 32
    rw [n39]
  have f40 : FB_ 0 M40 := by
    rw [← h40]
    exact f39
  refine ev_dup_r (pc := 161) dX0_init_161 ?_
  refine ev_ctCN (pc := 162) (host := "HelmHand") (b' := B_X7_init) (List.mem_of_getElem? (i := 4) rfl) mi_X7_init rfl dX0_init_162 ⟨⟨Nat.le_of_ble_eq_true rfl, Nat.le_of_ble_eq_true rfl⟩, Nat.le_of_ble_eq_true rfl, Nat.le_of_ble_eq_true rfl⟩ (Nat.le_of_ble_eq_true rfl) (c_X7_init (M := M40) (i := 1) (by decide) (by rw [n40]; exact Nat.le_of_ble_eq_true rfl) (by rw [n40]; rfl) (by rw [n40]; rfl)) ?_
  generalize h41 : mk_X7 1 M40 = M41
  have n41 : M41.2.2.2 = 34 := by
    rw [← h41]
    show M40.2.2.2 + 1 + 1 = 34
    rw [n40]
  have f41 : FB_ 0 M41 := by
    rw [← h41]
    exact f40
  refine ev_aast (pc := 165) (r := 27) (i := 0) (t := 7) (r2 := 6) (i2 := 1) (ci := 7) (x := 1) rfl rfl rfl (by decide) (by decide) (by decide) dX0_init_165 (by rw [n41]; exact Nat.le_of_ble_eq_true rfl) (by rw [n41]; exact Nat.le_of_ble_eq_true rfl) ?_
  generalize h42 : ev_pq M41 27 0 (1 : Int32).toNatClampNeg (some (6, 1)) = M42
  have n42 : M42.2.2.2 = 34 := by
    rw [← h42]
    show M41.2.2.2 = 34
    rw [n41]
  have f42 : FB_ 0 M42 := by
    rw [← h42]
    exact f41
  refine ev_iinc_1 (pc := 166) (y := 2) dX0_init_166 rfl (by decide) rfl ?_
  refine ev_goto (pc := 169) (tgt := 144) dX0_init_169 (by decide) ?_
  refine ev_iload_1 (pc := 144) dX0_init_144 ?_
  refine ev_aload_0 (pc := 145) dX0_init_145 ?_
  refine ev_getqr (pc := 146) (r := 1) (i := 0) (ci := 0) (j := 10) (r2 := 27) (i2 := 0) fl_X0_42 rfl rfl dX0_init_146 (by rw [n42]; exact Nat.le_of_ble_eq_true rfl) f42.2.2.2 ?_
  refine ev_alen (pc := 149) (r := 27) (i := 0) (t := 7) (y := 2) rfl (by decide) dX0_init_149 (fun _ => (by rw [n42]; exact Nat.le_of_ble_eq_true rfl)) (fun h => absurd h (by decide)) ?_
  refine ev_icc_ge (pc := 150) (tgt := 172) dX0_init_150 (by decide) (fun _ => ?_) (fun z => absurd z (by decide))
  refine ev_vret (pc := 172) dX0_init_172 rfl ⟨rfl, ?_⟩
  rw [← h42, ← h41, ← h40, ← h39, ← h38, ← h37, ← h36, ← h35, ← h34, ← h33, ← h32, ← h31, ← h30, ← h29, ← h28, ← h27, ← h26, ← h25, ← h24, ← h23, ← h22, ← h21, ← h20, ← h19, ← h18, ← h17, ← h16, ← h15, ← h14, ← h13, ← h12, ← h11, ← h10, ← h9, ← h8, ← h7, ← h6, ← h5, ← h4, ← h3, ← h2, ← h1]
  rfl
def mk_X0_1 (M : ev_M) : ev_M := (ev_pq (mk_X7 3 (ev_mk (ev_pq (mk_X7 2 (ev_mk (ev_pq (mk_X3 3 (ev_mk (ev_pq (mk_X3 2 (ev_mk (ev_pq (mk_X1 7 (ev_mk (ev_pq (mk_X1 6 (ev_mk (ev_pq (mk_X1 5 (ev_mk (ev_pq (mk_X1 4 (ev_mk (ev_pq (mk_X5 3 (ev_mk (ev_pq (mk_X5 2 (ev_mk (ev_pq (ev_mk (ev_pq (ev_mk (ev_pq (ev_mk (ev_pq (ev_mk (ev_pi (ev_pq (mk_X6 1 (ev_mk M 2 1)) 1 1 0 (some (2, 1))) 1 1 2 (-1)) 24 1) 1 1 7 (some (24, 1))) 25 1) 1 1 8 (some (25, 1))) 26 1) 1 1 9 (some (26, 1))) 27 1) 1 1 10 (some (27, 1))) 3 2)) 24 1 0 (some (3, 2))) 3 3)) 24 1 1 (some (3, 3))) 4 4)) 25 1 0 (some (4, 4))) 4 5)) 25 1 1 (some (4, 5))) 4 6)) 25 1 2 (some (4, 6))) 4 7)) 25 1 3 (some (4, 7))) 5 2)) 26 1 0 (some (5, 2))) 5 3)) 26 1 1 (some (5, 3))) 6 2)) 27 1 0 (some (6, 2))) 6 3)) 27 1 1 (some (6, 3)))
set_option maxRecDepth 20000 in
set_option maxHeartbeats 4000000 in
theorem c_X0_init_1 {G : ev_G} {M : ev_M} (n0 : M.2.2.2 = 62) : ev_CI G K_X0_init B_X0_init 1 1 M (mk_X0_1 M) := by
  refine ev_Ct_of (L0 := [some (vr 1 1), none]) rfl rfl (Nat.le_of_ble_eq_true rfl) ?_
  refine ev_aload_0 (pc := 0) dX0_init_0 ?_
  refine ev_oini (pc := 1) wl_X0_3 wo_in wo_co ⟨Nat.le_of_ble_eq_true rfl, Nat.le_of_ble_eq_true rfl⟩ (Nat.le_of_ble_eq_true rfl) dX0_init_1 ?_
  refine ev_aload_0 (pc := 4) dX0_init_4 ?_
  refine ev_new (pc := 5) (r := 2) (i := 1) (ci := 6) rfl (by decide) (by rw [n0]; rfl) wk_X0_9 wn_X6 wi_X6 dX0_init_5 ⟨Nat.le_of_ble_eq_true rfl, Nat.le_of_ble_eq_true rfl⟩ ?_
  generalize h1 : ev_mk M 2 1 = M1
  have n1 : M1.2.2.2 = 63 := by
    rw [← h1]
    show M.2.2.2 + 1 = 63
    rw [n0]
  refine ev_dup_r (pc := 8) dX0_init_8 ?_
  refine ev_ctCN (pc := 9) (host := "HelmHand") (b' := B_X6_init) (List.mem_of_getElem? (i := 0) rfl) mi_X6_init rfl dX0_init_9 ⟨⟨Nat.le_of_ble_eq_true rfl, Nat.le_of_ble_eq_true rfl⟩, Nat.le_of_ble_eq_true rfl, Nat.le_of_ble_eq_true rfl⟩ (Nat.le_of_ble_eq_true rfl) (c_X6_init (M := M1) (i := 1) (by decide) (by rw [n1]; exact Nat.le_of_ble_eq_true rfl) (by rw [n1]; rfl)) ?_
  generalize h2 : mk_X6 1 M1 = M2
  have n2 : M2.2.2.2 = 64 := by
    rw [← h2]
    show M1.2.2.2 + 1 = 64
    rw [n1]
  refine ev_putq (pc := 12) (r := 1) (i := 1) (ci := 0) (j := 0) (o := some (2, 1)) fl_X0_12 rfl rfl (Or.inr ⟨rfl, rfl, rfl⟩) (Or.inl ⟨_, rfl⟩) dX0_init_12 (by rw [n2]; exact Nat.le_of_ble_eq_true rfl) ?_
  generalize h3 : ev_pq M2 1 1 0 (some (2, 1)) = M3
  have n3 : M3.2.2.2 = 64 := by
    rw [← h3]
    show M2.2.2.2 = 64
    rw [n2]
  refine ev_aload_0 (pc := 15) dX0_init_15 ?_
  refine ev_iconst (pc := 16) (v := (-1)) dX0_init_16 rfl ?_
  refine ev_puti (pc := 17) (r := 1) (i := 1) (ci := 0) (j := 2) (x := (-1)) fl_X0_18 rfl rfl rfl rfl rfl dX0_init_17 (by rw [n3]; exact Nat.le_of_ble_eq_true rfl) ?_
  generalize h4 : ev_pi M3 1 1 2 (-1) = M4
  have n4 : M4.2.2.2 = 64 := by
    rw [← h4]
    show M3.2.2.2 = 64
    rw [n3]
  refine ev_aload_0 (pc := 20) dX0_init_20 ?_
  refine ev_iconst (pc := 21) (v := 2) dX0_init_21 rfl ?_
  refine ev_newq (pc := 22) (r := 24) (i := 1) (t := 4) (C := "HelmHand$Ship") rfl (by decide) (by decide) (by decide) (by rw [n4]; rfl) (by decide) rfl (by decide) wk_X0_22 (by decide) (by decide) (Nat.le_of_ble_eq_true rfl) dX0_init_22 ⟨Nat.le_of_ble_eq_true rfl, Nat.le_of_ble_eq_true rfl⟩ ?_
  generalize h5 : ev_mk M4 24 1 = M5
  have n5 : M5.2.2.2 = 65 := by
    rw [← h5]
    show M4.2.2.2 + 1 = 65
    rw [n4]
  refine ev_putq (pc := 25) (r := 1) (i := 1) (ci := 0) (j := 7) (o := some (24, 1)) fl_X0_24 rfl rfl (Or.inr ⟨rfl, rfl, rfl⟩) (Or.inr ⟨_, rfl⟩) dX0_init_25 (by rw [n5]; exact Nat.le_of_ble_eq_true rfl) ?_
  generalize h6 : ev_pq M5 1 1 7 (some (24, 1)) = M6
  have n6 : M6.2.2.2 = 65 := by
    rw [← h6]
    show M5.2.2.2 = 65
    rw [n5]
  refine ev_aload_0 (pc := 28) dX0_init_28 ?_
  refine ev_iconst (pc := 29) (v := 4) dX0_init_29 rfl ?_
  refine ev_newq (pc := 30) (r := 25) (i := 1) (t := 5) (C := "HelmHand$Hand") rfl (by decide) (by decide) (by decide) (by rw [n6]; rfl) (by decide) rfl (by decide) wk_X0_28 (by decide) (by decide) (Nat.le_of_ble_eq_true rfl) dX0_init_30 ⟨Nat.le_of_ble_eq_true rfl, Nat.le_of_ble_eq_true rfl⟩ ?_
  generalize h7 : ev_mk M6 25 1 = M7
  have n7 : M7.2.2.2 = 66 := by
    rw [← h7]
    show M6.2.2.2 + 1 = 66
    rw [n6]
  refine ev_putq (pc := 33) (r := 1) (i := 1) (ci := 0) (j := 8) (o := some (25, 1)) fl_X0_30 rfl rfl (Or.inr ⟨rfl, rfl, rfl⟩) (Or.inr ⟨_, rfl⟩) dX0_init_33 (by rw [n7]; exact Nat.le_of_ble_eq_true rfl) ?_
  generalize h8 : ev_pq M7 1 1 8 (some (25, 1)) = M8
  have n8 : M8.2.2.2 = 66 := by
    rw [← h8]
    show M7.2.2.2 = 66
    rw [n7]
  refine ev_aload_0 (pc := 36) dX0_init_36 ?_
  refine ev_iconst (pc := 37) (v := 2) dX0_init_37 rfl ?_
  refine ev_newq (pc := 38) (r := 26) (i := 1) (t := 6) (C := "HelmHand$Paper") rfl (by decide) (by decide) (by decide) (by rw [n8]; rfl) (by decide) rfl (by decide) wk_X0_34 (by decide) (by decide) (Nat.le_of_ble_eq_true rfl) dX0_init_38 ⟨Nat.le_of_ble_eq_true rfl, Nat.le_of_ble_eq_true rfl⟩ ?_
  generalize h9 : ev_mk M8 26 1 = M9
  have n9 : M9.2.2.2 = 67 := by
    rw [← h9]
    show M8.2.2.2 + 1 = 67
    rw [n8]
  refine ev_putq (pc := 41) (r := 1) (i := 1) (ci := 0) (j := 9) (o := some (26, 1)) fl_X0_36 rfl rfl (Or.inr ⟨rfl, rfl, rfl⟩) (Or.inr ⟨_, rfl⟩) dX0_init_41 (by rw [n9]; exact Nat.le_of_ble_eq_true rfl) ?_
  generalize h10 : ev_pq M9 1 1 9 (some (26, 1)) = M10
  have n10 : M10.2.2.2 = 67 := by
    rw [← h10]
    show M9.2.2.2 = 67
    rw [n9]
  refine ev_aload_0 (pc := 44) dX0_init_44 ?_
  refine ev_iconst (pc := 45) (v := 2) dX0_init_45 rfl ?_
  refine ev_newq (pc := 46) (r := 27) (i := 1) (t := 7) (C := "HelmHand$Watch") rfl (by decide) (by decide) (by decide) (by rw [n10]; rfl) (by decide) rfl (by decide) wk_X0_40 (by decide) (by decide) (Nat.le_of_ble_eq_true rfl) dX0_init_46 ⟨Nat.le_of_ble_eq_true rfl, Nat.le_of_ble_eq_true rfl⟩ ?_
  generalize h11 : ev_mk M10 27 1 = M11
  have n11 : M11.2.2.2 = 68 := by
    rw [← h11]
    show M10.2.2.2 + 1 = 68
    rw [n10]
  refine ev_putq (pc := 49) (r := 1) (i := 1) (ci := 0) (j := 10) (o := some (27, 1)) fl_X0_42 rfl rfl (Or.inr ⟨rfl, rfl, rfl⟩) (Or.inr ⟨_, rfl⟩) dX0_init_49 (by rw [n11]; exact Nat.le_of_ble_eq_true rfl) ?_
  generalize h12 : ev_pq M11 1 1 10 (some (27, 1)) = M12
  have n12 : M12.2.2.2 = 68 := by
    rw [← h12]
    show M11.2.2.2 = 68
    rw [n11]
  have f12 : FB_ 1 M12 := by
    rw [← h12, ← h11, ← h10, ← h9, ← h8, ← h7, ← h6, ← h5, ← h4, ← h3, ← h2, ← h1]
    exact ⟨rfl, rfl, rfl, rfl⟩
  refine ev_iconst (pc := 52) (v := 0) dX0_init_52 rfl ?_
  refine ev_istore_1 (pc := 53) dX0_init_53 (by decide) rfl ?_
  refine ev_iload_1 (pc := 54) dX0_init_54 ?_
  refine ev_aload_0 (pc := 55) dX0_init_55 ?_
  refine ev_getqr (pc := 56) (r := 1) (i := 1) (ci := 0) (j := 7) (r2 := 24) (i2 := 1) fl_X0_24 rfl rfl dX0_init_56 (by rw [n12]; exact Nat.le_of_ble_eq_true rfl) f12.1 ?_
  refine ev_alen (pc := 59) (r := 24) (i := 1) (t := 4) (y := 2) rfl (by decide) dX0_init_59 (fun _ => (by rw [n12]; exact Nat.le_of_ble_eq_true rfl)) (fun h => absurd h (by decide)) ?_
  refine ev_icc_ge (pc := 60) (tgt := 82) dX0_init_60 (by decide) (fun z => absurd (show (0 : Int32) < 2 by decide) z) (fun _ => ?_)
  refine ev_aload_0 (pc := 63) dX0_init_63 ?_
  refine ev_getqr (pc := 64) (r := 1) (i := 1) (ci := 0) (j := 7) (r2 := 24) (i2 := 1) fl_X0_24 rfl rfl dX0_init_64 (by rw [n12]; exact Nat.le_of_ble_eq_true rfl) f12.1 ?_
  refine ev_iload_1 (pc := 67) dX0_init_67 ?_
  refine ev_new (pc := 68) (r := 3) (i := 2) (ci := 5) rfl (by decide) (by rw [n12]; rfl) wk_X0_22 wn_X5 wi_X5 dX0_init_68 ⟨Nat.le_of_ble_eq_true rfl, Nat.le_of_ble_eq_true rfl⟩ ?_
  generalize h13 : ev_mk M12 3 2 = M13
  have n13 : M13.2.2.2 = 69 := by
    rw [← h13]
    show M12.2.2.2 + 1 = 69
    rw [n12]
  have f13 : FB_ 1 M13 := by
    rw [← h13]
    exact f12
  refine ev_dup_r (pc := 71) dX0_init_71 ?_
  refine ev_ctCN (pc := 72) (host := "HelmHand") (b' := B_X5_init) (List.mem_of_getElem? (i := 1) rfl) mi_X5_init rfl dX0_init_72 ⟨⟨Nat.le_of_ble_eq_true rfl, Nat.le_of_ble_eq_true rfl⟩, Nat.le_of_ble_eq_true rfl, Nat.le_of_ble_eq_true rfl⟩ (Nat.le_of_ble_eq_true rfl) (c_X5_init (M := M13) (i := 2) (by decide) (by rw [n13]; exact Nat.le_of_ble_eq_true rfl) (by rw [n13]; rfl)) ?_
  generalize h14 : mk_X5 2 M13 = M14
  have n14 : M14.2.2.2 = 70 := by
    rw [← h14]
    show M13.2.2.2 + 1 = 70
    rw [n13]
  have f14 : FB_ 1 M14 := by
    rw [← h14]
    exact f13
  refine ev_aast (pc := 75) (r := 24) (i := 1) (t := 4) (r2 := 3) (i2 := 2) (ci := 5) (x := 0) rfl rfl rfl (by decide) (by decide) (by decide) dX0_init_75 (by rw [n14]; exact Nat.le_of_ble_eq_true rfl) (by rw [n14]; exact Nat.le_of_ble_eq_true rfl) ?_
  generalize h15 : ev_pq M14 24 1 (0 : Int32).toNatClampNeg (some (3, 2)) = M15
  have n15 : M15.2.2.2 = 70 := by
    rw [← h15]
    show M14.2.2.2 = 70
    rw [n14]
  have f15 : FB_ 1 M15 := by
    rw [← h15]
    exact f14
  refine ev_iinc_1 (pc := 76) (y := 1) dX0_init_76 rfl (by decide) rfl ?_
  refine ev_goto (pc := 79) (tgt := 54) dX0_init_79 (by decide) ?_
  refine ev_iload_1 (pc := 54) dX0_init_54 ?_
  refine ev_aload_0 (pc := 55) dX0_init_55 ?_
  refine ev_getqr (pc := 56) (r := 1) (i := 1) (ci := 0) (j := 7) (r2 := 24) (i2 := 1) fl_X0_24 rfl rfl dX0_init_56 (by rw [n15]; exact Nat.le_of_ble_eq_true rfl) f15.1 ?_
  refine ev_alen (pc := 59) (r := 24) (i := 1) (t := 4) (y := 2) rfl (by decide) dX0_init_59 (fun _ => (by rw [n15]; exact Nat.le_of_ble_eq_true rfl)) (fun h => absurd h (by decide)) ?_
  refine ev_icc_ge (pc := 60) (tgt := 82) dX0_init_60 (by decide) (fun z => absurd (show (1 : Int32) < 2 by decide) z) (fun _ => ?_)
  refine ev_aload_0 (pc := 63) dX0_init_63 ?_
  refine ev_getqr (pc := 64) (r := 1) (i := 1) (ci := 0) (j := 7) (r2 := 24) (i2 := 1) fl_X0_24 rfl rfl dX0_init_64 (by rw [n15]; exact Nat.le_of_ble_eq_true rfl) f15.1 ?_
  refine ev_iload_1 (pc := 67) dX0_init_67 ?_
  refine ev_new (pc := 68) (r := 3) (i := 3) (ci := 5) rfl (by decide) (by rw [n15]; rfl) wk_X0_22 wn_X5 wi_X5 dX0_init_68 ⟨Nat.le_of_ble_eq_true rfl, Nat.le_of_ble_eq_true rfl⟩ ?_
  generalize h16 : ev_mk M15 3 3 = M16
  have n16 : M16.2.2.2 = 71 := by
    rw [← h16]
    show M15.2.2.2 + 1 = 71
    rw [n15]
  have f16 : FB_ 1 M16 := by
    rw [← h16]
    exact f15
  refine ev_dup_r (pc := 71) dX0_init_71 ?_
  refine ev_ctCN (pc := 72) (host := "HelmHand") (b' := B_X5_init) (List.mem_of_getElem? (i := 1) rfl) mi_X5_init rfl dX0_init_72 ⟨⟨Nat.le_of_ble_eq_true rfl, Nat.le_of_ble_eq_true rfl⟩, Nat.le_of_ble_eq_true rfl, Nat.le_of_ble_eq_true rfl⟩ (Nat.le_of_ble_eq_true rfl) (c_X5_init (M := M16) (i := 3) (by decide) (by rw [n16]; exact Nat.le_of_ble_eq_true rfl) (by rw [n16]; rfl)) ?_
  generalize h17 : mk_X5 3 M16 = M17
  have n17 : M17.2.2.2 = 72 := by
    rw [← h17]
    show M16.2.2.2 + 1 = 72
    rw [n16]
  have f17 : FB_ 1 M17 := by
    rw [← h17]
    exact f16
  refine ev_aast (pc := 75) (r := 24) (i := 1) (t := 4) (r2 := 3) (i2 := 3) (ci := 5) (x := 1) rfl rfl rfl (by decide) (by decide) (by decide) dX0_init_75 (by rw [n17]; exact Nat.le_of_ble_eq_true rfl) (by rw [n17]; exact Nat.le_of_ble_eq_true rfl) ?_
  generalize h18 : ev_pq M17 24 1 (1 : Int32).toNatClampNeg (some (3, 3)) = M18
  have n18 : M18.2.2.2 = 72 := by
    rw [← h18]
    show M17.2.2.2 = 72
    rw [n17]
  have f18 : FB_ 1 M18 := by
    rw [← h18]
    exact f17
  refine ev_iinc_1 (pc := 76) (y := 2) dX0_init_76 rfl (by decide) rfl ?_
  refine ev_goto (pc := 79) (tgt := 54) dX0_init_79 (by decide) ?_
  refine ev_iload_1 (pc := 54) dX0_init_54 ?_
  refine ev_aload_0 (pc := 55) dX0_init_55 ?_
  refine ev_getqr (pc := 56) (r := 1) (i := 1) (ci := 0) (j := 7) (r2 := 24) (i2 := 1) fl_X0_24 rfl rfl dX0_init_56 (by rw [n18]; exact Nat.le_of_ble_eq_true rfl) f18.1 ?_
  refine ev_alen (pc := 59) (r := 24) (i := 1) (t := 4) (y := 2) rfl (by decide) dX0_init_59 (fun _ => (by rw [n18]; exact Nat.le_of_ble_eq_true rfl)) (fun h => absurd h (by decide)) ?_
  refine ev_icc_ge (pc := 60) (tgt := 82) dX0_init_60 (by decide) (fun _ => ?_) (fun z => absurd z (by decide))
  refine ev_iconst (pc := 82) (v := 0) dX0_init_82 rfl ?_
  refine ev_istore_1 (pc := 83) dX0_init_83 (by decide) rfl ?_
  refine ev_iload_1 (pc := 84) dX0_init_84 ?_
  refine ev_aload_0 (pc := 85) dX0_init_85 ?_
  refine ev_getqr (pc := 86) (r := 1) (i := 1) (ci := 0) (j := 8) (r2 := 25) (i2 := 1) fl_X0_30 rfl rfl dX0_init_86 (by rw [n18]; exact Nat.le_of_ble_eq_true rfl) f18.2.1 ?_
  refine ev_alen (pc := 89) (r := 25) (i := 1) (t := 5) (y := 4) rfl (by decide) dX0_init_89 (fun _ => (by rw [n18]; exact Nat.le_of_ble_eq_true rfl)) (fun h => absurd h (by decide)) ?_
  refine ev_icc_ge (pc := 90) (tgt := 112) dX0_init_90 (by decide) (fun z => absurd (show (0 : Int32) < 4 by decide) z) (fun _ => ?_)
  refine ev_aload_0 (pc := 93) dX0_init_93 ?_
  refine ev_getqr (pc := 94) (r := 1) (i := 1) (ci := 0) (j := 8) (r2 := 25) (i2 := 1) fl_X0_30 rfl rfl dX0_init_94 (by rw [n18]; exact Nat.le_of_ble_eq_true rfl) f18.2.1 ?_
  refine ev_iload_1 (pc := 97) dX0_init_97 ?_
  refine ev_new (pc := 98) (r := 4) (i := 4) (ci := 1) rfl (by decide) (by rw [n18]; rfl) wk_X0_28 wn_X1 wi_X1 dX0_init_98 ⟨Nat.le_of_ble_eq_true rfl, Nat.le_of_ble_eq_true rfl⟩ ?_
  generalize h19 : ev_mk M18 4 4 = M19
  have n19 : M19.2.2.2 = 73 := by
    rw [← h19]
    show M18.2.2.2 + 1 = 73
    rw [n18]
  have f19 : FB_ 1 M19 := by
    rw [← h19]
    exact f18
  refine ev_dup_r (pc := 101) dX0_init_101 ?_
  refine ev_ctCN (pc := 102) (host := "HelmHand") (b' := B_X1_init) (List.mem_of_getElem? (i := 2) rfl) mi_X1_init rfl dX0_init_102 ⟨⟨Nat.le_of_ble_eq_true rfl, Nat.le_of_ble_eq_true rfl⟩, Nat.le_of_ble_eq_true rfl, Nat.le_of_ble_eq_true rfl⟩ (Nat.le_of_ble_eq_true rfl) (c_X1_init (M := M19) (i := 4) (by decide) (by rw [n19]; exact Nat.le_of_ble_eq_true rfl) (by rw [n19]; rfl) (by rw [n19]; rfl)) ?_
  generalize h20 : mk_X1 4 M19 = M20
  have n20 : M20.2.2.2 = 75 := by
    rw [← h20]
    show M19.2.2.2 + 1 + 1 = 75
    rw [n19]
  have f20 : FB_ 1 M20 := by
    rw [← h20]
    exact f19
  refine ev_aast (pc := 105) (r := 25) (i := 1) (t := 5) (r2 := 4) (i2 := 4) (ci := 1) (x := 0) rfl rfl rfl (by decide) (by decide) (by decide) dX0_init_105 (by rw [n20]; exact Nat.le_of_ble_eq_true rfl) (by rw [n20]; exact Nat.le_of_ble_eq_true rfl) ?_
  generalize h21 : ev_pq M20 25 1 (0 : Int32).toNatClampNeg (some (4, 4)) = M21
  have n21 : M21.2.2.2 = 75 := by
    rw [← h21]
    show M20.2.2.2 = 75
    rw [n20]
  have f21 : FB_ 1 M21 := by
    rw [← h21]
    exact f20
  refine ev_iinc_1 (pc := 106) (y := 1) dX0_init_106 rfl (by decide) rfl ?_
  refine ev_goto (pc := 109) (tgt := 84) dX0_init_109 (by decide) ?_
  refine ev_iload_1 (pc := 84) dX0_init_84 ?_
  refine ev_aload_0 (pc := 85) dX0_init_85 ?_
  refine ev_getqr (pc := 86) (r := 1) (i := 1) (ci := 0) (j := 8) (r2 := 25) (i2 := 1) fl_X0_30 rfl rfl dX0_init_86 (by rw [n21]; exact Nat.le_of_ble_eq_true rfl) f21.2.1 ?_
  refine ev_alen (pc := 89) (r := 25) (i := 1) (t := 5) (y := 4) rfl (by decide) dX0_init_89 (fun _ => (by rw [n21]; exact Nat.le_of_ble_eq_true rfl)) (fun h => absurd h (by decide)) ?_
  refine ev_icc_ge (pc := 90) (tgt := 112) dX0_init_90 (by decide) (fun z => absurd (show (1 : Int32) < 4 by decide) z) (fun _ => ?_)
  refine ev_aload_0 (pc := 93) dX0_init_93 ?_
  refine ev_getqr (pc := 94) (r := 1) (i := 1) (ci := 0) (j := 8) (r2 := 25) (i2 := 1) fl_X0_30 rfl rfl dX0_init_94 (by rw [n21]; exact Nat.le_of_ble_eq_true rfl) f21.2.1 ?_
  refine ev_iload_1 (pc := 97) dX0_init_97 ?_
  refine ev_new (pc := 98) (r := 4) (i := 5) (ci := 1) rfl (by decide) (by rw [n21]; rfl) wk_X0_28 wn_X1 wi_X1 dX0_init_98 ⟨Nat.le_of_ble_eq_true rfl, Nat.le_of_ble_eq_true rfl⟩ ?_
  generalize h22 : ev_mk M21 4 5 = M22
  have n22 : M22.2.2.2 = 76 := by
    rw [← h22]
    show M21.2.2.2 + 1 = 76
    rw [n21]
  have f22 : FB_ 1 M22 := by
    rw [← h22]
    exact f21
  refine ev_dup_r (pc := 101) dX0_init_101 ?_
  refine ev_ctCN (pc := 102) (host := "HelmHand") (b' := B_X1_init) (List.mem_of_getElem? (i := 2) rfl) mi_X1_init rfl dX0_init_102 ⟨⟨Nat.le_of_ble_eq_true rfl, Nat.le_of_ble_eq_true rfl⟩, Nat.le_of_ble_eq_true rfl, Nat.le_of_ble_eq_true rfl⟩ (Nat.le_of_ble_eq_true rfl) (c_X1_init (M := M22) (i := 5) (by decide) (by rw [n22]; exact Nat.le_of_ble_eq_true rfl) (by rw [n22]; rfl) (by rw [n22]; rfl)) ?_
  generalize h23 : mk_X1 5 M22 = M23
  have n23 : M23.2.2.2 = 78 := by
    rw [← h23]
    show M22.2.2.2 + 1 + 1 = 78
    rw [n22]
  have f23 : FB_ 1 M23 := by
    rw [← h23]
    exact f22
  refine ev_aast (pc := 105) (r := 25) (i := 1) (t := 5) (r2 := 4) (i2 := 5) (ci := 1) (x := 1) rfl rfl rfl (by decide) (by decide) (by decide) dX0_init_105 (by rw [n23]; exact Nat.le_of_ble_eq_true rfl) (by rw [n23]; exact Nat.le_of_ble_eq_true rfl) ?_
  generalize h24 : ev_pq M23 25 1 (1 : Int32).toNatClampNeg (some (4, 5)) = M24
  have n24 : M24.2.2.2 = 78 := by
    rw [← h24]
    show M23.2.2.2 = 78
    rw [n23]
  have f24 : FB_ 1 M24 := by
    rw [← h24]
    exact f23
  refine ev_iinc_1 (pc := 106) (y := 2) dX0_init_106 rfl (by decide) rfl ?_
  refine ev_goto (pc := 109) (tgt := 84) dX0_init_109 (by decide) ?_
  refine ev_iload_1 (pc := 84) dX0_init_84 ?_
  refine ev_aload_0 (pc := 85) dX0_init_85 ?_
  refine ev_getqr (pc := 86) (r := 1) (i := 1) (ci := 0) (j := 8) (r2 := 25) (i2 := 1) fl_X0_30 rfl rfl dX0_init_86 (by rw [n24]; exact Nat.le_of_ble_eq_true rfl) f24.2.1 ?_
  refine ev_alen (pc := 89) (r := 25) (i := 1) (t := 5) (y := 4) rfl (by decide) dX0_init_89 (fun _ => (by rw [n24]; exact Nat.le_of_ble_eq_true rfl)) (fun h => absurd h (by decide)) ?_
  refine ev_icc_ge (pc := 90) (tgt := 112) dX0_init_90 (by decide) (fun z => absurd (show (2 : Int32) < 4 by decide) z) (fun _ => ?_)
  refine ev_aload_0 (pc := 93) dX0_init_93 ?_
  refine ev_getqr (pc := 94) (r := 1) (i := 1) (ci := 0) (j := 8) (r2 := 25) (i2 := 1) fl_X0_30 rfl rfl dX0_init_94 (by rw [n24]; exact Nat.le_of_ble_eq_true rfl) f24.2.1 ?_
  refine ev_iload_1 (pc := 97) dX0_init_97 ?_
  refine ev_new (pc := 98) (r := 4) (i := 6) (ci := 1) rfl (by decide) (by rw [n24]; rfl) wk_X0_28 wn_X1 wi_X1 dX0_init_98 ⟨Nat.le_of_ble_eq_true rfl, Nat.le_of_ble_eq_true rfl⟩ ?_
  generalize h25 : ev_mk M24 4 6 = M25
  have n25 : M25.2.2.2 = 79 := by
    rw [← h25]
    show M24.2.2.2 + 1 = 79
    rw [n24]
  have f25 : FB_ 1 M25 := by
    rw [← h25]
    exact f24
  refine ev_dup_r (pc := 101) dX0_init_101 ?_
  refine ev_ctCN (pc := 102) (host := "HelmHand") (b' := B_X1_init) (List.mem_of_getElem? (i := 2) rfl) mi_X1_init rfl dX0_init_102 ⟨⟨Nat.le_of_ble_eq_true rfl, Nat.le_of_ble_eq_true rfl⟩, Nat.le_of_ble_eq_true rfl, Nat.le_of_ble_eq_true rfl⟩ (Nat.le_of_ble_eq_true rfl) (c_X1_init (M := M25) (i := 6) (by decide) (by rw [n25]; exact Nat.le_of_ble_eq_true rfl) (by rw [n25]; rfl) (by rw [n25]; rfl)) ?_
  generalize h26 : mk_X1 6 M25 = M26
  have n26 : M26.2.2.2 = 81 := by
    rw [← h26]
    show M25.2.2.2 + 1 + 1 = 81
    rw [n25]
  have f26 : FB_ 1 M26 := by
    rw [← h26]
    exact f25
  refine ev_aast (pc := 105) (r := 25) (i := 1) (t := 5) (r2 := 4) (i2 := 6) (ci := 1) (x := 2) rfl rfl rfl (by decide) (by decide) (by decide) dX0_init_105 (by rw [n26]; exact Nat.le_of_ble_eq_true rfl) (by rw [n26]; exact Nat.le_of_ble_eq_true rfl) ?_
  generalize h27 : ev_pq M26 25 1 (2 : Int32).toNatClampNeg (some (4, 6)) = M27
  have n27 : M27.2.2.2 = 81 := by
    rw [← h27]
    show M26.2.2.2 = 81
    rw [n26]
  have f27 : FB_ 1 M27 := by
    rw [← h27]
    exact f26
  refine ev_iinc_1 (pc := 106) (y := 3) dX0_init_106 rfl (by decide) rfl ?_
  refine ev_goto (pc := 109) (tgt := 84) dX0_init_109 (by decide) ?_
  refine ev_iload_1 (pc := 84) dX0_init_84 ?_
  refine ev_aload_0 (pc := 85) dX0_init_85 ?_
  refine ev_getqr (pc := 86) (r := 1) (i := 1) (ci := 0) (j := 8) (r2 := 25) (i2 := 1) fl_X0_30 rfl rfl dX0_init_86 (by rw [n27]; exact Nat.le_of_ble_eq_true rfl) f27.2.1 ?_
  refine ev_alen (pc := 89) (r := 25) (i := 1) (t := 5) (y := 4) rfl (by decide) dX0_init_89 (fun _ => (by rw [n27]; exact Nat.le_of_ble_eq_true rfl)) (fun h => absurd h (by decide)) ?_
  refine ev_icc_ge (pc := 90) (tgt := 112) dX0_init_90 (by decide) (fun z => absurd (show (3 : Int32) < 4 by decide) z) (fun _ => ?_)
  refine ev_aload_0 (pc := 93) dX0_init_93 ?_
  refine ev_getqr (pc := 94) (r := 1) (i := 1) (ci := 0) (j := 8) (r2 := 25) (i2 := 1) fl_X0_30 rfl rfl dX0_init_94 (by rw [n27]; exact Nat.le_of_ble_eq_true rfl) f27.2.1 ?_
  refine ev_iload_1 (pc := 97) dX0_init_97 ?_
  refine ev_new (pc := 98) (r := 4) (i := 7) (ci := 1) rfl (by decide) (by rw [n27]; rfl) wk_X0_28 wn_X1 wi_X1 dX0_init_98 ⟨Nat.le_of_ble_eq_true rfl, Nat.le_of_ble_eq_true rfl⟩ ?_
  generalize h28 : ev_mk M27 4 7 = M28
  have n28 : M28.2.2.2 = 82 := by
    rw [← h28]
    show M27.2.2.2 + 1 = 82
    rw [n27]
  have f28 : FB_ 1 M28 := by
    rw [← h28]
    exact f27
  refine ev_dup_r (pc := 101) dX0_init_101 ?_
  refine ev_ctCN (pc := 102) (host := "HelmHand") (b' := B_X1_init) (List.mem_of_getElem? (i := 2) rfl) mi_X1_init rfl dX0_init_102 ⟨⟨Nat.le_of_ble_eq_true rfl, Nat.le_of_ble_eq_true rfl⟩, Nat.le_of_ble_eq_true rfl, Nat.le_of_ble_eq_true rfl⟩ (Nat.le_of_ble_eq_true rfl) (c_X1_init (M := M28) (i := 7) (by decide) (by rw [n28]; exact Nat.le_of_ble_eq_true rfl) (by rw [n28]; rfl) (by rw [n28]; rfl)) ?_
  generalize h29 : mk_X1 7 M28 = M29
  have n29 : M29.2.2.2 = 84 := by
    rw [← h29]
    show M28.2.2.2 + 1 + 1 = 84
    rw [n28]
  have f29 : FB_ 1 M29 := by
    rw [← h29]
    exact f28
  refine ev_aast (pc := 105) (r := 25) (i := 1) (t := 5) (r2 := 4) (i2 := 7) (ci := 1) (x := 3) rfl rfl rfl (by decide) (by decide) (by decide) dX0_init_105 (by rw [n29]; exact Nat.le_of_ble_eq_true rfl) (by rw [n29]; exact Nat.le_of_ble_eq_true rfl) ?_
  generalize h30 : ev_pq M29 25 1 (3 : Int32).toNatClampNeg (some (4, 7)) = M30
  have n30 : M30.2.2.2 = 84 := by
    rw [← h30]
    show M29.2.2.2 = 84
    rw [n29]
  have f30 : FB_ 1 M30 := by
    rw [← h30]
    exact f29
  refine ev_iinc_1 (pc := 106) (y := 4) dX0_init_106 rfl (by decide) rfl ?_
  refine ev_goto (pc := 109) (tgt := 84) dX0_init_109 (by decide) ?_
  refine ev_iload_1 (pc := 84) dX0_init_84 ?_
  refine ev_aload_0 (pc := 85) dX0_init_85 ?_
  refine ev_getqr (pc := 86) (r := 1) (i := 1) (ci := 0) (j := 8) (r2 := 25) (i2 := 1) fl_X0_30 rfl rfl dX0_init_86 (by rw [n30]; exact Nat.le_of_ble_eq_true rfl) f30.2.1 ?_
  refine ev_alen (pc := 89) (r := 25) (i := 1) (t := 5) (y := 4) rfl (by decide) dX0_init_89 (fun _ => (by rw [n30]; exact Nat.le_of_ble_eq_true rfl)) (fun h => absurd h (by decide)) ?_
  refine ev_icc_ge (pc := 90) (tgt := 112) dX0_init_90 (by decide) (fun _ => ?_) (fun z => absurd z (by decide))
  refine ev_iconst (pc := 112) (v := 0) dX0_init_112 rfl ?_
  refine ev_istore_1 (pc := 113) dX0_init_113 (by decide) rfl ?_
  refine ev_iload_1 (pc := 114) dX0_init_114 ?_
  refine ev_aload_0 (pc := 115) dX0_init_115 ?_
  refine ev_getqr (pc := 116) (r := 1) (i := 1) (ci := 0) (j := 9) (r2 := 26) (i2 := 1) fl_X0_36 rfl rfl dX0_init_116 (by rw [n30]; exact Nat.le_of_ble_eq_true rfl) f30.2.2.1 ?_
  refine ev_alen (pc := 119) (r := 26) (i := 1) (t := 6) (y := 2) rfl (by decide) dX0_init_119 (fun _ => (by rw [n30]; exact Nat.le_of_ble_eq_true rfl)) (fun h => absurd h (by decide)) ?_
  refine ev_icc_ge (pc := 120) (tgt := 142) dX0_init_120 (by decide) (fun z => absurd (show (0 : Int32) < 2 by decide) z) (fun _ => ?_)
  refine ev_aload_0 (pc := 123) dX0_init_123 ?_
  refine ev_getqr (pc := 124) (r := 1) (i := 1) (ci := 0) (j := 9) (r2 := 26) (i2 := 1) fl_X0_36 rfl rfl dX0_init_124 (by rw [n30]; exact Nat.le_of_ble_eq_true rfl) f30.2.2.1 ?_
  refine ev_iload_1 (pc := 127) dX0_init_127 ?_
  refine ev_new (pc := 128) (r := 5) (i := 2) (ci := 3) rfl (by decide) (by rw [n30]; rfl) wk_X0_34 wn_X3 wi_X3 dX0_init_128 ⟨Nat.le_of_ble_eq_true rfl, Nat.le_of_ble_eq_true rfl⟩ ?_
  generalize h31 : ev_mk M30 5 2 = M31
  have n31 : M31.2.2.2 = 85 := by
    rw [← h31]
    show M30.2.2.2 + 1 = 85
    rw [n30]
  have f31 : FB_ 1 M31 := by
    rw [← h31]
    exact f30
  refine ev_dup_r (pc := 131) dX0_init_131 ?_
  refine ev_ctCN (pc := 132) (host := "HelmHand") (b' := B_X3_init) (List.mem_of_getElem? (i := 3) rfl) mi_X3_init rfl dX0_init_132 ⟨⟨Nat.le_of_ble_eq_true rfl, Nat.le_of_ble_eq_true rfl⟩, Nat.le_of_ble_eq_true rfl, Nat.le_of_ble_eq_true rfl⟩ (Nat.le_of_ble_eq_true rfl) (c_X3_init (M := M31) (i := 2) (by decide) (by rw [n31]; exact Nat.le_of_ble_eq_true rfl) (by rw [n31]; rfl)) ?_
  generalize h32 : mk_X3 2 M31 = M32
  have n32 : M32.2.2.2 = 86 := by
    rw [← h32]
    show M31.2.2.2 + 1 = 86
    rw [n31]
  have f32 : FB_ 1 M32 := by
    rw [← h32]
    exact f31
  refine ev_aast (pc := 135) (r := 26) (i := 1) (t := 6) (r2 := 5) (i2 := 2) (ci := 3) (x := 0) rfl rfl rfl (by decide) (by decide) (by decide) dX0_init_135 (by rw [n32]; exact Nat.le_of_ble_eq_true rfl) (by rw [n32]; exact Nat.le_of_ble_eq_true rfl) ?_
  generalize h33 : ev_pq M32 26 1 (0 : Int32).toNatClampNeg (some (5, 2)) = M33
  have n33 : M33.2.2.2 = 86 := by
    rw [← h33]
    show M32.2.2.2 = 86
    rw [n32]
  have f33 : FB_ 1 M33 := by
    rw [← h33]
    exact f32
  refine ev_iinc_1 (pc := 136) (y := 1) dX0_init_136 rfl (by decide) rfl ?_
  refine ev_goto (pc := 139) (tgt := 114) dX0_init_139 (by decide) ?_
  refine ev_iload_1 (pc := 114) dX0_init_114 ?_
  refine ev_aload_0 (pc := 115) dX0_init_115 ?_
  refine ev_getqr (pc := 116) (r := 1) (i := 1) (ci := 0) (j := 9) (r2 := 26) (i2 := 1) fl_X0_36 rfl rfl dX0_init_116 (by rw [n33]; exact Nat.le_of_ble_eq_true rfl) f33.2.2.1 ?_
  refine ev_alen (pc := 119) (r := 26) (i := 1) (t := 6) (y := 2) rfl (by decide) dX0_init_119 (fun _ => (by rw [n33]; exact Nat.le_of_ble_eq_true rfl)) (fun h => absurd h (by decide)) ?_
  refine ev_icc_ge (pc := 120) (tgt := 142) dX0_init_120 (by decide) (fun z => absurd (show (1 : Int32) < 2 by decide) z) (fun _ => ?_)
  refine ev_aload_0 (pc := 123) dX0_init_123 ?_
  refine ev_getqr (pc := 124) (r := 1) (i := 1) (ci := 0) (j := 9) (r2 := 26) (i2 := 1) fl_X0_36 rfl rfl dX0_init_124 (by rw [n33]; exact Nat.le_of_ble_eq_true rfl) f33.2.2.1 ?_
  refine ev_iload_1 (pc := 127) dX0_init_127 ?_
  refine ev_new (pc := 128) (r := 5) (i := 3) (ci := 3) rfl (by decide) (by rw [n33]; rfl) wk_X0_34 wn_X3 wi_X3 dX0_init_128 ⟨Nat.le_of_ble_eq_true rfl, Nat.le_of_ble_eq_true rfl⟩ ?_
  generalize h34 : ev_mk M33 5 3 = M34
  have n34 : M34.2.2.2 = 87 := by
    rw [← h34]
    show M33.2.2.2 + 1 = 87
    rw [n33]
  have f34 : FB_ 1 M34 := by
    rw [← h34]
    exact f33
  refine ev_dup_r (pc := 131) dX0_init_131 ?_
  refine ev_ctCN (pc := 132) (host := "HelmHand") (b' := B_X3_init) (List.mem_of_getElem? (i := 3) rfl) mi_X3_init rfl dX0_init_132 ⟨⟨Nat.le_of_ble_eq_true rfl, Nat.le_of_ble_eq_true rfl⟩, Nat.le_of_ble_eq_true rfl, Nat.le_of_ble_eq_true rfl⟩ (Nat.le_of_ble_eq_true rfl) (c_X3_init (M := M34) (i := 3) (by decide) (by rw [n34]; exact Nat.le_of_ble_eq_true rfl) (by rw [n34]; rfl)) ?_
  generalize h35 : mk_X3 3 M34 = M35
  have n35 : M35.2.2.2 = 88 := by
    rw [← h35]
    show M34.2.2.2 + 1 = 88
    rw [n34]
  have f35 : FB_ 1 M35 := by
    rw [← h35]
    exact f34
  refine ev_aast (pc := 135) (r := 26) (i := 1) (t := 6) (r2 := 5) (i2 := 3) (ci := 3) (x := 1) rfl rfl rfl (by decide) (by decide) (by decide) dX0_init_135 (by rw [n35]; exact Nat.le_of_ble_eq_true rfl) (by rw [n35]; exact Nat.le_of_ble_eq_true rfl) ?_
  generalize h36 : ev_pq M35 26 1 (1 : Int32).toNatClampNeg (some (5, 3)) = M36
  have n36 : M36.2.2.2 = 88 := by
    rw [← h36]
    show M35.2.2.2 = 88
    rw [n35]
  have f36 : FB_ 1 M36 := by
    rw [← h36]
    exact f35
  refine ev_iinc_1 (pc := 136) (y := 2) dX0_init_136 rfl (by decide) rfl ?_
  refine ev_goto (pc := 139) (tgt := 114) dX0_init_139 (by decide) ?_
  refine ev_iload_1 (pc := 114) dX0_init_114 ?_
  refine ev_aload_0 (pc := 115) dX0_init_115 ?_
  refine ev_getqr (pc := 116) (r := 1) (i := 1) (ci := 0) (j := 9) (r2 := 26) (i2 := 1) fl_X0_36 rfl rfl dX0_init_116 (by rw [n36]; exact Nat.le_of_ble_eq_true rfl) f36.2.2.1 ?_
  refine ev_alen (pc := 119) (r := 26) (i := 1) (t := 6) (y := 2) rfl (by decide) dX0_init_119 (fun _ => (by rw [n36]; exact Nat.le_of_ble_eq_true rfl)) (fun h => absurd h (by decide)) ?_
  refine ev_icc_ge (pc := 120) (tgt := 142) dX0_init_120 (by decide) (fun _ => ?_) (fun z => absurd z (by decide))
  refine ev_iconst (pc := 142) (v := 0) dX0_init_142 rfl ?_
  refine ev_istore_1 (pc := 143) dX0_init_143 (by decide) rfl ?_
  refine ev_iload_1 (pc := 144) dX0_init_144 ?_
  refine ev_aload_0 (pc := 145) dX0_init_145 ?_
  refine ev_getqr (pc := 146) (r := 1) (i := 1) (ci := 0) (j := 10) (r2 := 27) (i2 := 1) fl_X0_42 rfl rfl dX0_init_146 (by rw [n36]; exact Nat.le_of_ble_eq_true rfl) f36.2.2.2 ?_
  refine ev_alen (pc := 149) (r := 27) (i := 1) (t := 7) (y := 2) rfl (by decide) dX0_init_149 (fun _ => (by rw [n36]; exact Nat.le_of_ble_eq_true rfl)) (fun h => absurd h (by decide)) ?_
  refine ev_icc_ge (pc := 150) (tgt := 172) dX0_init_150 (by decide) (fun z => absurd (show (0 : Int32) < 2 by decide) z) (fun _ => ?_)
  refine ev_aload_0 (pc := 153) dX0_init_153 ?_
  refine ev_getqr (pc := 154) (r := 1) (i := 1) (ci := 0) (j := 10) (r2 := 27) (i2 := 1) fl_X0_42 rfl rfl dX0_init_154 (by rw [n36]; exact Nat.le_of_ble_eq_true rfl) f36.2.2.2 ?_
  refine ev_iload_1 (pc := 157) dX0_init_157 ?_
  refine ev_new (pc := 158) (r := 6) (i := 2) (ci := 7) rfl (by decide) (by rw [n36]; rfl) wk_X0_40 wn_X7 wi_X7 dX0_init_158 ⟨Nat.le_of_ble_eq_true rfl, Nat.le_of_ble_eq_true rfl⟩ ?_
  generalize h37 : ev_mk M36 6 2 = M37
  have n37 : M37.2.2.2 = 89 := by
    rw [← h37]
    show M36.2.2.2 + 1 = 89
    rw [n36]
  have f37 : FB_ 1 M37 := by
    rw [← h37]
    exact f36
  refine ev_dup_r (pc := 161) dX0_init_161 ?_
  refine ev_ctCN (pc := 162) (host := "HelmHand") (b' := B_X7_init) (List.mem_of_getElem? (i := 4) rfl) mi_X7_init rfl dX0_init_162 ⟨⟨Nat.le_of_ble_eq_true rfl, Nat.le_of_ble_eq_true rfl⟩, Nat.le_of_ble_eq_true rfl, Nat.le_of_ble_eq_true rfl⟩ (Nat.le_of_ble_eq_true rfl) (c_X7_init (M := M37) (i := 2) (by decide) (by rw [n37]; exact Nat.le_of_ble_eq_true rfl) (by rw [n37]; rfl) (by rw [n37]; rfl)) ?_
  generalize h38 : mk_X7 2 M37 = M38
  have n38 : M38.2.2.2 = 91 := by
    rw [← h38]
    show M37.2.2.2 + 1 + 1 = 91
    rw [n37]
  have f38 : FB_ 1 M38 := by
    rw [← h38]
    exact f37
  refine ev_aast (pc := 165) (r := 27) (i := 1) (t := 7) (r2 := 6) (i2 := 2) (ci := 7) (x := 0) rfl rfl rfl (by decide) (by decide) (by decide) dX0_init_165 (by rw [n38]; exact Nat.le_of_ble_eq_true rfl) (by rw [n38]; exact Nat.le_of_ble_eq_true rfl) ?_
  generalize h39 : ev_pq M38 27 1 (0 : Int32).toNatClampNeg (some (6, 2)) = M39
  have n39 : M39.2.2.2 = 91 := by
    rw [← h39]
    show M38.2.2.2 = 91
    rw [n38]
  have f39 : FB_ 1 M39 := by
    rw [← h39]
    exact f38
  refine ev_iinc_1 (pc := 166) (y := 1) dX0_init_166 rfl (by decide) rfl ?_
  refine ev_goto (pc := 169) (tgt := 144) dX0_init_169 (by decide) ?_
  refine ev_iload_1 (pc := 144) dX0_init_144 ?_
  refine ev_aload_0 (pc := 145) dX0_init_145 ?_
  refine ev_getqr (pc := 146) (r := 1) (i := 1) (ci := 0) (j := 10) (r2 := 27) (i2 := 1) fl_X0_42 rfl rfl dX0_init_146 (by rw [n39]; exact Nat.le_of_ble_eq_true rfl) f39.2.2.2 ?_
  refine ev_alen (pc := 149) (r := 27) (i := 1) (t := 7) (y := 2) rfl (by decide) dX0_init_149 (fun _ => (by rw [n39]; exact Nat.le_of_ble_eq_true rfl)) (fun h => absurd h (by decide)) ?_
  refine ev_icc_ge (pc := 150) (tgt := 172) dX0_init_150 (by decide) (fun z => absurd (show (1 : Int32) < 2 by decide) z) (fun _ => ?_)
  refine ev_aload_0 (pc := 153) dX0_init_153 ?_
  refine ev_getqr (pc := 154) (r := 1) (i := 1) (ci := 0) (j := 10) (r2 := 27) (i2 := 1) fl_X0_42 rfl rfl dX0_init_154 (by rw [n39]; exact Nat.le_of_ble_eq_true rfl) f39.2.2.2 ?_
  refine ev_iload_1 (pc := 157) dX0_init_157 ?_
  refine ev_new (pc := 158) (r := 6) (i := 3) (ci := 7) rfl (by decide) (by rw [n39]; rfl) wk_X0_40 wn_X7 wi_X7 dX0_init_158 ⟨Nat.le_of_ble_eq_true rfl, Nat.le_of_ble_eq_true rfl⟩ ?_
  generalize h40 : ev_mk M39 6 3 = M40
  have n40 : M40.2.2.2 = 92 := by
    rw [← h40]
    show M39.2.2.2 + 1 = 92
    rw [n39]
  have f40 : FB_ 1 M40 := by
    rw [← h40]
    exact f39
  refine ev_dup_r (pc := 161) dX0_init_161 ?_
  refine ev_ctCN (pc := 162) (host := "HelmHand") (b' := B_X7_init) (List.mem_of_getElem? (i := 4) rfl) mi_X7_init rfl dX0_init_162 ⟨⟨Nat.le_of_ble_eq_true rfl, Nat.le_of_ble_eq_true rfl⟩, Nat.le_of_ble_eq_true rfl, Nat.le_of_ble_eq_true rfl⟩ (Nat.le_of_ble_eq_true rfl) (c_X7_init (M := M40) (i := 3) (by decide) (by rw [n40]; exact Nat.le_of_ble_eq_true rfl) (by rw [n40]; rfl) (by rw [n40]; rfl)) ?_
  generalize h41 : mk_X7 3 M40 = M41
  have n41 : M41.2.2.2 = 94 := by
    rw [← h41]
    show M40.2.2.2 + 1 + 1 = 94
    rw [n40]
  have f41 : FB_ 1 M41 := by
    rw [← h41]
    exact f40
  refine ev_aast (pc := 165) (r := 27) (i := 1) (t := 7) (r2 := 6) (i2 := 3) (ci := 7) (x := 1) rfl rfl rfl (by decide) (by decide) (by decide) dX0_init_165 (by rw [n41]; exact Nat.le_of_ble_eq_true rfl) (by rw [n41]; exact Nat.le_of_ble_eq_true rfl) ?_
  generalize h42 : ev_pq M41 27 1 (1 : Int32).toNatClampNeg (some (6, 3)) = M42
  have n42 : M42.2.2.2 = 94 := by
    rw [← h42]
    show M41.2.2.2 = 94
    rw [n41]
  have f42 : FB_ 1 M42 := by
    rw [← h42]
    exact f41
  refine ev_iinc_1 (pc := 166) (y := 2) dX0_init_166 rfl (by decide) rfl ?_
  refine ev_goto (pc := 169) (tgt := 144) dX0_init_169 (by decide) ?_
  refine ev_iload_1 (pc := 144) dX0_init_144 ?_
  refine ev_aload_0 (pc := 145) dX0_init_145 ?_
  refine ev_getqr (pc := 146) (r := 1) (i := 1) (ci := 0) (j := 10) (r2 := 27) (i2 := 1) fl_X0_42 rfl rfl dX0_init_146 (by rw [n42]; exact Nat.le_of_ble_eq_true rfl) f42.2.2.2 ?_
  refine ev_alen (pc := 149) (r := 27) (i := 1) (t := 7) (y := 2) rfl (by decide) dX0_init_149 (fun _ => (by rw [n42]; exact Nat.le_of_ble_eq_true rfl)) (fun h => absurd h (by decide)) ?_
  refine ev_icc_ge (pc := 150) (tgt := 172) dX0_init_150 (by decide) (fun _ => ?_) (fun z => absurd z (by decide))
  refine ev_vret (pc := 172) dX0_init_172 rfl ⟨rfl, ?_⟩
  rw [← h42, ← h41, ← h40, ← h39, ← h38, ← h37, ← h36, ← h35, ← h34, ← h33, ← h32, ← h31, ← h30, ← h29, ← h28, ← h27, ← h26, ← h25, ← h24, ← h23, ← h22, ← h21, ← h20, ← h19, ← h18, ← h17, ← h16, ← h15, ← h14, ← h13, ← h12, ← h11, ← h10, ← h9, ← h8, ← h7, ← h6, ← h5, ← h4, ← h3, ← h2, ← h1]
  rfl
def mk_X0_2 (M : ev_M) : ev_M := (ev_pq (mk_X7 5 (ev_mk (ev_pq (mk_X7 4 (ev_mk (ev_pq (mk_X3 5 (ev_mk (ev_pq (mk_X3 4 (ev_mk (ev_pq (mk_X1 11 (ev_mk (ev_pq (mk_X1 10 (ev_mk (ev_pq (mk_X1 9 (ev_mk (ev_pq (mk_X1 8 (ev_mk (ev_pq (mk_X5 5 (ev_mk (ev_pq (mk_X5 4 (ev_mk (ev_pq (ev_mk (ev_pq (ev_mk (ev_pq (ev_mk (ev_pq (ev_mk (ev_pi (ev_pq (mk_X6 2 (ev_mk M 2 2)) 1 2 0 (some (2, 2))) 1 2 2 (-1)) 24 2) 1 2 7 (some (24, 2))) 25 2) 1 2 8 (some (25, 2))) 26 2) 1 2 9 (some (26, 2))) 27 2) 1 2 10 (some (27, 2))) 3 4)) 24 2 0 (some (3, 4))) 3 5)) 24 2 1 (some (3, 5))) 4 8)) 25 2 0 (some (4, 8))) 4 9)) 25 2 1 (some (4, 9))) 4 10)) 25 2 2 (some (4, 10))) 4 11)) 25 2 3 (some (4, 11))) 5 4)) 26 2 0 (some (5, 4))) 5 5)) 26 2 1 (some (5, 5))) 6 4)) 27 2 0 (some (6, 4))) 6 5)) 27 2 1 (some (6, 5)))
set_option maxRecDepth 20000 in
set_option maxHeartbeats 4000000 in
theorem c_X0_init_2 {G : ev_G} {M : ev_M} (n0 : M.2.2.2 = 95) : ev_CI G K_X0_init B_X0_init 1 2 M (mk_X0_2 M) := by
  refine ev_Ct_of (L0 := [some (vr 1 2), none]) rfl rfl (Nat.le_of_ble_eq_true rfl) ?_
  refine ev_aload_0 (pc := 0) dX0_init_0 ?_
  refine ev_oini (pc := 1) wl_X0_3 wo_in wo_co ⟨Nat.le_of_ble_eq_true rfl, Nat.le_of_ble_eq_true rfl⟩ (Nat.le_of_ble_eq_true rfl) dX0_init_1 ?_
  refine ev_aload_0 (pc := 4) dX0_init_4 ?_
  refine ev_new (pc := 5) (r := 2) (i := 2) (ci := 6) rfl (by decide) (by rw [n0]; rfl) wk_X0_9 wn_X6 wi_X6 dX0_init_5 ⟨Nat.le_of_ble_eq_true rfl, Nat.le_of_ble_eq_true rfl⟩ ?_
  generalize h1 : ev_mk M 2 2 = M1
  have n1 : M1.2.2.2 = 96 := by
    rw [← h1]
    show M.2.2.2 + 1 = 96
    rw [n0]
  refine ev_dup_r (pc := 8) dX0_init_8 ?_
  refine ev_ctCN (pc := 9) (host := "HelmHand") (b' := B_X6_init) (List.mem_of_getElem? (i := 0) rfl) mi_X6_init rfl dX0_init_9 ⟨⟨Nat.le_of_ble_eq_true rfl, Nat.le_of_ble_eq_true rfl⟩, Nat.le_of_ble_eq_true rfl, Nat.le_of_ble_eq_true rfl⟩ (Nat.le_of_ble_eq_true rfl) (c_X6_init (M := M1) (i := 2) (by decide) (by rw [n1]; exact Nat.le_of_ble_eq_true rfl) (by rw [n1]; rfl)) ?_
  generalize h2 : mk_X6 2 M1 = M2
  have n2 : M2.2.2.2 = 97 := by
    rw [← h2]
    show M1.2.2.2 + 1 = 97
    rw [n1]
  refine ev_putq (pc := 12) (r := 1) (i := 2) (ci := 0) (j := 0) (o := some (2, 2)) fl_X0_12 rfl rfl (Or.inr ⟨rfl, rfl, rfl⟩) (Or.inl ⟨_, rfl⟩) dX0_init_12 (by rw [n2]; exact Nat.le_of_ble_eq_true rfl) ?_
  generalize h3 : ev_pq M2 1 2 0 (some (2, 2)) = M3
  have n3 : M3.2.2.2 = 97 := by
    rw [← h3]
    show M2.2.2.2 = 97
    rw [n2]
  refine ev_aload_0 (pc := 15) dX0_init_15 ?_
  refine ev_iconst (pc := 16) (v := (-1)) dX0_init_16 rfl ?_
  refine ev_puti (pc := 17) (r := 1) (i := 2) (ci := 0) (j := 2) (x := (-1)) fl_X0_18 rfl rfl rfl rfl rfl dX0_init_17 (by rw [n3]; exact Nat.le_of_ble_eq_true rfl) ?_
  generalize h4 : ev_pi M3 1 2 2 (-1) = M4
  have n4 : M4.2.2.2 = 97 := by
    rw [← h4]
    show M3.2.2.2 = 97
    rw [n3]
  refine ev_aload_0 (pc := 20) dX0_init_20 ?_
  refine ev_iconst (pc := 21) (v := 2) dX0_init_21 rfl ?_
  refine ev_newq (pc := 22) (r := 24) (i := 2) (t := 4) (C := "HelmHand$Ship") rfl (by decide) (by decide) (by decide) (by rw [n4]; rfl) (by decide) rfl (by decide) wk_X0_22 (by decide) (by decide) (Nat.le_of_ble_eq_true rfl) dX0_init_22 ⟨Nat.le_of_ble_eq_true rfl, Nat.le_of_ble_eq_true rfl⟩ ?_
  generalize h5 : ev_mk M4 24 2 = M5
  have n5 : M5.2.2.2 = 98 := by
    rw [← h5]
    show M4.2.2.2 + 1 = 98
    rw [n4]
  refine ev_putq (pc := 25) (r := 1) (i := 2) (ci := 0) (j := 7) (o := some (24, 2)) fl_X0_24 rfl rfl (Or.inr ⟨rfl, rfl, rfl⟩) (Or.inr ⟨_, rfl⟩) dX0_init_25 (by rw [n5]; exact Nat.le_of_ble_eq_true rfl) ?_
  generalize h6 : ev_pq M5 1 2 7 (some (24, 2)) = M6
  have n6 : M6.2.2.2 = 98 := by
    rw [← h6]
    show M5.2.2.2 = 98
    rw [n5]
  refine ev_aload_0 (pc := 28) dX0_init_28 ?_
  refine ev_iconst (pc := 29) (v := 4) dX0_init_29 rfl ?_
  refine ev_newq (pc := 30) (r := 25) (i := 2) (t := 5) (C := "HelmHand$Hand") rfl (by decide) (by decide) (by decide) (by rw [n6]; rfl) (by decide) rfl (by decide) wk_X0_28 (by decide) (by decide) (Nat.le_of_ble_eq_true rfl) dX0_init_30 ⟨Nat.le_of_ble_eq_true rfl, Nat.le_of_ble_eq_true rfl⟩ ?_
  generalize h7 : ev_mk M6 25 2 = M7
  have n7 : M7.2.2.2 = 99 := by
    rw [← h7]
    show M6.2.2.2 + 1 = 99
    rw [n6]
  refine ev_putq (pc := 33) (r := 1) (i := 2) (ci := 0) (j := 8) (o := some (25, 2)) fl_X0_30 rfl rfl (Or.inr ⟨rfl, rfl, rfl⟩) (Or.inr ⟨_, rfl⟩) dX0_init_33 (by rw [n7]; exact Nat.le_of_ble_eq_true rfl) ?_
  generalize h8 : ev_pq M7 1 2 8 (some (25, 2)) = M8
  have n8 : M8.2.2.2 = 99 := by
    rw [← h8]
    show M7.2.2.2 = 99
    rw [n7]
  refine ev_aload_0 (pc := 36) dX0_init_36 ?_
  refine ev_iconst (pc := 37) (v := 2) dX0_init_37 rfl ?_
  refine ev_newq (pc := 38) (r := 26) (i := 2) (t := 6) (C := "HelmHand$Paper") rfl (by decide) (by decide) (by decide) (by rw [n8]; rfl) (by decide) rfl (by decide) wk_X0_34 (by decide) (by decide) (Nat.le_of_ble_eq_true rfl) dX0_init_38 ⟨Nat.le_of_ble_eq_true rfl, Nat.le_of_ble_eq_true rfl⟩ ?_
  generalize h9 : ev_mk M8 26 2 = M9
  have n9 : M9.2.2.2 = 100 := by
    rw [← h9]
    show M8.2.2.2 + 1 = 100
    rw [n8]
  refine ev_putq (pc := 41) (r := 1) (i := 2) (ci := 0) (j := 9) (o := some (26, 2)) fl_X0_36 rfl rfl (Or.inr ⟨rfl, rfl, rfl⟩) (Or.inr ⟨_, rfl⟩) dX0_init_41 (by rw [n9]; exact Nat.le_of_ble_eq_true rfl) ?_
  generalize h10 : ev_pq M9 1 2 9 (some (26, 2)) = M10
  have n10 : M10.2.2.2 = 100 := by
    rw [← h10]
    show M9.2.2.2 = 100
    rw [n9]
  refine ev_aload_0 (pc := 44) dX0_init_44 ?_
  refine ev_iconst (pc := 45) (v := 2) dX0_init_45 rfl ?_
  refine ev_newq (pc := 46) (r := 27) (i := 2) (t := 7) (C := "HelmHand$Watch") rfl (by decide) (by decide) (by decide) (by rw [n10]; rfl) (by decide) rfl (by decide) wk_X0_40 (by decide) (by decide) (Nat.le_of_ble_eq_true rfl) dX0_init_46 ⟨Nat.le_of_ble_eq_true rfl, Nat.le_of_ble_eq_true rfl⟩ ?_
  generalize h11 : ev_mk M10 27 2 = M11
  have n11 : M11.2.2.2 = 101 := by
    rw [← h11]
    show M10.2.2.2 + 1 = 101
    rw [n10]
  refine ev_putq (pc := 49) (r := 1) (i := 2) (ci := 0) (j := 10) (o := some (27, 2)) fl_X0_42 rfl rfl (Or.inr ⟨rfl, rfl, rfl⟩) (Or.inr ⟨_, rfl⟩) dX0_init_49 (by rw [n11]; exact Nat.le_of_ble_eq_true rfl) ?_
  generalize h12 : ev_pq M11 1 2 10 (some (27, 2)) = M12
  have n12 : M12.2.2.2 = 101 := by
    rw [← h12]
    show M11.2.2.2 = 101
    rw [n11]
  have f12 : FB_ 2 M12 := by
    rw [← h12, ← h11, ← h10, ← h9, ← h8, ← h7, ← h6, ← h5, ← h4, ← h3, ← h2, ← h1]
    exact ⟨rfl, rfl, rfl, rfl⟩
  refine ev_iconst (pc := 52) (v := 0) dX0_init_52 rfl ?_
  refine ev_istore_1 (pc := 53) dX0_init_53 (by decide) rfl ?_
  refine ev_iload_1 (pc := 54) dX0_init_54 ?_
  refine ev_aload_0 (pc := 55) dX0_init_55 ?_
  refine ev_getqr (pc := 56) (r := 1) (i := 2) (ci := 0) (j := 7) (r2 := 24) (i2 := 2) fl_X0_24 rfl rfl dX0_init_56 (by rw [n12]; exact Nat.le_of_ble_eq_true rfl) f12.1 ?_
  refine ev_alen (pc := 59) (r := 24) (i := 2) (t := 4) (y := 2) rfl (by decide) dX0_init_59 (fun _ => (by rw [n12]; exact Nat.le_of_ble_eq_true rfl)) (fun h => absurd h (by decide)) ?_
  refine ev_icc_ge (pc := 60) (tgt := 82) dX0_init_60 (by decide) (fun z => absurd (show (0 : Int32) < 2 by decide) z) (fun _ => ?_)
  refine ev_aload_0 (pc := 63) dX0_init_63 ?_
  refine ev_getqr (pc := 64) (r := 1) (i := 2) (ci := 0) (j := 7) (r2 := 24) (i2 := 2) fl_X0_24 rfl rfl dX0_init_64 (by rw [n12]; exact Nat.le_of_ble_eq_true rfl) f12.1 ?_
  refine ev_iload_1 (pc := 67) dX0_init_67 ?_
  refine ev_new (pc := 68) (r := 3) (i := 4) (ci := 5) rfl (by decide) (by rw [n12]; rfl) wk_X0_22 wn_X5 wi_X5 dX0_init_68 ⟨Nat.le_of_ble_eq_true rfl, Nat.le_of_ble_eq_true rfl⟩ ?_
  generalize h13 : ev_mk M12 3 4 = M13
  have n13 : M13.2.2.2 = 102 := by
    rw [← h13]
    show M12.2.2.2 + 1 = 102
    rw [n12]
  have f13 : FB_ 2 M13 := by
    rw [← h13]
    exact f12
  refine ev_dup_r (pc := 71) dX0_init_71 ?_
  refine ev_ctCN (pc := 72) (host := "HelmHand") (b' := B_X5_init) (List.mem_of_getElem? (i := 1) rfl) mi_X5_init rfl dX0_init_72 ⟨⟨Nat.le_of_ble_eq_true rfl, Nat.le_of_ble_eq_true rfl⟩, Nat.le_of_ble_eq_true rfl, Nat.le_of_ble_eq_true rfl⟩ (Nat.le_of_ble_eq_true rfl) (c_X5_init (M := M13) (i := 4) (by decide) (by rw [n13]; exact Nat.le_of_ble_eq_true rfl) (by rw [n13]; rfl)) ?_
  generalize h14 : mk_X5 4 M13 = M14
  have n14 : M14.2.2.2 = 103 := by
    rw [← h14]
    show M13.2.2.2 + 1 = 103
    rw [n13]
  have f14 : FB_ 2 M14 := by
    rw [← h14]
    exact f13
  refine ev_aast (pc := 75) (r := 24) (i := 2) (t := 4) (r2 := 3) (i2 := 4) (ci := 5) (x := 0) rfl rfl rfl (by decide) (by decide) (by decide) dX0_init_75 (by rw [n14]; exact Nat.le_of_ble_eq_true rfl) (by rw [n14]; exact Nat.le_of_ble_eq_true rfl) ?_
  generalize h15 : ev_pq M14 24 2 (0 : Int32).toNatClampNeg (some (3, 4)) = M15
  have n15 : M15.2.2.2 = 103 := by
    rw [← h15]
    show M14.2.2.2 = 103
    rw [n14]
  have f15 : FB_ 2 M15 := by
    rw [← h15]
    exact f14
  refine ev_iinc_1 (pc := 76) (y := 1) dX0_init_76 rfl (by decide) rfl ?_
  refine ev_goto (pc := 79) (tgt := 54) dX0_init_79 (by decide) ?_
  refine ev_iload_1 (pc := 54) dX0_init_54 ?_
  refine ev_aload_0 (pc := 55) dX0_init_55 ?_
  refine ev_getqr (pc := 56) (r := 1) (i := 2) (ci := 0) (j := 7) (r2 := 24) (i2 := 2) fl_X0_24 rfl rfl dX0_init_56 (by rw [n15]; exact Nat.le_of_ble_eq_true rfl) f15.1 ?_
  refine ev_alen (pc := 59) (r := 24) (i := 2) (t := 4) (y := 2) rfl (by decide) dX0_init_59 (fun _ => (by rw [n15]; exact Nat.le_of_ble_eq_true rfl)) (fun h => absurd h (by decide)) ?_
  refine ev_icc_ge (pc := 60) (tgt := 82) dX0_init_60 (by decide) (fun z => absurd (show (1 : Int32) < 2 by decide) z) (fun _ => ?_)
  refine ev_aload_0 (pc := 63) dX0_init_63 ?_
  refine ev_getqr (pc := 64) (r := 1) (i := 2) (ci := 0) (j := 7) (r2 := 24) (i2 := 2) fl_X0_24 rfl rfl dX0_init_64 (by rw [n15]; exact Nat.le_of_ble_eq_true rfl) f15.1 ?_
  refine ev_iload_1 (pc := 67) dX0_init_67 ?_
  refine ev_new (pc := 68) (r := 3) (i := 5) (ci := 5) rfl (by decide) (by rw [n15]; rfl) wk_X0_22 wn_X5 wi_X5 dX0_init_68 ⟨Nat.le_of_ble_eq_true rfl, Nat.le_of_ble_eq_true rfl⟩ ?_
  generalize h16 : ev_mk M15 3 5 = M16
  have n16 : M16.2.2.2 = 104 := by
    rw [← h16]
    show M15.2.2.2 + 1 = 104
    rw [n15]
  have f16 : FB_ 2 M16 := by
    rw [← h16]
    exact f15
  refine ev_dup_r (pc := 71) dX0_init_71 ?_
  refine ev_ctCN (pc := 72) (host := "HelmHand") (b' := B_X5_init) (List.mem_of_getElem? (i := 1) rfl) mi_X5_init rfl dX0_init_72 ⟨⟨Nat.le_of_ble_eq_true rfl, Nat.le_of_ble_eq_true rfl⟩, Nat.le_of_ble_eq_true rfl, Nat.le_of_ble_eq_true rfl⟩ (Nat.le_of_ble_eq_true rfl) (c_X5_init (M := M16) (i := 5) (by decide) (by rw [n16]; exact Nat.le_of_ble_eq_true rfl) (by rw [n16]; rfl)) ?_
  generalize h17 : mk_X5 5 M16 = M17
  have n17 : M17.2.2.2 = 105 := by
    rw [← h17]
    show M16.2.2.2 + 1 = 105
    rw [n16]
  have f17 : FB_ 2 M17 := by
    rw [← h17]
    exact f16
  refine ev_aast (pc := 75) (r := 24) (i := 2) (t := 4) (r2 := 3) (i2 := 5) (ci := 5) (x := 1) rfl rfl rfl (by decide) (by decide) (by decide) dX0_init_75 (by rw [n17]; exact Nat.le_of_ble_eq_true rfl) (by rw [n17]; exact Nat.le_of_ble_eq_true rfl) ?_
  generalize h18 : ev_pq M17 24 2 (1 : Int32).toNatClampNeg (some (3, 5)) = M18
  have n18 : M18.2.2.2 = 105 := by
    rw [← h18]
    show M17.2.2.2 = 105
    rw [n17]
  have f18 : FB_ 2 M18 := by
    rw [← h18]
    exact f17
  refine ev_iinc_1 (pc := 76) (y := 2) dX0_init_76 rfl (by decide) rfl ?_
  refine ev_goto (pc := 79) (tgt := 54) dX0_init_79 (by decide) ?_
  refine ev_iload_1 (pc := 54) dX0_init_54 ?_
  refine ev_aload_0 (pc := 55) dX0_init_55 ?_
  refine ev_getqr (pc := 56) (r := 1) (i := 2) (ci := 0) (j := 7) (r2 := 24) (i2 := 2) fl_X0_24 rfl rfl dX0_init_56 (by rw [n18]; exact Nat.le_of_ble_eq_true rfl) f18.1 ?_
  refine ev_alen (pc := 59) (r := 24) (i := 2) (t := 4) (y := 2) rfl (by decide) dX0_init_59 (fun _ => (by rw [n18]; exact Nat.le_of_ble_eq_true rfl)) (fun h => absurd h (by decide)) ?_
  refine ev_icc_ge (pc := 60) (tgt := 82) dX0_init_60 (by decide) (fun _ => ?_) (fun z => absurd z (by decide))
  refine ev_iconst (pc := 82) (v := 0) dX0_init_82 rfl ?_
  refine ev_istore_1 (pc := 83) dX0_init_83 (by decide) rfl ?_
  refine ev_iload_1 (pc := 84) dX0_init_84 ?_
  refine ev_aload_0 (pc := 85) dX0_init_85 ?_
  refine ev_getqr (pc := 86) (r := 1) (i := 2) (ci := 0) (j := 8) (r2 := 25) (i2 := 2) fl_X0_30 rfl rfl dX0_init_86 (by rw [n18]; exact Nat.le_of_ble_eq_true rfl) f18.2.1 ?_
  refine ev_alen (pc := 89) (r := 25) (i := 2) (t := 5) (y := 4) rfl (by decide) dX0_init_89 (fun _ => (by rw [n18]; exact Nat.le_of_ble_eq_true rfl)) (fun h => absurd h (by decide)) ?_
  refine ev_icc_ge (pc := 90) (tgt := 112) dX0_init_90 (by decide) (fun z => absurd (show (0 : Int32) < 4 by decide) z) (fun _ => ?_)
  refine ev_aload_0 (pc := 93) dX0_init_93 ?_
  refine ev_getqr (pc := 94) (r := 1) (i := 2) (ci := 0) (j := 8) (r2 := 25) (i2 := 2) fl_X0_30 rfl rfl dX0_init_94 (by rw [n18]; exact Nat.le_of_ble_eq_true rfl) f18.2.1 ?_
  refine ev_iload_1 (pc := 97) dX0_init_97 ?_
  refine ev_new (pc := 98) (r := 4) (i := 8) (ci := 1) rfl (by decide) (by rw [n18]; rfl) wk_X0_28 wn_X1 wi_X1 dX0_init_98 ⟨Nat.le_of_ble_eq_true rfl, Nat.le_of_ble_eq_true rfl⟩ ?_
  generalize h19 : ev_mk M18 4 8 = M19
  have n19 : M19.2.2.2 = 106 := by
    rw [← h19]
    show M18.2.2.2 + 1 = 106
    rw [n18]
  have f19 : FB_ 2 M19 := by
    rw [← h19]
    exact f18
  refine ev_dup_r (pc := 101) dX0_init_101 ?_
  refine ev_ctCN (pc := 102) (host := "HelmHand") (b' := B_X1_init) (List.mem_of_getElem? (i := 2) rfl) mi_X1_init rfl dX0_init_102 ⟨⟨Nat.le_of_ble_eq_true rfl, Nat.le_of_ble_eq_true rfl⟩, Nat.le_of_ble_eq_true rfl, Nat.le_of_ble_eq_true rfl⟩ (Nat.le_of_ble_eq_true rfl) (c_X1_init (M := M19) (i := 8) (by decide) (by rw [n19]; exact Nat.le_of_ble_eq_true rfl) (by rw [n19]; rfl) (by rw [n19]; rfl)) ?_
  generalize h20 : mk_X1 8 M19 = M20
  have n20 : M20.2.2.2 = 108 := by
    rw [← h20]
    show M19.2.2.2 + 1 + 1 = 108
    rw [n19]
  have f20 : FB_ 2 M20 := by
    rw [← h20]
    exact f19
  refine ev_aast (pc := 105) (r := 25) (i := 2) (t := 5) (r2 := 4) (i2 := 8) (ci := 1) (x := 0) rfl rfl rfl (by decide) (by decide) (by decide) dX0_init_105 (by rw [n20]; exact Nat.le_of_ble_eq_true rfl) (by rw [n20]; exact Nat.le_of_ble_eq_true rfl) ?_
  generalize h21 : ev_pq M20 25 2 (0 : Int32).toNatClampNeg (some (4, 8)) = M21
  have n21 : M21.2.2.2 = 108 := by
    rw [← h21]
    show M20.2.2.2 = 108
    rw [n20]
  have f21 : FB_ 2 M21 := by
    rw [← h21]
    exact f20
  refine ev_iinc_1 (pc := 106) (y := 1) dX0_init_106 rfl (by decide) rfl ?_
  refine ev_goto (pc := 109) (tgt := 84) dX0_init_109 (by decide) ?_
  refine ev_iload_1 (pc := 84) dX0_init_84 ?_
  refine ev_aload_0 (pc := 85) dX0_init_85 ?_
  refine ev_getqr (pc := 86) (r := 1) (i := 2) (ci := 0) (j := 8) (r2 := 25) (i2 := 2) fl_X0_30 rfl rfl dX0_init_86 (by rw [n21]; exact Nat.le_of_ble_eq_true rfl) f21.2.1 ?_
  refine ev_alen (pc := 89) (r := 25) (i := 2) (t := 5) (y := 4) rfl (by decide) dX0_init_89 (fun _ => (by rw [n21]; exact Nat.le_of_ble_eq_true rfl)) (fun h => absurd h (by decide)) ?_
  refine ev_icc_ge (pc := 90) (tgt := 112) dX0_init_90 (by decide) (fun z => absurd (show (1 : Int32) < 4 by decide) z) (fun _ => ?_)
  refine ev_aload_0 (pc := 93) dX0_init_93 ?_
  refine ev_getqr (pc := 94) (r := 1) (i := 2) (ci := 0) (j := 8) (r2 := 25) (i2 := 2) fl_X0_30 rfl rfl dX0_init_94 (by rw [n21]; exact Nat.le_of_ble_eq_true rfl) f21.2.1 ?_
  refine ev_iload_1 (pc := 97) dX0_init_97 ?_
  refine ev_new (pc := 98) (r := 4) (i := 9) (ci := 1) rfl (by decide) (by rw [n21]; rfl) wk_X0_28 wn_X1 wi_X1 dX0_init_98 ⟨Nat.le_of_ble_eq_true rfl, Nat.le_of_ble_eq_true rfl⟩ ?_
  generalize h22 : ev_mk M21 4 9 = M22
  have n22 : M22.2.2.2 = 109 := by
    rw [← h22]
    show M21.2.2.2 + 1 = 109
    rw [n21]
  have f22 : FB_ 2 M22 := by
    rw [← h22]
    exact f21
  refine ev_dup_r (pc := 101) dX0_init_101 ?_
  refine ev_ctCN (pc := 102) (host := "HelmHand") (b' := B_X1_init) (List.mem_of_getElem? (i := 2) rfl) mi_X1_init rfl dX0_init_102 ⟨⟨Nat.le_of_ble_eq_true rfl, Nat.le_of_ble_eq_true rfl⟩, Nat.le_of_ble_eq_true rfl, Nat.le_of_ble_eq_true rfl⟩ (Nat.le_of_ble_eq_true rfl) (c_X1_init (M := M22) (i := 9) (by decide) (by rw [n22]; exact Nat.le_of_ble_eq_true rfl) (by rw [n22]; rfl) (by rw [n22]; rfl)) ?_
  generalize h23 : mk_X1 9 M22 = M23
  have n23 : M23.2.2.2 = 111 := by
    rw [← h23]
    show M22.2.2.2 + 1 + 1 = 111
    rw [n22]
  have f23 : FB_ 2 M23 := by
    rw [← h23]
    exact f22
  refine ev_aast (pc := 105) (r := 25) (i := 2) (t := 5) (r2 := 4) (i2 := 9) (ci := 1) (x := 1) rfl rfl rfl (by decide) (by decide) (by decide) dX0_init_105 (by rw [n23]; exact Nat.le_of_ble_eq_true rfl) (by rw [n23]; exact Nat.le_of_ble_eq_true rfl) ?_
  generalize h24 : ev_pq M23 25 2 (1 : Int32).toNatClampNeg (some (4, 9)) = M24
  have n24 : M24.2.2.2 = 111 := by
    rw [← h24]
    show M23.2.2.2 = 111
    rw [n23]
  have f24 : FB_ 2 M24 := by
    rw [← h24]
    exact f23
  refine ev_iinc_1 (pc := 106) (y := 2) dX0_init_106 rfl (by decide) rfl ?_
  refine ev_goto (pc := 109) (tgt := 84) dX0_init_109 (by decide) ?_
  refine ev_iload_1 (pc := 84) dX0_init_84 ?_
  refine ev_aload_0 (pc := 85) dX0_init_85 ?_
  refine ev_getqr (pc := 86) (r := 1) (i := 2) (ci := 0) (j := 8) (r2 := 25) (i2 := 2) fl_X0_30 rfl rfl dX0_init_86 (by rw [n24]; exact Nat.le_of_ble_eq_true rfl) f24.2.1 ?_
  refine ev_alen (pc := 89) (r := 25) (i := 2) (t := 5) (y := 4) rfl (by decide) dX0_init_89 (fun _ => (by rw [n24]; exact Nat.le_of_ble_eq_true rfl)) (fun h => absurd h (by decide)) ?_
  refine ev_icc_ge (pc := 90) (tgt := 112) dX0_init_90 (by decide) (fun z => absurd (show (2 : Int32) < 4 by decide) z) (fun _ => ?_)
  refine ev_aload_0 (pc := 93) dX0_init_93 ?_
  refine ev_getqr (pc := 94) (r := 1) (i := 2) (ci := 0) (j := 8) (r2 := 25) (i2 := 2) fl_X0_30 rfl rfl dX0_init_94 (by rw [n24]; exact Nat.le_of_ble_eq_true rfl) f24.2.1 ?_
  refine ev_iload_1 (pc := 97) dX0_init_97 ?_
  refine ev_new (pc := 98) (r := 4) (i := 10) (ci := 1) rfl (by decide) (by rw [n24]; rfl) wk_X0_28 wn_X1 wi_X1 dX0_init_98 ⟨Nat.le_of_ble_eq_true rfl, Nat.le_of_ble_eq_true rfl⟩ ?_
  generalize h25 : ev_mk M24 4 10 = M25
  have n25 : M25.2.2.2 = 112 := by
    rw [← h25]
    show M24.2.2.2 + 1 = 112
    rw [n24]
  have f25 : FB_ 2 M25 := by
    rw [← h25]
    exact f24
  refine ev_dup_r (pc := 101) dX0_init_101 ?_
  refine ev_ctCN (pc := 102) (host := "HelmHand") (b' := B_X1_init) (List.mem_of_getElem? (i := 2) rfl) mi_X1_init rfl dX0_init_102 ⟨⟨Nat.le_of_ble_eq_true rfl, Nat.le_of_ble_eq_true rfl⟩, Nat.le_of_ble_eq_true rfl, Nat.le_of_ble_eq_true rfl⟩ (Nat.le_of_ble_eq_true rfl) (c_X1_init (M := M25) (i := 10) (by decide) (by rw [n25]; exact Nat.le_of_ble_eq_true rfl) (by rw [n25]; rfl) (by rw [n25]; rfl)) ?_
  generalize h26 : mk_X1 10 M25 = M26
  have n26 : M26.2.2.2 = 114 := by
    rw [← h26]
    show M25.2.2.2 + 1 + 1 = 114
    rw [n25]
  have f26 : FB_ 2 M26 := by
    rw [← h26]
    exact f25
  refine ev_aast (pc := 105) (r := 25) (i := 2) (t := 5) (r2 := 4) (i2 := 10) (ci := 1) (x := 2) rfl rfl rfl (by decide) (by decide) (by decide) dX0_init_105 (by rw [n26]; exact Nat.le_of_ble_eq_true rfl) (by rw [n26]; exact Nat.le_of_ble_eq_true rfl) ?_
  generalize h27 : ev_pq M26 25 2 (2 : Int32).toNatClampNeg (some (4, 10)) = M27
  have n27 : M27.2.2.2 = 114 := by
    rw [← h27]
    show M26.2.2.2 = 114
    rw [n26]
  have f27 : FB_ 2 M27 := by
    rw [← h27]
    exact f26
  refine ev_iinc_1 (pc := 106) (y := 3) dX0_init_106 rfl (by decide) rfl ?_
  refine ev_goto (pc := 109) (tgt := 84) dX0_init_109 (by decide) ?_
  refine ev_iload_1 (pc := 84) dX0_init_84 ?_
  refine ev_aload_0 (pc := 85) dX0_init_85 ?_
  refine ev_getqr (pc := 86) (r := 1) (i := 2) (ci := 0) (j := 8) (r2 := 25) (i2 := 2) fl_X0_30 rfl rfl dX0_init_86 (by rw [n27]; exact Nat.le_of_ble_eq_true rfl) f27.2.1 ?_
  refine ev_alen (pc := 89) (r := 25) (i := 2) (t := 5) (y := 4) rfl (by decide) dX0_init_89 (fun _ => (by rw [n27]; exact Nat.le_of_ble_eq_true rfl)) (fun h => absurd h (by decide)) ?_
  refine ev_icc_ge (pc := 90) (tgt := 112) dX0_init_90 (by decide) (fun z => absurd (show (3 : Int32) < 4 by decide) z) (fun _ => ?_)
  refine ev_aload_0 (pc := 93) dX0_init_93 ?_
  refine ev_getqr (pc := 94) (r := 1) (i := 2) (ci := 0) (j := 8) (r2 := 25) (i2 := 2) fl_X0_30 rfl rfl dX0_init_94 (by rw [n27]; exact Nat.le_of_ble_eq_true rfl) f27.2.1 ?_
  refine ev_iload_1 (pc := 97) dX0_init_97 ?_
  refine ev_new (pc := 98) (r := 4) (i := 11) (ci := 1) rfl (by decide) (by rw [n27]; rfl) wk_X0_28 wn_X1 wi_X1 dX0_init_98 ⟨Nat.le_of_ble_eq_true rfl, Nat.le_of_ble_eq_true rfl⟩ ?_
  generalize h28 : ev_mk M27 4 11 = M28
  have n28 : M28.2.2.2 = 115 := by
    rw [← h28]
    show M27.2.2.2 + 1 = 115
    rw [n27]
  have f28 : FB_ 2 M28 := by
    rw [← h28]
    exact f27
  refine ev_dup_r (pc := 101) dX0_init_101 ?_
  refine ev_ctCN (pc := 102) (host := "HelmHand") (b' := B_X1_init) (List.mem_of_getElem? (i := 2) rfl) mi_X1_init rfl dX0_init_102 ⟨⟨Nat.le_of_ble_eq_true rfl, Nat.le_of_ble_eq_true rfl⟩, Nat.le_of_ble_eq_true rfl, Nat.le_of_ble_eq_true rfl⟩ (Nat.le_of_ble_eq_true rfl) (c_X1_init (M := M28) (i := 11) (by decide) (by rw [n28]; exact Nat.le_of_ble_eq_true rfl) (by rw [n28]; rfl) (by rw [n28]; rfl)) ?_
  generalize h29 : mk_X1 11 M28 = M29
  have n29 : M29.2.2.2 = 117 := by
    rw [← h29]
    show M28.2.2.2 + 1 + 1 = 117
    rw [n28]
  have f29 : FB_ 2 M29 := by
    rw [← h29]
    exact f28
  refine ev_aast (pc := 105) (r := 25) (i := 2) (t := 5) (r2 := 4) (i2 := 11) (ci := 1) (x := 3) rfl rfl rfl (by decide) (by decide) (by decide) dX0_init_105 (by rw [n29]; exact Nat.le_of_ble_eq_true rfl) (by rw [n29]; exact Nat.le_of_ble_eq_true rfl) ?_
  generalize h30 : ev_pq M29 25 2 (3 : Int32).toNatClampNeg (some (4, 11)) = M30
  have n30 : M30.2.2.2 = 117 := by
    rw [← h30]
    show M29.2.2.2 = 117
    rw [n29]
  have f30 : FB_ 2 M30 := by
    rw [← h30]
    exact f29
  refine ev_iinc_1 (pc := 106) (y := 4) dX0_init_106 rfl (by decide) rfl ?_
  refine ev_goto (pc := 109) (tgt := 84) dX0_init_109 (by decide) ?_
  refine ev_iload_1 (pc := 84) dX0_init_84 ?_
  refine ev_aload_0 (pc := 85) dX0_init_85 ?_
  refine ev_getqr (pc := 86) (r := 1) (i := 2) (ci := 0) (j := 8) (r2 := 25) (i2 := 2) fl_X0_30 rfl rfl dX0_init_86 (by rw [n30]; exact Nat.le_of_ble_eq_true rfl) f30.2.1 ?_
  refine ev_alen (pc := 89) (r := 25) (i := 2) (t := 5) (y := 4) rfl (by decide) dX0_init_89 (fun _ => (by rw [n30]; exact Nat.le_of_ble_eq_true rfl)) (fun h => absurd h (by decide)) ?_
  refine ev_icc_ge (pc := 90) (tgt := 112) dX0_init_90 (by decide) (fun _ => ?_) (fun z => absurd z (by decide))
  refine ev_iconst (pc := 112) (v := 0) dX0_init_112 rfl ?_
  refine ev_istore_1 (pc := 113) dX0_init_113 (by decide) rfl ?_
  refine ev_iload_1 (pc := 114) dX0_init_114 ?_
  refine ev_aload_0 (pc := 115) dX0_init_115 ?_
  refine ev_getqr (pc := 116) (r := 1) (i := 2) (ci := 0) (j := 9) (r2 := 26) (i2 := 2) fl_X0_36 rfl rfl dX0_init_116 (by rw [n30]; exact Nat.le_of_ble_eq_true rfl) f30.2.2.1 ?_
  refine ev_alen (pc := 119) (r := 26) (i := 2) (t := 6) (y := 2) rfl (by decide) dX0_init_119 (fun _ => (by rw [n30]; exact Nat.le_of_ble_eq_true rfl)) (fun h => absurd h (by decide)) ?_
  refine ev_icc_ge (pc := 120) (tgt := 142) dX0_init_120 (by decide) (fun z => absurd (show (0 : Int32) < 2 by decide) z) (fun _ => ?_)
  refine ev_aload_0 (pc := 123) dX0_init_123 ?_
  refine ev_getqr (pc := 124) (r := 1) (i := 2) (ci := 0) (j := 9) (r2 := 26) (i2 := 2) fl_X0_36 rfl rfl dX0_init_124 (by rw [n30]; exact Nat.le_of_ble_eq_true rfl) f30.2.2.1 ?_
  refine ev_iload_1 (pc := 127) dX0_init_127 ?_
  refine ev_new (pc := 128) (r := 5) (i := 4) (ci := 3) rfl (by decide) (by rw [n30]; rfl) wk_X0_34 wn_X3 wi_X3 dX0_init_128 ⟨Nat.le_of_ble_eq_true rfl, Nat.le_of_ble_eq_true rfl⟩ ?_
  generalize h31 : ev_mk M30 5 4 = M31
  have n31 : M31.2.2.2 = 118 := by
    rw [← h31]
    show M30.2.2.2 + 1 = 118
    rw [n30]
  have f31 : FB_ 2 M31 := by
    rw [← h31]
    exact f30
  refine ev_dup_r (pc := 131) dX0_init_131 ?_
  refine ev_ctCN (pc := 132) (host := "HelmHand") (b' := B_X3_init) (List.mem_of_getElem? (i := 3) rfl) mi_X3_init rfl dX0_init_132 ⟨⟨Nat.le_of_ble_eq_true rfl, Nat.le_of_ble_eq_true rfl⟩, Nat.le_of_ble_eq_true rfl, Nat.le_of_ble_eq_true rfl⟩ (Nat.le_of_ble_eq_true rfl) (c_X3_init (M := M31) (i := 4) (by decide) (by rw [n31]; exact Nat.le_of_ble_eq_true rfl) (by rw [n31]; rfl)) ?_
  generalize h32 : mk_X3 4 M31 = M32
  have n32 : M32.2.2.2 = 119 := by
    rw [← h32]
    show M31.2.2.2 + 1 = 119
    rw [n31]
  have f32 : FB_ 2 M32 := by
    rw [← h32]
    exact f31
  refine ev_aast (pc := 135) (r := 26) (i := 2) (t := 6) (r2 := 5) (i2 := 4) (ci := 3) (x := 0) rfl rfl rfl (by decide) (by decide) (by decide) dX0_init_135 (by rw [n32]; exact Nat.le_of_ble_eq_true rfl) (by rw [n32]; exact Nat.le_of_ble_eq_true rfl) ?_
  generalize h33 : ev_pq M32 26 2 (0 : Int32).toNatClampNeg (some (5, 4)) = M33
  have n33 : M33.2.2.2 = 119 := by
    rw [← h33]
    show M32.2.2.2 = 119
    rw [n32]
  have f33 : FB_ 2 M33 := by
    rw [← h33]
    exact f32
  refine ev_iinc_1 (pc := 136) (y := 1) dX0_init_136 rfl (by decide) rfl ?_
  refine ev_goto (pc := 139) (tgt := 114) dX0_init_139 (by decide) ?_
  refine ev_iload_1 (pc := 114) dX0_init_114 ?_
  refine ev_aload_0 (pc := 115) dX0_init_115 ?_
  refine ev_getqr (pc := 116) (r := 1) (i := 2) (ci := 0) (j := 9) (r2 := 26) (i2 := 2) fl_X0_36 rfl rfl dX0_init_116 (by rw [n33]; exact Nat.le_of_ble_eq_true rfl) f33.2.2.1 ?_
  refine ev_alen (pc := 119) (r := 26) (i := 2) (t := 6) (y := 2) rfl (by decide) dX0_init_119 (fun _ => (by rw [n33]; exact Nat.le_of_ble_eq_true rfl)) (fun h => absurd h (by decide)) ?_
  refine ev_icc_ge (pc := 120) (tgt := 142) dX0_init_120 (by decide) (fun z => absurd (show (1 : Int32) < 2 by decide) z) (fun _ => ?_)
  refine ev_aload_0 (pc := 123) dX0_init_123 ?_
  refine ev_getqr (pc := 124) (r := 1) (i := 2) (ci := 0) (j := 9) (r2 := 26) (i2 := 2) fl_X0_36 rfl rfl dX0_init_124 (by rw [n33]; exact Nat.le_of_ble_eq_true rfl) f33.2.2.1 ?_
  refine ev_iload_1 (pc := 127) dX0_init_127 ?_
  refine ev_new (pc := 128) (r := 5) (i := 5) (ci := 3) rfl (by decide) (by rw [n33]; rfl) wk_X0_34 wn_X3 wi_X3 dX0_init_128 ⟨Nat.le_of_ble_eq_true rfl, Nat.le_of_ble_eq_true rfl⟩ ?_
  generalize h34 : ev_mk M33 5 5 = M34
  have n34 : M34.2.2.2 = 120 := by
    rw [← h34]
    show M33.2.2.2 + 1 = 120
    rw [n33]
  have f34 : FB_ 2 M34 := by
    rw [← h34]
    exact f33
  refine ev_dup_r (pc := 131) dX0_init_131 ?_
  refine ev_ctCN (pc := 132) (host := "HelmHand") (b' := B_X3_init) (List.mem_of_getElem? (i := 3) rfl) mi_X3_init rfl dX0_init_132 ⟨⟨Nat.le_of_ble_eq_true rfl, Nat.le_of_ble_eq_true rfl⟩, Nat.le_of_ble_eq_true rfl, Nat.le_of_ble_eq_true rfl⟩ (Nat.le_of_ble_eq_true rfl) (c_X3_init (M := M34) (i := 5) (by decide) (by rw [n34]; exact Nat.le_of_ble_eq_true rfl) (by rw [n34]; rfl)) ?_
  generalize h35 : mk_X3 5 M34 = M35
  have n35 : M35.2.2.2 = 121 := by
    rw [← h35]
    show M34.2.2.2 + 1 = 121
    rw [n34]
  have f35 : FB_ 2 M35 := by
    rw [← h35]
    exact f34
  refine ev_aast (pc := 135) (r := 26) (i := 2) (t := 6) (r2 := 5) (i2 := 5) (ci := 3) (x := 1) rfl rfl rfl (by decide) (by decide) (by decide) dX0_init_135 (by rw [n35]; exact Nat.le_of_ble_eq_true rfl) (by rw [n35]; exact Nat.le_of_ble_eq_true rfl) ?_
  generalize h36 : ev_pq M35 26 2 (1 : Int32).toNatClampNeg (some (5, 5)) = M36
  have n36 : M36.2.2.2 = 121 := by
    rw [← h36]
    show M35.2.2.2 = 121
    rw [n35]
  have f36 : FB_ 2 M36 := by
    rw [← h36]
    exact f35
  refine ev_iinc_1 (pc := 136) (y := 2) dX0_init_136 rfl (by decide) rfl ?_
  refine ev_goto (pc := 139) (tgt := 114) dX0_init_139 (by decide) ?_
  refine ev_iload_1 (pc := 114) dX0_init_114 ?_
  refine ev_aload_0 (pc := 115) dX0_init_115 ?_
  refine ev_getqr (pc := 116) (r := 1) (i := 2) (ci := 0) (j := 9) (r2 := 26) (i2 := 2) fl_X0_36 rfl rfl dX0_init_116 (by rw [n36]; exact Nat.le_of_ble_eq_true rfl) f36.2.2.1 ?_
  refine ev_alen (pc := 119) (r := 26) (i := 2) (t := 6) (y := 2) rfl (by decide) dX0_init_119 (fun _ => (by rw [n36]; exact Nat.le_of_ble_eq_true rfl)) (fun h => absurd h (by decide)) ?_
  refine ev_icc_ge (pc := 120) (tgt := 142) dX0_init_120 (by decide) (fun _ => ?_) (fun z => absurd z (by decide))
  refine ev_iconst (pc := 142) (v := 0) dX0_init_142 rfl ?_
  refine ev_istore_1 (pc := 143) dX0_init_143 (by decide) rfl ?_
  refine ev_iload_1 (pc := 144) dX0_init_144 ?_
  refine ev_aload_0 (pc := 145) dX0_init_145 ?_
  refine ev_getqr (pc := 146) (r := 1) (i := 2) (ci := 0) (j := 10) (r2 := 27) (i2 := 2) fl_X0_42 rfl rfl dX0_init_146 (by rw [n36]; exact Nat.le_of_ble_eq_true rfl) f36.2.2.2 ?_
  refine ev_alen (pc := 149) (r := 27) (i := 2) (t := 7) (y := 2) rfl (by decide) dX0_init_149 (fun _ => (by rw [n36]; exact Nat.le_of_ble_eq_true rfl)) (fun h => absurd h (by decide)) ?_
  refine ev_icc_ge (pc := 150) (tgt := 172) dX0_init_150 (by decide) (fun z => absurd (show (0 : Int32) < 2 by decide) z) (fun _ => ?_)
  refine ev_aload_0 (pc := 153) dX0_init_153 ?_
  refine ev_getqr (pc := 154) (r := 1) (i := 2) (ci := 0) (j := 10) (r2 := 27) (i2 := 2) fl_X0_42 rfl rfl dX0_init_154 (by rw [n36]; exact Nat.le_of_ble_eq_true rfl) f36.2.2.2 ?_
  refine ev_iload_1 (pc := 157) dX0_init_157 ?_
  refine ev_new (pc := 158) (r := 6) (i := 4) (ci := 7) rfl (by decide) (by rw [n36]; rfl) wk_X0_40 wn_X7 wi_X7 dX0_init_158 ⟨Nat.le_of_ble_eq_true rfl, Nat.le_of_ble_eq_true rfl⟩ ?_
  generalize h37 : ev_mk M36 6 4 = M37
  have n37 : M37.2.2.2 = 122 := by
    rw [← h37]
    show M36.2.2.2 + 1 = 122
    rw [n36]
  have f37 : FB_ 2 M37 := by
    rw [← h37]
    exact f36
  refine ev_dup_r (pc := 161) dX0_init_161 ?_
  refine ev_ctCN (pc := 162) (host := "HelmHand") (b' := B_X7_init) (List.mem_of_getElem? (i := 4) rfl) mi_X7_init rfl dX0_init_162 ⟨⟨Nat.le_of_ble_eq_true rfl, Nat.le_of_ble_eq_true rfl⟩, Nat.le_of_ble_eq_true rfl, Nat.le_of_ble_eq_true rfl⟩ (Nat.le_of_ble_eq_true rfl) (c_X7_init (M := M37) (i := 4) (by decide) (by rw [n37]; exact Nat.le_of_ble_eq_true rfl) (by rw [n37]; rfl) (by rw [n37]; rfl)) ?_
  generalize h38 : mk_X7 4 M37 = M38
  have n38 : M38.2.2.2 = 124 := by
    rw [← h38]
    show M37.2.2.2 + 1 + 1 = 124
    rw [n37]
  have f38 : FB_ 2 M38 := by
    rw [← h38]
    exact f37
  refine ev_aast (pc := 165) (r := 27) (i := 2) (t := 7) (r2 := 6) (i2 := 4) (ci := 7) (x := 0) rfl rfl rfl (by decide) (by decide) (by decide) dX0_init_165 (by rw [n38]; exact Nat.le_of_ble_eq_true rfl) (by rw [n38]; exact Nat.le_of_ble_eq_true rfl) ?_
  generalize h39 : ev_pq M38 27 2 (0 : Int32).toNatClampNeg (some (6, 4)) = M39
  have n39 : M39.2.2.2 = 124 := by
    rw [← h39]
    show M38.2.2.2 = 124
    rw [n38]
  have f39 : FB_ 2 M39 := by
    rw [← h39]
    exact f38
  refine ev_iinc_1 (pc := 166) (y := 1) dX0_init_166 rfl (by decide) rfl ?_
  refine ev_goto (pc := 169) (tgt := 144) dX0_init_169 (by decide) ?_
  refine ev_iload_1 (pc := 144) dX0_init_144 ?_
  refine ev_aload_0 (pc := 145) dX0_init_145 ?_
  refine ev_getqr (pc := 146) (r := 1) (i := 2) (ci := 0) (j := 10) (r2 := 27) (i2 := 2) fl_X0_42 rfl rfl dX0_init_146 (by rw [n39]; exact Nat.le_of_ble_eq_true rfl) f39.2.2.2 ?_
  refine ev_alen (pc := 149) (r := 27) (i := 2) (t := 7) (y := 2) rfl (by decide) dX0_init_149 (fun _ => (by rw [n39]; exact Nat.le_of_ble_eq_true rfl)) (fun h => absurd h (by decide)) ?_
  refine ev_icc_ge (pc := 150) (tgt := 172) dX0_init_150 (by decide) (fun z => absurd (show (1 : Int32) < 2 by decide) z) (fun _ => ?_)
  refine ev_aload_0 (pc := 153) dX0_init_153 ?_
  refine ev_getqr (pc := 154) (r := 1) (i := 2) (ci := 0) (j := 10) (r2 := 27) (i2 := 2) fl_X0_42 rfl rfl dX0_init_154 (by rw [n39]; exact Nat.le_of_ble_eq_true rfl) f39.2.2.2 ?_
  refine ev_iload_1 (pc := 157) dX0_init_157 ?_
  refine ev_new (pc := 158) (r := 6) (i := 5) (ci := 7) rfl (by decide) (by rw [n39]; rfl) wk_X0_40 wn_X7 wi_X7 dX0_init_158 ⟨Nat.le_of_ble_eq_true rfl, Nat.le_of_ble_eq_true rfl⟩ ?_
  generalize h40 : ev_mk M39 6 5 = M40
  have n40 : M40.2.2.2 = 125 := by
    rw [← h40]
    show M39.2.2.2 + 1 = 125
    rw [n39]
  have f40 : FB_ 2 M40 := by
    rw [← h40]
    exact f39
  refine ev_dup_r (pc := 161) dX0_init_161 ?_
  refine ev_ctCN (pc := 162) (host := "HelmHand") (b' := B_X7_init) (List.mem_of_getElem? (i := 4) rfl) mi_X7_init rfl dX0_init_162 ⟨⟨Nat.le_of_ble_eq_true rfl, Nat.le_of_ble_eq_true rfl⟩, Nat.le_of_ble_eq_true rfl, Nat.le_of_ble_eq_true rfl⟩ (Nat.le_of_ble_eq_true rfl) (c_X7_init (M := M40) (i := 5) (by decide) (by rw [n40]; exact Nat.le_of_ble_eq_true rfl) (by rw [n40]; rfl) (by rw [n40]; rfl)) ?_
  generalize h41 : mk_X7 5 M40 = M41
  have n41 : M41.2.2.2 = 127 := by
    rw [← h41]
    show M40.2.2.2 + 1 + 1 = 127
    rw [n40]
  have f41 : FB_ 2 M41 := by
    rw [← h41]
    exact f40
  refine ev_aast (pc := 165) (r := 27) (i := 2) (t := 7) (r2 := 6) (i2 := 5) (ci := 7) (x := 1) rfl rfl rfl (by decide) (by decide) (by decide) dX0_init_165 (by rw [n41]; exact Nat.le_of_ble_eq_true rfl) (by rw [n41]; exact Nat.le_of_ble_eq_true rfl) ?_
  generalize h42 : ev_pq M41 27 2 (1 : Int32).toNatClampNeg (some (6, 5)) = M42
  have n42 : M42.2.2.2 = 127 := by
    rw [← h42]
    show M41.2.2.2 = 127
    rw [n41]
  have f42 : FB_ 2 M42 := by
    rw [← h42]
    exact f41
  refine ev_iinc_1 (pc := 166) (y := 2) dX0_init_166 rfl (by decide) rfl ?_
  refine ev_goto (pc := 169) (tgt := 144) dX0_init_169 (by decide) ?_
  refine ev_iload_1 (pc := 144) dX0_init_144 ?_
  refine ev_aload_0 (pc := 145) dX0_init_145 ?_
  refine ev_getqr (pc := 146) (r := 1) (i := 2) (ci := 0) (j := 10) (r2 := 27) (i2 := 2) fl_X0_42 rfl rfl dX0_init_146 (by rw [n42]; exact Nat.le_of_ble_eq_true rfl) f42.2.2.2 ?_
  refine ev_alen (pc := 149) (r := 27) (i := 2) (t := 7) (y := 2) rfl (by decide) dX0_init_149 (fun _ => (by rw [n42]; exact Nat.le_of_ble_eq_true rfl)) (fun h => absurd h (by decide)) ?_
  refine ev_icc_ge (pc := 150) (tgt := 172) dX0_init_150 (by decide) (fun _ => ?_) (fun z => absurd z (by decide))
  refine ev_vret (pc := 172) dX0_init_172 rfl ⟨rfl, ?_⟩
  rw [← h42, ← h41, ← h40, ← h39, ← h38, ← h37, ← h36, ← h35, ← h34, ← h33, ← h32, ← h31, ← h30, ← h29, ← h28, ← h27, ← h26, ← h25, ← h24, ← h23, ← h22, ← h21, ← h20, ← h19, ← h18, ← h17, ← h16, ← h15, ← h14, ← h13, ← h12, ← h11, ← h10, ← h9, ← h8, ← h7, ← h6, ← h5, ← h4, ← h3, ← h2, ← h1]
  rfl
def mk_X0_3 (M : ev_M) : ev_M := (ev_pq (mk_X7 7 (ev_mk (ev_pq (mk_X7 6 (ev_mk (ev_pq (mk_X3 7 (ev_mk (ev_pq (mk_X3 6 (ev_mk (ev_pq (mk_X1 15 (ev_mk (ev_pq (mk_X1 14 (ev_mk (ev_pq (mk_X1 13 (ev_mk (ev_pq (mk_X1 12 (ev_mk (ev_pq (mk_X5 7 (ev_mk (ev_pq (mk_X5 6 (ev_mk (ev_pq (ev_mk (ev_pq (ev_mk (ev_pq (ev_mk (ev_pq (ev_mk (ev_pi (ev_pq (mk_X6 3 (ev_mk M 2 3)) 1 3 0 (some (2, 3))) 1 3 2 (-1)) 24 3) 1 3 7 (some (24, 3))) 25 3) 1 3 8 (some (25, 3))) 26 3) 1 3 9 (some (26, 3))) 27 3) 1 3 10 (some (27, 3))) 3 6)) 24 3 0 (some (3, 6))) 3 7)) 24 3 1 (some (3, 7))) 4 12)) 25 3 0 (some (4, 12))) 4 13)) 25 3 1 (some (4, 13))) 4 14)) 25 3 2 (some (4, 14))) 4 15)) 25 3 3 (some (4, 15))) 5 6)) 26 3 0 (some (5, 6))) 5 7)) 26 3 1 (some (5, 7))) 6 6)) 27 3 0 (some (6, 6))) 6 7)) 27 3 1 (some (6, 7)))
set_option maxRecDepth 20000 in
set_option maxHeartbeats 4000000 in
theorem c_X0_init_3 {G : ev_G} {M : ev_M} (n0 : M.2.2.2 = 128) : ev_CI G K_X0_init B_X0_init 1 3 M (mk_X0_3 M) := by
  refine ev_Ct_of (L0 := [some (vr 1 3), none]) rfl rfl (Nat.le_of_ble_eq_true rfl) ?_
  refine ev_aload_0 (pc := 0) dX0_init_0 ?_
  refine ev_oini (pc := 1) wl_X0_3 wo_in wo_co ⟨Nat.le_of_ble_eq_true rfl, Nat.le_of_ble_eq_true rfl⟩ (Nat.le_of_ble_eq_true rfl) dX0_init_1 ?_
  refine ev_aload_0 (pc := 4) dX0_init_4 ?_
  refine ev_new (pc := 5) (r := 2) (i := 3) (ci := 6) rfl (by decide) (by rw [n0]; rfl) wk_X0_9 wn_X6 wi_X6 dX0_init_5 ⟨Nat.le_of_ble_eq_true rfl, Nat.le_of_ble_eq_true rfl⟩ ?_
  generalize h1 : ev_mk M 2 3 = M1
  have n1 : M1.2.2.2 = 129 := by
    rw [← h1]
    show M.2.2.2 + 1 = 129
    rw [n0]
  refine ev_dup_r (pc := 8) dX0_init_8 ?_
  refine ev_ctCN (pc := 9) (host := "HelmHand") (b' := B_X6_init) (List.mem_of_getElem? (i := 0) rfl) mi_X6_init rfl dX0_init_9 ⟨⟨Nat.le_of_ble_eq_true rfl, Nat.le_of_ble_eq_true rfl⟩, Nat.le_of_ble_eq_true rfl, Nat.le_of_ble_eq_true rfl⟩ (Nat.le_of_ble_eq_true rfl) (c_X6_init (M := M1) (i := 3) (by decide) (by rw [n1]; exact Nat.le_of_ble_eq_true rfl) (by rw [n1]; rfl)) ?_
  generalize h2 : mk_X6 3 M1 = M2
  have n2 : M2.2.2.2 = 130 := by
    rw [← h2]
    show M1.2.2.2 + 1 = 130
    rw [n1]
  refine ev_putq (pc := 12) (r := 1) (i := 3) (ci := 0) (j := 0) (o := some (2, 3)) fl_X0_12 rfl rfl (Or.inr ⟨rfl, rfl, rfl⟩) (Or.inl ⟨_, rfl⟩) dX0_init_12 (by rw [n2]; exact Nat.le_of_ble_eq_true rfl) ?_
  generalize h3 : ev_pq M2 1 3 0 (some (2, 3)) = M3
  have n3 : M3.2.2.2 = 130 := by
    rw [← h3]
    show M2.2.2.2 = 130
    rw [n2]
  refine ev_aload_0 (pc := 15) dX0_init_15 ?_
  refine ev_iconst (pc := 16) (v := (-1)) dX0_init_16 rfl ?_
  refine ev_puti (pc := 17) (r := 1) (i := 3) (ci := 0) (j := 2) (x := (-1)) fl_X0_18 rfl rfl rfl rfl rfl dX0_init_17 (by rw [n3]; exact Nat.le_of_ble_eq_true rfl) ?_
  generalize h4 : ev_pi M3 1 3 2 (-1) = M4
  have n4 : M4.2.2.2 = 130 := by
    rw [← h4]
    show M3.2.2.2 = 130
    rw [n3]
  refine ev_aload_0 (pc := 20) dX0_init_20 ?_
  refine ev_iconst (pc := 21) (v := 2) dX0_init_21 rfl ?_
  refine ev_newq (pc := 22) (r := 24) (i := 3) (t := 4) (C := "HelmHand$Ship") rfl (by decide) (by decide) (by decide) (by rw [n4]; rfl) (by decide) rfl (by decide) wk_X0_22 (by decide) (by decide) (Nat.le_of_ble_eq_true rfl) dX0_init_22 ⟨Nat.le_of_ble_eq_true rfl, Nat.le_of_ble_eq_true rfl⟩ ?_
  generalize h5 : ev_mk M4 24 3 = M5
  have n5 : M5.2.2.2 = 131 := by
    rw [← h5]
    show M4.2.2.2 + 1 = 131
    rw [n4]
  refine ev_putq (pc := 25) (r := 1) (i := 3) (ci := 0) (j := 7) (o := some (24, 3)) fl_X0_24 rfl rfl (Or.inr ⟨rfl, rfl, rfl⟩) (Or.inr ⟨_, rfl⟩) dX0_init_25 (by rw [n5]; exact Nat.le_of_ble_eq_true rfl) ?_
  generalize h6 : ev_pq M5 1 3 7 (some (24, 3)) = M6
  have n6 : M6.2.2.2 = 131 := by
    rw [← h6]
    show M5.2.2.2 = 131
    rw [n5]
  refine ev_aload_0 (pc := 28) dX0_init_28 ?_
  refine ev_iconst (pc := 29) (v := 4) dX0_init_29 rfl ?_
  refine ev_newq (pc := 30) (r := 25) (i := 3) (t := 5) (C := "HelmHand$Hand") rfl (by decide) (by decide) (by decide) (by rw [n6]; rfl) (by decide) rfl (by decide) wk_X0_28 (by decide) (by decide) (Nat.le_of_ble_eq_true rfl) dX0_init_30 ⟨Nat.le_of_ble_eq_true rfl, Nat.le_of_ble_eq_true rfl⟩ ?_
  generalize h7 : ev_mk M6 25 3 = M7
  have n7 : M7.2.2.2 = 132 := by
    rw [← h7]
    show M6.2.2.2 + 1 = 132
    rw [n6]
  refine ev_putq (pc := 33) (r := 1) (i := 3) (ci := 0) (j := 8) (o := some (25, 3)) fl_X0_30 rfl rfl (Or.inr ⟨rfl, rfl, rfl⟩) (Or.inr ⟨_, rfl⟩) dX0_init_33 (by rw [n7]; exact Nat.le_of_ble_eq_true rfl) ?_
  generalize h8 : ev_pq M7 1 3 8 (some (25, 3)) = M8
  have n8 : M8.2.2.2 = 132 := by
    rw [← h8]
    show M7.2.2.2 = 132
    rw [n7]
  refine ev_aload_0 (pc := 36) dX0_init_36 ?_
  refine ev_iconst (pc := 37) (v := 2) dX0_init_37 rfl ?_
  refine ev_newq (pc := 38) (r := 26) (i := 3) (t := 6) (C := "HelmHand$Paper") rfl (by decide) (by decide) (by decide) (by rw [n8]; rfl) (by decide) rfl (by decide) wk_X0_34 (by decide) (by decide) (Nat.le_of_ble_eq_true rfl) dX0_init_38 ⟨Nat.le_of_ble_eq_true rfl, Nat.le_of_ble_eq_true rfl⟩ ?_
  generalize h9 : ev_mk M8 26 3 = M9
  have n9 : M9.2.2.2 = 133 := by
    rw [← h9]
    show M8.2.2.2 + 1 = 133
    rw [n8]
  refine ev_putq (pc := 41) (r := 1) (i := 3) (ci := 0) (j := 9) (o := some (26, 3)) fl_X0_36 rfl rfl (Or.inr ⟨rfl, rfl, rfl⟩) (Or.inr ⟨_, rfl⟩) dX0_init_41 (by rw [n9]; exact Nat.le_of_ble_eq_true rfl) ?_
  generalize h10 : ev_pq M9 1 3 9 (some (26, 3)) = M10
  have n10 : M10.2.2.2 = 133 := by
    rw [← h10]
    show M9.2.2.2 = 133
    rw [n9]
  refine ev_aload_0 (pc := 44) dX0_init_44 ?_
  refine ev_iconst (pc := 45) (v := 2) dX0_init_45 rfl ?_
  refine ev_newq (pc := 46) (r := 27) (i := 3) (t := 7) (C := "HelmHand$Watch") rfl (by decide) (by decide) (by decide) (by rw [n10]; rfl) (by decide) rfl (by decide) wk_X0_40 (by decide) (by decide) (Nat.le_of_ble_eq_true rfl) dX0_init_46 ⟨Nat.le_of_ble_eq_true rfl, Nat.le_of_ble_eq_true rfl⟩ ?_
  generalize h11 : ev_mk M10 27 3 = M11
  have n11 : M11.2.2.2 = 134 := by
    rw [← h11]
    show M10.2.2.2 + 1 = 134
    rw [n10]
  refine ev_putq (pc := 49) (r := 1) (i := 3) (ci := 0) (j := 10) (o := some (27, 3)) fl_X0_42 rfl rfl (Or.inr ⟨rfl, rfl, rfl⟩) (Or.inr ⟨_, rfl⟩) dX0_init_49 (by rw [n11]; exact Nat.le_of_ble_eq_true rfl) ?_
  generalize h12 : ev_pq M11 1 3 10 (some (27, 3)) = M12
  have n12 : M12.2.2.2 = 134 := by
    rw [← h12]
    show M11.2.2.2 = 134
    rw [n11]
  have f12 : FB_ 3 M12 := by
    rw [← h12, ← h11, ← h10, ← h9, ← h8, ← h7, ← h6, ← h5, ← h4, ← h3, ← h2, ← h1]
    exact ⟨rfl, rfl, rfl, rfl⟩
  refine ev_iconst (pc := 52) (v := 0) dX0_init_52 rfl ?_
  refine ev_istore_1 (pc := 53) dX0_init_53 (by decide) rfl ?_
  refine ev_iload_1 (pc := 54) dX0_init_54 ?_
  refine ev_aload_0 (pc := 55) dX0_init_55 ?_
  refine ev_getqr (pc := 56) (r := 1) (i := 3) (ci := 0) (j := 7) (r2 := 24) (i2 := 3) fl_X0_24 rfl rfl dX0_init_56 (by rw [n12]; exact Nat.le_of_ble_eq_true rfl) f12.1 ?_
  refine ev_alen (pc := 59) (r := 24) (i := 3) (t := 4) (y := 2) rfl (by decide) dX0_init_59 (fun _ => (by rw [n12]; exact Nat.le_of_ble_eq_true rfl)) (fun h => absurd h (by decide)) ?_
  refine ev_icc_ge (pc := 60) (tgt := 82) dX0_init_60 (by decide) (fun z => absurd (show (0 : Int32) < 2 by decide) z) (fun _ => ?_)
  refine ev_aload_0 (pc := 63) dX0_init_63 ?_
  refine ev_getqr (pc := 64) (r := 1) (i := 3) (ci := 0) (j := 7) (r2 := 24) (i2 := 3) fl_X0_24 rfl rfl dX0_init_64 (by rw [n12]; exact Nat.le_of_ble_eq_true rfl) f12.1 ?_
  refine ev_iload_1 (pc := 67) dX0_init_67 ?_
  refine ev_new (pc := 68) (r := 3) (i := 6) (ci := 5) rfl (by decide) (by rw [n12]; rfl) wk_X0_22 wn_X5 wi_X5 dX0_init_68 ⟨Nat.le_of_ble_eq_true rfl, Nat.le_of_ble_eq_true rfl⟩ ?_
  generalize h13 : ev_mk M12 3 6 = M13
  have n13 : M13.2.2.2 = 135 := by
    rw [← h13]
    show M12.2.2.2 + 1 = 135
    rw [n12]
  have f13 : FB_ 3 M13 := by
    rw [← h13]
    exact f12
  refine ev_dup_r (pc := 71) dX0_init_71 ?_
  refine ev_ctCN (pc := 72) (host := "HelmHand") (b' := B_X5_init) (List.mem_of_getElem? (i := 1) rfl) mi_X5_init rfl dX0_init_72 ⟨⟨Nat.le_of_ble_eq_true rfl, Nat.le_of_ble_eq_true rfl⟩, Nat.le_of_ble_eq_true rfl, Nat.le_of_ble_eq_true rfl⟩ (Nat.le_of_ble_eq_true rfl) (c_X5_init (M := M13) (i := 6) (by decide) (by rw [n13]; exact Nat.le_of_ble_eq_true rfl) (by rw [n13]; rfl)) ?_
  generalize h14 : mk_X5 6 M13 = M14
  have n14 : M14.2.2.2 = 136 := by
    rw [← h14]
    show M13.2.2.2 + 1 = 136
    rw [n13]
  have f14 : FB_ 3 M14 := by
    rw [← h14]
    exact f13
  refine ev_aast (pc := 75) (r := 24) (i := 3) (t := 4) (r2 := 3) (i2 := 6) (ci := 5) (x := 0) rfl rfl rfl (by decide) (by decide) (by decide) dX0_init_75 (by rw [n14]; exact Nat.le_of_ble_eq_true rfl) (by rw [n14]; exact Nat.le_of_ble_eq_true rfl) ?_
  generalize h15 : ev_pq M14 24 3 (0 : Int32).toNatClampNeg (some (3, 6)) = M15
  have n15 : M15.2.2.2 = 136 := by
    rw [← h15]
    show M14.2.2.2 = 136
    rw [n14]
  have f15 : FB_ 3 M15 := by
    rw [← h15]
    exact f14
  refine ev_iinc_1 (pc := 76) (y := 1) dX0_init_76 rfl (by decide) rfl ?_
  refine ev_goto (pc := 79) (tgt := 54) dX0_init_79 (by decide) ?_
  refine ev_iload_1 (pc := 54) dX0_init_54 ?_
  refine ev_aload_0 (pc := 55) dX0_init_55 ?_
  refine ev_getqr (pc := 56) (r := 1) (i := 3) (ci := 0) (j := 7) (r2 := 24) (i2 := 3) fl_X0_24 rfl rfl dX0_init_56 (by rw [n15]; exact Nat.le_of_ble_eq_true rfl) f15.1 ?_
  refine ev_alen (pc := 59) (r := 24) (i := 3) (t := 4) (y := 2) rfl (by decide) dX0_init_59 (fun _ => (by rw [n15]; exact Nat.le_of_ble_eq_true rfl)) (fun h => absurd h (by decide)) ?_
  refine ev_icc_ge (pc := 60) (tgt := 82) dX0_init_60 (by decide) (fun z => absurd (show (1 : Int32) < 2 by decide) z) (fun _ => ?_)
  refine ev_aload_0 (pc := 63) dX0_init_63 ?_
  refine ev_getqr (pc := 64) (r := 1) (i := 3) (ci := 0) (j := 7) (r2 := 24) (i2 := 3) fl_X0_24 rfl rfl dX0_init_64 (by rw [n15]; exact Nat.le_of_ble_eq_true rfl) f15.1 ?_
  refine ev_iload_1 (pc := 67) dX0_init_67 ?_
  refine ev_new (pc := 68) (r := 3) (i := 7) (ci := 5) rfl (by decide) (by rw [n15]; rfl) wk_X0_22 wn_X5 wi_X5 dX0_init_68 ⟨Nat.le_of_ble_eq_true rfl, Nat.le_of_ble_eq_true rfl⟩ ?_
  generalize h16 : ev_mk M15 3 7 = M16
  have n16 : M16.2.2.2 = 137 := by
    rw [← h16]
    show M15.2.2.2 + 1 = 137
    rw [n15]
  have f16 : FB_ 3 M16 := by
    rw [← h16]
    exact f15
  refine ev_dup_r (pc := 71) dX0_init_71 ?_
  refine ev_ctCN (pc := 72) (host := "HelmHand") (b' := B_X5_init) (List.mem_of_getElem? (i := 1) rfl) mi_X5_init rfl dX0_init_72 ⟨⟨Nat.le_of_ble_eq_true rfl, Nat.le_of_ble_eq_true rfl⟩, Nat.le_of_ble_eq_true rfl, Nat.le_of_ble_eq_true rfl⟩ (Nat.le_of_ble_eq_true rfl) (c_X5_init (M := M16) (i := 7) (by decide) (by rw [n16]; exact Nat.le_of_ble_eq_true rfl) (by rw [n16]; rfl)) ?_
  generalize h17 : mk_X5 7 M16 = M17
  have n17 : M17.2.2.2 = 138 := by
    rw [← h17]
    show M16.2.2.2 + 1 = 138
    rw [n16]
  have f17 : FB_ 3 M17 := by
    rw [← h17]
    exact f16
  refine ev_aast (pc := 75) (r := 24) (i := 3) (t := 4) (r2 := 3) (i2 := 7) (ci := 5) (x := 1) rfl rfl rfl (by decide) (by decide) (by decide) dX0_init_75 (by rw [n17]; exact Nat.le_of_ble_eq_true rfl) (by rw [n17]; exact Nat.le_of_ble_eq_true rfl) ?_
  generalize h18 : ev_pq M17 24 3 (1 : Int32).toNatClampNeg (some (3, 7)) = M18
  have n18 : M18.2.2.2 = 138 := by
    rw [← h18]
    show M17.2.2.2 = 138
    rw [n17]
  have f18 : FB_ 3 M18 := by
    rw [← h18]
    exact f17
  refine ev_iinc_1 (pc := 76) (y := 2) dX0_init_76 rfl (by decide) rfl ?_
  refine ev_goto (pc := 79) (tgt := 54) dX0_init_79 (by decide) ?_
  refine ev_iload_1 (pc := 54) dX0_init_54 ?_
  refine ev_aload_0 (pc := 55) dX0_init_55 ?_
  refine ev_getqr (pc := 56) (r := 1) (i := 3) (ci := 0) (j := 7) (r2 := 24) (i2 := 3) fl_X0_24 rfl rfl dX0_init_56 (by rw [n18]; exact Nat.le_of_ble_eq_true rfl) f18.1 ?_
  refine ev_alen (pc := 59) (r := 24) (i := 3) (t := 4) (y := 2) rfl (by decide) dX0_init_59 (fun _ => (by rw [n18]; exact Nat.le_of_ble_eq_true rfl)) (fun h => absurd h (by decide)) ?_
  refine ev_icc_ge (pc := 60) (tgt := 82) dX0_init_60 (by decide) (fun _ => ?_) (fun z => absurd z (by decide))
  refine ev_iconst (pc := 82) (v := 0) dX0_init_82 rfl ?_
  refine ev_istore_1 (pc := 83) dX0_init_83 (by decide) rfl ?_
  refine ev_iload_1 (pc := 84) dX0_init_84 ?_
  refine ev_aload_0 (pc := 85) dX0_init_85 ?_
  refine ev_getqr (pc := 86) (r := 1) (i := 3) (ci := 0) (j := 8) (r2 := 25) (i2 := 3) fl_X0_30 rfl rfl dX0_init_86 (by rw [n18]; exact Nat.le_of_ble_eq_true rfl) f18.2.1 ?_
  refine ev_alen (pc := 89) (r := 25) (i := 3) (t := 5) (y := 4) rfl (by decide) dX0_init_89 (fun _ => (by rw [n18]; exact Nat.le_of_ble_eq_true rfl)) (fun h => absurd h (by decide)) ?_
  refine ev_icc_ge (pc := 90) (tgt := 112) dX0_init_90 (by decide) (fun z => absurd (show (0 : Int32) < 4 by decide) z) (fun _ => ?_)
  refine ev_aload_0 (pc := 93) dX0_init_93 ?_
  refine ev_getqr (pc := 94) (r := 1) (i := 3) (ci := 0) (j := 8) (r2 := 25) (i2 := 3) fl_X0_30 rfl rfl dX0_init_94 (by rw [n18]; exact Nat.le_of_ble_eq_true rfl) f18.2.1 ?_
  refine ev_iload_1 (pc := 97) dX0_init_97 ?_
  refine ev_new (pc := 98) (r := 4) (i := 12) (ci := 1) rfl (by decide) (by rw [n18]; rfl) wk_X0_28 wn_X1 wi_X1 dX0_init_98 ⟨Nat.le_of_ble_eq_true rfl, Nat.le_of_ble_eq_true rfl⟩ ?_
  generalize h19 : ev_mk M18 4 12 = M19
  have n19 : M19.2.2.2 = 139 := by
    rw [← h19]
    show M18.2.2.2 + 1 = 139
    rw [n18]
  have f19 : FB_ 3 M19 := by
    rw [← h19]
    exact f18
  refine ev_dup_r (pc := 101) dX0_init_101 ?_
  refine ev_ctCN (pc := 102) (host := "HelmHand") (b' := B_X1_init) (List.mem_of_getElem? (i := 2) rfl) mi_X1_init rfl dX0_init_102 ⟨⟨Nat.le_of_ble_eq_true rfl, Nat.le_of_ble_eq_true rfl⟩, Nat.le_of_ble_eq_true rfl, Nat.le_of_ble_eq_true rfl⟩ (Nat.le_of_ble_eq_true rfl) (c_X1_init (M := M19) (i := 12) (by decide) (by rw [n19]; exact Nat.le_of_ble_eq_true rfl) (by rw [n19]; rfl) (by rw [n19]; rfl)) ?_
  generalize h20 : mk_X1 12 M19 = M20
  have n20 : M20.2.2.2 = 141 := by
    rw [← h20]
    show M19.2.2.2 + 1 + 1 = 141
    rw [n19]
  have f20 : FB_ 3 M20 := by
    rw [← h20]
    exact f19
  refine ev_aast (pc := 105) (r := 25) (i := 3) (t := 5) (r2 := 4) (i2 := 12) (ci := 1) (x := 0) rfl rfl rfl (by decide) (by decide) (by decide) dX0_init_105 (by rw [n20]; exact Nat.le_of_ble_eq_true rfl) (by rw [n20]; exact Nat.le_of_ble_eq_true rfl) ?_
  generalize h21 : ev_pq M20 25 3 (0 : Int32).toNatClampNeg (some (4, 12)) = M21
  have n21 : M21.2.2.2 = 141 := by
    rw [← h21]
    show M20.2.2.2 = 141
    rw [n20]
  have f21 : FB_ 3 M21 := by
    rw [← h21]
    exact f20
  refine ev_iinc_1 (pc := 106) (y := 1) dX0_init_106 rfl (by decide) rfl ?_
  refine ev_goto (pc := 109) (tgt := 84) dX0_init_109 (by decide) ?_
  refine ev_iload_1 (pc := 84) dX0_init_84 ?_
  refine ev_aload_0 (pc := 85) dX0_init_85 ?_
  refine ev_getqr (pc := 86) (r := 1) (i := 3) (ci := 0) (j := 8) (r2 := 25) (i2 := 3) fl_X0_30 rfl rfl dX0_init_86 (by rw [n21]; exact Nat.le_of_ble_eq_true rfl) f21.2.1 ?_
  refine ev_alen (pc := 89) (r := 25) (i := 3) (t := 5) (y := 4) rfl (by decide) dX0_init_89 (fun _ => (by rw [n21]; exact Nat.le_of_ble_eq_true rfl)) (fun h => absurd h (by decide)) ?_
  refine ev_icc_ge (pc := 90) (tgt := 112) dX0_init_90 (by decide) (fun z => absurd (show (1 : Int32) < 4 by decide) z) (fun _ => ?_)
  refine ev_aload_0 (pc := 93) dX0_init_93 ?_
  refine ev_getqr (pc := 94) (r := 1) (i := 3) (ci := 0) (j := 8) (r2 := 25) (i2 := 3) fl_X0_30 rfl rfl dX0_init_94 (by rw [n21]; exact Nat.le_of_ble_eq_true rfl) f21.2.1 ?_
  refine ev_iload_1 (pc := 97) dX0_init_97 ?_
  refine ev_new (pc := 98) (r := 4) (i := 13) (ci := 1) rfl (by decide) (by rw [n21]; rfl) wk_X0_28 wn_X1 wi_X1 dX0_init_98 ⟨Nat.le_of_ble_eq_true rfl, Nat.le_of_ble_eq_true rfl⟩ ?_
  generalize h22 : ev_mk M21 4 13 = M22
  have n22 : M22.2.2.2 = 142 := by
    rw [← h22]
    show M21.2.2.2 + 1 = 142
    rw [n21]
  have f22 : FB_ 3 M22 := by
    rw [← h22]
    exact f21
  refine ev_dup_r (pc := 101) dX0_init_101 ?_
  refine ev_ctCN (pc := 102) (host := "HelmHand") (b' := B_X1_init) (List.mem_of_getElem? (i := 2) rfl) mi_X1_init rfl dX0_init_102 ⟨⟨Nat.le_of_ble_eq_true rfl, Nat.le_of_ble_eq_true rfl⟩, Nat.le_of_ble_eq_true rfl, Nat.le_of_ble_eq_true rfl⟩ (Nat.le_of_ble_eq_true rfl) (c_X1_init (M := M22) (i := 13) (by decide) (by rw [n22]; exact Nat.le_of_ble_eq_true rfl) (by rw [n22]; rfl) (by rw [n22]; rfl)) ?_
  generalize h23 : mk_X1 13 M22 = M23
  have n23 : M23.2.2.2 = 144 := by
    rw [← h23]
    show M22.2.2.2 + 1 + 1 = 144
    rw [n22]
  have f23 : FB_ 3 M23 := by
    rw [← h23]
    exact f22
  refine ev_aast (pc := 105) (r := 25) (i := 3) (t := 5) (r2 := 4) (i2 := 13) (ci := 1) (x := 1) rfl rfl rfl (by decide) (by decide) (by decide) dX0_init_105 (by rw [n23]; exact Nat.le_of_ble_eq_true rfl) (by rw [n23]; exact Nat.le_of_ble_eq_true rfl) ?_
  generalize h24 : ev_pq M23 25 3 (1 : Int32).toNatClampNeg (some (4, 13)) = M24
  have n24 : M24.2.2.2 = 144 := by
    rw [← h24]
    show M23.2.2.2 = 144
    rw [n23]
  have f24 : FB_ 3 M24 := by
    rw [← h24]
    exact f23
  refine ev_iinc_1 (pc := 106) (y := 2) dX0_init_106 rfl (by decide) rfl ?_
  refine ev_goto (pc := 109) (tgt := 84) dX0_init_109 (by decide) ?_
  refine ev_iload_1 (pc := 84) dX0_init_84 ?_
  refine ev_aload_0 (pc := 85) dX0_init_85 ?_
  refine ev_getqr (pc := 86) (r := 1) (i := 3) (ci := 0) (j := 8) (r2 := 25) (i2 := 3) fl_X0_30 rfl rfl dX0_init_86 (by rw [n24]; exact Nat.le_of_ble_eq_true rfl) f24.2.1 ?_
  refine ev_alen (pc := 89) (r := 25) (i := 3) (t := 5) (y := 4) rfl (by decide) dX0_init_89 (fun _ => (by rw [n24]; exact Nat.le_of_ble_eq_true rfl)) (fun h => absurd h (by decide)) ?_
  refine ev_icc_ge (pc := 90) (tgt := 112) dX0_init_90 (by decide) (fun z => absurd (show (2 : Int32) < 4 by decide) z) (fun _ => ?_)
  refine ev_aload_0 (pc := 93) dX0_init_93 ?_
  refine ev_getqr (pc := 94) (r := 1) (i := 3) (ci := 0) (j := 8) (r2 := 25) (i2 := 3) fl_X0_30 rfl rfl dX0_init_94 (by rw [n24]; exact Nat.le_of_ble_eq_true rfl) f24.2.1 ?_
  refine ev_iload_1 (pc := 97) dX0_init_97 ?_
  refine ev_new (pc := 98) (r := 4) (i := 14) (ci := 1) rfl (by decide) (by rw [n24]; rfl) wk_X0_28 wn_X1 wi_X1 dX0_init_98 ⟨Nat.le_of_ble_eq_true rfl, Nat.le_of_ble_eq_true rfl⟩ ?_
  generalize h25 : ev_mk M24 4 14 = M25
  have n25 : M25.2.2.2 = 145 := by
    rw [← h25]
    show M24.2.2.2 + 1 = 145
    rw [n24]
  have f25 : FB_ 3 M25 := by
    rw [← h25]
    exact f24
  refine ev_dup_r (pc := 101) dX0_init_101 ?_
  refine ev_ctCN (pc := 102) (host := "HelmHand") (b' := B_X1_init) (List.mem_of_getElem? (i := 2) rfl) mi_X1_init rfl dX0_init_102 ⟨⟨Nat.le_of_ble_eq_true rfl, Nat.le_of_ble_eq_true rfl⟩, Nat.le_of_ble_eq_true rfl, Nat.le_of_ble_eq_true rfl⟩ (Nat.le_of_ble_eq_true rfl) (c_X1_init (M := M25) (i := 14) (by decide) (by rw [n25]; exact Nat.le_of_ble_eq_true rfl) (by rw [n25]; rfl) (by rw [n25]; rfl)) ?_
  generalize h26 : mk_X1 14 M25 = M26
  have n26 : M26.2.2.2 = 147 := by
    rw [← h26]
    show M25.2.2.2 + 1 + 1 = 147
    rw [n25]
  have f26 : FB_ 3 M26 := by
    rw [← h26]
    exact f25
  refine ev_aast (pc := 105) (r := 25) (i := 3) (t := 5) (r2 := 4) (i2 := 14) (ci := 1) (x := 2) rfl rfl rfl (by decide) (by decide) (by decide) dX0_init_105 (by rw [n26]; exact Nat.le_of_ble_eq_true rfl) (by rw [n26]; exact Nat.le_of_ble_eq_true rfl) ?_
  generalize h27 : ev_pq M26 25 3 (2 : Int32).toNatClampNeg (some (4, 14)) = M27
  have n27 : M27.2.2.2 = 147 := by
    rw [← h27]
    show M26.2.2.2 = 147
    rw [n26]
  have f27 : FB_ 3 M27 := by
    rw [← h27]
    exact f26
  refine ev_iinc_1 (pc := 106) (y := 3) dX0_init_106 rfl (by decide) rfl ?_
  refine ev_goto (pc := 109) (tgt := 84) dX0_init_109 (by decide) ?_
  refine ev_iload_1 (pc := 84) dX0_init_84 ?_
  refine ev_aload_0 (pc := 85) dX0_init_85 ?_
  refine ev_getqr (pc := 86) (r := 1) (i := 3) (ci := 0) (j := 8) (r2 := 25) (i2 := 3) fl_X0_30 rfl rfl dX0_init_86 (by rw [n27]; exact Nat.le_of_ble_eq_true rfl) f27.2.1 ?_
  refine ev_alen (pc := 89) (r := 25) (i := 3) (t := 5) (y := 4) rfl (by decide) dX0_init_89 (fun _ => (by rw [n27]; exact Nat.le_of_ble_eq_true rfl)) (fun h => absurd h (by decide)) ?_
  refine ev_icc_ge (pc := 90) (tgt := 112) dX0_init_90 (by decide) (fun z => absurd (show (3 : Int32) < 4 by decide) z) (fun _ => ?_)
  refine ev_aload_0 (pc := 93) dX0_init_93 ?_
  refine ev_getqr (pc := 94) (r := 1) (i := 3) (ci := 0) (j := 8) (r2 := 25) (i2 := 3) fl_X0_30 rfl rfl dX0_init_94 (by rw [n27]; exact Nat.le_of_ble_eq_true rfl) f27.2.1 ?_
  refine ev_iload_1 (pc := 97) dX0_init_97 ?_
  refine ev_new (pc := 98) (r := 4) (i := 15) (ci := 1) rfl (by decide) (by rw [n27]; rfl) wk_X0_28 wn_X1 wi_X1 dX0_init_98 ⟨Nat.le_of_ble_eq_true rfl, Nat.le_of_ble_eq_true rfl⟩ ?_
  generalize h28 : ev_mk M27 4 15 = M28
  have n28 : M28.2.2.2 = 148 := by
    rw [← h28]
    show M27.2.2.2 + 1 = 148
    rw [n27]
  have f28 : FB_ 3 M28 := by
    rw [← h28]
    exact f27
  refine ev_dup_r (pc := 101) dX0_init_101 ?_
  refine ev_ctCN (pc := 102) (host := "HelmHand") (b' := B_X1_init) (List.mem_of_getElem? (i := 2) rfl) mi_X1_init rfl dX0_init_102 ⟨⟨Nat.le_of_ble_eq_true rfl, Nat.le_of_ble_eq_true rfl⟩, Nat.le_of_ble_eq_true rfl, Nat.le_of_ble_eq_true rfl⟩ (Nat.le_of_ble_eq_true rfl) (c_X1_init (M := M28) (i := 15) (by decide) (by rw [n28]; exact Nat.le_of_ble_eq_true rfl) (by rw [n28]; rfl) (by rw [n28]; rfl)) ?_
  generalize h29 : mk_X1 15 M28 = M29
  have n29 : M29.2.2.2 = 150 := by
    rw [← h29]
    show M28.2.2.2 + 1 + 1 = 150
    rw [n28]
  have f29 : FB_ 3 M29 := by
    rw [← h29]
    exact f28
  refine ev_aast (pc := 105) (r := 25) (i := 3) (t := 5) (r2 := 4) (i2 := 15) (ci := 1) (x := 3) rfl rfl rfl (by decide) (by decide) (by decide) dX0_init_105 (by rw [n29]; exact Nat.le_of_ble_eq_true rfl) (by rw [n29]; exact Nat.le_of_ble_eq_true rfl) ?_
  generalize h30 : ev_pq M29 25 3 (3 : Int32).toNatClampNeg (some (4, 15)) = M30
  have n30 : M30.2.2.2 = 150 := by
    rw [← h30]
    show M29.2.2.2 = 150
    rw [n29]
  have f30 : FB_ 3 M30 := by
    rw [← h30]
    exact f29
  refine ev_iinc_1 (pc := 106) (y := 4) dX0_init_106 rfl (by decide) rfl ?_
  refine ev_goto (pc := 109) (tgt := 84) dX0_init_109 (by decide) ?_
  refine ev_iload_1 (pc := 84) dX0_init_84 ?_
  refine ev_aload_0 (pc := 85) dX0_init_85 ?_
  refine ev_getqr (pc := 86) (r := 1) (i := 3) (ci := 0) (j := 8) (r2 := 25) (i2 := 3) fl_X0_30 rfl rfl dX0_init_86 (by rw [n30]; exact Nat.le_of_ble_eq_true rfl) f30.2.1 ?_
  refine ev_alen (pc := 89) (r := 25) (i := 3) (t := 5) (y := 4) rfl (by decide) dX0_init_89 (fun _ => (by rw [n30]; exact Nat.le_of_ble_eq_true rfl)) (fun h => absurd h (by decide)) ?_
  refine ev_icc_ge (pc := 90) (tgt := 112) dX0_init_90 (by decide) (fun _ => ?_) (fun z => absurd z (by decide))
  refine ev_iconst (pc := 112) (v := 0) dX0_init_112 rfl ?_
  refine ev_istore_1 (pc := 113) dX0_init_113 (by decide) rfl ?_
  refine ev_iload_1 (pc := 114) dX0_init_114 ?_
  refine ev_aload_0 (pc := 115) dX0_init_115 ?_
  refine ev_getqr (pc := 116) (r := 1) (i := 3) (ci := 0) (j := 9) (r2 := 26) (i2 := 3) fl_X0_36 rfl rfl dX0_init_116 (by rw [n30]; exact Nat.le_of_ble_eq_true rfl) f30.2.2.1 ?_
  refine ev_alen (pc := 119) (r := 26) (i := 3) (t := 6) (y := 2) rfl (by decide) dX0_init_119 (fun _ => (by rw [n30]; exact Nat.le_of_ble_eq_true rfl)) (fun h => absurd h (by decide)) ?_
  refine ev_icc_ge (pc := 120) (tgt := 142) dX0_init_120 (by decide) (fun z => absurd (show (0 : Int32) < 2 by decide) z) (fun _ => ?_)
  refine ev_aload_0 (pc := 123) dX0_init_123 ?_
  refine ev_getqr (pc := 124) (r := 1) (i := 3) (ci := 0) (j := 9) (r2 := 26) (i2 := 3) fl_X0_36 rfl rfl dX0_init_124 (by rw [n30]; exact Nat.le_of_ble_eq_true rfl) f30.2.2.1 ?_
  refine ev_iload_1 (pc := 127) dX0_init_127 ?_
  refine ev_new (pc := 128) (r := 5) (i := 6) (ci := 3) rfl (by decide) (by rw [n30]; rfl) wk_X0_34 wn_X3 wi_X3 dX0_init_128 ⟨Nat.le_of_ble_eq_true rfl, Nat.le_of_ble_eq_true rfl⟩ ?_
  generalize h31 : ev_mk M30 5 6 = M31
  have n31 : M31.2.2.2 = 151 := by
    rw [← h31]
    show M30.2.2.2 + 1 = 151
    rw [n30]
  have f31 : FB_ 3 M31 := by
    rw [← h31]
    exact f30
  refine ev_dup_r (pc := 131) dX0_init_131 ?_
  refine ev_ctCN (pc := 132) (host := "HelmHand") (b' := B_X3_init) (List.mem_of_getElem? (i := 3) rfl) mi_X3_init rfl dX0_init_132 ⟨⟨Nat.le_of_ble_eq_true rfl, Nat.le_of_ble_eq_true rfl⟩, Nat.le_of_ble_eq_true rfl, Nat.le_of_ble_eq_true rfl⟩ (Nat.le_of_ble_eq_true rfl) (c_X3_init (M := M31) (i := 6) (by decide) (by rw [n31]; exact Nat.le_of_ble_eq_true rfl) (by rw [n31]; rfl)) ?_
  generalize h32 : mk_X3 6 M31 = M32
  have n32 : M32.2.2.2 = 152 := by
    rw [← h32]
    show M31.2.2.2 + 1 = 152
    rw [n31]
  have f32 : FB_ 3 M32 := by
    rw [← h32]
    exact f31
  refine ev_aast (pc := 135) (r := 26) (i := 3) (t := 6) (r2 := 5) (i2 := 6) (ci := 3) (x := 0) rfl rfl rfl (by decide) (by decide) (by decide) dX0_init_135 (by rw [n32]; exact Nat.le_of_ble_eq_true rfl) (by rw [n32]; exact Nat.le_of_ble_eq_true rfl) ?_
  generalize h33 : ev_pq M32 26 3 (0 : Int32).toNatClampNeg (some (5, 6)) = M33
  have n33 : M33.2.2.2 = 152 := by
    rw [← h33]
    show M32.2.2.2 = 152
    rw [n32]
  have f33 : FB_ 3 M33 := by
    rw [← h33]
    exact f32
  refine ev_iinc_1 (pc := 136) (y := 1) dX0_init_136 rfl (by decide) rfl ?_
  refine ev_goto (pc := 139) (tgt := 114) dX0_init_139 (by decide) ?_
  refine ev_iload_1 (pc := 114) dX0_init_114 ?_
  refine ev_aload_0 (pc := 115) dX0_init_115 ?_
  refine ev_getqr (pc := 116) (r := 1) (i := 3) (ci := 0) (j := 9) (r2 := 26) (i2 := 3) fl_X0_36 rfl rfl dX0_init_116 (by rw [n33]; exact Nat.le_of_ble_eq_true rfl) f33.2.2.1 ?_
  refine ev_alen (pc := 119) (r := 26) (i := 3) (t := 6) (y := 2) rfl (by decide) dX0_init_119 (fun _ => (by rw [n33]; exact Nat.le_of_ble_eq_true rfl)) (fun h => absurd h (by decide)) ?_
  refine ev_icc_ge (pc := 120) (tgt := 142) dX0_init_120 (by decide) (fun z => absurd (show (1 : Int32) < 2 by decide) z) (fun _ => ?_)
  refine ev_aload_0 (pc := 123) dX0_init_123 ?_
  refine ev_getqr (pc := 124) (r := 1) (i := 3) (ci := 0) (j := 9) (r2 := 26) (i2 := 3) fl_X0_36 rfl rfl dX0_init_124 (by rw [n33]; exact Nat.le_of_ble_eq_true rfl) f33.2.2.1 ?_
  refine ev_iload_1 (pc := 127) dX0_init_127 ?_
  refine ev_new (pc := 128) (r := 5) (i := 7) (ci := 3) rfl (by decide) (by rw [n33]; rfl) wk_X0_34 wn_X3 wi_X3 dX0_init_128 ⟨Nat.le_of_ble_eq_true rfl, Nat.le_of_ble_eq_true rfl⟩ ?_
  generalize h34 : ev_mk M33 5 7 = M34
  have n34 : M34.2.2.2 = 153 := by
    rw [← h34]
    show M33.2.2.2 + 1 = 153
    rw [n33]
  have f34 : FB_ 3 M34 := by
    rw [← h34]
    exact f33
  refine ev_dup_r (pc := 131) dX0_init_131 ?_
  refine ev_ctCN (pc := 132) (host := "HelmHand") (b' := B_X3_init) (List.mem_of_getElem? (i := 3) rfl) mi_X3_init rfl dX0_init_132 ⟨⟨Nat.le_of_ble_eq_true rfl, Nat.le_of_ble_eq_true rfl⟩, Nat.le_of_ble_eq_true rfl, Nat.le_of_ble_eq_true rfl⟩ (Nat.le_of_ble_eq_true rfl) (c_X3_init (M := M34) (i := 7) (by decide) (by rw [n34]; exact Nat.le_of_ble_eq_true rfl) (by rw [n34]; rfl)) ?_
  generalize h35 : mk_X3 7 M34 = M35
  have n35 : M35.2.2.2 = 154 := by
    rw [← h35]
    show M34.2.2.2 + 1 = 154
    rw [n34]
  have f35 : FB_ 3 M35 := by
    rw [← h35]
    exact f34
  refine ev_aast (pc := 135) (r := 26) (i := 3) (t := 6) (r2 := 5) (i2 := 7) (ci := 3) (x := 1) rfl rfl rfl (by decide) (by decide) (by decide) dX0_init_135 (by rw [n35]; exact Nat.le_of_ble_eq_true rfl) (by rw [n35]; exact Nat.le_of_ble_eq_true rfl) ?_
  generalize h36 : ev_pq M35 26 3 (1 : Int32).toNatClampNeg (some (5, 7)) = M36
  have n36 : M36.2.2.2 = 154 := by
    rw [← h36]
    show M35.2.2.2 = 154
    rw [n35]
  have f36 : FB_ 3 M36 := by
    rw [← h36]
    exact f35
  refine ev_iinc_1 (pc := 136) (y := 2) dX0_init_136 rfl (by decide) rfl ?_
  refine ev_goto (pc := 139) (tgt := 114) dX0_init_139 (by decide) ?_
  refine ev_iload_1 (pc := 114) dX0_init_114 ?_
  refine ev_aload_0 (pc := 115) dX0_init_115 ?_
  refine ev_getqr (pc := 116) (r := 1) (i := 3) (ci := 0) (j := 9) (r2 := 26) (i2 := 3) fl_X0_36 rfl rfl dX0_init_116 (by rw [n36]; exact Nat.le_of_ble_eq_true rfl) f36.2.2.1 ?_
  refine ev_alen (pc := 119) (r := 26) (i := 3) (t := 6) (y := 2) rfl (by decide) dX0_init_119 (fun _ => (by rw [n36]; exact Nat.le_of_ble_eq_true rfl)) (fun h => absurd h (by decide)) ?_
  refine ev_icc_ge (pc := 120) (tgt := 142) dX0_init_120 (by decide) (fun _ => ?_) (fun z => absurd z (by decide))
  refine ev_iconst (pc := 142) (v := 0) dX0_init_142 rfl ?_
  refine ev_istore_1 (pc := 143) dX0_init_143 (by decide) rfl ?_
  refine ev_iload_1 (pc := 144) dX0_init_144 ?_
  refine ev_aload_0 (pc := 145) dX0_init_145 ?_
  refine ev_getqr (pc := 146) (r := 1) (i := 3) (ci := 0) (j := 10) (r2 := 27) (i2 := 3) fl_X0_42 rfl rfl dX0_init_146 (by rw [n36]; exact Nat.le_of_ble_eq_true rfl) f36.2.2.2 ?_
  refine ev_alen (pc := 149) (r := 27) (i := 3) (t := 7) (y := 2) rfl (by decide) dX0_init_149 (fun _ => (by rw [n36]; exact Nat.le_of_ble_eq_true rfl)) (fun h => absurd h (by decide)) ?_
  refine ev_icc_ge (pc := 150) (tgt := 172) dX0_init_150 (by decide) (fun z => absurd (show (0 : Int32) < 2 by decide) z) (fun _ => ?_)
  refine ev_aload_0 (pc := 153) dX0_init_153 ?_
  refine ev_getqr (pc := 154) (r := 1) (i := 3) (ci := 0) (j := 10) (r2 := 27) (i2 := 3) fl_X0_42 rfl rfl dX0_init_154 (by rw [n36]; exact Nat.le_of_ble_eq_true rfl) f36.2.2.2 ?_
  refine ev_iload_1 (pc := 157) dX0_init_157 ?_
  refine ev_new (pc := 158) (r := 6) (i := 6) (ci := 7) rfl (by decide) (by rw [n36]; rfl) wk_X0_40 wn_X7 wi_X7 dX0_init_158 ⟨Nat.le_of_ble_eq_true rfl, Nat.le_of_ble_eq_true rfl⟩ ?_
  generalize h37 : ev_mk M36 6 6 = M37
  have n37 : M37.2.2.2 = 155 := by
    rw [← h37]
    show M36.2.2.2 + 1 = 155
    rw [n36]
  have f37 : FB_ 3 M37 := by
    rw [← h37]
    exact f36
  refine ev_dup_r (pc := 161) dX0_init_161 ?_
  refine ev_ctCN (pc := 162) (host := "HelmHand") (b' := B_X7_init) (List.mem_of_getElem? (i := 4) rfl) mi_X7_init rfl dX0_init_162 ⟨⟨Nat.le_of_ble_eq_true rfl, Nat.le_of_ble_eq_true rfl⟩, Nat.le_of_ble_eq_true rfl, Nat.le_of_ble_eq_true rfl⟩ (Nat.le_of_ble_eq_true rfl) (c_X7_init (M := M37) (i := 6) (by decide) (by rw [n37]; exact Nat.le_of_ble_eq_true rfl) (by rw [n37]; rfl) (by rw [n37]; rfl)) ?_
  generalize h38 : mk_X7 6 M37 = M38
  have n38 : M38.2.2.2 = 157 := by
    rw [← h38]
    show M37.2.2.2 + 1 + 1 = 157
    rw [n37]
  have f38 : FB_ 3 M38 := by
    rw [← h38]
    exact f37
  refine ev_aast (pc := 165) (r := 27) (i := 3) (t := 7) (r2 := 6) (i2 := 6) (ci := 7) (x := 0) rfl rfl rfl (by decide) (by decide) (by decide) dX0_init_165 (by rw [n38]; exact Nat.le_of_ble_eq_true rfl) (by rw [n38]; exact Nat.le_of_ble_eq_true rfl) ?_
  generalize h39 : ev_pq M38 27 3 (0 : Int32).toNatClampNeg (some (6, 6)) = M39
  have n39 : M39.2.2.2 = 157 := by
    rw [← h39]
    show M38.2.2.2 = 157
    rw [n38]
  have f39 : FB_ 3 M39 := by
    rw [← h39]
    exact f38
  refine ev_iinc_1 (pc := 166) (y := 1) dX0_init_166 rfl (by decide) rfl ?_
  refine ev_goto (pc := 169) (tgt := 144) dX0_init_169 (by decide) ?_
  refine ev_iload_1 (pc := 144) dX0_init_144 ?_
  refine ev_aload_0 (pc := 145) dX0_init_145 ?_
  refine ev_getqr (pc := 146) (r := 1) (i := 3) (ci := 0) (j := 10) (r2 := 27) (i2 := 3) fl_X0_42 rfl rfl dX0_init_146 (by rw [n39]; exact Nat.le_of_ble_eq_true rfl) f39.2.2.2 ?_
  refine ev_alen (pc := 149) (r := 27) (i := 3) (t := 7) (y := 2) rfl (by decide) dX0_init_149 (fun _ => (by rw [n39]; exact Nat.le_of_ble_eq_true rfl)) (fun h => absurd h (by decide)) ?_
  refine ev_icc_ge (pc := 150) (tgt := 172) dX0_init_150 (by decide) (fun z => absurd (show (1 : Int32) < 2 by decide) z) (fun _ => ?_)
  refine ev_aload_0 (pc := 153) dX0_init_153 ?_
  refine ev_getqr (pc := 154) (r := 1) (i := 3) (ci := 0) (j := 10) (r2 := 27) (i2 := 3) fl_X0_42 rfl rfl dX0_init_154 (by rw [n39]; exact Nat.le_of_ble_eq_true rfl) f39.2.2.2 ?_
  refine ev_iload_1 (pc := 157) dX0_init_157 ?_
  refine ev_new (pc := 158) (r := 6) (i := 7) (ci := 7) rfl (by decide) (by rw [n39]; rfl) wk_X0_40 wn_X7 wi_X7 dX0_init_158 ⟨Nat.le_of_ble_eq_true rfl, Nat.le_of_ble_eq_true rfl⟩ ?_
  generalize h40 : ev_mk M39 6 7 = M40
  have n40 : M40.2.2.2 = 158 := by
    rw [← h40]
    show M39.2.2.2 + 1 = 158
    rw [n39]
  have f40 : FB_ 3 M40 := by
    rw [← h40]
    exact f39
  refine ev_dup_r (pc := 161) dX0_init_161 ?_
  refine ev_ctCN (pc := 162) (host := "HelmHand") (b' := B_X7_init) (List.mem_of_getElem? (i := 4) rfl) mi_X7_init rfl dX0_init_162 ⟨⟨Nat.le_of_ble_eq_true rfl, Nat.le_of_ble_eq_true rfl⟩, Nat.le_of_ble_eq_true rfl, Nat.le_of_ble_eq_true rfl⟩ (Nat.le_of_ble_eq_true rfl) (c_X7_init (M := M40) (i := 7) (by decide) (by rw [n40]; exact Nat.le_of_ble_eq_true rfl) (by rw [n40]; rfl) (by rw [n40]; rfl)) ?_
  generalize h41 : mk_X7 7 M40 = M41
  have n41 : M41.2.2.2 = 160 := by
    rw [← h41]
    show M40.2.2.2 + 1 + 1 = 160
    rw [n40]
  have f41 : FB_ 3 M41 := by
    rw [← h41]
    exact f40
  refine ev_aast (pc := 165) (r := 27) (i := 3) (t := 7) (r2 := 6) (i2 := 7) (ci := 7) (x := 1) rfl rfl rfl (by decide) (by decide) (by decide) dX0_init_165 (by rw [n41]; exact Nat.le_of_ble_eq_true rfl) (by rw [n41]; exact Nat.le_of_ble_eq_true rfl) ?_
  generalize h42 : ev_pq M41 27 3 (1 : Int32).toNatClampNeg (some (6, 7)) = M42
  have n42 : M42.2.2.2 = 160 := by
    rw [← h42]
    show M41.2.2.2 = 160
    rw [n41]
  have f42 : FB_ 3 M42 := by
    rw [← h42]
    exact f41
  refine ev_iinc_1 (pc := 166) (y := 2) dX0_init_166 rfl (by decide) rfl ?_
  refine ev_goto (pc := 169) (tgt := 144) dX0_init_169 (by decide) ?_
  refine ev_iload_1 (pc := 144) dX0_init_144 ?_
  refine ev_aload_0 (pc := 145) dX0_init_145 ?_
  refine ev_getqr (pc := 146) (r := 1) (i := 3) (ci := 0) (j := 10) (r2 := 27) (i2 := 3) fl_X0_42 rfl rfl dX0_init_146 (by rw [n42]; exact Nat.le_of_ble_eq_true rfl) f42.2.2.2 ?_
  refine ev_alen (pc := 149) (r := 27) (i := 3) (t := 7) (y := 2) rfl (by decide) dX0_init_149 (fun _ => (by rw [n42]; exact Nat.le_of_ble_eq_true rfl)) (fun h => absurd h (by decide)) ?_
  refine ev_icc_ge (pc := 150) (tgt := 172) dX0_init_150 (by decide) (fun _ => ?_) (fun z => absurd z (by decide))
  refine ev_vret (pc := 172) dX0_init_172 rfl ⟨rfl, ?_⟩
  rw [← h42, ← h41, ← h40, ← h39, ← h38, ← h37, ← h36, ← h35, ← h34, ← h33, ← h32, ← h31, ← h30, ← h29, ← h28, ← h27, ← h26, ← h25, ← h24, ← h23, ← h22, ← h21, ← h20, ← h19, ← h18, ← h17, ← h16, ← h15, ← h14, ← h13, ← h12, ← h11, ← h10, ← h9, ← h8, ← h7, ← h6, ← h5, ← h4, ← h3, ← h2, ← h1]
  rfl
def mk_X8 (M : ev_M) : ev_M := (ev_pq (ev_mk (ev_pq (ev_mk (ev_pq (ev_mk (ev_pq (ev_mk (ev_pq (ev_mk (ev_pq (ev_mk M 18 0) 8 0 2 (some (18, 0))) 19 0) 8 0 3 (some (19, 0))) 20 0) 8 0 4 (some (20, 0))) 21 0) 8 0 5 (some (21, 0))) 9 0) 8 0 7 (some (9, 0))) 9 1) 8 0 8 (some (9, 1)))
abbrev B_X8_init : ev_B := (2, 40, 6, 1612)
set_option maxRecDepth 20000 in
set_option maxHeartbeats 4000000 in
theorem c_X8_init_0 {G : ev_G} {M : ev_M} (n0 : M.2.2.2 = 50) : ev_CI G K_X8_init B_X8_init 8 0 M (mk_X8 M) := by
  refine ev_Ct_of (L0 := [some (vr 8 0)]) rfl rfl (Nat.le_of_ble_eq_true rfl) ?_
  refine ev_aload_0 (pc := 0) dX8_init_0 ?_
  refine ev_oini (pc := 1) wl_X8_3 wo_in wo_co ⟨Nat.le_of_ble_eq_true rfl, Nat.le_of_ble_eq_true rfl⟩ (Nat.le_of_ble_eq_true rfl) dX8_init_1 ?_
  refine ev_aload_0 (pc := 4) dX8_init_4 ?_
  refine ev_sipush (pc := 5) (v := 401) dX8_init_5 (by decide) ?_
  refine ev_newa (pc := 8) (r := 18) (i := 0) (t := 0) (aty := .int) rfl (by decide) (by decide) (by rw [n0]; rfl) (by decide) (Or.inl (by decide)) rfl wa_int (by decide) (by decide) (Nat.le_of_ble_eq_true rfl) dX8_init_8 ⟨Nat.le_of_ble_eq_true rfl, Nat.le_of_ble_eq_true rfl⟩ ?_
  generalize h1 : ev_mk M 18 0 = M1
  have n1 : M1.2.2.2 = 51 := by
    rw [← h1]
    show M.2.2.2 + 1 = 51
    rw [n0]
  refine ev_putq (pc := 10) (r := 8) (i := 0) (ci := 8) (j := 2) (o := some (18, 0)) fl_X8_9 rfl rfl (Or.inr ⟨rfl, rfl, rfl⟩) (Or.inr ⟨_, rfl⟩) dX8_init_10 (by rw [n1]; exact Nat.le_of_ble_eq_true rfl) ?_
  generalize h2 : ev_pq M1 8 0 2 (some (18, 0)) = M2
  have n2 : M2.2.2.2 = 51 := by
    rw [← h2]
    show M1.2.2.2 = 51
    rw [n1]
  refine ev_aload_0 (pc := 13) dX8_init_13 ?_
  refine ev_sipush (pc := 14) (v := 401) dX8_init_14 (by decide) ?_
  refine ev_newa (pc := 17) (r := 19) (i := 0) (t := 0) (aty := .int) rfl (by decide) (by decide) (by rw [n2]; rfl) (by decide) (Or.inl (by decide)) rfl wa_int (by decide) (by decide) (Nat.le_of_ble_eq_true rfl) dX8_init_17 ⟨Nat.le_of_ble_eq_true rfl, Nat.le_of_ble_eq_true rfl⟩ ?_
  generalize h3 : ev_mk M2 19 0 = M3
  have n3 : M3.2.2.2 = 52 := by
    rw [← h3]
    show M2.2.2.2 + 1 = 52
    rw [n2]
  refine ev_putq (pc := 19) (r := 8) (i := 0) (ci := 8) (j := 3) (o := some (19, 0)) fl_X8_15 rfl rfl (Or.inr ⟨rfl, rfl, rfl⟩) (Or.inr ⟨_, rfl⟩) dX8_init_19 (by rw [n3]; exact Nat.le_of_ble_eq_true rfl) ?_
  generalize h4 : ev_pq M3 8 0 3 (some (19, 0)) = M4
  have n4 : M4.2.2.2 = 52 := by
    rw [← h4]
    show M3.2.2.2 = 52
    rw [n3]
  refine ev_aload_0 (pc := 22) dX8_init_22 ?_
  refine ev_sipush (pc := 23) (v := 401) dX8_init_23 (by decide) ?_
  refine ev_newa (pc := 26) (r := 20) (i := 0) (t := 0) (aty := .int) rfl (by decide) (by decide) (by rw [n4]; rfl) (by decide) (Or.inl (by decide)) rfl wa_int (by decide) (by decide) (Nat.le_of_ble_eq_true rfl) dX8_init_26 ⟨Nat.le_of_ble_eq_true rfl, Nat.le_of_ble_eq_true rfl⟩ ?_
  generalize h5 : ev_mk M4 20 0 = M5
  have n5 : M5.2.2.2 = 53 := by
    rw [← h5]
    show M4.2.2.2 + 1 = 53
    rw [n4]
  refine ev_putq (pc := 28) (r := 8) (i := 0) (ci := 8) (j := 4) (o := some (20, 0)) fl_X8_18 rfl rfl (Or.inr ⟨rfl, rfl, rfl⟩) (Or.inr ⟨_, rfl⟩) dX8_init_28 (by rw [n5]; exact Nat.le_of_ble_eq_true rfl) ?_
  generalize h6 : ev_pq M5 8 0 4 (some (20, 0)) = M6
  have n6 : M6.2.2.2 = 53 := by
    rw [← h6]
    show M5.2.2.2 = 53
    rw [n5]
  refine ev_aload_0 (pc := 31) dX8_init_31 ?_
  refine ev_sipush (pc := 32) (v := 401) dX8_init_32 (by decide) ?_
  refine ev_newa (pc := 35) (r := 21) (i := 0) (t := 0) (aty := .int) rfl (by decide) (by decide) (by rw [n6]; rfl) (by decide) (Or.inl (by decide)) rfl wa_int (by decide) (by decide) (Nat.le_of_ble_eq_true rfl) dX8_init_35 ⟨Nat.le_of_ble_eq_true rfl, Nat.le_of_ble_eq_true rfl⟩ ?_
  generalize h7 : ev_mk M6 21 0 = M7
  have n7 : M7.2.2.2 = 54 := by
    rw [← h7]
    show M6.2.2.2 + 1 = 54
    rw [n6]
  refine ev_putq (pc := 37) (r := 8) (i := 0) (ci := 8) (j := 5) (o := some (21, 0)) fl_X8_21 rfl rfl (Or.inr ⟨rfl, rfl, rfl⟩) (Or.inr ⟨_, rfl⟩) dX8_init_37 (by rw [n7]; exact Nat.le_of_ble_eq_true rfl) ?_
  generalize h8 : ev_pq M7 8 0 5 (some (21, 0)) = M8
  have n8 : M8.2.2.2 = 54 := by
    rw [← h8]
    show M7.2.2.2 = 54
    rw [n7]
  refine ev_aload_0 (pc := 40) dX8_init_40 ?_
  refine ev_new (pc := 41) (r := 9) (i := 0) (ci := 2) rfl (by decide) (by rw [n8]; rfl) wk_X8_24 wn_X2 wi_X2 dX8_init_41 ⟨Nat.le_of_ble_eq_true rfl, Nat.le_of_ble_eq_true rfl⟩ ?_
  generalize h9 : ev_mk M8 9 0 = M9
  have n9 : M9.2.2.2 = 55 := by
    rw [← h9]
    show M8.2.2.2 + 1 = 55
    rw [n8]
  refine ev_dup_r (pc := 44) dX8_init_44 ?_
  refine ev_ctCN (pc := 45) (host := "HelmHand") (b' := B_X2_init) (List.mem_of_getElem? (i := 12) rfl) mi_X2_init rfl dX8_init_45 ⟨⟨Nat.le_of_ble_eq_true rfl, Nat.le_of_ble_eq_true rfl⟩, Nat.le_of_ble_eq_true rfl, Nat.le_of_ble_eq_true rfl⟩ (Nat.le_of_ble_eq_true rfl) (c_X2_init (M := M9) (i := 0) (by decide) (by rw [n9]; exact Nat.le_of_ble_eq_true rfl)) ?_
  refine ev_putq (pc := 48) (r := 8) (i := 0) (ci := 8) (j := 7) (o := some (9, 0)) fl_X8_27 rfl rfl (Or.inr ⟨rfl, rfl, rfl⟩) (Or.inl ⟨_, rfl⟩) dX8_init_48 (by rw [n9]; exact Nat.le_of_ble_eq_true rfl) ?_
  generalize h10 : ev_pq M9 8 0 7 (some (9, 0)) = M10
  have n10 : M10.2.2.2 = 55 := by
    rw [← h10]
    show M9.2.2.2 = 55
    rw [n9]
  refine ev_aload_0 (pc := 51) dX8_init_51 ?_
  refine ev_new (pc := 52) (r := 9) (i := 1) (ci := 2) rfl (by decide) (by rw [n10]; rfl) wk_X8_24 wn_X2 wi_X2 dX8_init_52 ⟨Nat.le_of_ble_eq_true rfl, Nat.le_of_ble_eq_true rfl⟩ ?_
  generalize h11 : ev_mk M10 9 1 = M11
  have n11 : M11.2.2.2 = 56 := by
    rw [← h11]
    show M10.2.2.2 + 1 = 56
    rw [n10]
  refine ev_dup_r (pc := 55) dX8_init_55 ?_
  refine ev_ctCN (pc := 56) (host := "HelmHand") (b' := B_X2_init) (List.mem_of_getElem? (i := 12) rfl) mi_X2_init rfl dX8_init_56 ⟨⟨Nat.le_of_ble_eq_true rfl, Nat.le_of_ble_eq_true rfl⟩, Nat.le_of_ble_eq_true rfl, Nat.le_of_ble_eq_true rfl⟩ (Nat.le_of_ble_eq_true rfl) (c_X2_init (M := M11) (i := 1) (by decide) (by rw [n11]; exact Nat.le_of_ble_eq_true rfl)) ?_
  refine ev_putq (pc := 59) (r := 8) (i := 0) (ci := 8) (j := 8) (o := some (9, 1)) fl_X8_31 rfl rfl (Or.inr ⟨rfl, rfl, rfl⟩) (Or.inl ⟨_, rfl⟩) dX8_init_59 (by rw [n11]; exact Nat.le_of_ble_eq_true rfl) ?_
  generalize h12 : ev_pq M11 8 0 8 (some (9, 1)) = M12
  have n12 : M12.2.2.2 = 56 := by
    rw [← h12]
    show M11.2.2.2 = 56
    rw [n11]
  refine ev_vret (pc := 62) dX8_init_62 rfl ⟨rfl, ?_⟩
  rw [← h12, ← h11, ← h10, ← h9, ← h8, ← h7, ← h6, ← h5, ← h4, ← h3, ← h2, ← h1]
  rfl
def mk_X4 (M : ev_M) : ev_M := (ev_pq (mk_X6 4 (ev_mk (ev_pq (mk_X7 8 (ev_mk (ev_pq (mk_X3 8 (ev_mk (ev_pq (mk_X1 17 (ev_mk (ev_pq (mk_X5 9 (ev_mk M 3 9)) 7 0 0 (some (3, 9))) 4 17)) 7 0 1 (some (4, 17))) 5 8)) 7 0 2 (some (5, 8))) 6 8)) 7 0 3 (some (6, 8))) 2 4)) 7 0 6 (some (2, 4)))
abbrev B_X4_init : ev_B := (2, 40, 12, 727)
set_option maxRecDepth 20000 in
set_option maxHeartbeats 4000000 in
theorem c_X4_init_0 {G : ev_G} {M : ev_M} (n0 : M.2.2.2 = 37) : ev_CI G K_X4_init B_X4_init 7 0 M (mk_X4 M) := by
  refine ev_Ct_of (L0 := [some (vr 7 0)]) rfl rfl (Nat.le_of_ble_eq_true rfl) ?_
  refine ev_aload_0 (pc := 0) dX4_init_0 ?_
  refine ev_oini (pc := 1) wl_X4_3 wo_in wo_co ⟨Nat.le_of_ble_eq_true rfl, Nat.le_of_ble_eq_true rfl⟩ (Nat.le_of_ble_eq_true rfl) dX4_init_1 ?_
  refine ev_aload_0 (pc := 4) dX4_init_4 ?_
  refine ev_new (pc := 5) (r := 3) (i := 9) (ci := 5) rfl (by decide) (by rw [n0]; rfl) wk_X4_9 wn_X5 wi_X5 dX4_init_5 ⟨Nat.le_of_ble_eq_true rfl, Nat.le_of_ble_eq_true rfl⟩ ?_
  generalize h1 : ev_mk M 3 9 = M1
  have n1 : M1.2.2.2 = 38 := by
    rw [← h1]
    show M.2.2.2 + 1 = 38
    rw [n0]
  refine ev_dup_r (pc := 8) dX4_init_8 ?_
  refine ev_ctCN (pc := 9) (host := "HelmHand") (b' := B_X5_init) (List.mem_of_getElem? (i := 6) rfl) mi_X5_init rfl dX4_init_9 ⟨⟨Nat.le_of_ble_eq_true rfl, Nat.le_of_ble_eq_true rfl⟩, Nat.le_of_ble_eq_true rfl, Nat.le_of_ble_eq_true rfl⟩ (Nat.le_of_ble_eq_true rfl) (c_X5_init (M := M1) (i := 9) (by decide) (by rw [n1]; exact Nat.le_of_ble_eq_true rfl) (by rw [n1]; rfl)) ?_
  generalize h2 : mk_X5 9 M1 = M2
  have n2 : M2.2.2.2 = 39 := by
    rw [← h2]
    show M1.2.2.2 + 1 = 39
    rw [n1]
  refine ev_putq (pc := 12) (r := 7) (i := 0) (ci := 4) (j := 0) (o := some (3, 9)) fl_X4_12 rfl rfl (Or.inr ⟨rfl, rfl, rfl⟩) (Or.inl ⟨_, rfl⟩) dX4_init_12 (by rw [n2]; exact Nat.le_of_ble_eq_true rfl) ?_
  generalize h3 : ev_pq M2 7 0 0 (some (3, 9)) = M3
  have n3 : M3.2.2.2 = 39 := by
    rw [← h3]
    show M2.2.2.2 = 39
    rw [n2]
  refine ev_aload_0 (pc := 15) dX4_init_15 ?_
  refine ev_new (pc := 16) (r := 4) (i := 17) (ci := 1) rfl (by decide) (by rw [n3]; rfl) wk_X4_18 wn_X1 wi_X1 dX4_init_16 ⟨Nat.le_of_ble_eq_true rfl, Nat.le_of_ble_eq_true rfl⟩ ?_
  generalize h4 : ev_mk M3 4 17 = M4
  have n4 : M4.2.2.2 = 40 := by
    rw [← h4]
    show M3.2.2.2 + 1 = 40
    rw [n3]
  refine ev_dup_r (pc := 19) dX4_init_19 ?_
  refine ev_ctCN (pc := 20) (host := "HelmHand") (b' := B_X1_init) (List.mem_of_getElem? (i := 7) rfl) mi_X1_init rfl dX4_init_20 ⟨⟨Nat.le_of_ble_eq_true rfl, Nat.le_of_ble_eq_true rfl⟩, Nat.le_of_ble_eq_true rfl, Nat.le_of_ble_eq_true rfl⟩ (Nat.le_of_ble_eq_true rfl) (c_X1_init (M := M4) (i := 17) (by decide) (by rw [n4]; exact Nat.le_of_ble_eq_true rfl) (by rw [n4]; rfl) (by rw [n4]; rfl)) ?_
  generalize h5 : mk_X1 17 M4 = M5
  have n5 : M5.2.2.2 = 42 := by
    rw [← h5]
    show M4.2.2.2 + 1 + 1 = 42
    rw [n4]
  refine ev_putq (pc := 23) (r := 7) (i := 0) (ci := 4) (j := 1) (o := some (4, 17)) fl_X4_21 rfl rfl (Or.inr ⟨rfl, rfl, rfl⟩) (Or.inl ⟨_, rfl⟩) dX4_init_23 (by rw [n5]; exact Nat.le_of_ble_eq_true rfl) ?_
  generalize h6 : ev_pq M5 7 0 1 (some (4, 17)) = M6
  have n6 : M6.2.2.2 = 42 := by
    rw [← h6]
    show M5.2.2.2 = 42
    rw [n5]
  refine ev_aload_0 (pc := 26) dX4_init_26 ?_
  refine ev_new (pc := 27) (r := 5) (i := 8) (ci := 3) rfl (by decide) (by rw [n6]; rfl) wk_X4_25 wn_X3 wi_X3 dX4_init_27 ⟨Nat.le_of_ble_eq_true rfl, Nat.le_of_ble_eq_true rfl⟩ ?_
  generalize h7 : ev_mk M6 5 8 = M7
  have n7 : M7.2.2.2 = 43 := by
    rw [← h7]
    show M6.2.2.2 + 1 = 43
    rw [n6]
  refine ev_dup_r (pc := 30) dX4_init_30 ?_
  refine ev_ctCN (pc := 31) (host := "HelmHand") (b' := B_X3_init) (List.mem_of_getElem? (i := 8) rfl) mi_X3_init rfl dX4_init_31 ⟨⟨Nat.le_of_ble_eq_true rfl, Nat.le_of_ble_eq_true rfl⟩, Nat.le_of_ble_eq_true rfl, Nat.le_of_ble_eq_true rfl⟩ (Nat.le_of_ble_eq_true rfl) (c_X3_init (M := M7) (i := 8) (by decide) (by rw [n7]; exact Nat.le_of_ble_eq_true rfl) (by rw [n7]; rfl)) ?_
  generalize h8 : mk_X3 8 M7 = M8
  have n8 : M8.2.2.2 = 44 := by
    rw [← h8]
    show M7.2.2.2 + 1 = 44
    rw [n7]
  refine ev_putq (pc := 34) (r := 7) (i := 0) (ci := 4) (j := 2) (o := some (5, 8)) fl_X4_28 rfl rfl (Or.inr ⟨rfl, rfl, rfl⟩) (Or.inl ⟨_, rfl⟩) dX4_init_34 (by rw [n8]; exact Nat.le_of_ble_eq_true rfl) ?_
  generalize h9 : ev_pq M8 7 0 2 (some (5, 8)) = M9
  have n9 : M9.2.2.2 = 44 := by
    rw [← h9]
    show M8.2.2.2 = 44
    rw [n8]
  refine ev_aload_0 (pc := 37) dX4_init_37 ?_
  refine ev_new (pc := 38) (r := 6) (i := 8) (ci := 7) rfl (by decide) (by rw [n9]; rfl) wk_X4_32 wn_X7 wi_X7 dX4_init_38 ⟨Nat.le_of_ble_eq_true rfl, Nat.le_of_ble_eq_true rfl⟩ ?_
  generalize h10 : ev_mk M9 6 8 = M10
  have n10 : M10.2.2.2 = 45 := by
    rw [← h10]
    show M9.2.2.2 + 1 = 45
    rw [n9]
  refine ev_dup_r (pc := 41) dX4_init_41 ?_
  refine ev_ctCN (pc := 42) (host := "HelmHand") (b' := B_X7_init) (List.mem_of_getElem? (i := 9) rfl) mi_X7_init rfl dX4_init_42 ⟨⟨Nat.le_of_ble_eq_true rfl, Nat.le_of_ble_eq_true rfl⟩, Nat.le_of_ble_eq_true rfl, Nat.le_of_ble_eq_true rfl⟩ (Nat.le_of_ble_eq_true rfl) (c_X7_init (M := M10) (i := 8) (by decide) (by rw [n10]; exact Nat.le_of_ble_eq_true rfl) (by rw [n10]; rfl) (by rw [n10]; rfl)) ?_
  generalize h11 : mk_X7 8 M10 = M11
  have n11 : M11.2.2.2 = 47 := by
    rw [← h11]
    show M10.2.2.2 + 1 + 1 = 47
    rw [n10]
  refine ev_putq (pc := 45) (r := 7) (i := 0) (ci := 4) (j := 3) (o := some (6, 8)) fl_X4_35 rfl rfl (Or.inr ⟨rfl, rfl, rfl⟩) (Or.inl ⟨_, rfl⟩) dX4_init_45 (by rw [n11]; exact Nat.le_of_ble_eq_true rfl) ?_
  generalize h12 : ev_pq M11 7 0 3 (some (6, 8)) = M12
  have n12 : M12.2.2.2 = 47 := by
    rw [← h12]
    show M11.2.2.2 = 47
    rw [n11]
  refine ev_aload_0 (pc := 48) dX4_init_48 ?_
  refine ev_new (pc := 49) (r := 2) (i := 4) (ci := 6) rfl (by decide) (by rw [n12]; rfl) wk_X4_39 wn_X6 wi_X6 dX4_init_49 ⟨Nat.le_of_ble_eq_true rfl, Nat.le_of_ble_eq_true rfl⟩ ?_
  generalize h13 : ev_mk M12 2 4 = M13
  have n13 : M13.2.2.2 = 48 := by
    rw [← h13]
    show M12.2.2.2 + 1 = 48
    rw [n12]
  refine ev_dup_r (pc := 52) dX4_init_52 ?_
  refine ev_ctCN (pc := 53) (host := "HelmHand") (b' := B_X6_init) (List.mem_of_getElem? (i := 10) rfl) mi_X6_init rfl dX4_init_53 ⟨⟨Nat.le_of_ble_eq_true rfl, Nat.le_of_ble_eq_true rfl⟩, Nat.le_of_ble_eq_true rfl, Nat.le_of_ble_eq_true rfl⟩ (Nat.le_of_ble_eq_true rfl) (c_X6_init (M := M13) (i := 4) (by decide) (by rw [n13]; exact Nat.le_of_ble_eq_true rfl) (by rw [n13]; rfl)) ?_
  generalize h14 : mk_X6 4 M13 = M14
  have n14 : M14.2.2.2 = 49 := by
    rw [← h14]
    show M13.2.2.2 + 1 = 49
    rw [n13]
  refine ev_putq (pc := 56) (r := 7) (i := 0) (ci := 4) (j := 6) (o := some (2, 4)) fl_X4_42 rfl rfl (Or.inr ⟨rfl, rfl, rfl⟩) (Or.inl ⟨_, rfl⟩) dX4_init_56 (by rw [n14]; exact Nat.le_of_ble_eq_true rfl) ?_
  generalize h15 : ev_pq M14 7 0 6 (some (2, 4)) = M15
  have n15 : M15.2.2.2 = 49 := by
    rw [← h15]
    show M14.2.2.2 = 49
    rw [n14]
  refine ev_vret (pc := 59) dX4_init_59 rfl ⟨rfl, ?_⟩
  rw [← h15, ← h14, ← h13, ← h12, ← h11, ← h10, ← h9, ← h8, ← h7, ← h6, ← h5, ← h4, ← h3, ← h2, ← h1]
  rfl
def mk_X9 (M : ev_M) : ev_M := (ev_pq (mk_X0_3 (ev_mk (ev_pq (mk_X0_2 (ev_mk (ev_pq (mk_X0_1 (ev_mk (ev_pq (mk_X1 16 (ev_mk (ev_pq (mk_X5 8 (ev_mk (ev_pq (mk_X8 (ev_mk (ev_pq (mk_X4 (ev_mk (ev_pq (ev_mk (ev_pq (ev_mk (ev_pq (mk_X0_0 (ev_mk M 1 0)) 0 0 0 (some (1, 0))) 23 0) 0 0 1 (some (23, 0))) 22 0) 0 0 2 (some (22, 0))) 7 0)) 0 0 3 (some (7, 0))) 8 0)) 0 0 4 (some (8, 0))) 3 8)) 0 0 5 (some (3, 8))) 4 16)) 0 0 6 (some (4, 16))) 1 1)) 23 0 0 (some (1, 1))) 1 2)) 23 0 1 (some (1, 2))) 1 3)) 23 0 2 (some (1, 3)))
abbrev B_X9_init : ev_B := (3, 61, 159, 6062)
set_option maxRecDepth 20000 in
set_option maxHeartbeats 4000000 in
theorem c_X9_init_0 {G : ev_G} {M : ev_M} (n0 : M.2.2.2 = 1) : ev_CI G K_X9_init B_X9_init 0 0 M (mk_X9 M) := by
  refine ev_Ct_of (L0 := [some (vr 0 0), none]) rfl rfl (Nat.le_of_ble_eq_true rfl) ?_
  refine ev_aload_0 (pc := 0) dX9_init_0 ?_
  refine ev_oini (pc := 1) wl_X9_1 wo_in wo_co ⟨Nat.le_of_ble_eq_true rfl, Nat.le_of_ble_eq_true rfl⟩ (Nat.le_of_ble_eq_true rfl) dX9_init_1 ?_
  refine ev_aload_0 (pc := 4) dX9_init_4 ?_
  refine ev_new (pc := 5) (r := 1) (i := 0) (ci := 0) rfl (by decide) (by rw [n0]; rfl) wk_X9_7 wn_X0 wi_X0 dX9_init_5 ⟨Nat.le_of_ble_eq_true rfl, Nat.le_of_ble_eq_true rfl⟩ ?_
  generalize h1 : ev_mk M 1 0 = M1
  have n1 : M1.2.2.2 = 2 := by
    rw [← h1]
    show M.2.2.2 + 1 = 2
    rw [n0]
  refine ev_dup_r (pc := 8) dX9_init_8 ?_
  refine ev_ctC (pc := 9) (b' := B_X0_init) wl_X9_9 mi_X0_init rfl dX9_init_9 ⟨⟨Nat.le_of_ble_eq_true rfl, Nat.le_of_ble_eq_true rfl⟩, Nat.le_of_ble_eq_true rfl, Nat.le_of_ble_eq_true rfl⟩ (Nat.le_of_ble_eq_true rfl) (c_X0_init_0 n1) ?_
  generalize h2 : mk_X0_0 M1 = M2
  have n2 : M2.2.2.2 = 34 := by
    rw [← h2]
    show M1.2.2.2 + 1 + 1 + 1 + 1 + 1 + 1 + 1 + 1 + 1 + 1 + 1 + 1 + 1 + 1 + 1 + 1 + 1 + 1 + 1 + 1 + 1 + 1 + 1 + 1 + 1 + 1 + 1 + 1 + 1 + 1 + 1 + 1 = 34
    rw [n1]
  refine ev_putq (pc := 12) (r := 0) (i := 0) (ci := 9) (j := 0) (o := some (1, 0)) fl_X9_10 rfl rfl (Or.inr ⟨rfl, rfl, rfl⟩) (Or.inl ⟨_, rfl⟩) dX9_init_12 (by rw [n2]; exact Nat.le_of_ble_eq_true rfl) ?_
  generalize h3 : ev_pq M2 0 0 0 (some (1, 0)) = M3
  have n3 : M3.2.2.2 = 34 := by
    rw [← h3]
    show M2.2.2.2 = 34
    rw [n2]
  refine ev_aload_0 (pc := 15) dX9_init_15 ?_
  refine ev_iconst (pc := 16) (v := 3) dX9_init_16 rfl ?_
  refine ev_newq (pc := 17) (r := 23) (i := 0) (t := 3) (C := "HelmHand$Book") rfl (by decide) (by decide) (by decide) (by rw [n3]; rfl) (by decide) rfl (by decide) wk_X9_7 (by decide) (by decide) (Nat.le_of_ble_eq_true rfl) dX9_init_17 ⟨Nat.le_of_ble_eq_true rfl, Nat.le_of_ble_eq_true rfl⟩ ?_
  generalize h4 : ev_mk M3 23 0 = M4
  have n4 : M4.2.2.2 = 35 := by
    rw [← h4]
    show M3.2.2.2 + 1 = 35
    rw [n3]
  refine ev_putq (pc := 20) (r := 0) (i := 0) (ci := 9) (j := 1) (o := some (23, 0)) fl_X9_16 rfl rfl (Or.inr ⟨rfl, rfl, rfl⟩) (Or.inr ⟨_, rfl⟩) dX9_init_20 (by rw [n4]; exact Nat.le_of_ble_eq_true rfl) ?_
  generalize h5 : ev_pq M4 0 0 1 (some (23, 0)) = M5
  have n5 : M5.2.2.2 = 35 := by
    rw [← h5]
    show M4.2.2.2 = 35
    rw [n4]
  have f5 : FI_ M5 := by
    rw [← h5]
    rfl
  refine ev_aload_0 (pc := 23) dX9_init_23 ?_
  refine ev_iconst (pc := 24) (v := 3) dX9_init_24 rfl ?_
  refine ev_newa (pc := 25) (r := 22) (i := 0) (t := 2) (aty := .boolean) rfl (by decide) (by decide) (by rw [n5]; rfl) (by decide) (Or.inl (by decide)) rfl wa_boolean (by decide) (by decide) (Nat.le_of_ble_eq_true rfl) dX9_init_25 ⟨Nat.le_of_ble_eq_true rfl, Nat.le_of_ble_eq_true rfl⟩ ?_
  generalize h6 : ev_mk M5 22 0 = M6
  have n6 : M6.2.2.2 = 36 := by
    rw [← h6]
    show M5.2.2.2 + 1 = 36
    rw [n5]
  have f6 : FI_ M6 := by
    rw [← h6]
    exact f5
  refine ev_putq (pc := 27) (r := 0) (i := 0) (ci := 9) (j := 2) (o := some (22, 0)) fl_X9_20 rfl rfl (Or.inr ⟨rfl, rfl, rfl⟩) (Or.inr ⟨_, rfl⟩) dX9_init_27 (by rw [n6]; exact Nat.le_of_ble_eq_true rfl) ?_
  generalize h7 : ev_pq M6 0 0 2 (some (22, 0)) = M7
  have n7 : M7.2.2.2 = 36 := by
    rw [← h7]
    show M6.2.2.2 = 36
    rw [n6]
  have f7 : FI_ M7 := by
    rw [← h7]
    exact f6
  refine ev_aload_0 (pc := 30) dX9_init_30 ?_
  refine ev_new (pc := 31) (r := 7) (i := 0) (ci := 4) rfl (by decide) (by rw [n7]; rfl) wk_X9_24 wn_X4 wi_X4 dX9_init_31 ⟨Nat.le_of_ble_eq_true rfl, Nat.le_of_ble_eq_true rfl⟩ ?_
  generalize h8 : ev_mk M7 7 0 = M8
  have n8 : M8.2.2.2 = 37 := by
    rw [← h8]
    show M7.2.2.2 + 1 = 37
    rw [n7]
  have f8 : FI_ M8 := by
    rw [← h8]
    exact f7
  refine ev_dup_r (pc := 34) dX9_init_34 ?_
  refine ev_ctCN (pc := 35) (host := "HelmHand") (b' := B_X4_init) (List.mem_of_getElem? (i := 5) rfl) mi_X4_init rfl dX9_init_35 ⟨⟨Nat.le_of_ble_eq_true rfl, Nat.le_of_ble_eq_true rfl⟩, Nat.le_of_ble_eq_true rfl, Nat.le_of_ble_eq_true rfl⟩ (Nat.le_of_ble_eq_true rfl) (c_X4_init_0 n8) ?_
  generalize h9 : mk_X4 M8 = M9
  have n9 : M9.2.2.2 = 49 := by
    rw [← h9]
    show M8.2.2.2 + 1 + 1 + 1 + 1 + 1 + 1 + 1 + 1 + 1 + 1 + 1 + 1 = 49
    rw [n8]
  have f9 : FI_ M9 := by
    rw [← h9]
    exact f8
  refine ev_putq (pc := 38) (r := 0) (i := 0) (ci := 9) (j := 3) (o := some (7, 0)) fl_X9_27 rfl rfl (Or.inr ⟨rfl, rfl, rfl⟩) (Or.inl ⟨_, rfl⟩) dX9_init_38 (by rw [n9]; exact Nat.le_of_ble_eq_true rfl) ?_
  generalize h10 : ev_pq M9 0 0 3 (some (7, 0)) = M10
  have n10 : M10.2.2.2 = 49 := by
    rw [← h10]
    show M9.2.2.2 = 49
    rw [n9]
  have f10 : FI_ M10 := by
    rw [← h10]
    exact f9
  refine ev_aload_0 (pc := 41) dX9_init_41 ?_
  refine ev_new (pc := 42) (r := 8) (i := 0) (ci := 8) rfl (by decide) (by rw [n10]; rfl) wk_X9_31 wn_X8 wi_X8 dX9_init_42 ⟨Nat.le_of_ble_eq_true rfl, Nat.le_of_ble_eq_true rfl⟩ ?_
  generalize h11 : ev_mk M10 8 0 = M11
  have n11 : M11.2.2.2 = 50 := by
    rw [← h11]
    show M10.2.2.2 + 1 = 50
    rw [n10]
  have f11 : FI_ M11 := by
    rw [← h11]
    exact f10
  refine ev_dup_r (pc := 45) dX9_init_45 ?_
  refine ev_ctCN (pc := 46) (host := "HelmHand") (b' := B_X8_init) (List.mem_of_getElem? (i := 11) rfl) mi_X8_init rfl dX9_init_46 ⟨⟨Nat.le_of_ble_eq_true rfl, Nat.le_of_ble_eq_true rfl⟩, Nat.le_of_ble_eq_true rfl, Nat.le_of_ble_eq_true rfl⟩ (Nat.le_of_ble_eq_true rfl) (c_X8_init_0 n11) ?_
  generalize h12 : mk_X8 M11 = M12
  have n12 : M12.2.2.2 = 56 := by
    rw [← h12]
    show M11.2.2.2 + 1 + 1 + 1 + 1 + 1 + 1 = 56
    rw [n11]
  have f12 : FI_ M12 := by
    rw [← h12]
    exact f11
  refine ev_putq (pc := 49) (r := 0) (i := 0) (ci := 9) (j := 4) (o := some (8, 0)) fl_X9_34 rfl rfl (Or.inr ⟨rfl, rfl, rfl⟩) (Or.inl ⟨_, rfl⟩) dX9_init_49 (by rw [n12]; exact Nat.le_of_ble_eq_true rfl) ?_
  generalize h13 : ev_pq M12 0 0 4 (some (8, 0)) = M13
  have n13 : M13.2.2.2 = 56 := by
    rw [← h13]
    show M12.2.2.2 = 56
    rw [n12]
  have f13 : FI_ M13 := by
    rw [← h13]
    exact f12
  refine ev_aload_0 (pc := 52) dX9_init_52 ?_
  refine ev_new (pc := 53) (r := 3) (i := 8) (ci := 5) rfl (by decide) (by rw [n13]; rfl) wk_X9_38 wn_X5 wi_X5 dX9_init_53 ⟨Nat.le_of_ble_eq_true rfl, Nat.le_of_ble_eq_true rfl⟩ ?_
  generalize h14 : ev_mk M13 3 8 = M14
  have n14 : M14.2.2.2 = 57 := by
    rw [← h14]
    show M13.2.2.2 + 1 = 57
    rw [n13]
  have f14 : FI_ M14 := by
    rw [← h14]
    exact f13
  refine ev_dup_r (pc := 56) dX9_init_56 ?_
  refine ev_ctCN (pc := 57) (host := "HelmHand") (b' := B_X5_init) (List.mem_of_getElem? (i := 13) rfl) mi_X5_init rfl dX9_init_57 ⟨⟨Nat.le_of_ble_eq_true rfl, Nat.le_of_ble_eq_true rfl⟩, Nat.le_of_ble_eq_true rfl, Nat.le_of_ble_eq_true rfl⟩ (Nat.le_of_ble_eq_true rfl) (c_X5_init (M := M14) (i := 8) (by decide) (by rw [n14]; exact Nat.le_of_ble_eq_true rfl) (by rw [n14]; rfl)) ?_
  generalize h15 : mk_X5 8 M14 = M15
  have n15 : M15.2.2.2 = 58 := by
    rw [← h15]
    show M14.2.2.2 + 1 = 58
    rw [n14]
  have f15 : FI_ M15 := by
    rw [← h15]
    exact f14
  refine ev_putq (pc := 60) (r := 0) (i := 0) (ci := 9) (j := 5) (o := some (3, 8)) fl_X9_41 rfl rfl (Or.inr ⟨rfl, rfl, rfl⟩) (Or.inl ⟨_, rfl⟩) dX9_init_60 (by rw [n15]; exact Nat.le_of_ble_eq_true rfl) ?_
  generalize h16 : ev_pq M15 0 0 5 (some (3, 8)) = M16
  have n16 : M16.2.2.2 = 58 := by
    rw [← h16]
    show M15.2.2.2 = 58
    rw [n15]
  have f16 : FI_ M16 := by
    rw [← h16]
    exact f15
  refine ev_aload_0 (pc := 63) dX9_init_63 ?_
  refine ev_new (pc := 64) (r := 4) (i := 16) (ci := 1) rfl (by decide) (by rw [n16]; rfl) wk_X9_45 wn_X1 wi_X1 dX9_init_64 ⟨Nat.le_of_ble_eq_true rfl, Nat.le_of_ble_eq_true rfl⟩ ?_
  generalize h17 : ev_mk M16 4 16 = M17
  have n17 : M17.2.2.2 = 59 := by
    rw [← h17]
    show M16.2.2.2 + 1 = 59
    rw [n16]
  have f17 : FI_ M17 := by
    rw [← h17]
    exact f16
  refine ev_dup_r (pc := 67) dX9_init_67 ?_
  refine ev_ctCN (pc := 68) (host := "HelmHand") (b' := B_X1_init) (List.mem_of_getElem? (i := 14) rfl) mi_X1_init rfl dX9_init_68 ⟨⟨Nat.le_of_ble_eq_true rfl, Nat.le_of_ble_eq_true rfl⟩, Nat.le_of_ble_eq_true rfl, Nat.le_of_ble_eq_true rfl⟩ (Nat.le_of_ble_eq_true rfl) (c_X1_init (M := M17) (i := 16) (by decide) (by rw [n17]; exact Nat.le_of_ble_eq_true rfl) (by rw [n17]; rfl) (by rw [n17]; rfl)) ?_
  generalize h18 : mk_X1 16 M17 = M18
  have n18 : M18.2.2.2 = 61 := by
    rw [← h18]
    show M17.2.2.2 + 1 + 1 = 61
    rw [n17]
  have f18 : FI_ M18 := by
    rw [← h18]
    exact f17
  refine ev_putq (pc := 71) (r := 0) (i := 0) (ci := 9) (j := 6) (o := some (4, 16)) fl_X9_48 rfl rfl (Or.inr ⟨rfl, rfl, rfl⟩) (Or.inl ⟨_, rfl⟩) dX9_init_71 (by rw [n18]; exact Nat.le_of_ble_eq_true rfl) ?_
  generalize h19 : ev_pq M18 0 0 6 (some (4, 16)) = M19
  have n19 : M19.2.2.2 = 61 := by
    rw [← h19]
    show M18.2.2.2 = 61
    rw [n18]
  have f19 : FI_ M19 := by
    rw [← h19]
    exact f18
  refine ev_iconst (pc := 74) (v := 0) dX9_init_74 rfl ?_
  refine ev_istore_1 (pc := 75) dX9_init_75 (by decide) rfl ?_
  refine ev_iload_1 (pc := 76) dX9_init_76 ?_
  refine ev_iconst (pc := 77) (v := 3) dX9_init_77 rfl ?_
  refine ev_icc_ge (pc := 78) (tgt := 100) dX9_init_78 (by decide) (fun z => absurd (show (0 : Int32) < 3 by decide) z) (fun _ => ?_)
  refine ev_aload_0 (pc := 81) dX9_init_81 ?_
  refine ev_getqr (pc := 82) (r := 0) (i := 0) (ci := 9) (j := 1) (r2 := 23) (i2 := 0) fl_X9_16 rfl rfl dX9_init_82 (by rw [n19]; exact Nat.le_of_ble_eq_true rfl) f19 ?_
  refine ev_iload_1 (pc := 85) dX9_init_85 ?_
  refine ev_new (pc := 86) (r := 1) (i := 1) (ci := 0) rfl (by decide) (by rw [n19]; rfl) wk_X9_7 wn_X0 wi_X0 dX9_init_86 ⟨Nat.le_of_ble_eq_true rfl, Nat.le_of_ble_eq_true rfl⟩ ?_
  generalize h20 : ev_mk M19 1 1 = M20
  have n20 : M20.2.2.2 = 62 := by
    rw [← h20]
    show M19.2.2.2 + 1 = 62
    rw [n19]
  have f20 : FI_ M20 := by
    rw [← h20]
    exact f19
  refine ev_dup_r (pc := 89) dX9_init_89 ?_
  refine ev_ctC (pc := 90) (b' := B_X0_init) wl_X9_9 mi_X0_init rfl dX9_init_90 ⟨⟨Nat.le_of_ble_eq_true rfl, Nat.le_of_ble_eq_true rfl⟩, Nat.le_of_ble_eq_true rfl, Nat.le_of_ble_eq_true rfl⟩ (Nat.le_of_ble_eq_true rfl) (c_X0_init_1 n20) ?_
  generalize h21 : mk_X0_1 M20 = M21
  have n21 : M21.2.2.2 = 94 := by
    rw [← h21]
    show M20.2.2.2 + 1 + 1 + 1 + 1 + 1 + 1 + 1 + 1 + 1 + 1 + 1 + 1 + 1 + 1 + 1 + 1 + 1 + 1 + 1 + 1 + 1 + 1 + 1 + 1 + 1 + 1 + 1 + 1 + 1 + 1 + 1 + 1 = 94
    rw [n20]
  have f21 : FI_ M21 := by
    rw [← h21]
    exact f20
  refine ev_aast (pc := 93) (r := 23) (i := 0) (t := 3) (r2 := 1) (i2 := 1) (ci := 0) (x := 0) rfl rfl rfl (by decide) (by decide) (by decide) dX9_init_93 (by rw [n21]; exact Nat.le_of_ble_eq_true rfl) (by rw [n21]; exact Nat.le_of_ble_eq_true rfl) ?_
  generalize h22 : ev_pq M21 23 0 (0 : Int32).toNatClampNeg (some (1, 1)) = M22
  have n22 : M22.2.2.2 = 94 := by
    rw [← h22]
    show M21.2.2.2 = 94
    rw [n21]
  have f22 : FI_ M22 := by
    rw [← h22]
    exact f21
  refine ev_iinc_1 (pc := 94) (y := 1) dX9_init_94 rfl (by decide) rfl ?_
  refine ev_goto (pc := 97) (tgt := 76) dX9_init_97 (by decide) ?_
  refine ev_iload_1 (pc := 76) dX9_init_76 ?_
  refine ev_iconst (pc := 77) (v := 3) dX9_init_77 rfl ?_
  refine ev_icc_ge (pc := 78) (tgt := 100) dX9_init_78 (by decide) (fun z => absurd (show (1 : Int32) < 3 by decide) z) (fun _ => ?_)
  refine ev_aload_0 (pc := 81) dX9_init_81 ?_
  refine ev_getqr (pc := 82) (r := 0) (i := 0) (ci := 9) (j := 1) (r2 := 23) (i2 := 0) fl_X9_16 rfl rfl dX9_init_82 (by rw [n22]; exact Nat.le_of_ble_eq_true rfl) f22 ?_
  refine ev_iload_1 (pc := 85) dX9_init_85 ?_
  refine ev_new (pc := 86) (r := 1) (i := 2) (ci := 0) rfl (by decide) (by rw [n22]; rfl) wk_X9_7 wn_X0 wi_X0 dX9_init_86 ⟨Nat.le_of_ble_eq_true rfl, Nat.le_of_ble_eq_true rfl⟩ ?_
  generalize h23 : ev_mk M22 1 2 = M23
  have n23 : M23.2.2.2 = 95 := by
    rw [← h23]
    show M22.2.2.2 + 1 = 95
    rw [n22]
  have f23 : FI_ M23 := by
    rw [← h23]
    exact f22
  refine ev_dup_r (pc := 89) dX9_init_89 ?_
  refine ev_ctC (pc := 90) (b' := B_X0_init) wl_X9_9 mi_X0_init rfl dX9_init_90 ⟨⟨Nat.le_of_ble_eq_true rfl, Nat.le_of_ble_eq_true rfl⟩, Nat.le_of_ble_eq_true rfl, Nat.le_of_ble_eq_true rfl⟩ (Nat.le_of_ble_eq_true rfl) (c_X0_init_2 n23) ?_
  generalize h24 : mk_X0_2 M23 = M24
  have n24 : M24.2.2.2 = 127 := by
    rw [← h24]
    show M23.2.2.2 + 1 + 1 + 1 + 1 + 1 + 1 + 1 + 1 + 1 + 1 + 1 + 1 + 1 + 1 + 1 + 1 + 1 + 1 + 1 + 1 + 1 + 1 + 1 + 1 + 1 + 1 + 1 + 1 + 1 + 1 + 1 + 1 = 127
    rw [n23]
  have f24 : FI_ M24 := by
    rw [← h24]
    exact f23
  refine ev_aast (pc := 93) (r := 23) (i := 0) (t := 3) (r2 := 1) (i2 := 2) (ci := 0) (x := 1) rfl rfl rfl (by decide) (by decide) (by decide) dX9_init_93 (by rw [n24]; exact Nat.le_of_ble_eq_true rfl) (by rw [n24]; exact Nat.le_of_ble_eq_true rfl) ?_
  generalize h25 : ev_pq M24 23 0 (1 : Int32).toNatClampNeg (some (1, 2)) = M25
  have n25 : M25.2.2.2 = 127 := by
    rw [← h25]
    show M24.2.2.2 = 127
    rw [n24]
  have f25 : FI_ M25 := by
    rw [← h25]
    exact f24
  refine ev_iinc_1 (pc := 94) (y := 2) dX9_init_94 rfl (by decide) rfl ?_
  refine ev_goto (pc := 97) (tgt := 76) dX9_init_97 (by decide) ?_
  refine ev_iload_1 (pc := 76) dX9_init_76 ?_
  refine ev_iconst (pc := 77) (v := 3) dX9_init_77 rfl ?_
  refine ev_icc_ge (pc := 78) (tgt := 100) dX9_init_78 (by decide) (fun z => absurd (show (2 : Int32) < 3 by decide) z) (fun _ => ?_)
  refine ev_aload_0 (pc := 81) dX9_init_81 ?_
  refine ev_getqr (pc := 82) (r := 0) (i := 0) (ci := 9) (j := 1) (r2 := 23) (i2 := 0) fl_X9_16 rfl rfl dX9_init_82 (by rw [n25]; exact Nat.le_of_ble_eq_true rfl) f25 ?_
  refine ev_iload_1 (pc := 85) dX9_init_85 ?_
  refine ev_new (pc := 86) (r := 1) (i := 3) (ci := 0) rfl (by decide) (by rw [n25]; rfl) wk_X9_7 wn_X0 wi_X0 dX9_init_86 ⟨Nat.le_of_ble_eq_true rfl, Nat.le_of_ble_eq_true rfl⟩ ?_
  generalize h26 : ev_mk M25 1 3 = M26
  have n26 : M26.2.2.2 = 128 := by
    rw [← h26]
    show M25.2.2.2 + 1 = 128
    rw [n25]
  have f26 : FI_ M26 := by
    rw [← h26]
    exact f25
  refine ev_dup_r (pc := 89) dX9_init_89 ?_
  refine ev_ctC (pc := 90) (b' := B_X0_init) wl_X9_9 mi_X0_init rfl dX9_init_90 ⟨⟨Nat.le_of_ble_eq_true rfl, Nat.le_of_ble_eq_true rfl⟩, Nat.le_of_ble_eq_true rfl, Nat.le_of_ble_eq_true rfl⟩ (Nat.le_of_ble_eq_true rfl) (c_X0_init_3 n26) ?_
  generalize h27 : mk_X0_3 M26 = M27
  have n27 : M27.2.2.2 = 160 := by
    rw [← h27]
    show M26.2.2.2 + 1 + 1 + 1 + 1 + 1 + 1 + 1 + 1 + 1 + 1 + 1 + 1 + 1 + 1 + 1 + 1 + 1 + 1 + 1 + 1 + 1 + 1 + 1 + 1 + 1 + 1 + 1 + 1 + 1 + 1 + 1 + 1 = 160
    rw [n26]
  have f27 : FI_ M27 := by
    rw [← h27]
    exact f26
  refine ev_aast (pc := 93) (r := 23) (i := 0) (t := 3) (r2 := 1) (i2 := 3) (ci := 0) (x := 2) rfl rfl rfl (by decide) (by decide) (by decide) dX9_init_93 (by rw [n27]; exact Nat.le_of_ble_eq_true rfl) (by rw [n27]; exact Nat.le_of_ble_eq_true rfl) ?_
  generalize h28 : ev_pq M27 23 0 (2 : Int32).toNatClampNeg (some (1, 3)) = M28
  have n28 : M28.2.2.2 = 160 := by
    rw [← h28]
    show M27.2.2.2 = 160
    rw [n27]
  have f28 : FI_ M28 := by
    rw [← h28]
    exact f27
  refine ev_iinc_1 (pc := 94) (y := 3) dX9_init_94 rfl (by decide) rfl ?_
  refine ev_goto (pc := 97) (tgt := 76) dX9_init_97 (by decide) ?_
  refine ev_iload_1 (pc := 76) dX9_init_76 ?_
  refine ev_iconst (pc := 77) (v := 3) dX9_init_77 rfl ?_
  refine ev_icc_ge (pc := 78) (tgt := 100) dX9_init_78 (by decide) (fun _ => ?_) (fun z => absurd z (by decide))
  refine ev_vret (pc := 100) dX9_init_100 rfl ⟨rfl, ?_⟩
  rw [← h28, ← h27, ← h26, ← h25, ← h24, ← h23, ← h22, ← h21, ← h20, ← h19, ← h18, ← h17, ← h16, ← h15, ← h14, ← h13, ← h12, ← h11, ← h10, ← h9, ← h8, ← h7, ← h6, ← h5, ← h4, ← h3, ← h2, ← h1]
  rfl
def mk_X10 (M : ev_M) : ev_M := (ev_pi (ev_pq (ev_mk (ev_pq (ev_mk (ev_pq (ev_mk (ev_pq (ev_mk (ev_pq (ev_mk (ev_pq (ev_mk (ev_pq (ev_mk (ev_pq (ev_mk (ev_pq (ev_mk (ev_pq (ev_mk (ev_pq (ev_mk (ev_pq (ev_mk (ev_pq (ev_mk (ev_pq (ev_mk (ev_pq (ev_mk (ev_pq (ev_mk (ev_pq (ev_mk (ev_pq (ev_mk (ev_pq (ev_mk (ev_pq (ev_mk (ev_pq (ev_mk (ev_pq (ev_mk (ev_pq (ev_mk M 30 0) 10 0 1 (some (30, 0))) 31 0) 10 0 2 (some (31, 0))) 32 0) 10 0 3 (some (32, 0))) 33 0) 10 0 4 (some (33, 0))) 34 0) 10 0 5 (some (34, 0))) 35 0) 10 0 6 (some (35, 0))) 36 0) 10 0 7 (some (36, 0))) 37 0) 10 0 8 (some (37, 0))) 38 0) 10 0 9 (some (38, 0))) 39 0) 10 0 19 (some (39, 0))) 40 0) 10 0 21 (some (40, 0))) 41 0) 10 0 22 (some (41, 0))) 42 0) 10 0 23 (some (42, 0))) 43 0) 10 0 24 (some (43, 0))) 44 0) 10 0 25 (some (44, 0))) 45 0) 10 0 27 (some (45, 0))) 46 0) 10 0 28 (some (46, 0))) 47 0) 10 0 29 (some (47, 0))) 48 0) 10 0 30 (some (48, 0))) 49 0) 10 0 31 (some (49, 0))) 50 0) 10 0 43 (some (50, 0))) 51 0) 10 0 44 (some (51, 0))) 52 0) 10 0 45 (some (52, 0))) 33 0 0 (-1))
abbrev B_X10_init : ev_B := (1, 20, 23, 5666)
set_option maxRecDepth 20000 in
set_option maxHeartbeats 4000000 in
theorem c_X10_init_0 {G : ev_G} {M : ev_M} (n0 : M.2.2.2 = 161) : ev_CI G K_X10_init B_X10_init 10 0 M (mk_X10 M) := by
  refine ev_Ct_of (L0 := [some (vr 10 0)]) rfl rfl (Nat.le_of_ble_eq_true rfl) ?_
  refine ev_aload_0 (pc := 0) dX10_init_0 ?_
  refine ev_oini (pc := 1) wl_X10_1 wo_in wo_co ⟨Nat.le_of_ble_eq_true rfl, Nat.le_of_ble_eq_true rfl⟩ (Nat.le_of_ble_eq_true rfl) dX10_init_1 ?_
  refine ev_aload_0 (pc := 4) dX10_init_4 ?_
  refine ev_sipush (pc := 5) (v := 2400) dX10_init_5 (by decide) ?_
  refine ev_newa (pc := 8) (r := 30) (i := 0) (t := 1) (aty := .byte) rfl (by decide) (by decide) (by rw [n0]; rfl) (by decide) (Or.inr (by decide)) rfl wa_byte (by decide) (by decide) (Nat.le_of_ble_eq_true rfl) dX10_init_8 ⟨Nat.le_of_ble_eq_true rfl, Nat.le_of_ble_eq_true rfl⟩ ?_
  generalize h1 : ev_mk M 30 0 = M1
  have n1 : M1.2.2.2 = 162 := by
    rw [← h1]
    show M.2.2.2 + 1 = 162
    rw [n0]
  refine ev_putq (pc := 10) (r := 10) (i := 0) (ci := 10) (j := 1) (o := some (30, 0)) fl_X10_7 rfl rfl (Or.inr ⟨rfl, rfl, rfl⟩) (Or.inr ⟨_, rfl⟩) dX10_init_10 (by rw [n1]; exact Nat.le_of_ble_eq_true rfl) ?_
  generalize h2 : ev_pq M1 10 0 1 (some (30, 0)) = M2
  have n2 : M2.2.2.2 = 162 := by
    rw [← h2]
    show M1.2.2.2 = 162
    rw [n1]
  refine ev_aload_0 (pc := 13) dX10_init_13 ?_
  refine ev_iconst (pc := 14) (v := 4) dX10_init_14 rfl ?_
  refine ev_newa (pc := 15) (r := 31) (i := 0) (t := 0) (aty := .int) rfl (by decide) (by decide) (by rw [n2]; rfl) (by decide) (Or.inr (by decide)) rfl wa_int (by decide) (by decide) (Nat.le_of_ble_eq_true rfl) dX10_init_15 ⟨Nat.le_of_ble_eq_true rfl, Nat.le_of_ble_eq_true rfl⟩ ?_
  generalize h3 : ev_mk M2 31 0 = M3
  have n3 : M3.2.2.2 = 163 := by
    rw [← h3]
    show M2.2.2.2 + 1 = 163
    rw [n2]
  refine ev_putq (pc := 17) (r := 10) (i := 0) (ci := 10) (j := 2) (o := some (31, 0)) fl_X10_13 rfl rfl (Or.inr ⟨rfl, rfl, rfl⟩) (Or.inr ⟨_, rfl⟩) dX10_init_17 (by rw [n3]; exact Nat.le_of_ble_eq_true rfl) ?_
  generalize h4 : ev_pq M3 10 0 2 (some (31, 0)) = M4
  have n4 : M4.2.2.2 = 163 := by
    rw [← h4]
    show M3.2.2.2 = 163
    rw [n3]
  refine ev_aload_0 (pc := 20) dX10_init_20 ?_
  refine ev_iconst (pc := 21) (v := 4) dX10_init_21 rfl ?_
  refine ev_newa (pc := 22) (r := 32) (i := 0) (t := 0) (aty := .int) rfl (by decide) (by decide) (by rw [n4]; rfl) (by decide) (Or.inr (by decide)) rfl wa_int (by decide) (by decide) (Nat.le_of_ble_eq_true rfl) dX10_init_22 ⟨Nat.le_of_ble_eq_true rfl, Nat.le_of_ble_eq_true rfl⟩ ?_
  generalize h5 : ev_mk M4 32 0 = M5
  have n5 : M5.2.2.2 = 164 := by
    rw [← h5]
    show M4.2.2.2 + 1 = 164
    rw [n4]
  refine ev_putq (pc := 24) (r := 10) (i := 0) (ci := 10) (j := 3) (o := some (32, 0)) fl_X10_17 rfl rfl (Or.inr ⟨rfl, rfl, rfl⟩) (Or.inr ⟨_, rfl⟩) dX10_init_24 (by rw [n5]; exact Nat.le_of_ble_eq_true rfl) ?_
  generalize h6 : ev_pq M5 10 0 3 (some (32, 0)) = M6
  have n6 : M6.2.2.2 = 164 := by
    rw [← h6]
    show M5.2.2.2 = 164
    rw [n5]
  refine ev_aload_0 (pc := 27) dX10_init_27 ?_
  refine ev_iconst (pc := 28) (v := 4) dX10_init_28 rfl ?_
  refine ev_newa (pc := 29) (r := 33) (i := 0) (t := 0) (aty := .int) rfl (by decide) (by decide) (by rw [n6]; rfl) (by decide) (Or.inr (by decide)) rfl wa_int (by decide) (by decide) (Nat.le_of_ble_eq_true rfl) dX10_init_29 ⟨Nat.le_of_ble_eq_true rfl, Nat.le_of_ble_eq_true rfl⟩ ?_
  generalize h7 : ev_mk M6 33 0 = M7
  have n7 : M7.2.2.2 = 165 := by
    rw [← h7]
    show M6.2.2.2 + 1 = 165
    rw [n6]
  refine ev_putq (pc := 31) (r := 10) (i := 0) (ci := 10) (j := 4) (o := some (33, 0)) fl_X10_20 rfl rfl (Or.inr ⟨rfl, rfl, rfl⟩) (Or.inr ⟨_, rfl⟩) dX10_init_31 (by rw [n7]; exact Nat.le_of_ble_eq_true rfl) ?_
  generalize h8 : ev_pq M7 10 0 4 (some (33, 0)) = M8
  have n8 : M8.2.2.2 = 165 := by
    rw [← h8]
    show M7.2.2.2 = 165
    rw [n7]
  have f8 : FM_ M8 := by
    rw [← h8]
    rfl
  refine ev_aload_0 (pc := 34) dX10_init_34 ?_
  refine ev_bipush (pc := 35) (v := 16) dX10_init_35 (by decide) ?_
  refine ev_newa (pc := 37) (r := 34) (i := 0) (t := 0) (aty := .int) rfl (by decide) (by decide) (by rw [n8]; rfl) (by decide) (Or.inr (by decide)) rfl wa_int (by decide) (by decide) (Nat.le_of_ble_eq_true rfl) dX10_init_37 ⟨Nat.le_of_ble_eq_true rfl, Nat.le_of_ble_eq_true rfl⟩ ?_
  generalize h9 : ev_mk M8 34 0 = M9
  have n9 : M9.2.2.2 = 166 := by
    rw [← h9]
    show M8.2.2.2 + 1 = 166
    rw [n8]
  have f9 : FM_ M9 := by
    rw [← h9]
    exact f8
  refine ev_putq (pc := 39) (r := 10) (i := 0) (ci := 10) (j := 5) (o := some (34, 0)) fl_X10_23 rfl rfl (Or.inr ⟨rfl, rfl, rfl⟩) (Or.inr ⟨_, rfl⟩) dX10_init_39 (by rw [n9]; exact Nat.le_of_ble_eq_true rfl) ?_
  generalize h10 : ev_pq M9 10 0 5 (some (34, 0)) = M10
  have n10 : M10.2.2.2 = 166 := by
    rw [← h10]
    show M9.2.2.2 = 166
    rw [n9]
  have f10 : FM_ M10 := by
    rw [← h10]
    exact f9
  refine ev_aload_0 (pc := 42) dX10_init_42 ?_
  refine ev_sipush (pc := 43) (v := 184) dX10_init_43 (by decide) ?_
  refine ev_newa (pc := 46) (r := 35) (i := 0) (t := 0) (aty := .int) rfl (by decide) (by decide) (by rw [n10]; rfl) (by decide) (Or.inr (by decide)) rfl wa_int (by decide) (by decide) (Nat.le_of_ble_eq_true rfl) dX10_init_46 ⟨Nat.le_of_ble_eq_true rfl, Nat.le_of_ble_eq_true rfl⟩ ?_
  generalize h11 : ev_mk M10 35 0 = M11
  have n11 : M11.2.2.2 = 167 := by
    rw [← h11]
    show M10.2.2.2 + 1 = 167
    rw [n10]
  have f11 : FM_ M11 := by
    rw [← h11]
    exact f10
  refine ev_putq (pc := 48) (r := 10) (i := 0) (ci := 10) (j := 6) (o := some (35, 0)) fl_X10_26 rfl rfl (Or.inr ⟨rfl, rfl, rfl⟩) (Or.inr ⟨_, rfl⟩) dX10_init_48 (by rw [n11]; exact Nat.le_of_ble_eq_true rfl) ?_
  generalize h12 : ev_pq M11 10 0 6 (some (35, 0)) = M12
  have n12 : M12.2.2.2 = 167 := by
    rw [← h12]
    show M11.2.2.2 = 167
    rw [n11]
  have f12 : FM_ M12 := by
    rw [← h12]
    exact f11
  refine ev_aload_0 (pc := 51) dX10_init_51 ?_
  refine ev_sipush (pc := 52) (v := 288) dX10_init_52 (by decide) ?_
  refine ev_newa (pc := 55) (r := 36) (i := 0) (t := 0) (aty := .int) rfl (by decide) (by decide) (by rw [n12]; rfl) (by decide) (Or.inr (by decide)) rfl wa_int (by decide) (by decide) (Nat.le_of_ble_eq_true rfl) dX10_init_55 ⟨Nat.le_of_ble_eq_true rfl, Nat.le_of_ble_eq_true rfl⟩ ?_
  generalize h13 : ev_mk M12 36 0 = M13
  have n13 : M13.2.2.2 = 168 := by
    rw [← h13]
    show M12.2.2.2 + 1 = 168
    rw [n12]
  have f13 : FM_ M13 := by
    rw [← h13]
    exact f12
  refine ev_putq (pc := 57) (r := 10) (i := 0) (ci := 10) (j := 7) (o := some (36, 0)) fl_X10_29 rfl rfl (Or.inr ⟨rfl, rfl, rfl⟩) (Or.inr ⟨_, rfl⟩) dX10_init_57 (by rw [n13]; exact Nat.le_of_ble_eq_true rfl) ?_
  generalize h14 : ev_pq M13 10 0 7 (some (36, 0)) = M14
  have n14 : M14.2.2.2 = 168 := by
    rw [← h14]
    show M13.2.2.2 = 168
    rw [n13]
  have f14 : FM_ M14 := by
    rw [← h14]
    exact f13
  refine ev_aload_0 (pc := 60) dX10_init_60 ?_
  refine ev_sipush (pc := 61) (v := 488) dX10_init_61 (by decide) ?_
  refine ev_newa (pc := 64) (r := 37) (i := 0) (t := 0) (aty := .int) rfl (by decide) (by decide) (by rw [n14]; rfl) (by decide) (Or.inr (by decide)) rfl wa_int (by decide) (by decide) (Nat.le_of_ble_eq_true rfl) dX10_init_64 ⟨Nat.le_of_ble_eq_true rfl, Nat.le_of_ble_eq_true rfl⟩ ?_
  generalize h15 : ev_mk M14 37 0 = M15
  have n15 : M15.2.2.2 = 169 := by
    rw [← h15]
    show M14.2.2.2 + 1 = 169
    rw [n14]
  have f15 : FM_ M15 := by
    rw [← h15]
    exact f14
  refine ev_putq (pc := 66) (r := 10) (i := 0) (ci := 10) (j := 8) (o := some (37, 0)) fl_X10_32 rfl rfl (Or.inr ⟨rfl, rfl, rfl⟩) (Or.inr ⟨_, rfl⟩) dX10_init_66 (by rw [n15]; exact Nat.le_of_ble_eq_true rfl) ?_
  generalize h16 : ev_pq M15 10 0 8 (some (37, 0)) = M16
  have n16 : M16.2.2.2 = 169 := by
    rw [← h16]
    show M15.2.2.2 = 169
    rw [n15]
  have f16 : FM_ M16 := by
    rw [← h16]
    exact f15
  refine ev_aload_0 (pc := 69) dX10_init_69 ?_
  refine ev_sipush (pc := 70) (v := 136) dX10_init_70 (by decide) ?_
  refine ev_newa (pc := 73) (r := 38) (i := 0) (t := 0) (aty := .int) rfl (by decide) (by decide) (by rw [n16]; rfl) (by decide) (Or.inr (by decide)) rfl wa_int (by decide) (by decide) (Nat.le_of_ble_eq_true rfl) dX10_init_73 ⟨Nat.le_of_ble_eq_true rfl, Nat.le_of_ble_eq_true rfl⟩ ?_
  generalize h17 : ev_mk M16 38 0 = M17
  have n17 : M17.2.2.2 = 170 := by
    rw [← h17]
    show M16.2.2.2 + 1 = 170
    rw [n16]
  have f17 : FM_ M17 := by
    rw [← h17]
    exact f16
  refine ev_putq (pc := 75) (r := 10) (i := 0) (ci := 10) (j := 9) (o := some (38, 0)) fl_X10_35 rfl rfl (Or.inr ⟨rfl, rfl, rfl⟩) (Or.inr ⟨_, rfl⟩) dX10_init_75 (by rw [n17]; exact Nat.le_of_ble_eq_true rfl) ?_
  generalize h18 : ev_pq M17 10 0 9 (some (38, 0)) = M18
  have n18 : M18.2.2.2 = 170 := by
    rw [← h18]
    show M17.2.2.2 = 170
    rw [n17]
  have f18 : FM_ M18 := by
    rw [← h18]
    exact f17
  refine ev_aload_0 (pc := 78) dX10_init_78 ?_
  refine ev_bipush (pc := 79) (v := 61) dX10_init_79 (by decide) ?_
  refine ev_newa (pc := 81) (r := 39) (i := 0) (t := 0) (aty := .int) rfl (by decide) (by decide) (by rw [n18]; rfl) (by decide) (Or.inr (by decide)) rfl wa_int (by decide) (by decide) (Nat.le_of_ble_eq_true rfl) dX10_init_81 ⟨Nat.le_of_ble_eq_true rfl, Nat.le_of_ble_eq_true rfl⟩ ?_
  generalize h19 : ev_mk M18 39 0 = M19
  have n19 : M19.2.2.2 = 171 := by
    rw [← h19]
    show M18.2.2.2 + 1 = 171
    rw [n18]
  have f19 : FM_ M19 := by
    rw [← h19]
    exact f18
  refine ev_putq (pc := 83) (r := 10) (i := 0) (ci := 10) (j := 19) (o := some (39, 0)) fl_X10_38 rfl rfl (Or.inr ⟨rfl, rfl, rfl⟩) (Or.inr ⟨_, rfl⟩) dX10_init_83 (by rw [n19]; exact Nat.le_of_ble_eq_true rfl) ?_
  generalize h20 : ev_pq M19 10 0 19 (some (39, 0)) = M20
  have n20 : M20.2.2.2 = 171 := by
    rw [← h20]
    show M19.2.2.2 = 171
    rw [n19]
  have f20 : FM_ M20 := by
    rw [← h20]
    exact f19
  refine ev_aload_0 (pc := 86) dX10_init_86 ?_
  refine ev_bipush (pc := 87) (v := 23) dX10_init_87 (by decide) ?_
  refine ev_newa (pc := 89) (r := 40) (i := 0) (t := 0) (aty := .int) rfl (by decide) (by decide) (by rw [n20]; rfl) (by decide) (Or.inr (by decide)) rfl wa_int (by decide) (by decide) (Nat.le_of_ble_eq_true rfl) dX10_init_89 ⟨Nat.le_of_ble_eq_true rfl, Nat.le_of_ble_eq_true rfl⟩ ?_
  generalize h21 : ev_mk M20 40 0 = M21
  have n21 : M21.2.2.2 = 172 := by
    rw [← h21]
    show M20.2.2.2 + 1 = 172
    rw [n20]
  have f21 : FM_ M21 := by
    rw [← h21]
    exact f20
  refine ev_putq (pc := 91) (r := 10) (i := 0) (ci := 10) (j := 21) (o := some (40, 0)) fl_X10_41 rfl rfl (Or.inr ⟨rfl, rfl, rfl⟩) (Or.inr ⟨_, rfl⟩) dX10_init_91 (by rw [n21]; exact Nat.le_of_ble_eq_true rfl) ?_
  generalize h22 : ev_pq M21 10 0 21 (some (40, 0)) = M22
  have n22 : M22.2.2.2 = 172 := by
    rw [← h22]
    show M21.2.2.2 = 172
    rw [n21]
  have f22 : FM_ M22 := by
    rw [← h22]
    exact f21
  refine ev_aload_0 (pc := 94) dX10_init_94 ?_
  refine ev_bipush (pc := 95) (v := 36) dX10_init_95 (by decide) ?_
  refine ev_newa (pc := 97) (r := 41) (i := 0) (t := 0) (aty := .int) rfl (by decide) (by decide) (by rw [n22]; rfl) (by decide) (Or.inr (by decide)) rfl wa_int (by decide) (by decide) (Nat.le_of_ble_eq_true rfl) dX10_init_97 ⟨Nat.le_of_ble_eq_true rfl, Nat.le_of_ble_eq_true rfl⟩ ?_
  generalize h23 : ev_mk M22 41 0 = M23
  have n23 : M23.2.2.2 = 173 := by
    rw [← h23]
    show M22.2.2.2 + 1 = 173
    rw [n22]
  have f23 : FM_ M23 := by
    rw [← h23]
    exact f22
  refine ev_putq (pc := 99) (r := 10) (i := 0) (ci := 10) (j := 22) (o := some (41, 0)) fl_X10_44 rfl rfl (Or.inr ⟨rfl, rfl, rfl⟩) (Or.inr ⟨_, rfl⟩) dX10_init_99 (by rw [n23]; exact Nat.le_of_ble_eq_true rfl) ?_
  generalize h24 : ev_pq M23 10 0 22 (some (41, 0)) = M24
  have n24 : M24.2.2.2 = 173 := by
    rw [← h24]
    show M23.2.2.2 = 173
    rw [n23]
  have f24 : FM_ M24 := by
    rw [← h24]
    exact f23
  refine ev_aload_0 (pc := 102) dX10_init_102 ?_
  refine ev_iconst (pc := 103) (v := 2) dX10_init_103 rfl ?_
  refine ev_newa (pc := 104) (r := 42) (i := 0) (t := 0) (aty := .int) rfl (by decide) (by decide) (by rw [n24]; rfl) (by decide) (Or.inr (by decide)) rfl wa_int (by decide) (by decide) (Nat.le_of_ble_eq_true rfl) dX10_init_104 ⟨Nat.le_of_ble_eq_true rfl, Nat.le_of_ble_eq_true rfl⟩ ?_
  generalize h25 : ev_mk M24 42 0 = M25
  have n25 : M25.2.2.2 = 174 := by
    rw [← h25]
    show M24.2.2.2 + 1 = 174
    rw [n24]
  have f25 : FM_ M25 := by
    rw [← h25]
    exact f24
  refine ev_putq (pc := 106) (r := 10) (i := 0) (ci := 10) (j := 23) (o := some (42, 0)) fl_X10_47 rfl rfl (Or.inr ⟨rfl, rfl, rfl⟩) (Or.inr ⟨_, rfl⟩) dX10_init_106 (by rw [n25]; exact Nat.le_of_ble_eq_true rfl) ?_
  generalize h26 : ev_pq M25 10 0 23 (some (42, 0)) = M26
  have n26 : M26.2.2.2 = 174 := by
    rw [← h26]
    show M25.2.2.2 = 174
    rw [n25]
  have f26 : FM_ M26 := by
    rw [← h26]
    exact f25
  refine ev_aload_0 (pc := 109) dX10_init_109 ?_
  refine ev_iconst (pc := 110) (v := 2) dX10_init_110 rfl ?_
  refine ev_newa (pc := 111) (r := 43) (i := 0) (t := 0) (aty := .int) rfl (by decide) (by decide) (by rw [n26]; rfl) (by decide) (Or.inr (by decide)) rfl wa_int (by decide) (by decide) (Nat.le_of_ble_eq_true rfl) dX10_init_111 ⟨Nat.le_of_ble_eq_true rfl, Nat.le_of_ble_eq_true rfl⟩ ?_
  generalize h27 : ev_mk M26 43 0 = M27
  have n27 : M27.2.2.2 = 175 := by
    rw [← h27]
    show M26.2.2.2 + 1 = 175
    rw [n26]
  have f27 : FM_ M27 := by
    rw [← h27]
    exact f26
  refine ev_putq (pc := 113) (r := 10) (i := 0) (ci := 10) (j := 24) (o := some (43, 0)) fl_X10_50 rfl rfl (Or.inr ⟨rfl, rfl, rfl⟩) (Or.inr ⟨_, rfl⟩) dX10_init_113 (by rw [n27]; exact Nat.le_of_ble_eq_true rfl) ?_
  generalize h28 : ev_pq M27 10 0 24 (some (43, 0)) = M28
  have n28 : M28.2.2.2 = 175 := by
    rw [← h28]
    show M27.2.2.2 = 175
    rw [n27]
  have f28 : FM_ M28 := by
    rw [← h28]
    exact f27
  refine ev_aload_0 (pc := 116) dX10_init_116 ?_
  refine ev_iconst (pc := 117) (v := 2) dX10_init_117 rfl ?_
  refine ev_newa (pc := 118) (r := 44) (i := 0) (t := 0) (aty := .int) rfl (by decide) (by decide) (by rw [n28]; rfl) (by decide) (Or.inr (by decide)) rfl wa_int (by decide) (by decide) (Nat.le_of_ble_eq_true rfl) dX10_init_118 ⟨Nat.le_of_ble_eq_true rfl, Nat.le_of_ble_eq_true rfl⟩ ?_
  generalize h29 : ev_mk M28 44 0 = M29
  have n29 : M29.2.2.2 = 176 := by
    rw [← h29]
    show M28.2.2.2 + 1 = 176
    rw [n28]
  have f29 : FM_ M29 := by
    rw [← h29]
    exact f28
  refine ev_putq (pc := 120) (r := 10) (i := 0) (ci := 10) (j := 25) (o := some (44, 0)) fl_X10_53 rfl rfl (Or.inr ⟨rfl, rfl, rfl⟩) (Or.inr ⟨_, rfl⟩) dX10_init_120 (by rw [n29]; exact Nat.le_of_ble_eq_true rfl) ?_
  generalize h30 : ev_pq M29 10 0 25 (some (44, 0)) = M30
  have n30 : M30.2.2.2 = 176 := by
    rw [← h30]
    show M29.2.2.2 = 176
    rw [n29]
  have f30 : FM_ M30 := by
    rw [← h30]
    exact f29
  refine ev_aload_0 (pc := 123) dX10_init_123 ?_
  refine ev_sipush (pc := 124) (v := 401) dX10_init_124 (by decide) ?_
  refine ev_newa (pc := 127) (r := 45) (i := 0) (t := 0) (aty := .int) rfl (by decide) (by decide) (by rw [n30]; rfl) (by decide) (Or.inr (by decide)) rfl wa_int (by decide) (by decide) (Nat.le_of_ble_eq_true rfl) dX10_init_127 ⟨Nat.le_of_ble_eq_true rfl, Nat.le_of_ble_eq_true rfl⟩ ?_
  generalize h31 : ev_mk M30 45 0 = M31
  have n31 : M31.2.2.2 = 177 := by
    rw [← h31]
    show M30.2.2.2 + 1 = 177
    rw [n30]
  have f31 : FM_ M31 := by
    rw [← h31]
    exact f30
  refine ev_putq (pc := 129) (r := 10) (i := 0) (ci := 10) (j := 27) (o := some (45, 0)) fl_X10_56 rfl rfl (Or.inr ⟨rfl, rfl, rfl⟩) (Or.inr ⟨_, rfl⟩) dX10_init_129 (by rw [n31]; exact Nat.le_of_ble_eq_true rfl) ?_
  generalize h32 : ev_pq M31 10 0 27 (some (45, 0)) = M32
  have n32 : M32.2.2.2 = 177 := by
    rw [← h32]
    show M31.2.2.2 = 177
    rw [n31]
  have f32 : FM_ M32 := by
    rw [← h32]
    exact f31
  refine ev_aload_0 (pc := 132) dX10_init_132 ?_
  refine ev_sipush (pc := 133) (v := 401) dX10_init_133 (by decide) ?_
  refine ev_newa (pc := 136) (r := 46) (i := 0) (t := 0) (aty := .int) rfl (by decide) (by decide) (by rw [n32]; rfl) (by decide) (Or.inr (by decide)) rfl wa_int (by decide) (by decide) (Nat.le_of_ble_eq_true rfl) dX10_init_136 ⟨Nat.le_of_ble_eq_true rfl, Nat.le_of_ble_eq_true rfl⟩ ?_
  generalize h33 : ev_mk M32 46 0 = M33
  have n33 : M33.2.2.2 = 178 := by
    rw [← h33]
    show M32.2.2.2 + 1 = 178
    rw [n32]
  have f33 : FM_ M33 := by
    rw [← h33]
    exact f32
  refine ev_putq (pc := 138) (r := 10) (i := 0) (ci := 10) (j := 28) (o := some (46, 0)) fl_X10_59 rfl rfl (Or.inr ⟨rfl, rfl, rfl⟩) (Or.inr ⟨_, rfl⟩) dX10_init_138 (by rw [n33]; exact Nat.le_of_ble_eq_true rfl) ?_
  generalize h34 : ev_pq M33 10 0 28 (some (46, 0)) = M34
  have n34 : M34.2.2.2 = 178 := by
    rw [← h34]
    show M33.2.2.2 = 178
    rw [n33]
  have f34 : FM_ M34 := by
    rw [← h34]
    exact f33
  refine ev_aload_0 (pc := 141) dX10_init_141 ?_
  refine ev_sipush (pc := 142) (v := 401) dX10_init_142 (by decide) ?_
  refine ev_newa (pc := 145) (r := 47) (i := 0) (t := 0) (aty := .int) rfl (by decide) (by decide) (by rw [n34]; rfl) (by decide) (Or.inr (by decide)) rfl wa_int (by decide) (by decide) (Nat.le_of_ble_eq_true rfl) dX10_init_145 ⟨Nat.le_of_ble_eq_true rfl, Nat.le_of_ble_eq_true rfl⟩ ?_
  generalize h35 : ev_mk M34 47 0 = M35
  have n35 : M35.2.2.2 = 179 := by
    rw [← h35]
    show M34.2.2.2 + 1 = 179
    rw [n34]
  have f35 : FM_ M35 := by
    rw [← h35]
    exact f34
  refine ev_putq (pc := 147) (r := 10) (i := 0) (ci := 10) (j := 29) (o := some (47, 0)) fl_X10_62 rfl rfl (Or.inr ⟨rfl, rfl, rfl⟩) (Or.inr ⟨_, rfl⟩) dX10_init_147 (by rw [n35]; exact Nat.le_of_ble_eq_true rfl) ?_
  generalize h36 : ev_pq M35 10 0 29 (some (47, 0)) = M36
  have n36 : M36.2.2.2 = 179 := by
    rw [← h36]
    show M35.2.2.2 = 179
    rw [n35]
  have f36 : FM_ M36 := by
    rw [← h36]
    exact f35
  refine ev_aload_0 (pc := 150) dX10_init_150 ?_
  refine ev_sipush (pc := 151) (v := 401) dX10_init_151 (by decide) ?_
  refine ev_newa (pc := 154) (r := 48) (i := 0) (t := 0) (aty := .int) rfl (by decide) (by decide) (by rw [n36]; rfl) (by decide) (Or.inr (by decide)) rfl wa_int (by decide) (by decide) (Nat.le_of_ble_eq_true rfl) dX10_init_154 ⟨Nat.le_of_ble_eq_true rfl, Nat.le_of_ble_eq_true rfl⟩ ?_
  generalize h37 : ev_mk M36 48 0 = M37
  have n37 : M37.2.2.2 = 180 := by
    rw [← h37]
    show M36.2.2.2 + 1 = 180
    rw [n36]
  have f37 : FM_ M37 := by
    rw [← h37]
    exact f36
  refine ev_putq (pc := 156) (r := 10) (i := 0) (ci := 10) (j := 30) (o := some (48, 0)) fl_X10_65 rfl rfl (Or.inr ⟨rfl, rfl, rfl⟩) (Or.inr ⟨_, rfl⟩) dX10_init_156 (by rw [n37]; exact Nat.le_of_ble_eq_true rfl) ?_
  generalize h38 : ev_pq M37 10 0 30 (some (48, 0)) = M38
  have n38 : M38.2.2.2 = 180 := by
    rw [← h38]
    show M37.2.2.2 = 180
    rw [n37]
  have f38 : FM_ M38 := by
    rw [← h38]
    exact f37
  refine ev_aload_0 (pc := 159) dX10_init_159 ?_
  refine ev_sipush (pc := 160) (v := 401) dX10_init_160 (by decide) ?_
  refine ev_newa (pc := 163) (r := 49) (i := 0) (t := 0) (aty := .int) rfl (by decide) (by decide) (by rw [n38]; rfl) (by decide) (Or.inr (by decide)) rfl wa_int (by decide) (by decide) (Nat.le_of_ble_eq_true rfl) dX10_init_163 ⟨Nat.le_of_ble_eq_true rfl, Nat.le_of_ble_eq_true rfl⟩ ?_
  generalize h39 : ev_mk M38 49 0 = M39
  have n39 : M39.2.2.2 = 181 := by
    rw [← h39]
    show M38.2.2.2 + 1 = 181
    rw [n38]
  have f39 : FM_ M39 := by
    rw [← h39]
    exact f38
  refine ev_putq (pc := 165) (r := 10) (i := 0) (ci := 10) (j := 31) (o := some (49, 0)) fl_X10_68 rfl rfl (Or.inr ⟨rfl, rfl, rfl⟩) (Or.inr ⟨_, rfl⟩) dX10_init_165 (by rw [n39]; exact Nat.le_of_ble_eq_true rfl) ?_
  generalize h40 : ev_pq M39 10 0 31 (some (49, 0)) = M40
  have n40 : M40.2.2.2 = 181 := by
    rw [← h40]
    show M39.2.2.2 = 181
    rw [n39]
  have f40 : FM_ M40 := by
    rw [← h40]
    exact f39
  refine ev_aload_0 (pc := 168) dX10_init_168 ?_
  refine ev_iconst (pc := 169) (v := 4) dX10_init_169 rfl ?_
  refine ev_newa (pc := 170) (r := 50) (i := 0) (t := 0) (aty := .int) rfl (by decide) (by decide) (by rw [n40]; rfl) (by decide) (Or.inr (by decide)) rfl wa_int (by decide) (by decide) (Nat.le_of_ble_eq_true rfl) dX10_init_170 ⟨Nat.le_of_ble_eq_true rfl, Nat.le_of_ble_eq_true rfl⟩ ?_
  generalize h41 : ev_mk M40 50 0 = M41
  have n41 : M41.2.2.2 = 182 := by
    rw [← h41]
    show M40.2.2.2 + 1 = 182
    rw [n40]
  have f41 : FM_ M41 := by
    rw [← h41]
    exact f40
  refine ev_putq (pc := 172) (r := 10) (i := 0) (ci := 10) (j := 43) (o := some (50, 0)) fl_X10_71 rfl rfl (Or.inr ⟨rfl, rfl, rfl⟩) (Or.inr ⟨_, rfl⟩) dX10_init_172 (by rw [n41]; exact Nat.le_of_ble_eq_true rfl) ?_
  generalize h42 : ev_pq M41 10 0 43 (some (50, 0)) = M42
  have n42 : M42.2.2.2 = 182 := by
    rw [← h42]
    show M41.2.2.2 = 182
    rw [n41]
  have f42 : FM_ M42 := by
    rw [← h42]
    exact f41
  refine ev_aload_0 (pc := 175) dX10_init_175 ?_
  refine ev_iconst (pc := 176) (v := 4) dX10_init_176 rfl ?_
  refine ev_newa (pc := 177) (r := 51) (i := 0) (t := 0) (aty := .int) rfl (by decide) (by decide) (by rw [n42]; rfl) (by decide) (Or.inr (by decide)) rfl wa_int (by decide) (by decide) (Nat.le_of_ble_eq_true rfl) dX10_init_177 ⟨Nat.le_of_ble_eq_true rfl, Nat.le_of_ble_eq_true rfl⟩ ?_
  generalize h43 : ev_mk M42 51 0 = M43
  have n43 : M43.2.2.2 = 183 := by
    rw [← h43]
    show M42.2.2.2 + 1 = 183
    rw [n42]
  have f43 : FM_ M43 := by
    rw [← h43]
    exact f42
  refine ev_putq (pc := 179) (r := 10) (i := 0) (ci := 10) (j := 44) (o := some (51, 0)) fl_X10_74 rfl rfl (Or.inr ⟨rfl, rfl, rfl⟩) (Or.inr ⟨_, rfl⟩) dX10_init_179 (by rw [n43]; exact Nat.le_of_ble_eq_true rfl) ?_
  generalize h44 : ev_pq M43 10 0 44 (some (51, 0)) = M44
  have n44 : M44.2.2.2 = 183 := by
    rw [← h44]
    show M43.2.2.2 = 183
    rw [n43]
  have f44 : FM_ M44 := by
    rw [← h44]
    exact f43
  refine ev_aload_0 (pc := 182) dX10_init_182 ?_
  refine ev_iconst (pc := 183) (v := 3) dX10_init_183 rfl ?_
  refine ev_newa (pc := 184) (r := 52) (i := 0) (t := 2) (aty := .boolean) rfl (by decide) (by decide) (by rw [n44]; rfl) (by decide) (Or.inr (by decide)) rfl wa_boolean (by decide) (by decide) (Nat.le_of_ble_eq_true rfl) dX10_init_184 ⟨Nat.le_of_ble_eq_true rfl, Nat.le_of_ble_eq_true rfl⟩ ?_
  generalize h45 : ev_mk M44 52 0 = M45
  have n45 : M45.2.2.2 = 184 := by
    rw [← h45]
    show M44.2.2.2 + 1 = 184
    rw [n44]
  have f45 : FM_ M45 := by
    rw [← h45]
    exact f44
  refine ev_putq (pc := 186) (r := 10) (i := 0) (ci := 10) (j := 45) (o := some (52, 0)) fl_X10_77 rfl rfl (Or.inr ⟨rfl, rfl, rfl⟩) (Or.inr ⟨_, rfl⟩) dX10_init_186 (by rw [n45]; exact Nat.le_of_ble_eq_true rfl) ?_
  generalize h46 : ev_pq M45 10 0 45 (some (52, 0)) = M46
  have n46 : M46.2.2.2 = 184 := by
    rw [← h46]
    show M45.2.2.2 = 184
    rw [n45]
  have f46 : FM_ M46 := by
    rw [← h46]
    exact f45
  refine ev_aload_0 (pc := 189) dX10_init_189 ?_
  refine ev_getqr (pc := 190) (r := 10) (i := 0) (ci := 10) (j := 4) (r2 := 33) (i2 := 0) fl_X10_20 rfl rfl dX10_init_190 (by rw [n46]; exact Nat.le_of_ble_eq_true rfl) f46 ?_
  refine ev_iconst (pc := 193) (v := 0) dX10_init_193 rfl ?_
  refine ev_iconst (pc := 194) (v := (-1)) dX10_init_194 rfl ?_
  refine ev_iast (pc := 195) (r := 33) (i := 0) (x := 0) (y := (-1)) rfl (by decide) (Or.inr (by decide)) (by decide) dX10_init_195 (by rw [n46]; exact Nat.le_of_ble_eq_true rfl) ?_
  generalize h47 : ev_pi M46 33 0 (0 : Int32).toNatClampNeg (-1) = M47
  have n47 : M47.2.2.2 = 184 := by
    rw [← h47]
    show M46.2.2.2 = 184
    rw [n46]
  have f47 : FM_ M47 := by
    rw [← h47]
    exact f46
  refine ev_vret (pc := 196) dX10_init_196 rfl ⟨rfl, ?_⟩
  rw [← h47, ← h46, ← h45, ← h44, ← h43, ← h42, ← h41, ← h40, ← h39, ← h38, ← h37, ← h36, ← h35, ← h34, ← h33, ← h32, ← h31, ← h30, ← h29, ← h28, ← h27, ← h26, ← h25, ← h24, ← h23, ← h22, ← h21, ← h20, ← h19, ← h18, ← h17, ← h16, ← h15, ← h14, ← h13, ← h12, ← h11, ← h10, ← h9, ← h8, ← h7, ← h6, ← h5, ← h4, ← h3, ← h2, ← h1]
  rfl
def mk_L (M : ev_M) : ev_M := (mk_X10 (ev_mk (mk_X9 (ev_mk M 0 0)) 10 0))
set_option maxRecDepth 20000 in
set_option maxHeartbeats 4000000 in
theorem e_entry {G : ev_G} {M : ev_M} {Q : Option ev_V → ev_M → Prop} (n0 : M.2.2.2 = 0) (hz : ev_E G K_L_law B_L_law ev_uL 16 [some (vr 64 0), some (vr 0 0), some (vr 10 0), none] [] (mk_L M) Q) : ev_E G K_L_law B_L_law (0, 0) 0 [some (vr 64 0), none, none, none] [] M Q := by
  refine ev_new (pc := 0) (r := 0) (i := 0) (ci := 9) rfl (by decide) (by rw [n0]; rfl) wk_L_7 wn_X9 wi_X9 dL_law_0 ⟨Nat.le_of_ble_eq_true rfl, Nat.le_of_ble_eq_true rfl⟩ ?_
  generalize h1 : ev_mk M 0 0 = M1
  have n1 : M1.2.2.2 = 1 := by
    rw [← h1]
    show M.2.2.2 + 1 = 1
    rw [n0]
  refine ev_dup_r (pc := 3) dL_law_3 ?_
  refine ev_ctC (pc := 4) (b' := B_X9_init) wl_L_9 mi_X9_init rfl dL_law_4 ⟨⟨Nat.le_of_ble_eq_true rfl, Nat.le_of_ble_eq_true rfl⟩, Nat.le_of_ble_eq_true rfl, Nat.le_of_ble_eq_true rfl⟩ (Nat.le_of_ble_eq_true rfl) (c_X9_init_0 n1) ?_
  generalize h2 : mk_X9 M1 = M2
  have n2 : M2.2.2.2 = 160 := by
    rw [← h2]
    show M1.2.2.2 + 1 + 1 + 1 + 1 + 1 + 1 + 1 + 1 + 1 + 1 + 1 + 1 + 1 + 1 + 1 + 1 + 1 + 1 + 1 + 1 + 1 + 1 + 1 + 1 + 1 + 1 + 1 + 1 + 1 + 1 + 1 + 1 + 1 + 1 + 1 + 1 + 1 + 1 + 1 + 1 + 1 + 1 + 1 + 1 + 1 + 1 + 1 + 1 + 1 + 1 + 1 + 1 + 1 + 1 + 1 + 1 + 1 + 1 + 1 + 1 + 1 + 1 + 1 + 1 + 1 + 1 + 1 + 1 + 1 + 1 + 1 + 1 + 1 + 1 + 1 + 1 + 1 + 1 + 1 + 1 + 1 + 1 + 1 + 1 + 1 + 1 + 1 + 1 + 1 + 1 + 1 + 1 + 1 + 1 + 1 + 1 + 1 + 1 + 1 + 1 + 1 + 1 + 1 + 1 + 1 + 1 + 1 + 1 + 1 + 1 + 1 + 1 + 1 + 1 + 1 + 1 + 1 + 1 + 1 + 1 + 1 + 1 + 1 + 1 + 1 + 1 + 1 + 1 + 1 + 1 + 1 + 1 + 1 + 1 + 1 + 1 + 1 + 1 + 1 + 1 + 1 + 1 + 1 + 1 + 1 + 1 + 1 + 1 + 1 + 1 + 1 + 1 + 1 + 1 + 1 + 1 + 1 + 1 + 1 = 160
    rw [n1]
  refine ev_astore_1 (pc := 7) dL_law_7 (by decide) rfl ?_
  refine ev_new (pc := 8) (r := 10) (i := 0) (ci := 10) rfl (by decide) (by rw [n2]; rfl) wk_L_10 wn_X10 wi_X10 dL_law_8 ⟨Nat.le_of_ble_eq_true rfl, Nat.le_of_ble_eq_true rfl⟩ ?_
  generalize h3 : ev_mk M2 10 0 = M3
  have n3 : M3.2.2.2 = 161 := by
    rw [← h3]
    show M2.2.2.2 + 1 = 161
    rw [n2]
  refine ev_dup_r (pc := 11) dL_law_11 ?_
  refine ev_ctC (pc := 12) (b' := B_X10_init) wl_L_12 mi_X10_init rfl dL_law_12 ⟨⟨Nat.le_of_ble_eq_true rfl, Nat.le_of_ble_eq_true rfl⟩, Nat.le_of_ble_eq_true rfl, Nat.le_of_ble_eq_true rfl⟩ (Nat.le_of_ble_eq_true rfl) (c_X10_init_0 n3) ?_
  generalize h4 : mk_X10 M3 = M4
  have n4 : M4.2.2.2 = 184 := by
    rw [← h4]
    show M3.2.2.2 + 1 + 1 + 1 + 1 + 1 + 1 + 1 + 1 + 1 + 1 + 1 + 1 + 1 + 1 + 1 + 1 + 1 + 1 + 1 + 1 + 1 + 1 + 1 = 184
    rw [n3]
  refine ev_astore_2 (pc := 15) dL_law_15 (by decide) rfl ?_
  rw [← h4, ← h3, ← h2, ← h1]
  exact hz
