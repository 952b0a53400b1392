/-! the small constructors -/
theorem ev_getqr {G : ev_G} {k : ev_K} {b : ev_B} {u : Nat × Nat} {pc : Nat} {L : List (Option ev_V)} {st : List ev_V} {M : ev_M} {Q : Option ev_V → ev_M → Prop} {r i ci idx j r2 i2 : Nat} (hf : ev_FL k.2.1.cls idx ci j) (hr : ev_rk r = .inl ci) (hk : ev_fk r j = 2) (d : decode k.1 pc = .ok (.getfield idx, 3)) (ha : ev_od r i < M.2.2.2) (h : M.2.2.1 r i j = some (r2, i2)) (kk : ev_E G k b u (pc + 3) L (vr r2 i2 :: st) M Q) : ev_E G k b u pc L (vr r i :: st) M Q :=
  ev_getq hf hr hk d ha (by rw [h]; exact kk)
/-- what a book under way, the class's object, the reference's object hold -/
def FB_ (i : Nat) (M : ev_M) : Prop := M.2.2.1 1 i 7 = some (24, i) ∧ M.2.2.1 1 i 8 = some (25, i) ∧ M.2.2.1 1 i 9 = some (26, i) ∧ M.2.2.1 1 i 10 = some (27, i)
def FI_ (M : ev_M) : Prop := M.2.2.1 0 0 1 = some (23, 0)
def FM_ (M : ev_M) : Prop := M.2.2.1 10 0 4 = some (33, 0)
def mk_X6 (i : Nat) (M : ev_M) : ev_M := (ev_pq (ev_mk M 11 i) 2 i 0 (some (11, i)))
abbrev B_X6_init : ev_B := (1, 20, 1, 600)
theorem c_X6_init {G : ev_G} {M : ev_M} {i : Nat} (hi : i < 5) (ha : ev_od 2 i < M.2.2.2) (ho0 : ev_od 11 i = M.2.2.2) : ev_CI G K_X6_init B_X6_init 2 i M (mk_X6 i M) := by
  refine ev_Ct_of (L0 := [some (vr 2 i)]) rfl rfl (Nat.le_of_ble_eq_true rfl) ?_
  refine ev_aload_0 (pc := 0) dX6_init_0 ?_
  refine ev_oini (pc := 1) wl_X6_3 wo_in wo_co ⟨Nat.le_of_ble_eq_true rfl, Nat.le_of_ble_eq_true rfl⟩ (Nat.le_of_ble_eq_true rfl) dX6_init_1 ?_
  refine ev_aload_0 (pc := 4) dX6_init_4 ?_
  refine ev_sipush (pc := 5) (v := 600) dX6_init_5 (by decide) ?_
  refine ev_newa (pc := 8) (r := 11) (i := i) (t := 1) (aty := .byte) rfl (by decide) hi ho0 (by decide) (Or.inl (by decide)) rfl wa_byte (by decide) (by decide) (Nat.le_of_ble_eq_true rfl) dX6_init_8 ⟨Nat.le_of_ble_eq_true rfl, Nat.le_of_ble_eq_true rfl⟩ ?_
  refine ev_putq (pc := 10) (r := 2) (i := i) (ci := 6) (j := 0) (o := some (11, i)) fl_X6_9 rfl rfl (Or.inr ⟨rfl, rfl, rfl⟩) (Or.inr ⟨_, rfl⟩) dX6_init_10 (by show ev_od 2 i < M.2.2.2 + 1; omega) ?_
  exact ev_vret (pc := 13) dX6_init_13 rfl ⟨rfl, rfl⟩
def mk_X5 (i : Nat) (M : ev_M) : ev_M := (ev_pq (ev_mk M 12 i) 3 i 11 (some (12, i)))
abbrev B_X5_init : ev_B := (1, 20, 1, 12)
theorem c_X5_init {G : ev_G} {M : ev_M} {i : Nat} (hi : i < 10) (ha : ev_od 3 i < M.2.2.2) (ho0 : ev_od 12 i = M.2.2.2) : ev_CI G K_X5_init B_X5_init 3 i M (mk_X5 i M) := by
  refine ev_Ct_of (L0 := [some (vr 3 i)]) rfl rfl (Nat.le_of_ble_eq_true rfl) ?_
  refine ev_aload_0 (pc := 0) dX5_init_0 ?_
  refine ev_oini (pc := 1) wl_X5_3 wo_in wo_co ⟨Nat.le_of_ble_eq_true rfl, Nat.le_of_ble_eq_true rfl⟩ (Nat.le_of_ble_eq_true rfl) dX5_init_1 ?_
  refine ev_aload_0 (pc := 4) dX5_init_4 ?_
  refine ev_bipush (pc := 5) (v := 12) dX5_init_5 (by decide) ?_
  refine ev_newa (pc := 7) (r := 12) (i := i) (t := 0) (aty := .int) rfl (by decide) hi ho0 (by decide) (Or.inl (by decide)) rfl wa_int (by decide) (by decide) (Nat.le_of_ble_eq_true rfl) dX5_init_7 ⟨Nat.le_of_ble_eq_true rfl, Nat.le_of_ble_eq_true rfl⟩ ?_
  refine ev_putq (pc := 9) (r := 3) (i := i) (ci := 5) (j := 11) (o := some (12, i)) fl_X5_9 rfl rfl (Or.inr ⟨rfl, rfl, rfl⟩) (Or.inr ⟨_, rfl⟩) dX5_init_9 (by show ev_od 3 i < M.2.2.2 + 1; omega) ?_
  exact ev_vret (pc := 12) dX5_init_12 rfl ⟨rfl, rfl⟩
def mk_X1 (i : Nat) (M : ev_M) : ev_M := (ev_pq (ev_mk (ev_pq (ev_mk M 13 i) 4 i 10 (some (13, i))) 14 i) 4 i 11 (some (14, i)))
abbrev B_X1_init : ev_B := (1, 20, 2, 8)
theorem c_X1_init {G : ev_G} {M : ev_M} {i : Nat} (hi : i < 18) (ha : ev_od 4 i < M.2.2.2) (ho0 : ev_od 13 i = M.2.2.2) (ho1 : ev_od 14 i = M.2.2.2 + 1) : ev_CI G K_X1_init B_X1_init 4 i M (mk_X1 i M) := by
  refine ev_Ct_of (L0 := [some (vr 4 i)]) rfl rfl (Nat.le_of_ble_eq_true rfl) ?_
  refine ev_aload_0 (pc := 0) dX1_init_0 ?_
  refine ev_oini (pc := 1) wl_X1_3 wo_in wo_co ⟨Nat.le_of_ble_eq_true rfl, Nat.le_of_ble_eq_true rfl⟩ (Nat.le_of_ble_eq_true rfl) dX1_init_1 ?_
  refine ev_aload_0 (pc := 4) dX1_init_4 ?_
  refine ev_iconst (pc := 5) (v := 4) dX1_init_5 rfl ?_
  refine ev_newa (pc := 6) (r := 13) (i := i) (t := 0) (aty := .int) rfl (by decide) hi ho0 (by decide) (Or.inl (by decide)) rfl wa_int (by decide) (by decide) (Nat.le_of_ble_eq_true rfl) dX1_init_6 ⟨Nat.le_of_ble_eq_true rfl, Nat.le_of_ble_eq_true rfl⟩ ?_
  refine ev_putq (pc := 8) (r := 4) (i := i) (ci := 1) (j := 10) (o := some (13, i)) fl_X1_9 rfl rfl (Or.inr ⟨rfl, rfl, rfl⟩) (Or.inr ⟨_, rfl⟩) dX1_init_8 (by show ev_od 4 i < M.2.2.2 + 1; omega) ?_
  refine ev_aload_0 (pc := 11) dX1_init_11 ?_
  refine ev_iconst (pc := 12) (v := 4) dX1_init_12 rfl ?_
  refine ev_newa (pc := 13) (r := 14) (i := i) (t := 0) (aty := .int) rfl (by decide) hi ho1 (by decide) (Or.inl (by decide)) rfl wa_int (by decide) (by decide) (Nat.le_of_ble_eq_true rfl) dX1_init_13 ⟨Nat.le_of_ble_eq_true rfl, Nat.le_of_ble_eq_true rfl⟩ ?_
  refine ev_putq (pc := 15) (r := 4) (i := i) (ci := 1) (j := 11) (o := some (14, i)) fl_X1_15 rfl rfl (Or.inr ⟨rfl, rfl, rfl⟩) (Or.inr ⟨_, rfl⟩) dX1_init_15 (by show ev_od 4 i < M.2.2.2 + 2; omega) ?_
  exact ev_vret (pc := 18) dX1_init_18 rfl ⟨rfl, rfl⟩
def mk_X3 (i : Nat) (M : ev_M) : ev_M := (ev_pq (ev_mk M 15 i) 5 i 0 (some (15, i)))
abbrev B_X3_init : ev_B := (1, 20, 1, 60)
theorem c_X3_init {G : ev_G} {M : ev_M} {i : Nat} (hi : i < 9) (ha : ev_od 5 i < M.2.2.2) (ho0 : ev_od 15 i = M.2.2.2) : ev_CI G K_X3_init B_X3_init 5 i M (mk_X3 i M) := by
  refine ev_Ct_of (L0 := [some (vr 5 i)]) rfl rfl (Nat.le_of_ble_eq_true rfl) ?_
  refine ev_aload_0 (pc := 0) dX3_init_0 ?_
  refine ev_oini (pc := 1) wl_X3_3 wo_in wo_co ⟨Nat.le_of_ble_eq_true rfl, Nat.le_of_ble_eq_true rfl⟩ (Nat.le_of_ble_eq_true rfl) dX3_init_1 ?_
  refine ev_aload_0 (pc := 4) dX3_init_4 ?_
  refine ev_bipush (pc := 5) (v := 60) dX3_init_5 (by decide) ?_
  refine ev_newa (pc := 7) (r := 15) (i := i) (t := 0) (aty := .int) rfl (by decide) hi ho0 (by decide) (Or.inl (by decide)) rfl wa_int (by decide) (by decide) (Nat.le_of_ble_eq_true rfl) dX3_init_7 ⟨Nat.le_of_ble_eq_true rfl, Nat.le_of_ble_eq_true rfl⟩ ?_
  refine ev_putq (pc := 9) (r := 5) (i := i) (ci := 3) (j := 0) (o := some (15, i)) fl_X3_9 rfl rfl (Or.inr ⟨rfl, rfl, rfl⟩) (Or.inr ⟨_, rfl⟩) dX3_init_9 (by show ev_od 5 i < M.2.2.2 + 1; omega) ?_
  exact ev_vret (pc := 12) dX3_init_12 rfl ⟨rfl, rfl⟩
def mk_X7 (i : Nat) (M : ev_M) : ev_M := (ev_pq (ev_mk (ev_pq (ev_mk M 16 i) 6 i 0 (some (16, i))) 17 i) 6 i 1 (some (17, i)))
abbrev B_X7_init : ev_B := (1, 20, 2, 16)
theorem c_X7_init {G : ev_G} {M : ev_M} {i : Nat} (hi : i < 9) (ha : ev_od 6 i < M.2.2.2) (ho0 : ev_od 16 i = M.2.2.2) (ho1 : ev_od 17 i = M.2.2.2 + 1) : ev_CI G K_X7_init B_X7_init 6 i M (mk_X7 i M) := by
  refine ev_Ct_of (L0 := [some (vr 6 i)]) rfl rfl (Nat.le_of_ble_eq_true rfl) ?_
  refine ev_aload_0 (pc := 0) dX7_init_0 ?_
  refine ev_oini (pc := 1) wl_X7_3 wo_in wo_co ⟨Nat.le_of_ble_eq_true rfl, Nat.le_of_ble_eq_true rfl⟩ (Nat.le_of_ble_eq_true rfl) dX7_init_1 ?_
  refine ev_aload_0 (pc := 4) dX7_init_4 ?_
  refine ev_bipush (pc := 5) (v := 8) dX7_init_5 (by decide) ?_
  refine ev_newa (pc := 7) (r := 16) (i := i) (t := 0) (aty := .int) rfl (by decide) hi ho0 (by decide) (Or.inl (by decide)) rfl wa_int (by decide) (by decide) (Nat.le_of_ble_eq_true rfl) dX7_init_7 ⟨Nat.le_of_ble_eq_true rfl, Nat.le_of_ble_eq_true rfl⟩ ?_
  refine ev_putq (pc := 9) (r := 6) (i := i) (ci := 7) (j := 0) (o := some (16, i)) fl_X7_9 rfl rfl (Or.inr ⟨rfl, rfl, rfl⟩) (Or.inr ⟨_, rfl⟩) dX7_init_9 (by show ev_od 6 i < M.2.2.2 + 1; omega) ?_
  refine ev_aload_0 (pc := 12) dX7_init_12 ?_
  refine ev_bipush (pc := 13) (v := 8) dX7_init_13 (by decide) ?_
  refine ev_newa (pc := 15) (r := 17) (i := i) (t := 0) (aty := .int) rfl (by decide) hi ho1 (by decide) (Or.inl (by decide)) rfl wa_int (by decide) (by decide) (Nat.le_of_ble_eq_true rfl) dX7_init_15 ⟨Nat.le_of_ble_eq_true rfl, Nat.le_of_ble_eq_true rfl⟩ ?_
  refine ev_putq (pc := 17) (r := 6) (i := i) (ci := 7) (j := 1) (o := some (17, i)) fl_X7_15 rfl rfl (Or.inr ⟨rfl, rfl, rfl⟩) (Or.inr ⟨_, rfl⟩) dX7_init_17 (by show ev_od 6 i < M.2.2.2 + 2; omega) ?_
  exact ev_vret (pc := 20) dX7_init_20 rfl ⟨rfl, rfl⟩
abbrev B_X2_init : ev_B := (1, 20, 0, 0)
theorem c_X2_init {G : ev_G} {M : ev_M} {i : Nat} (hi : i < 2) (ha : ev_od 9 i < M.2.2.2) : ev_CI G K_X2_init B_X2_init 9 i M M := by
  refine ev_Ct_of (L0 := [some (vr 9 i)]) rfl rfl (Nat.le_of_ble_eq_true rfl) ?_
  refine ev_aload_0 (pc := 0) dX2_init_0 ?_
  refine ev_oini (pc := 1) wl_X2_1 wo_in wo_co ⟨Nat.le_of_ble_eq_true rfl, Nat.le_of_ble_eq_true rfl⟩ (Nat.le_of_ble_eq_true rfl) dX2_init_1 ?_
  exact ev_vret (pc := 4) dX2_init_4 rfl ⟨rfl, rfl⟩
