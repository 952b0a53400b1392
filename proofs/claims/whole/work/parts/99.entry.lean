/-! the entry -/
def mk_L (M : ev_M) : ev_M := (mk_X10 (ev_mk (mk_X9 (ev_mk M 0 0)) 10 0))
set_option maxRecDepth 20000 in
set_option maxHeartbeats 4000000 in
theorem e_entry {G : ev_G} {M : ev_M} {Q : Option ev_V → ev_M → Prop} (n0 : M.2.2.2 = 0) (hz : ev_E G K_L_law B_L_law ev_uL 16 [some (vr 64 0), some (vr 0 0), some (vr 10 0), none] [] (mk_L M) Q) : ev_E G K_L_law B_L_law (0, 0) 0 [some (vr 64 0), none, none, none] [] M Q := by
  refine ev_new (pc := 0) (r := 0) (i := 0) (ci := 9) rfl (by decide) (by rw [n0]; rfl) wk_L_7 wn_X9 wi_X9 dL_law_0 ⟨Nat.le_of_ble_eq_true rfl, Nat.le_of_ble_eq_true rfl⟩ ?_
  generalize h1 : ev_mk M 0 0 = M1
  have n1 : M1.2.2.2 = 1 := by
    rw [← h1]
    show M.2.2.2 + 1 = 1
    rw [n0]
  refine ev_dup_r (pc := 3) dL_law_3 ?_
  refine ev_ctC (k' := K_X9_init) (pc := 4) (b' := B_X9_init) wl_L_9 mi_X9_init rfl dL_law_4 ⟨⟨Nat.le_of_ble_eq_true rfl, Nat.le_of_ble_eq_true rfl⟩, Nat.le_of_ble_eq_true rfl, Nat.le_of_ble_eq_true rfl⟩ (Nat.le_of_ble_eq_true rfl) (c_X9_init_0 n1) ?_
  generalize h2 : mk_X9 M1 = M2
  have n2 : M2.2.2.2 = 160 := by
    rw [← h2]
    exact N_X9 n1
  refine ev_astore_1 (pc := 7) dL_law_7 (by decide) rfl ?_
  refine ev_new (pc := 8) (r := 10) (i := 0) (ci := 10) rfl (by decide) (by rw [n2]; rfl) wk_L_10 wn_X10 wi_X10 dL_law_8 ⟨Nat.le_of_ble_eq_true rfl, Nat.le_of_ble_eq_true rfl⟩ ?_
  generalize h3 : ev_mk M2 10 0 = M3
  have n3 : M3.2.2.2 = 161 := by
    rw [← h3]
    show M2.2.2.2 + 1 = 161
    rw [n2]
  refine ev_dup_r (pc := 11) dL_law_11 ?_
  refine ev_ctC (k' := K_X10_init) (pc := 12) (b' := B_X10_init) wl_L_12 mi_X10_init rfl dL_law_12 ⟨⟨Nat.le_of_ble_eq_true rfl, Nat.le_of_ble_eq_true rfl⟩, Nat.le_of_ble_eq_true rfl, Nat.le_of_ble_eq_true rfl⟩ (Nat.le_of_ble_eq_true rfl) (c_X10_init_0 n3) ?_
  generalize h4 : mk_X10 M3 = M4
  have n4 : M4.2.2.2 = 184 := by
    rw [← h4]
    exact N_X10 n3
  refine ev_astore_2 (pc := 15) dL_law_15 (by decide) rfl ?_
  rw [← h4, ← h3, ← h2, ← h1]
  exact hz
