/-! lifted methods -/
set_option maxRecDepth 20000 in
set_option maxHeartbeats 4000000 in
theorem e_X10_again {G : ev_G} {Q : Option ev_V → ev_M → Prop} {R : Option (Bool × ev_m)} {mF : ev_m} (hR : ∀ (x0 : Bool) (m0 : ev_m), (some ((x0, m0))) = R → Q (some (vi (bi x0))) (ev_emb m0)) (hN : none ≠ R) {i0 : Nat} {x1_ : Int32} (h : f_X10_again mF i0 x1_ = R) : ev_E G K_X10_again B_X10_again (0, 0) 0 [some (vr 10 (i0)), some (vi (x1_))] [] (ev_emb mF) Q := by
  unfold f_X10_again at h
  refine ev_aload_0 (pc := 0) dX10_again_0 ?_
  refine ev_iconst (pc := 1) (v := 0) dX10_again_1 rfl ?_
  obtain ⟨m1, hm1, h⟩ := ev_letE h
  refine pt_X10_81 (pc := 2) rfl dX10_again_2 ?_
  refine ev_mem (pc := 5) hm1 ?_
  refine ev_iload_1 (pc := 5) dX10_again_5 ?_
  refine ev_iconst (pc := 6) (v := 0) dX10_again_6 rfl ?_
  refine ev_iconst (pc := 7) (v := 2) dX10_again_7 rfl ?_
  refine cl1_X10_89 (pc := 8) rfl dX10_again_8 (by decide) (Nat.le_of_ble_eq_true rfl) (c_X10_in m1 x1_ 0 2) ?_
  refine ev_ifb_eq (pc := 11) (tgt := 23) dX10_again_11 (by decide) (fun c2 => ?_) (fun c2 => ?_)
  · replace h := ev_ifn h c2
    refine ev_iconst (pc := 23) (v := 0) dX10_again_23 rfl ?_
    exact ev_iret (pc := 24) dX10_again_24 rfl rfl (hR _ _ h)
  · replace h := ev_ifp h c2
    refine ev_aload_0 (pc := 14) dX10_again_14 ?_
    refine gt_X10_77 (pc := 15) rfl dX10_again_15 ?_
    refine ev_iload_1 (pc := 18) dX10_again_18 ?_
    obtain ⟨x3, hx3, h⟩ := ev_bindE hN h
    refine ev_zald1 (pc := 19) rfl (by decide) (by decide) rfl hx3 dX10_again_19 ?_
    refine ev_ifc_ne (pc := 20) (tgt := 25) dX10_again_20 (by decide) (fun c4 => ?_) (fun c4 => ?_)
    · replace h := ev_ifn h c4
      refine ev_aload_0 (pc := 25) dX10_again_25 ?_
      refine ev_iload_1 (pc := 26) dX10_again_26 ?_
      refine ev_iconst (pc := 27) (v := 1) dX10_again_27 rfl ?_
      refine ev_iadd (pc := 28) dX10_again_28 ?_
      refine ev_iconst (pc := 29) (v := 0) dX10_again_29 rfl ?_
      obtain ⟨m5, hm5, h⟩ := ev_bindE hN h
      refine cl0_X10_374 (pc := 30) rfl dX10_again_30 (by decide) (Nat.le_of_ble_eq_true rfl) (c_X10_copyAll hm5) ?_
      refine ev_iconst (pc := 33) (v := 1) dX10_again_33 rfl ?_
      exact ev_iret (pc := 34) dX10_again_34 rfl rfl (hR _ _ h)
    · replace h := ev_ifp h c4
      refine ev_iconst (pc := 23) (v := 0) dX10_again_23 rfl ?_
      exact ev_iret (pc := 24) dX10_again_24 rfl rfl (hR _ _ h)
theorem c_X10_again {G : ev_G} {mF : ev_m} {i0 : Nat} {x1_ : Int32} {r : Bool × ev_m} (h : f_X10_again mF i0 x1_ = some r) : ev_CF G K_X10_again B_X10_again [vr 10 (i0), vi (x1_)] mF (some (vi (bi (r.1)))) r.2 :=
  ev_Ct_of rfl rfl (Nat.le_of_ble_eq_true rfl) (e_X10_again (R := some r) (fun x0 m0 q => by cases q; exact ⟨rfl, rfl⟩) (fun q => by cases q) h)
