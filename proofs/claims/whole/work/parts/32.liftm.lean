/-! lifted methods -/
set_option maxRecDepth 20000 in
set_option maxHeartbeats 4000000 in
theorem e_lp_X10_apart_60 {G : ev_G} {Q : Option ev_V → ev_M → Prop} {R : Option (Int32 × ev_m)} (hR : ∀ (x0 : Int32) (m0 : ev_m), (some ((x0, m0))) = R → Q (some (vi x0)) (ev_emb m0)) (hN : none ≠ R) {m13 : ev_m} {i9 : Nat} {x10 : Int32} {x11 : Int32} : ∀ (f : Nat) (x12 : Int32) (kx : Int32 → Option (Int32 × ev_m)) (h : lp_X10_apart_60 m13 i9 x10 x11 f x12 kx = R) (hk : ∀ (x12' : Int32), kx x12' = R → ev_E G K_X10_apart B_X10_apart (0, 0) 99 [none, none, none, none, none, none, some (vi (x12'))] [] (ev_emb m13) Q), ev_E G K_X10_apart B_X10_apart (0, 0) 60 [some (vr 10 (i9)), none, none, some (vi (x10)), none, some (vi (x11)), some (vi (x12))] [] (ev_emb m13) Q := by
  intro f
  induction f with
  | zero => intro x12 kx h hk; rw [lp_X10_apart_60] at h; exact absurd h hN
  | succ f ih =>
    intro x12 kx h hk
    rw [lp_X10_apart_60] at h
    refine ev_iload_6 (pc := 60) dX10_apart_60 ?_
    refine ev_iload_5 (pc := 62) dX10_apart_62 ?_
    refine ev_icc_ge (pc := 64) (tgt := 99) dX10_apart_64 (by decide) (fun c14 => ?_) (fun c14 => ?_)
    · replace h := ev_ifn h c14
      refine ev_E.forget (L' := [none, none, none, none, none, none, some (vi (x12))]) ⟨rfl, trivial⟩ ?_
      exact hk _  h
    · replace h := ev_ifp h c14
      refine ev_aload_0 (pc := 67) dX10_apart_67 ?_
      refine gt_X10_56 (pc := 68) rfl dX10_apart_68 ?_
      refine ev_iload_6 (pc := 71) dX10_apart_71 ?_
      refine ev_iconst (pc := 73) (v := 1) dX10_apart_73 rfl ?_
      refine ev_iadd (pc := 74) dX10_apart_74 ?_
      obtain ⟨x15, hx15, h⟩ := ev_bindE hN h
      refine ev_iald1 (pc := 75) rfl (by decide) rfl hx15 dX10_apart_75 ?_
      refine ev_aload_0 (pc := 76) dX10_apart_76 ?_
      refine gt_X10_32 (pc := 77) rfl dX10_apart_77 ?_
      refine ev_bipush (pc := 80) (v := 61) dX10_apart_80 (by decide) ?_
      refine ev_iload_3 (pc := 82) dX10_apart_82 ?_
      refine ev_imul (pc := 83) dX10_apart_83 ?_
      refine ev_iconst (pc := 84) (v := 1) dX10_apart_84 rfl ?_
      refine ev_iadd (pc := 85) dX10_apart_85 ?_
      refine ev_iload_6 (pc := 86) dX10_apart_86 ?_
      refine ev_iadd (pc := 88) dX10_apart_88 ?_
      obtain ⟨x16, hx16, h⟩ := ev_bindE hN h
      refine ev_iald1 (pc := 89) rfl (by decide) rfl hx16 dX10_apart_89 ?_
      refine ev_icc_ne (pc := 90) (tgt := 99) dX10_apart_90 (by decide) (fun c17 => ?_) (fun c17 => ?_)
      · replace h := ev_ifn h c17
        refine ev_E.forget (L' := [none, none, none, none, none, none, some (vi (x12))]) ⟨rfl, trivial⟩ ?_
        exact hk _  h
      · replace h := ev_ifp h c17
        refine ev_iinc_6 (pc := 93) (y := x12 + 1) dX10_apart_93 rfl (by decide) rfl ?_
        refine ev_goto (pc := 96) (tgt := 60) dX10_apart_96 (by decide) ?_
        exact ih _ kx h hk
set_option maxRecDepth 20000 in
set_option maxHeartbeats 4000000 in
theorem e_X10_apart {G : ev_G} {Q : Option ev_V → ev_M → Prop} {R : Option (Int32 × ev_m)} {mF : ev_m} (hR : ∀ (x0 : Int32) (m0 : ev_m), (some ((x0, m0))) = R → Q (some (vi x0)) (ev_emb m0)) (hN : none ≠ R) {i0 : Nat} {x1_ : Int32} {x2_ : Int32} {x3_ : Int32} {x4_ : Int32} (h : f_X10_apart mF i0 x1_ x2_ x3_ x4_ = R) : ev_E G K_X10_apart B_X10_apart (0, 0) 0 [some (vr 10 (i0)), some (vi (x1_)), some (vi (x2_)), some (vi (x3_)), some (vi (x4_)), none, none] [] (ev_emb mF) Q := by
  unfold f_X10_apart at h
  refine ev_aload_0 (pc := 0) dX10_apart_0 ?_
  refine ev_iconst (pc := 1) (v := 0) dX10_apart_1 rfl ?_
  obtain ⟨m1, hm1, h⟩ := ev_letE h
  refine pt_X10_81 (pc := 2) rfl dX10_apart_2 ?_
  refine ev_mem (pc := 5) hm1 ?_
  refine ev_aload_0 (pc := 5) dX10_apart_5 ?_
  refine ev_iconst (pc := 6) (v := 2) dX10_apart_6 rfl ?_
  refine ev_iload_3 (pc := 7) dX10_apart_7 ?_
  obtain ⟨x2, hx2, h⟩ := ev_bindE hN h
  refine cl1_X10_226 (pc := 8) rfl dX10_apart_8 (by decide) (Nat.le_of_ble_eq_true rfl) (c_X10_is hx2) ?_
  refine ev_ifb_eq (pc := 11) (tgt := 24) dX10_apart_11 (by decide) (fun c3 => ?_) (fun c3 => ?_)
  · replace h := ev_ifn h c3
    refine ev_iconst (pc := 24) (v := (-1)) dX10_apart_24 rfl ?_
    exact ev_iret (pc := 25) dX10_apart_25 rfl rfl (hR _ _ h)
  · replace h := ev_ifp h c3
    refine ev_aload_0 (pc := 14) dX10_apart_14 ?_
    refine ev_iload_1 (pc := 15) dX10_apart_15 ?_
    refine ev_iload_2 (pc := 16) dX10_apart_16 ?_
    refine ev_iconst (pc := 17) (v := 0) dX10_apart_17 rfl ?_
    obtain ⟨p4, hp4, h⟩ := ev_bindE hN h
    refine cl1_X10_329 (pc := 18) rfl dX10_apart_18 (by decide) (Nat.le_of_ble_eq_true rfl) (c_X10_lay hp4) ?_
    refine ev_ifb_ne (pc := 21) (tgt := 26) dX10_apart_21 (by decide) (fun c5 => ?_) (fun c5 => ?_)
    · replace h := ev_ifp h c5
      refine ev_aload_0 (pc := 26) dX10_apart_26 ?_
      refine gt_X10_32 (pc := 27) rfl dX10_apart_27 ?_
      refine ev_bipush (pc := 30) (v := 61) dX10_apart_30 (by decide) ?_
      refine ev_iload_3 (pc := 32) dX10_apart_32 ?_
      refine ev_imul (pc := 33) dX10_apart_33 ?_
      obtain ⟨x6, hx6, h⟩ := ev_bindE hN h
      refine ev_iald1 (pc := 34) rfl (by decide) rfl hx6 dX10_apart_34 ?_
      refine ev_istore_5 (pc := 35) dX10_apart_35 (by decide) rfl ?_
      refine ev_aload_0 (pc := 37) dX10_apart_37 ?_
      refine ev_iconst (pc := 38) (v := 1) dX10_apart_38 rfl ?_
      refine ev_iconst (pc := 39) (v := 0) dX10_apart_39 rfl ?_
      refine ev_iload_5 (pc := 40) dX10_apart_40 ?_
      obtain ⟨m7, hm7, h⟩ := ev_bindE hN h
      refine cl0_X10_315 (pc := 42) rfl dX10_apart_42 (by decide) (Nat.le_of_ble_eq_true rfl) (c_X10_runBy hm7) ?_
      refine ev_iload_4 (pc := 45) dX10_apart_45 ?_
      refine ev_ifc_ne (pc := 47) (tgt := 57) dX10_apart_47 (by decide) (fun c8 => ?_) (fun c8 => ?_)
      · replace h := ev_ifn h c8
        refine ev_iconst (pc := 57) (v := 0) dX10_apart_57 rfl ?_
        refine ev_istore_6 (pc := 58) dX10_apart_58 (by decide) rfl ?_
        refine ev_E.forget (L' := [some (vr 10 (i0)), none, none, some (vi (x3_)), none, some (vi (x6)), some (vi (0))]) ⟨rfl, ⟨rfl, ⟨rfl, ⟨rfl, trivial⟩⟩⟩⟩ ?_
        refine e_lp_X10_apart_60 hR hN 4000 _ _ h (fun x18 h => ?_)
        refine ev_iload_6 (pc := 99) dX10_apart_99 ?_
        exact ev_iret (pc := 101) dX10_apart_101 rfl rfl (hR _ _ h)
      · replace h := ev_ifp h c8
        refine ev_aload_0 (pc := 50) dX10_apart_50 ?_
        refine ev_iload_3 (pc := 51) dX10_apart_51 ?_
        obtain ⟨x19, hx19, h⟩ := ev_bindE hN h
        refine cl1_X10_366 (pc := 52) rfl dX10_apart_52 (by decide) (Nat.le_of_ble_eq_true rfl) (c_X10_apartFrom hx19) ?_
        refine ev_l2i (pc := 55) dX10_apart_55 ?_
        exact ev_iret (pc := 56) dX10_apart_56 rfl rfl (hR _ _ h)
    · replace h := ev_ifn h c5
      refine ev_iconst (pc := 24) (v := (-1)) dX10_apart_24 rfl ?_
      exact ev_iret (pc := 25) dX10_apart_25 rfl rfl (hR _ _ h)
theorem c_X10_apart {G : ev_G} {mF : ev_m} {i0 : Nat} {x1_ : Int32} {x2_ : Int32} {x3_ : Int32} {x4_ : Int32} {r : Int32 × ev_m} (h : f_X10_apart mF i0 x1_ x2_ x3_ x4_ = some r) : ev_CF G K_X10_apart B_X10_apart [vr 10 (i0), vi (x1_), vi (x2_), vi (x3_), vi (x4_)] mF (some (vi (r.1))) r.2 :=
  ev_Ct_of rfl rfl (Nat.le_of_ble_eq_true rfl) (e_X10_apart (R := some r) (fun x0 m0 q => by cases q; exact ⟨rfl, rfl⟩) (fun q => by cases q) h)
set_option maxRecDepth 20000 in
set_option maxHeartbeats 4000000 in
theorem e_jn_X10_whose_96_33 {G : ev_G} {Q : Option ev_V → ev_M → Prop} {R : Option (Int32 × ev_m)} (hR : ∀ (x0 : Int32) (m0 : ev_m), (some ((x0, m0))) = R → Q (some (vi x0)) (ev_emb m0)) (hN : none ≠ R) {m25 : ev_m} {i6 : Nat} {x7 : Int32} {x8 : Int32} {x22 : Int32} {y23 : Int64} {x24 : Int32} {kb : Int32 → Int64 → Int32 → ev_m → Option (Int32 × ev_m)} {kx : Int32 → ev_m → Option (Int32 × ev_m)}  (h : jn_X10_whose_96_33 m25 i6 x7 x8 x22 y23 x24 kb kx = R) (hkb : ∀ (x9' : Int32) (y10' : Int64) (x11' : Int32) (m12' : ev_m), kb x9' y10' x11' m12' = R → ev_E G K_X10_whose B_X10_whose (0, 0) 33 [some (vr 10 (i6)), some (vi (x7)), some (vi (x8)), some (vi (x9')), some (vl (y10')), none, some (vi (x11')), none] [] (ev_emb m12') Q) (hkx : ∀ (x9' : Int32) (m12' : ev_m), kx x9' m12' = R → ev_E G K_X10_whose B_X10_whose (0, 0) 102 [none, none, none, some (vi (x9')), none, none, none, none] [] (ev_emb m12') Q) : ev_E G K_X10_whose B_X10_whose (0, 0) 96 [some (vr 10 (i6)), some (vi (x7)), some (vi (x8)), some (vi (x22)), some (vl (y23)), none, some (vi (x24)), none] [] (ev_emb m25) Q := by
  unfold jn_X10_whose_96_33 at h
  refine ev_iinc_6 (pc := 96) (y := x24 + 1) dX10_whose_96 rfl (by decide) rfl ?_
  refine ev_goto (pc := 99) (tgt := 33) dX10_whose_99 (by decide) ?_
  exact hkb _ _ _ _  h
set_option maxRecDepth 20000 in
set_option maxHeartbeats 4000000 in
theorem e_jn_X10_whose_86_33 {G : ev_G} {Q : Option ev_V → ev_M → Prop} {R : Option (Int32 × ev_m)} (hR : ∀ (x0 : Int32) (m0 : ev_m), (some ((x0, m0))) = R → Q (some (vi x0)) (ev_emb m0)) (hN : none ≠ R) {m20 : ev_m} {i6 : Nat} {x7 : Int32} {x8 : Int32} {x19 : Int32} {kb : Int32 → Int64 → Int32 → ev_m → Option (Int32 × ev_m)} {kx : Int32 → ev_m → Option (Int32 × ev_m)}  (h : jn_X10_whose_86_33 m20 i6 x7 x8 x19 kb kx = R) (hkb : ∀ (x9' : Int32) (y10' : Int64) (x11' : Int32) (m12' : ev_m), kb x9' y10' x11' m12' = R → ev_E G K_X10_whose B_X10_whose (0, 0) 33 [some (vr 10 (i6)), some (vi (x7)), some (vi (x8)), some (vi (x9')), some (vl (y10')), none, some (vi (x11')), none] [] (ev_emb m12') Q) (hkx : ∀ (x9' : Int32) (m12' : ev_m), kx x9' m12' = R → ev_E G K_X10_whose B_X10_whose (0, 0) 102 [none, none, none, some (vi (x9')), none, none, none, none] [] (ev_emb m12') Q) : ev_E G K_X10_whose B_X10_whose (0, 0) 86 [some (vr 10 (i6)), some (vi (x7)), some (vi (x8)), none, none, none, some (vi (x19)), none] [] (ev_emb m20) Q := by
  unfold jn_X10_whose_86_33 at h
  refine ev_iload_6 (pc := 86) dX10_whose_86 ?_
  refine ev_istore_3 (pc := 88) dX10_whose_88 (by decide) rfl ?_
  refine ev_aload_0 (pc := 89) dX10_whose_89 ?_
  refine ev_iload_2 (pc := 90) dX10_whose_90 ?_
  obtain ⟨x21, hx21, h⟩ := ev_bindE hN h
  refine cl1_X10_366 (pc := 91) rfl dX10_whose_91 (by decide) (Nat.le_of_ble_eq_true rfl) (c_X10_apartFrom hx21) ?_
  refine ev_lstore_4 (pc := 94) dX10_whose_94 (by decide) rfl ?_
  exact e_jn_X10_whose_96_33 hR hN h hkb hkx
set_option maxRecDepth 20000 in
set_option maxHeartbeats 4000000 in
theorem e_lp_X10_whose_33 {G : ev_G} {Q : Option ev_V → ev_M → Prop} {R : Option (Int32 × ev_m)} (hR : ∀ (x0 : Int32) (m0 : ev_m), (some ((x0, m0))) = R → Q (some (vi x0)) (ev_emb m0)) (hN : none ≠ R) {i6 : Nat} {x7 : Int32} {x8 : Int32} : ∀ (f : Nat) (x9 : Int32) (y10 : Int64) (x11 : Int32) (m12 : ev_m) (kx : Int32 → ev_m → Option (Int32 × ev_m)) (h : lp_X10_whose_33 i6 x7 x8 f x9 y10 x11 m12 kx = R) (hk : ∀ (x9' : Int32) (m12' : ev_m), kx x9' m12' = R → ev_E G K_X10_whose B_X10_whose (0, 0) 102 [none, none, none, some (vi (x9')), none, none, none, none] [] (ev_emb m12') Q), ev_E G K_X10_whose B_X10_whose (0, 0) 33 [some (vr 10 (i6)), some (vi (x7)), some (vi (x8)), some (vi (x9)), some (vl (y10)), none, some (vi (x11)), none] [] (ev_emb m12) Q := by
  intro f
  induction f with
  | zero => intro x9 y10 x11 m12 kx h hk; rw [lp_X10_whose_33] at h; exact absurd h hN
  | succ f ih =>
    intro x9 y10 x11 m12 kx h hk
    rw [lp_X10_whose_33] at h
    refine ev_iload_6 (pc := 33) dX10_whose_33 ?_
    refine ev_aload_0 (pc := 35) dX10_whose_35 ?_
    refine gt_X10_23 (pc := 36) rfl dX10_whose_36 ?_
    refine ev_iconst (pc := 39) (v := 1) dX10_whose_39 rfl ?_
    refine ev_ialdS (pc := 40) (j := 1) rfl (by decide) (by decide) (vp_in_iff.mpr (by decide)) dX10_whose_40 ?_
    refine ev_icc_ge (pc := 41) (tgt := 102) dX10_whose_41 (by decide) (fun c13 => ?_) (fun c13 => ?_)
    · replace h := ev_ifn h c13
      refine ev_E.forget (L' := [none, none, none, some (vi (x9)), none, none, none, none]) ⟨rfl, trivial⟩ ?_
      exact hk _ _  h
    · replace h := ev_ifp h c13
      refine ev_aload_0 (pc := 44) dX10_whose_44 ?_
      refine ev_iload_1 (pc := 45) dX10_whose_45 ?_
      refine ev_iload_6 (pc := 46) dX10_whose_46 ?_
      refine ev_iconst (pc := 48) (v := 0) dX10_whose_48 rfl ?_
      obtain ⟨p14, hp14, h⟩ := ev_bindE hN h
      refine cl1_X10_329 (pc := 49) rfl dX10_whose_49 (by decide) (Nat.le_of_ble_eq_true rfl) (c_X10_lay hp14) ?_
      obtain ⟨x15, hx15, h⟩ := ev_letE h
      refine ev_topb (pc := 52) hx15 ?_
      refine ev_istore_7 (pc := 52) dX10_whose_52 (by decide) rfl ?_
      refine ev_aload_0 (pc := 54) dX10_whose_54 ?_
      refine ev_iload_7 (pc := 55) dX10_whose_55 ?_
      refine ev_iconst (pc := 57) (v := 0) dX10_whose_57 rfl ?_
      refine ev_aload_0 (pc := 58) dX10_whose_58 ?_
      refine gt_X10_32 (pc := 59) rfl dX10_whose_59 ?_
      refine ev_bipush (pc := 62) (v := 61) dX10_whose_62 (by decide) ?_
      refine ev_iload_2 (pc := 64) dX10_whose_64 ?_
      refine ev_imul (pc := 65) dX10_whose_65 ?_
      obtain ⟨x16, hx16, h⟩ := ev_bindE hN h
      refine ev_iald1 (pc := 66) rfl (by decide) rfl hx16 dX10_whose_66 ?_
      obtain ⟨m17, hm17, h⟩ := ev_bindE hN h
      refine cl0_X10_315 (pc := 67) rfl dX10_whose_67 (by decide) (Nat.le_of_ble_eq_true rfl) (c_X10_runBy hm17) ?_
      refine ev_iload_3 (pc := 70) dX10_whose_70 ?_
      refine ev_iconst (pc := 71) (v := (-1)) dX10_whose_71 rfl ?_
      refine ev_icc_eq (pc := 72) (tgt := 86) dX10_whose_72 (by decide) (fun c18 => ?_) (fun c18 => ?_)
      · replace h := ev_ifp h c18
        refine ev_E.forget (L' := [some (vr 10 (i6)), some (vi (x7)), some (vi (x8)), none, none, none, some (vi (x11)), none]) ⟨rfl, ⟨rfl, ⟨rfl, ⟨rfl, trivial⟩⟩⟩⟩ ?_
        exact e_jn_X10_whose_86_33 hR hN h (fun _ _ _ _ h => ih _ _ _ _ kx h hk) hk
      · replace h := ev_ifn h c18
        refine ev_aload_0 (pc := 75) dX10_whose_75 ?_
        refine ev_iload_2 (pc := 76) dX10_whose_76 ?_
        obtain ⟨x26, hx26, h⟩ := ev_bindE hN h
        refine cl1_X10_366 (pc := 77) rfl dX10_whose_77 (by decide) (Nat.le_of_ble_eq_true rfl) (c_X10_apartFrom hx26) ?_
        refine ev_lload_4 (pc := 80) dX10_whose_80 ?_
        refine ev_lcc_ge (pc := 82) (tgt := 96) dX10_whose_82 dX10_whose_83 (by decide) (fun c27 => ?_) (fun c27 => ?_)
        · replace h := ev_ifn h c27
          refine ev_E.forget (L' := [some (vr 10 (i6)), some (vi (x7)), some (vi (x8)), some (vi (x9)), some (vl (y10)), none, some (vi (x11)), none]) ⟨rfl, ⟨rfl, ⟨rfl, ⟨rfl, ⟨rfl, ⟨rfl, trivial⟩⟩⟩⟩⟩⟩ ?_
          exact e_jn_X10_whose_96_33 hR hN h (fun _ _ _ _ h => ih _ _ _ _ kx h hk) hk
        · replace h := ev_ifp h c27
          refine ev_E.forget (L' := [some (vr 10 (i6)), some (vi (x7)), some (vi (x8)), none, none, none, some (vi (x11)), none]) ⟨rfl, ⟨rfl, ⟨rfl, ⟨rfl, trivial⟩⟩⟩⟩ ?_
          exact e_jn_X10_whose_86_33 hR hN h (fun _ _ _ _ h => ih _ _ _ _ kx h hk) hk
set_option maxRecDepth 20000 in
set_option maxHeartbeats 4000000 in
theorem e_X10_whose {G : ev_G} {Q : Option ev_V → ev_M → Prop} {R : Option (Int32 × ev_m)} {mF : ev_m} (hR : ∀ (x0 : Int32) (m0 : ev_m), (some ((x0, m0))) = R → Q (some (vi x0)) (ev_emb m0)) (hN : none ≠ R) {i0 : Nat} {x1_ : Int32} {x2_ : Int32} (h : f_X10_whose mF i0 x1_ x2_ = R) : ev_E G K_X10_whose B_X10_whose (0, 0) 0 [some (vr 10 (i0)), some (vi (x1_)), some (vi (x2_)), none, none, none, none, none] [] (ev_emb mF) Q := by
  unfold f_X10_whose at h
  refine ev_aload_0 (pc := 0) dX10_whose_0 ?_
  refine ev_iconst (pc := 1) (v := 0) dX10_whose_1 rfl ?_
  obtain ⟨m1, hm1, h⟩ := ev_letE h
  refine pt_X10_81 (pc := 2) rfl dX10_whose_2 ?_
  refine ev_mem (pc := 5) hm1 ?_
  refine ev_aload_0 (pc := 5) dX10_whose_5 ?_
  refine ev_iconst (pc := 6) (v := 0) dX10_whose_6 rfl ?_
  refine ev_iload_1 (pc := 7) dX10_whose_7 ?_
  obtain ⟨x2, hx2, h⟩ := ev_bindE hN h
  refine cl1_X10_226 (pc := 8) rfl dX10_whose_8 (by decide) (Nat.le_of_ble_eq_true rfl) (c_X10_is hx2) ?_
  refine ev_ifb_eq (pc := 11) (tgt := 23) dX10_whose_11 (by decide) (fun c3 => ?_) (fun c3 => ?_)
  · replace h := ev_ifn h c3
    refine ev_iconst (pc := 23) (v := (-1)) dX10_whose_23 rfl ?_
    exact ev_iret (pc := 24) dX10_whose_24 rfl rfl (hR _ _ h)
  · replace h := ev_ifp h c3
    refine ev_aload_0 (pc := 14) dX10_whose_14 ?_
    refine ev_iconst (pc := 15) (v := 2) dX10_whose_15 rfl ?_
    refine ev_iload_2 (pc := 16) dX10_whose_16 ?_
    obtain ⟨x4, hx4, h⟩ := ev_bindE hN h
    refine cl1_X10_226 (pc := 17) rfl dX10_whose_17 (by decide) (Nat.le_of_ble_eq_true rfl) (c_X10_is hx4) ?_
    refine ev_ifb_ne (pc := 20) (tgt := 25) dX10_whose_20 (by decide) (fun c5 => ?_) (fun c5 => ?_)
    · replace h := ev_ifp h c5
      refine ev_iconst (pc := 25) (v := (-1)) dX10_whose_25 rfl ?_
      refine ev_istore_3 (pc := 26) dX10_whose_26 (by decide) rfl ?_
      refine ev_lconst (pc := 27) (v := 0) dX10_whose_27 rfl ?_
      refine ev_lstore_4 (pc := 28) dX10_whose_28 (by decide) rfl ?_
      refine ev_iconst (pc := 30) (v := 0) dX10_whose_30 rfl ?_
      refine ev_istore_6 (pc := 31) dX10_whose_31 (by decide) rfl ?_
      refine e_lp_X10_whose_33 hR hN 4000 _ _ _ _ _ h (fun x28 m29 h => ?_)
      refine ev_iload_3 (pc := 102) dX10_whose_102 ?_
      exact ev_iret (pc := 103) dX10_whose_103 rfl rfl (hR _ _ h)
    · replace h := ev_ifn h c5
      refine ev_iconst (pc := 23) (v := (-1)) dX10_whose_23 rfl ?_
      exact ev_iret (pc := 24) dX10_whose_24 rfl rfl (hR _ _ h)
theorem c_X10_whose {G : ev_G} {mF : ev_m} {i0 : Nat} {x1_ : Int32} {x2_ : Int32} {r : Int32 × ev_m} (h : f_X10_whose mF i0 x1_ x2_ = some r) : ev_CF G K_X10_whose B_X10_whose [vr 10 (i0), vi (x1_), vi (x2_)] mF (some (vi (r.1))) r.2 :=
  ev_Ct_of rfl rfl (Nat.le_of_ble_eq_true rfl) (e_X10_whose (R := some r) (fun x0 m0 q => by cases q; exact ⟨rfl, rfl⟩) (fun q => by cases q) h)
set_option maxRecDepth 20000 in
set_option maxHeartbeats 4000000 in
theorem e_jn_X10_tells_93_35 {G : ev_G} {Q : Option ev_V → ev_M → Prop} {R : Option (Int32 × ev_m)} (hR : ∀ (x0 : Int32) (m0 : ev_m), (some ((x0, m0))) = R → Q (some (vi x0)) (ev_emb m0)) (hN : none ≠ R) {m23 : ev_m} {i6 : Nat} {x7 : Int32} {x20 : Int32} {y21 : Int64} {x22 : Int32} {kb : Int32 → Int64 → Int32 → ev_m → Option (Int32 × ev_m)} {kx : Int32 → ev_m → Option (Int32 × ev_m)}  (h : jn_X10_tells_93_35 m23 i6 x7 x20 y21 x22 kb kx = R) (hkb : ∀ (x8' : Int32) (y9' : Int64) (x10' : Int32) (m11' : ev_m), kb x8' y9' x10' m11' = R → ev_E G K_X10_tells B_X10_tells (0, 0) 35 [some (vr 10 (i6)), none, none, some (vi (x7)), some (vi (x8')), some (vl (y9')), none, some (vi (x10'))] [] (ev_emb m11') Q) (hkx : ∀ (x8' : Int32) (m11' : ev_m), kx x8' m11' = R → ev_E G K_X10_tells B_X10_tells (0, 0) 99 [none, none, none, none, some (vi (x8')), none, none, none] [] (ev_emb m11') Q) : ev_E G K_X10_tells B_X10_tells (0, 0) 93 [some (vr 10 (i6)), none, none, some (vi (x7)), some (vi (x20)), some (vl (y21)), none, some (vi (x22))] [] (ev_emb m23) Q := by
  unfold jn_X10_tells_93_35 at h
  refine ev_iinc_7 (pc := 93) (y := x22 + 1) dX10_tells_93 rfl (by decide) rfl ?_
  refine ev_goto (pc := 96) (tgt := 35) dX10_tells_96 (by decide) ?_
  exact hkb _ _ _ _  h
set_option maxRecDepth 20000 in
set_option maxHeartbeats 4000000 in
theorem e_jn_X10_tells_82_35 {G : ev_G} {Q : Option ev_V → ev_M → Prop} {R : Option (Int32 × ev_m)} (hR : ∀ (x0 : Int32) (m0 : ev_m), (some ((x0, m0))) = R → Q (some (vi x0)) (ev_emb m0)) (hN : none ≠ R) {m18 : ev_m} {i6 : Nat} {x7 : Int32} {x17 : Int32} {kb : Int32 → Int64 → Int32 → ev_m → Option (Int32 × ev_m)} {kx : Int32 → ev_m → Option (Int32 × ev_m)}  (h : jn_X10_tells_82_35 m18 i6 x7 x17 kb kx = R) (hkb : ∀ (x8' : Int32) (y9' : Int64) (x10' : Int32) (m11' : ev_m), kb x8' y9' x10' m11' = R → ev_E G K_X10_tells B_X10_tells (0, 0) 35 [some (vr 10 (i6)), none, none, some (vi (x7)), some (vi (x8')), some (vl (y9')), none, some (vi (x10'))] [] (ev_emb m11') Q) (hkx : ∀ (x8' : Int32) (m11' : ev_m), kx x8' m11' = R → ev_E G K_X10_tells B_X10_tells (0, 0) 99 [none, none, none, none, some (vi (x8')), none, none, none] [] (ev_emb m11') Q) : ev_E G K_X10_tells B_X10_tells (0, 0) 82 [some (vr 10 (i6)), none, none, some (vi (x7)), none, none, none, some (vi (x17))] [] (ev_emb m18) Q := by
  unfold jn_X10_tells_82_35 at h
  refine ev_iload_7 (pc := 82) dX10_tells_82 ?_
  refine ev_istore_4 (pc := 84) dX10_tells_84 (by decide) rfl ?_
  refine ev_aload_0 (pc := 86) dX10_tells_86 ?_
  refine ev_iload_3 (pc := 87) dX10_tells_87 ?_
  obtain ⟨x19, hx19, h⟩ := ev_bindE hN h
  refine cl1_X10_366 (pc := 88) rfl dX10_tells_88 (by decide) (Nat.le_of_ble_eq_true rfl) (c_X10_apartFrom hx19) ?_
  refine ev_lstore_5 (pc := 91) dX10_tells_91 (by decide) rfl ?_
  exact e_jn_X10_tells_93_35 hR hN h hkb hkx
set_option maxRecDepth 20000 in
set_option maxHeartbeats 4000000 in
theorem e_lp_X10_tells_35 {G : ev_G} {Q : Option ev_V → ev_M → Prop} {R : Option (Int32 × ev_m)} (hR : ∀ (x0 : Int32) (m0 : ev_m), (some ((x0, m0))) = R → Q (some (vi x0)) (ev_emb m0)) (hN : none ≠ R) {i6 : Nat} {x7 : Int32} : ∀ (f : Nat) (x8 : Int32) (y9 : Int64) (x10 : Int32) (m11 : ev_m) (kx : Int32 → ev_m → Option (Int32 × ev_m)) (h : lp_X10_tells_35 i6 x7 f x8 y9 x10 m11 kx = R) (hk : ∀ (x8' : Int32) (m11' : ev_m), kx x8' m11' = R → ev_E G K_X10_tells B_X10_tells (0, 0) 99 [none, none, none, none, some (vi (x8')), none, none, none] [] (ev_emb m11') Q), ev_E G K_X10_tells B_X10_tells (0, 0) 35 [some (vr 10 (i6)), none, none, some (vi (x7)), some (vi (x8)), some (vl (y9)), none, some (vi (x10))] [] (ev_emb m11) Q := by
  intro f
  induction f with
  | zero => intro x8 y9 x10 m11 kx h hk; rw [lp_X10_tells_35] at h; exact absurd h hN
  | succ f ih =>
    intro x8 y9 x10 m11 kx h hk
    rw [lp_X10_tells_35] at h
    refine ev_iload_7 (pc := 35) dX10_tells_35 ?_
    refine ev_bipush (pc := 37) (v := 99) dX10_tells_37 (by decide) ?_
    refine ev_icc_gt (pc := 39) (tgt := 99) dX10_tells_39 (by decide) (fun c12 => ?_) (fun c12 => ?_)
    · replace h := ev_ifp h c12
      refine ev_E.forget (L' := [none, none, none, none, some (vi (x8)), none, none, none]) ⟨rfl, trivial⟩ ?_
      exact hk _ _  h
    · replace h := ev_ifn h c12
      refine ev_aload_0 (pc := 42) dX10_tells_42 ?_
      refine gt_X10_41 (pc := 43) rfl dX10_tells_43 ?_
      refine ev_iconst (pc := 46) (v := 0) dX10_tells_46 rfl ?_
      refine ev_iload_7 (pc := 47) dX10_tells_47 ?_
      obtain ⟨m13, hm13, h⟩ := ev_letE h
      refine ev_iastS (pc := 49) (j := 0) rfl (by decide) (by decide) (by decide) (vp_in_iff.mpr (by decide)) dX10_tells_49 ?_
      refine ev_mem (pc := 50) hm13 ?_
      refine ev_aload_0 (pc := 50) dX10_tells_50 ?_
      refine ev_iconst (pc := 51) (v := 1) dX10_tells_51 rfl ?_
      refine ev_iconst (pc := 52) (v := 0) dX10_tells_52 rfl ?_
      refine ev_aload_0 (pc := 53) dX10_tells_53 ?_
      refine gt_X10_32 (pc := 54) rfl dX10_tells_54 ?_
      refine ev_bipush (pc := 57) (v := 61) dX10_tells_57 (by decide) ?_
      refine ev_iload_3 (pc := 59) dX10_tells_59 ?_
      refine ev_imul (pc := 60) dX10_tells_60 ?_
      obtain ⟨x14, hx14, h⟩ := ev_bindE hN h
      refine ev_iald1 (pc := 61) rfl (by decide) rfl hx14 dX10_tells_61 ?_
      obtain ⟨m15, hm15, h⟩ := ev_bindE hN h
      refine cl0_X10_315 (pc := 62) rfl dX10_tells_62 (by decide) (Nat.le_of_ble_eq_true rfl) (c_X10_runBy hm15) ?_
      refine ev_iload_4 (pc := 65) dX10_tells_65 ?_
      refine ev_iconst (pc := 67) (v := (-1)) dX10_tells_67 rfl ?_
      refine ev_icc_eq (pc := 68) (tgt := 82) dX10_tells_68 (by decide) (fun c16 => ?_) (fun c16 => ?_)
      · replace h := ev_ifp h c16
        refine ev_E.forget (L' := [some (vr 10 (i6)), none, none, some (vi (x7)), none, none, none, some (vi (x10))]) ⟨rfl, ⟨rfl, ⟨rfl, trivial⟩⟩⟩ ?_
        exact e_jn_X10_tells_82_35 hR hN h (fun _ _ _ _ h => ih _ _ _ _ kx h hk) hk
      · replace h := ev_ifn h c16
        refine ev_aload_0 (pc := 71) dX10_tells_71 ?_
        refine ev_iload_3 (pc := 72) dX10_tells_72 ?_
        obtain ⟨x24, hx24, h⟩ := ev_bindE hN h
        refine cl1_X10_366 (pc := 73) rfl dX10_tells_73 (by decide) (Nat.le_of_ble_eq_true rfl) (c_X10_apartFrom hx24) ?_
        refine ev_lload_5 (pc := 76) dX10_tells_76 ?_
        refine ev_lcc_ge (pc := 78) (tgt := 93) dX10_tells_78 dX10_tells_79 (by decide) (fun c25 => ?_) (fun c25 => ?_)
        · replace h := ev_ifn h c25
          exact e_jn_X10_tells_93_35 hR hN h (fun _ _ _ _ h => ih _ _ _ _ kx h hk) hk
        · replace h := ev_ifp h c25
          refine ev_E.forget (L' := [some (vr 10 (i6)), none, none, some (vi (x7)), none, none, none, some (vi (x10))]) ⟨rfl, ⟨rfl, ⟨rfl, trivial⟩⟩⟩ ?_
          exact e_jn_X10_tells_82_35 hR hN h (fun _ _ _ _ h => ih _ _ _ _ kx h hk) hk
set_option maxRecDepth 20000 in
set_option maxHeartbeats 4000000 in
theorem e_X10_tells {G : ev_G} {Q : Option ev_V → ev_M → Prop} {R : Option (Int32 × ev_m)} {mF : ev_m} (hR : ∀ (x0 : Int32) (m0 : ev_m), (some ((x0, m0))) = R → Q (some (vi x0)) (ev_emb m0)) (hN : none ≠ R) {i0 : Nat} {x1_ : Int32} {x2_ : Int32} {x3_ : Int32} (h : f_X10_tells mF i0 x1_ x2_ x3_ = R) : ev_E G K_X10_tells B_X10_tells (0, 0) 0 [some (vr 10 (i0)), some (vi (x1_)), some (vi (x2_)), some (vi (x3_)), none, none, none, none] [] (ev_emb mF) Q := by
  unfold f_X10_tells at h
  refine ev_aload_0 (pc := 0) dX10_tells_0 ?_
  refine ev_iconst (pc := 1) (v := 0) dX10_tells_1 rfl ?_
  obtain ⟨m1, hm1, h⟩ := ev_letE h
  refine pt_X10_81 (pc := 2) rfl dX10_tells_2 ?_
  refine ev_mem (pc := 5) hm1 ?_
  refine ev_aload_0 (pc := 5) dX10_tells_5 ?_
  refine ev_iconst (pc := 6) (v := 2) dX10_tells_6 rfl ?_
  refine ev_iload_3 (pc := 7) dX10_tells_7 ?_
  obtain ⟨x2, hx2, h⟩ := ev_bindE hN h
  refine cl1_X10_226 (pc := 8) rfl dX10_tells_8 (by decide) (Nat.le_of_ble_eq_true rfl) (c_X10_is hx2) ?_
  refine ev_ifb_eq (pc := 11) (tgt := 24) dX10_tells_11 (by decide) (fun c3 => ?_) (fun c3 => ?_)
  · replace h := ev_ifn h c3
    refine ev_iconst (pc := 24) (v := (-1)) dX10_tells_24 rfl ?_
    exact ev_iret (pc := 25) dX10_tells_25 rfl rfl (hR _ _ h)
  · replace h := ev_ifp h c3
    refine ev_aload_0 (pc := 14) dX10_tells_14 ?_
    refine ev_iload_1 (pc := 15) dX10_tells_15 ?_
    refine ev_iload_2 (pc := 16) dX10_tells_16 ?_
    refine ev_iconst (pc := 17) (v := 0) dX10_tells_17 rfl ?_
    obtain ⟨p4, hp4, h⟩ := ev_bindE hN h
    refine cl1_X10_329 (pc := 18) rfl dX10_tells_18 (by decide) (Nat.le_of_ble_eq_true rfl) (c_X10_lay hp4) ?_
    refine ev_ifb_ne (pc := 21) (tgt := 26) dX10_tells_21 (by decide) (fun c5 => ?_) (fun c5 => ?_)
    · replace h := ev_ifp h c5
      refine ev_iconst (pc := 26) (v := (-1)) dX10_tells_26 rfl ?_
      refine ev_istore_4 (pc := 27) dX10_tells_27 (by decide) rfl ?_
      refine ev_lconst (pc := 29) (v := 0) dX10_tells_29 rfl ?_
      refine ev_lstore_5 (pc := 30) dX10_tells_30 (by decide) rfl ?_
      refine ev_iconst (pc := 32) (v := 0) dX10_tells_32 rfl ?_
      refine ev_istore_7 (pc := 33) dX10_tells_33 (by decide) rfl ?_
      refine ev_E.forget (L' := [some (vr 10 (i0)), none, none, some (vi (x3_)), some (vi ((-1))), some (vl (0)), none, some (vi (0))]) ⟨rfl, ⟨rfl, ⟨rfl, ⟨rfl, ⟨rfl, trivial⟩⟩⟩⟩⟩ ?_
      refine e_lp_X10_tells_35 hR hN 4000 _ _ _ _ _ h (fun x26 m27 h => ?_)
      refine ev_iload_4 (pc := 99) dX10_tells_99 ?_
      exact ev_iret (pc := 101) dX10_tells_101 rfl rfl (hR _ _ h)
    · replace h := ev_ifn h c5
      refine ev_iconst (pc := 24) (v := (-1)) dX10_tells_24 rfl ?_
      exact ev_iret (pc := 25) dX10_tells_25 rfl rfl (hR _ _ h)
theorem c_X10_tells {G : ev_G} {mF : ev_m} {i0 : Nat} {x1_ : Int32} {x2_ : Int32} {x3_ : Int32} {r : Int32 × ev_m} (h : f_X10_tells mF i0 x1_ x2_ x3_ = some r) : ev_CF G K_X10_tells B_X10_tells [vr 10 (i0), vi (x1_), vi (x2_), vi (x3_)] mF (some (vi (r.1))) r.2 :=
  ev_Ct_of rfl rfl (Nat.le_of_ble_eq_true rfl) (e_X10_tells (R := some r) (fun x0 m0 q => by cases q; exact ⟨rfl, rfl⟩) (fun q => by cases q) h)
set_option maxRecDepth 20000 in
set_option maxHeartbeats 4000000 in
theorem e_lp_X10_slipped_45 {G : ev_G} {Q : Option ev_V → ev_M → Prop} {R : Option (Int64 × ev_m)} (hR : ∀ (x0 : Int64) (m0 : ev_m), (some ((x0, m0))) = R → Q (some (vl x0)) (ev_emb m0)) (hN : none ≠ R) {i5 : Nat} {x6 : Int32} {x7 : Int32} {x8 : Int32} {x9 : Int32} : ∀ (f : Nat) (y10 : Int64) (x11 : Int32) (y12 : Int64) (x13 : Int32) (m14 : ev_m) (kx : Int64 → Int32 → ev_m → Option (Int64 × ev_m)) (h : lp_X10_slipped_45 i5 x6 x7 x8 x9 f y10 x11 y12 x13 m14 kx = R) (hk : ∀ (y10' : Int64) (x11' : Int32) (m14' : ev_m), kx y10' x11' m14' = R → ev_E G K_X10_slipped B_X10_slipped (0, 0) 107 [none, none, none, none, none, none, some (vi (x9)), some (vl (y10')), none, some (vi (x11')), none, none, none] [] (ev_emb m14') Q), ev_E G K_X10_slipped B_X10_slipped (0, 0) 45 [some (vr 10 (i5)), none, none, some (vi (x6)), some (vi (x7)), some (vi (x8)), some (vi (x9)), some (vl (y10)), none, some (vi (x11)), some (vl (y12)), none, some (vi (x13))] [] (ev_emb m14) Q := by
  intro f
  induction f with
  | zero => intro y10 x11 y12 x13 m14 kx h hk; rw [lp_X10_slipped_45] at h; exact absurd h hN
  | succ f ih =>
    intro y10 x11 y12 x13 m14 kx h hk
    rw [lp_X10_slipped_45] at h
    refine ev_iload_12 (pc := 45) dX10_slipped_45 ?_
    refine ev_iload_4 (pc := 47) dX10_slipped_47 ?_
    refine ev_icc_ge (pc := 49) (tgt := 107) dX10_slipped_49 (by decide) (fun c15 => ?_) (fun c15 => ?_)
    · replace h := ev_ifn h c15
      refine ev_E.forget (L' := [none, none, none, none, none, none, some (vi (x9)), some (vl (y10)), none, some (vi (x11)), none, none, none]) ⟨rfl, ⟨rfl, ⟨rfl, trivial⟩⟩⟩ ?_
      exact hk _ _ _  h
    · replace h := ev_ifp h c15
      refine ev_aload_0 (pc := 52) dX10_slipped_52 ?_
      refine ev_iconst (pc := 53) (v := 1) dX10_slipped_53 rfl ?_
      refine ev_iload_3 (pc := 54) dX10_slipped_54 ?_
      refine ev_iload_12 (pc := 55) dX10_slipped_55 ?_
      refine ev_iadd (pc := 57) dX10_slipped_57 ?_
      refine ev_iload_5 (pc := 58) dX10_slipped_58 ?_
      obtain ⟨m16, hm16, h⟩ := ev_bindE hN h
      refine cl0_X10_315 (pc := 60) rfl dX10_slipped_60 (by decide) (Nat.le_of_ble_eq_true rfl) (c_X10_runBy hm16) ?_
      refine ev_lload_7 (pc := 63) dX10_slipped_63 ?_
      refine ev_aload_0 (pc := 65) dX10_slipped_65 ?_
      refine cl1_X10_319 (pc := 66) rfl dX10_slipped_66 (by decide) (Nat.le_of_ble_eq_true rfl) (c_X10_cost m16 i5) ?_
      refine ev_ladd (pc := 69) dX10_slipped_69 ?_
      obtain ⟨y17, hy17, h⟩ := ev_letE h
      refine ev_topl (pc := 70) hy17 ?_
      refine ev_lstore_7 (pc := 70) dX10_slipped_70 (by decide) rfl ?_
      refine ev_lload_10 (pc := 72) dX10_slipped_72 ?_
      refine ev_lconst (pc := 74) (v := 0) dX10_slipped_74 rfl ?_
      obtain ⟨x20, hx20, h⟩ := ev_letE h
      obtain ⟨y21, hy21, h⟩ := ev_letE h
      have hJ1 : ev_E G K_X10_slipped B_X10_slipped (0, 0) 101 [some (vr 10 (i5)), none, none, some (vi (x6)), some (vi (x7)), some (vi (x8)), some (vi (x9)), some (vl (y17)), none, some (vi (x20)), some (vl (y21)), none, some (vi (x13))] [] (ev_emb m16) Q := by
        refine ev_iinc_12 (pc := 101) (y := x13 + 1) dX10_slipped_101 rfl (by decide) rfl ?_
        refine ev_goto (pc := 104) (tgt := 45) dX10_slipped_104 (by decide) ?_
        exact ih _ _ _ _ _ kx h hk
      refine ev_lcc_lt (pc := 75) (tgt := 89) dX10_slipped_75 dX10_slipped_76 (by decide) (fun c18 => ?_) (fun c18 => ?_)
      · refine ev_iload_3 (pc := 89) dX10_slipped_89 ?_
        refine ev_iload_12 (pc := 90) dX10_slipped_90 ?_
        refine ev_iadd (pc := 92) dX10_slipped_92 ?_
        refine ev_istore_9 (pc := 93) dX10_slipped_93 (by decide) rfl ?_
        refine ev_aload_0 (pc := 95) dX10_slipped_95 ?_
        refine cl1_X10_319 (pc := 96) rfl dX10_slipped_96 (by decide) (Nat.le_of_ble_eq_true rfl) (c_X10_cost m16 i5) ?_
        refine ev_lstore_10 (pc := 99) dX10_slipped_99 (by decide) rfl ?_
        replace hx20 := (hx20.trans (if_pos c18))
        replace hy21 := (hy21.trans (if_pos c18))
        subst hx20
        subst hy21
        exact hJ1
      · refine ev_aload_0 (pc := 79) dX10_slipped_79 ?_
        refine cl1_X10_319 (pc := 80) rfl dX10_slipped_80 (by decide) (Nat.le_of_ble_eq_true rfl) (c_X10_cost m16 i5) ?_
        refine ev_lload_10 (pc := 83) dX10_slipped_83 ?_
        refine ev_lcc_ge (pc := 85) (tgt := 101) dX10_slipped_85 dX10_slipped_86 (by decide) (fun c19 => ?_) (fun c19 => ?_)
        · replace hx20 := ((hx20.trans (if_neg c18)).trans (if_neg c19))
          replace hy21 := ((hy21.trans (if_neg c18)).trans (if_neg c19))
          subst hx20
          subst hy21
          exact hJ1
        · refine ev_iload_3 (pc := 89) dX10_slipped_89 ?_
          refine ev_iload_12 (pc := 90) dX10_slipped_90 ?_
          refine ev_iadd (pc := 92) dX10_slipped_92 ?_
          refine ev_istore_9 (pc := 93) dX10_slipped_93 (by decide) rfl ?_
          refine ev_aload_0 (pc := 95) dX10_slipped_95 ?_
          refine cl1_X10_319 (pc := 96) rfl dX10_slipped_96 (by decide) (Nat.le_of_ble_eq_true rfl) (c_X10_cost m16 i5) ?_
          refine ev_lstore_10 (pc := 99) dX10_slipped_99 (by decide) rfl ?_
          replace hx20 := ((hx20.trans (if_neg c18)).trans (if_pos c19))
          replace hy21 := ((hy21.trans (if_neg c18)).trans (if_pos c19))
          subst hx20
          subst hy21
          exact hJ1
set_option maxRecDepth 20000 in
set_option maxHeartbeats 4000000 in
theorem e_X10_slipped {G : ev_G} {Q : Option ev_V → ev_M → Prop} {R : Option (Int64 × ev_m)} {mF : ev_m} (hR : ∀ (x0 : Int64) (m0 : ev_m), (some ((x0, m0))) = R → Q (some (vl x0)) (ev_emb m0)) (hN : none ≠ R) {i0 : Nat} {x1_ : Int32} {x2_ : Int32} {x3_ : Int32} {x4_ : Int32} {x5_ : Int32} {x6_ : Int32} (h : f_X10_slipped mF i0 x1_ x2_ x3_ x4_ x5_ x6_ = R) : ev_E G K_X10_slipped B_X10_slipped (0, 0) 0 [some (vr 10 (i0)), some (vi (x1_)), some (vi (x2_)), some (vi (x3_)), some (vi (x4_)), some (vi (x5_)), some (vi (x6_)), none, none, none, none, none, none] [] (ev_emb mF) Q := by
  unfold f_X10_slipped at h
  refine ev_aload_0 (pc := 0) dX10_slipped_0 ?_
  refine ev_iconst (pc := 1) (v := 0) dX10_slipped_1 rfl ?_
  obtain ⟨m1, hm1, h⟩ := ev_letE h
  refine pt_X10_81 (pc := 2) rfl dX10_slipped_2 ?_
  refine ev_mem (pc := 5) hm1 ?_
  refine ev_aload_0 (pc := 5) dX10_slipped_5 ?_
  refine ev_iload_1 (pc := 6) dX10_slipped_6 ?_
  refine ev_iload_2 (pc := 7) dX10_slipped_7 ?_
  refine ev_iload_5 (pc := 8) dX10_slipped_8 ?_
  obtain ⟨p2, hp2, h⟩ := ev_bindE hN h
  refine cl1_X10_338 (pc := 10) rfl dX10_slipped_10 (by decide) (Nat.le_of_ble_eq_true rfl) (c_X10_layFor hp2) ?_
  refine ev_ifb_eq (pc := 13) (tgt := 27) dX10_slipped_13 (by decide) (fun c3 => ?_) (fun c3 => ?_)
  · replace h := ev_ifn h c3
    refine ev_ldc2 (pc := 27) (v := (-100000)) kl_X10_358 dX10_slipped_27 ?_
    exact ev_lret (pc := 30) dX10_slipped_30 rfl (hR _ _ h)
  · replace h := ev_ifp h c3
    refine ev_iload_4 (pc := 16) dX10_slipped_16 ?_
    refine ev_iconst (pc := 18) (v := 1) dX10_slipped_18 rfl ?_
    refine ev_bipush (pc := 19) (v := 20) dX10_slipped_19 (by decide) ?_
    refine cl1_X10_89 (pc := 21) rfl dX10_slipped_21 (by decide) (Nat.le_of_ble_eq_true rfl) (c_X10_in p2.2 x4_ 1 20) ?_
    refine ev_ifb_ne (pc := 24) (tgt := 31) dX10_slipped_24 (by decide) (fun c4 => ?_) (fun c4 => ?_)
    · replace h := ev_ifp h c4
      refine ev_lconst (pc := 31) (v := 0) dX10_slipped_31 rfl ?_
      refine ev_lstore_7 (pc := 32) dX10_slipped_32 (by decide) rfl ?_
      refine ev_iload_3 (pc := 34) dX10_slipped_34 ?_
      refine ev_istore_9 (pc := 35) dX10_slipped_35 (by decide) rfl ?_
      refine ev_ldc2 (pc := 37) (v := (-1)) kl_X10_341 dX10_slipped_37 ?_
      refine ev_lstore_10 (pc := 40) dX10_slipped_40 (by decide) rfl ?_
      refine ev_iconst (pc := 42) (v := 0) dX10_slipped_42 rfl ?_
      refine ev_istore_12 (pc := 43) dX10_slipped_43 (by decide) rfl ?_
      refine ev_E.forget (L' := [some (vr 10 (i0)), none, none, some (vi (x3_)), some (vi (x4_)), some (vi (x5_)), some (vi (x6_)), some (vl (0)), none, some (vi (x3_)), some (vl ((-1))), none, some (vi (0))]) ⟨rfl, ⟨rfl, ⟨rfl, ⟨rfl, ⟨rfl, ⟨rfl, ⟨rfl, ⟨rfl, ⟨rfl, trivial⟩⟩⟩⟩⟩⟩⟩⟩⟩ ?_
      refine e_lp_X10_slipped_45 hR hN 4000 _ _ _ _ _ _ h (fun y22 x23 m24 h => ?_)
      refine ev_iload_6 (pc := 107) dX10_slipped_107 ?_
      refine ev_ifc_eq (pc := 109) (tgt := 118) dX10_slipped_109 (by decide) (fun c25 => ?_) (fun c25 => ?_)
      · replace h := ev_ifp h c25
        refine ev_lload_7 (pc := 118) dX10_slipped_118 ?_
        exact ev_lret (pc := 120) dX10_slipped_120 rfl (hR _ _ h)
      · replace h := ev_ifn h c25
        refine ev_iload_9 (pc := 112) dX10_slipped_112 ?_
        refine ev_i2l (pc := 114) dX10_slipped_114 ?_
        refine ev_goto (pc := 115) (tgt := 120) dX10_slipped_115 (by decide) ?_
        exact ev_lret (pc := 120) dX10_slipped_120 rfl (hR _ _ h)
    · replace h := ev_ifn h c4
      refine ev_ldc2 (pc := 27) (v := (-100000)) kl_X10_358 dX10_slipped_27 ?_
      exact ev_lret (pc := 30) dX10_slipped_30 rfl (hR _ _ h)
theorem c_X10_slipped {G : ev_G} {mF : ev_m} {i0 : Nat} {x1_ : Int32} {x2_ : Int32} {x3_ : Int32} {x4_ : Int32} {x5_ : Int32} {x6_ : Int32} {r : Int64 × ev_m} (h : f_X10_slipped mF i0 x1_ x2_ x3_ x4_ x5_ x6_ = some r) : ev_CF G K_X10_slipped B_X10_slipped [vr 10 (i0), vi (x1_), vi (x2_), vi (x3_), vi (x4_), vi (x5_), vi (x6_)] mF (some (vl (r.1))) r.2 :=
  ev_Ct_of rfl rfl (Nat.le_of_ble_eq_true rfl) (e_X10_slipped (R := some r) (fun x0 m0 q => by cases q; exact ⟨rfl, rfl⟩) (fun q => by cases q) h)
set_option maxRecDepth 20000 in
set_option maxHeartbeats 4000000 in
theorem e_lp_X10_lead_39 {G : ev_G} {Q : Option ev_V → ev_M → Prop} {R : Option (Int32 × ev_m)} (hR : ∀ (x0 : Int32) (m0 : ev_m), (some ((x0, m0))) = R → Q (some (vi x0)) (ev_emb m0)) (hN : none ≠ R) {i6 : Nat} {x7 : Int32} : ∀ (f : Nat) (x8 : Int32) (m9 : ev_m) (kx : ev_m → Option (Int32 × ev_m)) (h : lp_X10_lead_39 i6 x7 f x8 m9 kx = R) (hk : ∀ (m9' : ev_m), kx m9' = R → ev_E G K_X10_lead B_X10_lead (0, 0) 76 [none, none, none, none, none, none] [] (ev_emb m9') Q), ev_E G K_X10_lead B_X10_lead (0, 0) 39 [some (vr 10 (i6)), none, none, some (vi (x7)), none, some (vi (x8))] [] (ev_emb m9) Q := by
  intro f
  induction f with
  | zero => intro x8 m9 kx h hk; rw [lp_X10_lead_39] at h; exact absurd h hN
  | succ f ih =>
    intro x8 m9 kx h hk
    rw [lp_X10_lead_39] at h
    refine ev_iload_5 (pc := 39) dX10_lead_39 ?_
    refine ev_bipush (pc := 41) (v := 99) dX10_lead_41 (by decide) ?_
    refine ev_icc_gt (pc := 43) (tgt := 76) dX10_lead_43 (by decide) (fun c10 => ?_) (fun c10 => ?_)
    · replace h := ev_ifp h c10
      refine ev_E.forget (L' := [none, none, none, none, none, none]) trivial ?_
      exact hk _  h
    · replace h := ev_ifn h c10
      refine ev_aload_0 (pc := 46) dX10_lead_46 ?_
      refine ev_iconst (pc := 47) (v := 1) dX10_lead_47 rfl ?_
      refine ev_iload_5 (pc := 48) dX10_lead_48 ?_
      obtain ⟨m11, hm11, h⟩ := ev_bindE hN h
      refine cl0_X10_343 (pc := 50) rfl dX10_lead_50 (by decide) (Nat.le_of_ble_eq_true rfl) (c_X10_put hm11) ?_
      refine ev_aload_0 (pc := 53) dX10_lead_53 ?_
      refine ev_iconst (pc := 54) (v := 1) dX10_lead_54 rfl ?_
      refine ev_iconst (pc := 55) (v := 0) dX10_lead_55 rfl ?_
      refine ev_iload_3 (pc := 56) dX10_lead_56 ?_
      obtain ⟨m12, hm12, h⟩ := ev_bindE hN h
      refine cl0_X10_315 (pc := 57) rfl dX10_lead_57 (by decide) (Nat.le_of_ble_eq_true rfl) (c_X10_runBy hm12) ?_
      refine ev_aload_0 (pc := 60) dX10_lead_60 ?_
      obtain ⟨x13, hx13, h⟩ := ev_bindE hN h
      refine cl1_X10_335 (pc := 61) rfl dX10_lead_61 (by decide) (Nat.le_of_ble_eq_true rfl) (c_X10_grows hx13) ?_
      refine ev_ifb_ne (pc := 64) (tgt := 70) dX10_lead_64 (by decide) (fun c14 => ?_) (fun c14 => ?_)
      · replace h := ev_ifp h c14
        refine ev_iinc_5 (pc := 70) (y := x8 + 1) dX10_lead_70 rfl (by decide) rfl ?_
        refine ev_goto (pc := 73) (tgt := 39) dX10_lead_73 (by decide) ?_
        exact ih _ _ kx h hk
      · replace h := ev_ifn h c14
        refine ev_iload_5 (pc := 67) dX10_lead_67 ?_
        exact ev_iret (pc := 69) dX10_lead_69 rfl rfl (hR _ _ h)
set_option maxRecDepth 20000 in
set_option maxHeartbeats 4000000 in
theorem e_X10_lead {G : ev_G} {Q : Option ev_V → ev_M → Prop} {R : Option (Int32 × ev_m)} {mF : ev_m} (hR : ∀ (x0 : Int32) (m0 : ev_m), (some ((x0, m0))) = R → Q (some (vi x0)) (ev_emb m0)) (hN : none ≠ R) {i0 : Nat} {x1_ : Int32} {x2_ : Int32} {x3_ : Int32} {x4_ : Int32} (h : f_X10_lead mF i0 x1_ x2_ x3_ x4_ = R) : ev_E G K_X10_lead B_X10_lead (0, 0) 0 [some (vr 10 (i0)), some (vi (x1_)), some (vi (x2_)), some (vi (x3_)), some (vi (x4_)), none] [] (ev_emb mF) Q := by
  unfold f_X10_lead at h
  refine ev_aload_0 (pc := 0) dX10_lead_0 ?_
  refine ev_iconst (pc := 1) (v := 0) dX10_lead_1 rfl ?_
  obtain ⟨m1, hm1, h⟩ := ev_letE h
  refine pt_X10_81 (pc := 2) rfl dX10_lead_2 ?_
  refine ev_mem (pc := 5) hm1 ?_
  refine ev_aload_0 (pc := 5) dX10_lead_5 ?_
  refine ev_iload_1 (pc := 6) dX10_lead_6 ?_
  refine ev_iload_2 (pc := 7) dX10_lead_7 ?_
  refine ev_iload_3 (pc := 8) dX10_lead_8 ?_
  obtain ⟨p2, hp2, h⟩ := ev_bindE hN h
  refine cl1_X10_338 (pc := 9) rfl dX10_lead_9 (by decide) (Nat.le_of_ble_eq_true rfl) (c_X10_layFor hp2) ?_
  refine ev_ifb_eq (pc := 12) (tgt := 26) dX10_lead_12 (by decide) (fun c3 => ?_) (fun c3 => ?_)
  · replace h := ev_ifn h c3
    refine ev_iconst (pc := 26) (v := (-1)) dX10_lead_26 rfl ?_
    exact ev_iret (pc := 27) dX10_lead_27 rfl rfl (hR _ _ h)
  · replace h := ev_ifp h c3
    refine ev_iload_4 (pc := 15) dX10_lead_15 ?_
    refine ev_iconst (pc := 17) (v := 0) dX10_lead_17 rfl ?_
    refine ev_bipush (pc := 18) (v := 9) dX10_lead_18 (by decide) ?_
    refine cl1_X10_89 (pc := 20) rfl dX10_lead_20 (by decide) (Nat.le_of_ble_eq_true rfl) (c_X10_in p2.2 x4_ 0 9) ?_
    refine ev_ifb_ne (pc := 23) (tgt := 28) dX10_lead_23 (by decide) (fun c4 => ?_) (fun c4 => ?_)
    · replace h := ev_ifp h c4
      refine ev_aload_0 (pc := 28) dX10_lead_28 ?_
      refine gt_X10_41 (pc := 29) rfl dX10_lead_29 ?_
      refine ev_iconst (pc := 32) (v := 2) dX10_lead_32 rfl ?_
      refine ev_iload_4 (pc := 33) dX10_lead_33 ?_
      obtain ⟨m5, hm5, h⟩ := ev_letE h
      refine ev_iastS (pc := 35) (j := 2) rfl (by decide) (by decide) (by decide) (vp_in_iff.mpr (by decide)) dX10_lead_35 ?_
      refine ev_mem (pc := 36) hm5 ?_
      refine ev_iconst (pc := 36) (v := 0) dX10_lead_36 rfl ?_
      refine ev_istore_5 (pc := 37) dX10_lead_37 (by decide) rfl ?_
      refine ev_E.forget (L' := [some (vr 10 (i0)), none, none, some (vi (x3_)), none, some (vi (0))]) ⟨rfl, ⟨rfl, ⟨rfl, trivial⟩⟩⟩ ?_
      refine e_lp_X10_lead_39 hR hN 4000 _ _ _ h (fun m15 h => ?_)
      refine ev_iconst (pc := 76) (v := (-1)) dX10_lead_76 rfl ?_
      exact ev_iret (pc := 77) dX10_lead_77 rfl rfl (hR _ _ h)
    · replace h := ev_ifn h c4
      refine ev_iconst (pc := 26) (v := (-1)) dX10_lead_26 rfl ?_
      exact ev_iret (pc := 27) dX10_lead_27 rfl rfl (hR _ _ h)
theorem c_X10_lead {G : ev_G} {mF : ev_m} {i0 : Nat} {x1_ : Int32} {x2_ : Int32} {x3_ : Int32} {x4_ : Int32} {r : Int32 × ev_m} (h : f_X10_lead mF i0 x1_ x2_ x3_ x4_ = some r) : ev_CF G K_X10_lead B_X10_lead [vr 10 (i0), vi (x1_), vi (x2_), vi (x3_), vi (x4_)] mF (some (vi (r.1))) r.2 :=
  ev_Ct_of rfl rfl (Nat.le_of_ble_eq_true rfl) (e_X10_lead (R := some r) (fun x0 m0 q => by cases q; exact ⟨rfl, rfl⟩) (fun q => by cases q) h)
set_option maxRecDepth 20000 in
set_option maxHeartbeats 4000000 in
theorem e_lp_X10_bound_95 {G : ev_G} {Q : Option ev_V → ev_M → Prop} {R : Option (Int32 × ev_m)} (hR : ∀ (x0 : Int32) (m0 : ev_m), (some ((x0, m0))) = R → Q (some (vi x0)) (ev_emb m0)) (hN : none ≠ R) {i7 : Nat} {x8 : Int32} {x9 : Int32} {x10 : Int32} : ∀ (f : Nat) (x11 : Int32) (x12 : Int32) (m13 : ev_m) (kx : Int32 → ev_m → Option (Int32 × ev_m)) (h : lp_X10_bound_95 i7 x8 x9 x10 f x11 x12 m13 kx = R) (hk : ∀ (x11' : Int32) (m13' : ev_m), kx x11' m13' = R → ev_E G K_X10_bound B_X10_bound (0, 0) 150 [none, none, none, none, none, none, some (vi (x11')), none] [] (ev_emb m13') Q), ev_E G K_X10_bound B_X10_bound (0, 0) 95 [some (vr 10 (i7)), none, none, some (vi (x8)), some (vi (x9)), some (vi (x10)), some (vi (x11)), some (vi (x12))] [] (ev_emb m13) Q := by
  intro f
  induction f with
  | zero => intro x11 x12 m13 kx h hk; rw [lp_X10_bound_95] at h; exact absurd h hN
  | succ f ih =>
    intro x11 x12 m13 kx h hk
    rw [lp_X10_bound_95] at h
    refine ev_iload_7 (pc := 95) dX10_bound_95 ?_
    refine ev_iconst (pc := 97) (v := 1) dX10_bound_97 rfl ?_
    refine ev_icc_lt (pc := 98) (tgt := 150) dX10_bound_98 (by decide) (fun c14 => ?_) (fun c14 => ?_)
    · replace h := ev_ifp h c14
      refine ev_E.forget (L' := [none, none, none, none, none, none, some (vi (x11)), none]) ⟨rfl, trivial⟩ ?_
      exact hk _ _  h
    · replace h := ev_ifn h c14
      refine ev_aload_0 (pc := 101) dX10_bound_101 ?_
      refine gt_X10_41 (pc := 102) rfl dX10_bound_102 ?_
      refine ev_iload_5 (pc := 105) dX10_bound_105 ?_
      refine ev_iconst (pc := 107) (v := 1) dX10_bound_107 rfl ?_
      obtain ⟨x16, hx16, h⟩ := ev_letE h
      have hJ2 : ev_E G K_X10_bound B_X10_bound (0, 0) 116 [some (vr 10 (i7)), none, none, some (vi (x8)), some (vi (x9)), some (vi (x10)), some (vi (x11)), some (vi (x12))] [vi (x16), vr 40 (0)] (ev_emb m13) Q := by
        refine ev_iload_7 (pc := 116) dX10_bound_116 ?_
        obtain ⟨m17, hm17, h⟩ := ev_bindE hN h
        refine ev_iast1 (pc := 118) rfl (by decide) (by decide) rfl hm17 dX10_bound_118 ?_
        refine ev_aload_0 (pc := 119) dX10_bound_119 ?_
        refine ev_iconst (pc := 120) (v := 1) dX10_bound_120 rfl ?_
        refine ev_iconst (pc := 121) (v := 0) dX10_bound_121 rfl ?_
        refine ev_iload_3 (pc := 122) dX10_bound_122 ?_
        obtain ⟨m18, hm18, h⟩ := ev_bindE hN h
        refine cl0_X10_315 (pc := 123) rfl dX10_bound_123 (by decide) (Nat.le_of_ble_eq_true rfl) (c_X10_runBy hm18) ?_
        refine ev_aload_0 (pc := 126) dX10_bound_126 ?_
        refine gt_X10_252 (pc := 127) rfl dX10_bound_127 ?_
        refine ev_iload_4 (pc := 130) dX10_bound_130 ?_
        obtain ⟨x20, hx20, h⟩ := ev_letE h
        have hJ1 : ev_E G K_X10_bound B_X10_bound (0, 0) 142 [some (vr 10 (i7)), none, none, some (vi (x8)), some (vi (x9)), some (vi (x10)), some (vi (x11)), some (vi (x12))] [vi (x20)] (ev_emb m18) Q := by
          refine ev_istore_6 (pc := 142) dX10_bound_142 (by decide) rfl ?_
          refine ev_iinc_7 (pc := 144) (y := x12 + (-1)) dX10_bound_144 rfl (by decide) rfl ?_
          refine ev_goto (pc := 147) (tgt := 95) dX10_bound_147 (by decide) ?_
          exact ih _ _ _ kx h hk
        refine ev_icc_gt (pc := 132) (tgt := 140) dX10_bound_132 (by decide) (fun c19 => ?_) (fun c19 => ?_)
        · refine ev_iload_6 (pc := 140) dX10_bound_140 ?_
          replace hx20 := (hx20.trans (if_pos c19))
          subst hx20
          exact hJ1
        · refine ev_iload_7 (pc := 135) dX10_bound_135 ?_
          refine ev_goto (pc := 137) (tgt := 142) dX10_bound_137 (by decide) ?_
          replace hx20 := (hx20.trans (if_neg c19))
          subst hx20
          exact hJ1
      refine ev_icc_ne (pc := 108) (tgt := 115) dX10_bound_108 (by decide) (fun c15 => ?_) (fun c15 => ?_)
      · refine ev_iconst (pc := 115) (v := 4) dX10_bound_115 rfl ?_
        replace hx16 := (hx16.trans (if_neg c15))
        subst hx16
        exact hJ2
      · refine ev_iconst (pc := 111) (v := 3) dX10_bound_111 rfl ?_
        refine ev_goto (pc := 112) (tgt := 116) dX10_bound_112 (by decide) ?_
        replace hx16 := (hx16.trans (if_pos c15))
        subst hx16
        exact hJ2
set_option maxRecDepth 20000 in
set_option maxHeartbeats 4000000 in
theorem e_lp_X10_bound_43 {G : ev_G} {Q : Option ev_V → ev_M → Prop} {R : Option (Int32 × ev_m)} (hR : ∀ (x0 : Int32) (m0 : ev_m), (some ((x0, m0))) = R → Q (some (vi x0)) (ev_emb m0)) (hN : none ≠ R) {i23 : Nat} {x24 : Int32} {x25 : Int32} : ∀ (f : Nat) (x26 : Int32) (x27 : Int32) (m28 : ev_m) (kx : Int32 → ev_m → Option (Int32 × ev_m)) (h : lp_X10_bound_43 i23 x24 x25 f x26 x27 m28 kx = R) (hk : ∀ (x26' : Int32) (m28' : ev_m), kx x26' m28' = R → ev_E G K_X10_bound B_X10_bound (0, 0) 88 [none, none, none, none, none, none, some (vi (x26')), none] [] (ev_emb m28') Q), ev_E G K_X10_bound B_X10_bound (0, 0) 43 [some (vr 10 (i23)), none, none, some (vi (x24)), some (vi (x25)), none, some (vi (x26)), some (vi (x27))] [] (ev_emb m28) Q := by
  intro f
  induction f with
  | zero => intro x26 x27 m28 kx h hk; rw [lp_X10_bound_43] at h; exact absurd h hN
  | succ f ih =>
    intro x26 x27 m28 kx h hk
    rw [lp_X10_bound_43] at h
    refine ev_iload_7 (pc := 43) dX10_bound_43 ?_
    refine ev_bipush (pc := 45) (v := 99) dX10_bound_45 (by decide) ?_
    refine ev_icc_gt (pc := 47) (tgt := 88) dX10_bound_47 (by decide) (fun c29 => ?_) (fun c29 => ?_)
    · replace h := ev_ifp h c29
      refine ev_E.forget (L' := [none, none, none, none, none, none, some (vi (x26)), none]) ⟨rfl, trivial⟩ ?_
      exact hk _ _  h
    · replace h := ev_ifn h c29
      refine ev_aload_0 (pc := 50) dX10_bound_50 ?_
      refine ev_iconst (pc := 51) (v := 3) dX10_bound_51 rfl ?_
      refine ev_iload_7 (pc := 52) dX10_bound_52 ?_
      obtain ⟨m30, hm30, h⟩ := ev_bindE hN h
      refine cl0_X10_343 (pc := 54) rfl dX10_bound_54 (by decide) (Nat.le_of_ble_eq_true rfl) (c_X10_put hm30) ?_
      refine ev_aload_0 (pc := 57) dX10_bound_57 ?_
      refine ev_iconst (pc := 58) (v := 1) dX10_bound_58 rfl ?_
      refine ev_iconst (pc := 59) (v := 0) dX10_bound_59 rfl ?_
      refine ev_iload_3 (pc := 60) dX10_bound_60 ?_
      obtain ⟨m31, hm31, h⟩ := ev_bindE hN h
      refine cl0_X10_315 (pc := 61) rfl dX10_bound_61 (by decide) (Nat.le_of_ble_eq_true rfl) (c_X10_runBy hm31) ?_
      refine ev_aload_0 (pc := 64) dX10_bound_64 ?_
      refine gt_X10_252 (pc := 65) rfl dX10_bound_65 ?_
      refine ev_iload_4 (pc := 68) dX10_bound_68 ?_
      obtain ⟨x33, hx33, h⟩ := ev_letE h
      have hJ3 : ev_E G K_X10_bound B_X10_bound (0, 0) 80 [some (vr 10 (i23)), none, none, some (vi (x24)), some (vi (x25)), none, some (vi (x26)), some (vi (x27))] [vi (x33)] (ev_emb m31) Q := by
        refine ev_istore_6 (pc := 80) dX10_bound_80 (by decide) rfl ?_
        refine ev_iinc_7 (pc := 82) (y := x27 + 1) dX10_bound_82 rfl (by decide) rfl ?_
        refine ev_goto (pc := 85) (tgt := 43) dX10_bound_85 (by decide) ?_
        exact ih _ _ _ kx h hk
      refine ev_icc_gt (pc := 70) (tgt := 78) dX10_bound_70 (by decide) (fun c32 => ?_) (fun c32 => ?_)
      · refine ev_iload_6 (pc := 78) dX10_bound_78 ?_
        replace hx33 := (hx33.trans (if_pos c32))
        subst hx33
        exact hJ3
      · refine ev_iload_7 (pc := 73) dX10_bound_73 ?_
        refine ev_goto (pc := 75) (tgt := 80) dX10_bound_75 (by decide) ?_
        replace hx33 := (hx33.trans (if_neg c32))
        subst hx33
        exact hJ3
set_option maxRecDepth 20000 in
set_option maxHeartbeats 4000000 in
theorem e_X10_bound {G : ev_G} {Q : Option ev_V → ev_M → Prop} {R : Option (Int32 × ev_m)} {mF : ev_m} (hR : ∀ (x0 : Int32) (m0 : ev_m), (some ((x0, m0))) = R → Q (some (vi x0)) (ev_emb m0)) (hN : none ≠ R) {i0 : Nat} {x1_ : Int32} {x2_ : Int32} {x3_ : Int32} {x4_ : Int32} {x5_ : Int32} (h : f_X10_bound mF i0 x1_ x2_ x3_ x4_ x5_ = R) : ev_E G K_X10_bound B_X10_bound (0, 0) 0 [some (vr 10 (i0)), some (vi (x1_)), some (vi (x2_)), some (vi (x3_)), some (vi (x4_)), some (vi (x5_)), none, none] [] (ev_emb mF) Q := by
  unfold f_X10_bound at h
  refine ev_aload_0 (pc := 0) dX10_bound_0 ?_
  refine ev_iconst (pc := 1) (v := 0) dX10_bound_1 rfl ?_
  obtain ⟨m1, hm1, h⟩ := ev_letE h
  refine pt_X10_81 (pc := 2) rfl dX10_bound_2 ?_
  refine ev_mem (pc := 5) hm1 ?_
  refine ev_aload_0 (pc := 5) dX10_bound_5 ?_
  refine ev_iload_1 (pc := 6) dX10_bound_6 ?_
  refine ev_iload_2 (pc := 7) dX10_bound_7 ?_
  refine ev_iload_3 (pc := 8) dX10_bound_8 ?_
  obtain ⟨p2, hp2, h⟩ := ev_bindE hN h
  refine cl1_X10_338 (pc := 9) rfl dX10_bound_9 (by decide) (Nat.le_of_ble_eq_true rfl) (c_X10_layFor hp2) ?_
  refine ev_ifb_eq (pc := 12) (tgt := 30) dX10_bound_12 (by decide) (fun c3 => ?_) (fun c3 => ?_)
  · replace h := ev_ifn h c3
    refine ev_iconst (pc := 30) (v := (-1)) dX10_bound_30 rfl ?_
    exact ev_iret (pc := 31) dX10_bound_31 rfl rfl (hR _ _ h)
  · replace h := ev_ifp h c3
    refine ev_iload_4 (pc := 15) dX10_bound_15 ?_
    refine ev_ifc_lt (pc := 17) (tgt := 30) dX10_bound_17 (by decide) (fun c4 => ?_) (fun c4 => ?_)
    · replace h := ev_ifp h c4
      refine ev_iconst (pc := 30) (v := (-1)) dX10_bound_30 rfl ?_
      exact ev_iret (pc := 31) dX10_bound_31 rfl rfl (hR _ _ h)
    · replace h := ev_ifn h c4
      refine ev_iload_5 (pc := 20) dX10_bound_20 ?_
      refine ev_iconst (pc := 22) (v := 0) dX10_bound_22 rfl ?_
      refine ev_iconst (pc := 23) (v := 2) dX10_bound_23 rfl ?_
      refine cl1_X10_89 (pc := 24) rfl dX10_bound_24 (by decide) (Nat.le_of_ble_eq_true rfl) (c_X10_in p2.2 x5_ 0 2) ?_
      refine ev_ifb_ne (pc := 27) (tgt := 32) dX10_bound_27 (by decide) (fun c5 => ?_) (fun c5 => ?_)
      · replace h := ev_ifp h c5
        refine ev_iconst (pc := 32) (v := (-1)) dX10_bound_32 rfl ?_
        refine ev_istore_6 (pc := 33) dX10_bound_33 (by decide) rfl ?_
        refine ev_iload_5 (pc := 35) dX10_bound_35 ?_
        refine ev_ifc_ne (pc := 37) (tgt := 91) dX10_bound_37 (by decide) (fun c6 => ?_) (fun c6 => ?_)
        · replace h := ev_ifn h c6
          refine ev_bipush (pc := 91) (v := 35) dX10_bound_91 (by decide) ?_
          refine ev_istore_7 (pc := 93) dX10_bound_93 (by decide) rfl ?_
          refine ev_E.forget (L' := [some (vr 10 (i0)), none, none, some (vi (x3_)), some (vi (x4_)), some (vi (x5_)), some (vi ((-1))), some (vi (35))]) ⟨rfl, ⟨rfl, ⟨rfl, ⟨rfl, ⟨rfl, ⟨rfl, trivial⟩⟩⟩⟩⟩⟩ ?_
          refine e_lp_X10_bound_95 hR hN 4000 _ _ _ _ h (fun x21 m22 h => ?_)
          refine ev_iload_6 (pc := 150) dX10_bound_150 ?_
          exact ev_iret (pc := 152) dX10_bound_152 rfl rfl (hR _ _ h)
        · replace h := ev_ifp h c6
          refine ev_iconst (pc := 40) (v := 0) dX10_bound_40 rfl ?_
          refine ev_istore_7 (pc := 41) dX10_bound_41 (by decide) rfl ?_
          refine ev_E.forget (L' := [some (vr 10 (i0)), none, none, some (vi (x3_)), some (vi (x4_)), none, some (vi ((-1))), some (vi (0))]) ⟨rfl, ⟨rfl, ⟨rfl, ⟨rfl, ⟨rfl, trivial⟩⟩⟩⟩⟩ ?_
          refine e_lp_X10_bound_43 hR hN 4000 _ _ _ _ h (fun x34 m35 h => ?_)
          refine ev_iload_6 (pc := 88) dX10_bound_88 ?_
          exact ev_iret (pc := 90) dX10_bound_90 rfl rfl (hR _ _ h)
      · replace h := ev_ifn h c5
        refine ev_iconst (pc := 30) (v := (-1)) dX10_bound_30 rfl ?_
        exact ev_iret (pc := 31) dX10_bound_31 rfl rfl (hR _ _ h)
theorem c_X10_bound {G : ev_G} {mF : ev_m} {i0 : Nat} {x1_ : Int32} {x2_ : Int32} {x3_ : Int32} {x4_ : Int32} {x5_ : Int32} {r : Int32 × ev_m} (h : f_X10_bound mF i0 x1_ x2_ x3_ x4_ x5_ = some r) : ev_CF G K_X10_bound B_X10_bound [vr 10 (i0), vi (x1_), vi (x2_), vi (x3_), vi (x4_), vi (x5_)] mF (some (vi (r.1))) r.2 :=
  ev_Ct_of rfl rfl (Nat.le_of_ble_eq_true rfl) (e_X10_bound (R := some r) (fun x0 m0 q => by cases q; exact ⟨rfl, rfl⟩) (fun q => by cases q) h)
set_option maxRecDepth 20000 in
set_option maxHeartbeats 4000000 in
theorem e_X10_costOf {G : ev_G} {Q : Option ev_V → ev_M → Prop} {R : Option (Int64)} {mF : ev_m} (hR : ∀ x0 : Int64, (some (x0)) = R → Q (some (vl x0)) (ev_emb mF)) (hN : none ≠ R) {i0 : Nat} {x1_ : Int32} (h : f_X10_costOf mF i0 x1_ = R) : ev_E G K_X10_costOf B_X10_costOf (0, 0) 0 [some (vr 10 (i0)), some (vi (x1_))] [] (ev_emb mF) Q := by
  unfold f_X10_costOf at h
  refine ev_aload_0 (pc := 0) dX10_costOf_0 ?_
  refine gt_X10_56 (pc := 1) rfl dX10_costOf_1 ?_
  refine ev_iload_1 (pc := 4) dX10_costOf_4 ?_
  obtain ⟨x1, hx1, h⟩ := ev_bindE hN h
  refine ev_iald1 (pc := 5) rfl (by decide) rfl hx1 dX10_costOf_5 ?_
  refine cl1_X10_289 (pc := 6) rfl dX10_costOf_6 (by decide) (Nat.le_of_ble_eq_true rfl) (c_X10_plain mF x1) ?_
  refine ev_i2l (pc := 9) dX10_costOf_9 ?_
  refine ev_aload_0 (pc := 10) dX10_costOf_10 ?_
  refine gt_X10_41 (pc := 11) rfl dX10_costOf_11 ?_
  refine ev_iconst (pc := 14) (v := 5) dX10_costOf_14 rfl ?_
  refine ev_ialdS (pc := 15) (j := 5) rfl (by decide) (by decide) (vp_in_iff.mpr (by decide)) dX10_costOf_15 ?_
  refine ev_i2l (pc := 16) dX10_costOf_16 ?_
  refine ev_aload_0 (pc := 17) dX10_costOf_17 ?_
  refine gt_X10_62 (pc := 18) rfl dX10_costOf_18 ?_
  refine ev_iload_1 (pc := 21) dX10_costOf_21 ?_
  obtain ⟨x2, hx2, h⟩ := ev_bindE hN h
  refine ev_iald1 (pc := 22) rfl (by decide) rfl hx2 dX10_costOf_22 ?_
  refine ev_aload_0 (pc := 23) dX10_costOf_23 ?_
  refine gt_X10_62 (pc := 24) rfl dX10_costOf_24 ?_
  refine ev_iload_1 (pc := 27) dX10_costOf_27 ?_
  refine ev_iconst (pc := 28) (v := 1) dX10_costOf_28 rfl ?_
  refine ev_isub (pc := 29) dX10_costOf_29 ?_
  obtain ⟨x3, hx3, h⟩ := ev_bindE hN h
  refine ev_iald1 (pc := 30) rfl (by decide) rfl hx3 dX10_costOf_30 ?_
  refine ev_isub (pc := 31) dX10_costOf_31 ?_
  refine cl1_X10_289 (pc := 32) rfl dX10_costOf_32 (by decide) (Nat.le_of_ble_eq_true rfl) (c_X10_plain mF (x2 - x3)) ?_
  refine ev_i2l (pc := 35) dX10_costOf_35 ?_
  refine ev_lmul (pc := 36) dX10_costOf_36 ?_
  refine ev_ladd (pc := 37) dX10_costOf_37 ?_
  exact ev_lret (pc := 38) dX10_costOf_38 rfl (hR _ h)
theorem c_X10_costOf {G : ev_G} {mF : ev_m} {i0 : Nat} {x1_ : Int32} {r : Int64} (h : f_X10_costOf mF i0 x1_ = some r) : ev_CF G K_X10_costOf B_X10_costOf [vr 10 (i0), vi (x1_)] mF (some (vl (r))) mF :=
  ev_Ct_of rfl rfl (Nat.le_of_ble_eq_true rfl) (e_X10_costOf (R := some r) (fun x0 q => by cases q; exact ⟨rfl, rfl⟩) (fun q => by cases q) h)
set_option maxRecDepth 20000 in
set_option maxHeartbeats 4000000 in
theorem e_jn_X10_first_84_49 {G : ev_G} {Q : Option ev_V → ev_M → Prop} {R : Option (Int32 × ev_m)} (hR : ∀ (x0 : Int32) (m0 : ev_m), (some ((x0, m0))) = R → Q (some (vi x0)) (ev_emb m0)) (hN : none ≠ R) {m14 : ev_m} {i6 : Nat} {x7 : Int32} {x8 : Int32} {x22 : Int32} {x23 : Int32} {y24 : Int64} {x25 : Int32} {x26 : Int32} {kb : Int32 → Int32 → Int32 → Int64 → Int32 → Option (Int32 × ev_m)} {kx : Int32 → Int32 → Int32 → Option (Int32 × ev_m)}  (h : jn_X10_first_84_49 m14 i6 x7 x8 x22 x23 y24 x25 x26 kb kx = R) (hkb : ∀ (x9' : Int32) (x10' : Int32) (x11' : Int32) (y12' : Int64) (x13' : Int32), kb x9' x10' x11' y12' x13' = R → ev_E G K_X10_first B_X10_first (0, 0) 49 [some (vr 10 (i6)), none, none, some (vi (x7)), some (vi (x8)), some (vi (x9')), some (vi (x10')), some (vi (x11')), some (vl (y12')), none, some (vi (x13'))] [] (ev_emb m14) Q) (hkx : ∀ (x9' : Int32) (x10' : Int32) (x11' : Int32), kx x9' x10' x11' = R → ev_E G K_X10_first B_X10_first (0, 0) 157 [none, none, none, none, some (vi (x8)), some (vi (x9')), some (vi (x10')), some (vi (x11')), none, none, none] [] (ev_emb m14) Q) : ev_E G K_X10_first B_X10_first (0, 0) 84 [some (vr 10 (i6)), none, none, some (vi (x7)), some (vi (x8)), none, some (vi (x22)), some (vi (x23)), some (vl (y24)), none, some (vi (x25))] [vi (x26)] (ev_emb m14) Q := by
  unfold jn_X10_first_84_49 at h
  refine ev_istore_5 (pc := 84) dX10_first_84 (by decide) rfl ?_
  refine ev_aload_0 (pc := 86) dX10_first_86 ?_
  refine ev_iload_10 (pc := 87) dX10_first_87 ?_
  obtain ⟨x27, hx27, h⟩ := ev_bindE hN h
  refine cl1_X10_369 (pc := 89) rfl dX10_first_89 (by decide) (Nat.le_of_ble_eq_true rfl) (c_X10_costOf hx27) ?_
  refine ev_aload_0 (pc := 92) dX10_first_92 ?_
  refine ev_iload_6 (pc := 93) dX10_first_93 ?_
  obtain ⟨x28, hx28, h⟩ := ev_bindE hN h
  refine cl1_X10_369 (pc := 95) rfl dX10_first_95 (by decide) (Nat.le_of_ble_eq_true rfl) (c_X10_costOf hx28) ?_
  obtain ⟨x30, hx30, h⟩ := ev_letE h
  have hJ2 : ev_E G K_X10_first B_X10_first (0, 0) 109 [some (vr 10 (i6)), none, none, some (vi (x7)), some (vi (x8)), some (vi (x26)), some (vi (x22)), some (vi (x23)), some (vl (y24)), none, some (vi (x25))] [vi (x30)] (ev_emb m14) Q := by
    refine ev_istore_6 (pc := 109) dX10_first_109 (by decide) rfl ?_
    refine ev_lload_8 (pc := 111) dX10_first_111 ?_
    refine ev_aload_0 (pc := 113) dX10_first_113 ?_
    refine ev_iload_10 (pc := 114) dX10_first_114 ?_
    obtain ⟨x31, hx31, h⟩ := ev_bindE hN h
    refine cl1_X10_369 (pc := 116) rfl dX10_first_116 (by decide) (Nat.le_of_ble_eq_true rfl) (c_X10_costOf hx31) ?_
    refine ev_ladd (pc := 119) dX10_first_119 ?_
    obtain ⟨y32, hy32, h⟩ := ev_letE h
    refine ev_topl (pc := 120) hy32 ?_
    refine ev_lstore_8 (pc := 120) dX10_first_120 (by decide) rfl ?_
    refine ev_iload_7 (pc := 122) dX10_first_122 ?_
    refine ev_iconst (pc := 124) (v := (-1)) dX10_first_124 rfl ?_
    obtain ⟨x35, hx35, h⟩ := ev_letE h
    have hJ1 : ev_E G K_X10_first B_X10_first (0, 0) 149 [some (vr 10 (i6)), none, none, some (vi (x7)), some (vi (x8)), some (vi (x26)), some (vi (x30)), some (vi (x23)), some (vl (y32)), none, some (vi (x25))] [vi (x35)] (ev_emb m14) Q := by
      refine ev_istore_7 (pc := 149) dX10_first_149 (by decide) rfl ?_
      refine ev_iinc_10 (pc := 151) (y := x25 + 1) dX10_first_151 rfl (by decide) rfl ?_
      refine ev_goto (pc := 154) (tgt := 49) dX10_first_154 (by decide) ?_
      exact hkb _ _ _ _ _  h
    refine ev_icc_ne (pc := 125) (tgt := 147) dX10_first_125 (by decide) (fun c33 => ?_) (fun c33 => ?_)
    · refine ev_iload_7 (pc := 147) dX10_first_147 ?_
      replace hx35 := (hx35.trans (if_neg c33))
      subst hx35
      exact hJ1
    · refine ev_ldc2 (pc := 128) (v := 2) kl_X10_372 dX10_first_128 ?_
      refine ev_lload_8 (pc := 131) dX10_first_131 ?_
      refine ev_lmul (pc := 133) dX10_first_133 ?_
      refine ev_aload_0 (pc := 134) dX10_first_134 ?_
      refine cl1_X10_319 (pc := 135) rfl dX10_first_135 (by decide) (Nat.le_of_ble_eq_true rfl) (c_X10_cost m14 i6) ?_
      refine ev_lcc_lt (pc := 138) (tgt := 147) dX10_first_138 dX10_first_139 (by decide) (fun c34 => ?_) (fun c34 => ?_)
      · refine ev_iload_7 (pc := 147) dX10_first_147 ?_
        replace hx35 := ((hx35.trans (if_pos c33)).trans (if_pos c34))
        subst hx35
        exact hJ1
      · refine ev_iload_10 (pc := 142) dX10_first_142 ?_
        refine ev_goto (pc := 144) (tgt := 149) dX10_first_144 (by decide) ?_
        replace hx35 := ((hx35.trans (if_pos c33)).trans (if_neg c34))
        subst hx35
        exact hJ1
  refine ev_lcc_le (pc := 98) (tgt := 107) dX10_first_98 dX10_first_99 (by decide) (fun c29 => ?_) (fun c29 => ?_)
  · refine ev_iload_6 (pc := 107) dX10_first_107 ?_
    replace hx30 := (hx30.trans (if_neg c29))
    subst hx30
    exact hJ2
  · refine ev_iload_10 (pc := 102) dX10_first_102 ?_
    refine ev_goto (pc := 104) (tgt := 109) dX10_first_104 (by decide) ?_
    replace hx30 := (hx30.trans (if_pos c29))
    subst hx30
    exact hJ2
set_option maxRecDepth 20000 in
set_option maxHeartbeats 4000000 in
theorem e_jn_X10_first_82_49 {G : ev_G} {Q : Option ev_V → ev_M → Prop} {R : Option (Int32 × ev_m)} (hR : ∀ (x0 : Int32) (m0 : ev_m), (some ((x0, m0))) = R → Q (some (vi x0)) (ev_emb m0)) (hN : none ≠ R) {m14 : ev_m} {i6 : Nat} {x7 : Int32} {x8 : Int32} {x17 : Int32} {x18 : Int32} {x19 : Int32} {y20 : Int64} {x21 : Int32} {kb : Int32 → Int32 → Int32 → Int64 → Int32 → Option (Int32 × ev_m)} {kx : Int32 → Int32 → Int32 → Option (Int32 × ev_m)}  (h : jn_X10_first_82_49 m14 i6 x7 x8 x17 x18 x19 y20 x21 kb kx = R) (hkb : ∀ (x9' : Int32) (x10' : Int32) (x11' : Int32) (y12' : Int64) (x13' : Int32), kb x9' x10' x11' y12' x13' = R → ev_E G K_X10_first B_X10_first (0, 0) 49 [some (vr 10 (i6)), none, none, some (vi (x7)), some (vi (x8)), some (vi (x9')), some (vi (x10')), some (vi (x11')), some (vl (y12')), none, some (vi (x13'))] [] (ev_emb m14) Q) (hkx : ∀ (x9' : Int32) (x10' : Int32) (x11' : Int32), kx x9' x10' x11' = R → ev_E G K_X10_first B_X10_first (0, 0) 157 [none, none, none, none, some (vi (x8)), some (vi (x9')), some (vi (x10')), some (vi (x11')), none, none, none] [] (ev_emb m14) Q) : ev_E G K_X10_first B_X10_first (0, 0) 82 [some (vr 10 (i6)), none, none, some (vi (x7)), some (vi (x8)), some (vi (x17)), some (vi (x18)), some (vi (x19)), some (vl (y20)), none, some (vi (x21))] [] (ev_emb m14) Q := by
  unfold jn_X10_first_82_49 at h
  refine ev_iload_5 (pc := 82) dX10_first_82 ?_
  refine ev_E.forget (L' := [some (vr 10 (i6)), none, none, some (vi (x7)), some (vi (x8)), none, some (vi (x18)), some (vi (x19)), some (vl (y20)), none, some (vi (x21))]) ⟨rfl, ⟨rfl, ⟨rfl, ⟨rfl, ⟨rfl, ⟨rfl, ⟨rfl, trivial⟩⟩⟩⟩⟩⟩⟩ ?_
  exact e_jn_X10_first_84_49 hR hN h hkb hkx
set_option maxRecDepth 20000 in
set_option maxHeartbeats 4000000 in
theorem e_lp_X10_first_49 {G : ev_G} {Q : Option ev_V → ev_M → Prop} {R : Option (Int32 × ev_m)} (hR : ∀ (x0 : Int32) (m0 : ev_m), (some ((x0, m0))) = R → Q (some (vi x0)) (ev_emb m0)) (hN : none ≠ R) {m14 : ev_m} {i6 : Nat} {x7 : Int32} {x8 : Int32} : ∀ (f : Nat) (x9 : Int32) (x10 : Int32) (x11 : Int32) (y12 : Int64) (x13 : Int32) (kx : Int32 → Int32 → Int32 → Option (Int32 × ev_m)) (h : lp_X10_first_49 m14 i6 x7 x8 f x9 x10 x11 y12 x13 kx = R) (hk : ∀ (x9' : Int32) (x10' : Int32) (x11' : Int32), kx x9' x10' x11' = R → ev_E G K_X10_first B_X10_first (0, 0) 157 [none, none, none, none, some (vi (x8)), some (vi (x9')), some (vi (x10')), some (vi (x11')), none, none, none] [] (ev_emb m14) Q), ev_E G K_X10_first B_X10_first (0, 0) 49 [some (vr 10 (i6)), none, none, some (vi (x7)), some (vi (x8)), some (vi (x9)), some (vi (x10)), some (vi (x11)), some (vl (y12)), none, some (vi (x13))] [] (ev_emb m14) Q := by
  intro f
  induction f with
  | zero => intro x9 x10 x11 y12 x13 kx h hk; rw [lp_X10_first_49] at h; exact absurd h hN
  | succ f ih =>
    intro x9 x10 x11 y12 x13 kx h hk
    rw [lp_X10_first_49] at h
    refine ev_iload_10 (pc := 49) dX10_first_49 ?_
    refine ev_iload_3 (pc := 51) dX10_first_51 ?_
    refine ev_icc_gt (pc := 52) (tgt := 157) dX10_first_52 (by decide) (fun c15 => ?_) (fun c15 => ?_)
    · replace h := ev_ifp h c15
      refine ev_E.forget (L' := [none, none, none, none, some (vi (x8)), some (vi (x9)), some (vi (x10)), some (vi (x11)), none, none, none]) ⟨rfl, ⟨rfl, ⟨rfl, ⟨rfl, trivial⟩⟩⟩⟩ ?_
      exact hk _ _ _  h
    · replace h := ev_ifn h c15
      refine ev_iload_5 (pc := 55) dX10_first_55 ?_
      refine ev_iconst (pc := 57) (v := (-1)) dX10_first_57 rfl ?_
      refine ev_icc_ne (pc := 58) (tgt := 82) dX10_first_58 (by decide) (fun c16 => ?_) (fun c16 => ?_)
      · replace h := ev_ifn h c16
        exact e_jn_X10_first_82_49 hR hN h (fun _ _ _ _ _ h => ih _ _ _ _ _ kx h hk) hk
      · replace h := ev_ifp h c16
        refine ev_aload_0 (pc := 61) dX10_first_61 ?_
        refine gt_X10_56 (pc := 62) rfl dX10_first_62 ?_
        refine ev_iload_10 (pc := 65) dX10_first_65 ?_
        obtain ⟨x36, hx36, h⟩ := ev_bindE hN h
        refine ev_iald1 (pc := 67) rfl (by decide) rfl hx36 dX10_first_67 ?_
        refine cl1_X10_289 (pc := 68) rfl dX10_first_68 (by decide) (Nat.le_of_ble_eq_true rfl) (c_X10_plain m14 x36) ?_
        refine ev_sipush (pc := 71) (v := 9000) dX10_first_71 (by decide) ?_
        obtain ⟨x38, hx38, h⟩ := ev_letE h
        have hJ5 : ev_E G K_X10_first B_X10_first (0, 0) 84 [some (vr 10 (i6)), none, none, some (vi (x7)), some (vi (x8)), some (vi (x9)), some (vi (x10)), some (vi (x11)), some (vl (y12)), none, some (vi (x13))] [vi (x38)] (ev_emb m14) Q := by
          refine ev_istore_5 (pc := 84) dX10_first_84 (by decide) rfl ?_
          refine ev_aload_0 (pc := 86) dX10_first_86 ?_
          refine ev_iload_10 (pc := 87) dX10_first_87 ?_
          obtain ⟨x39, hx39, h⟩ := ev_bindE hN h
          refine cl1_X10_369 (pc := 89) rfl dX10_first_89 (by decide) (Nat.le_of_ble_eq_true rfl) (c_X10_costOf hx39) ?_
          refine ev_aload_0 (pc := 92) dX10_first_92 ?_
          refine ev_iload_6 (pc := 93) dX10_first_93 ?_
          obtain ⟨x40, hx40, h⟩ := ev_bindE hN h
          refine cl1_X10_369 (pc := 95) rfl dX10_first_95 (by decide) (Nat.le_of_ble_eq_true rfl) (c_X10_costOf hx40) ?_
          obtain ⟨x42, hx42, h⟩ := ev_letE h
          have hJ4 : ev_E G K_X10_first B_X10_first (0, 0) 109 [some (vr 10 (i6)), none, none, some (vi (x7)), some (vi (x8)), some (vi (x38)), some (vi (x10)), some (vi (x11)), some (vl (y12)), none, some (vi (x13))] [vi (x42)] (ev_emb m14) Q := by
            refine ev_istore_6 (pc := 109) dX10_first_109 (by decide) rfl ?_
            refine ev_lload_8 (pc := 111) dX10_first_111 ?_
            refine ev_aload_0 (pc := 113) dX10_first_113 ?_
            refine ev_iload_10 (pc := 114) dX10_first_114 ?_
            obtain ⟨x43, hx43, h⟩ := ev_bindE hN h
            refine cl1_X10_369 (pc := 116) rfl dX10_first_116 (by decide) (Nat.le_of_ble_eq_true rfl) (c_X10_costOf hx43) ?_
            refine ev_ladd (pc := 119) dX10_first_119 ?_
            obtain ⟨y44, hy44, h⟩ := ev_letE h
            refine ev_topl (pc := 120) hy44 ?_
            refine ev_lstore_8 (pc := 120) dX10_first_120 (by decide) rfl ?_
            refine ev_iload_7 (pc := 122) dX10_first_122 ?_
            refine ev_iconst (pc := 124) (v := (-1)) dX10_first_124 rfl ?_
            obtain ⟨x47, hx47, h⟩ := ev_letE h
            have hJ3 : ev_E G K_X10_first B_X10_first (0, 0) 149 [some (vr 10 (i6)), none, none, some (vi (x7)), some (vi (x8)), some (vi (x38)), some (vi (x42)), some (vi (x11)), some (vl (y44)), none, some (vi (x13))] [vi (x47)] (ev_emb m14) Q := by
              refine ev_istore_7 (pc := 149) dX10_first_149 (by decide) rfl ?_
              refine ev_iinc_10 (pc := 151) (y := x13 + 1) dX10_first_151 rfl (by decide) rfl ?_
              refine ev_goto (pc := 154) (tgt := 49) dX10_first_154 (by decide) ?_
              exact ih _ _ _ _ _ kx h hk
            refine ev_icc_ne (pc := 125) (tgt := 147) dX10_first_125 (by decide) (fun c45 => ?_) (fun c45 => ?_)
            · refine ev_iload_7 (pc := 147) dX10_first_147 ?_
              replace hx47 := (hx47.trans (if_neg c45))
              subst hx47
              exact hJ3
            · refine ev_ldc2 (pc := 128) (v := 2) kl_X10_372 dX10_first_128 ?_
              refine ev_lload_8 (pc := 131) dX10_first_131 ?_
              refine ev_lmul (pc := 133) dX10_first_133 ?_
              refine ev_aload_0 (pc := 134) dX10_first_134 ?_
              refine cl1_X10_319 (pc := 135) rfl dX10_first_135 (by decide) (Nat.le_of_ble_eq_true rfl) (c_X10_cost m14 i6) ?_
              refine ev_lcc_lt (pc := 138) (tgt := 147) dX10_first_138 dX10_first_139 (by decide) (fun c46 => ?_) (fun c46 => ?_)
              · refine ev_iload_7 (pc := 147) dX10_first_147 ?_
                replace hx47 := ((hx47.trans (if_pos c45)).trans (if_pos c46))
                subst hx47
                exact hJ3
              · refine ev_iload_10 (pc := 142) dX10_first_142 ?_
                refine ev_goto (pc := 144) (tgt := 149) dX10_first_144 (by decide) ?_
                replace hx47 := ((hx47.trans (if_pos c45)).trans (if_neg c46))
                subst hx47
                exact hJ3
          refine ev_lcc_le (pc := 98) (tgt := 107) dX10_first_98 dX10_first_99 (by decide) (fun c41 => ?_) (fun c41 => ?_)
          · refine ev_iload_6 (pc := 107) dX10_first_107 ?_
            replace hx42 := (hx42.trans (if_neg c41))
            subst hx42
            exact hJ4
          · refine ev_iload_10 (pc := 102) dX10_first_102 ?_
            refine ev_goto (pc := 104) (tgt := 109) dX10_first_104 (by decide) ?_
            replace hx42 := (hx42.trans (if_pos c41))
            subst hx42
            exact hJ4
        refine ev_icc_lt (pc := 74) (tgt := 82) dX10_first_74 (by decide) (fun c37 => ?_) (fun c37 => ?_)
        · refine ev_iload_5 (pc := 82) dX10_first_82 ?_
          replace hx38 := (hx38.trans (if_pos c37))
          subst hx38
          exact hJ5
        · refine ev_iload_10 (pc := 77) dX10_first_77 ?_
          refine ev_goto (pc := 79) (tgt := 84) dX10_first_79 (by decide) ?_
          replace hx38 := (hx38.trans (if_neg c37))
          subst hx38
          exact hJ5
set_option maxRecDepth 20000 in
set_option maxHeartbeats 4000000 in
theorem e_X10_first {G : ev_G} {Q : Option ev_V → ev_M → Prop} {R : Option (Int32 × ev_m)} {mF : ev_m} (hR : ∀ (x0 : Int32) (m0 : ev_m), (some ((x0, m0))) = R → Q (some (vi x0)) (ev_emb m0)) (hN : none ≠ R) {i0 : Nat} {x1_ : Int32} {x2_ : Int32} {x3_ : Int32} {x4_ : Int32} (h : f_X10_first mF i0 x1_ x2_ x3_ x4_ = R) : ev_E G K_X10_first B_X10_first (0, 0) 0 [some (vr 10 (i0)), some (vi (x1_)), some (vi (x2_)), some (vi (x3_)), some (vi (x4_)), none, none, none, none, none, none] [] (ev_emb mF) Q := by
  unfold f_X10_first at h
  refine ev_aload_0 (pc := 0) dX10_first_0 ?_
  refine ev_iconst (pc := 1) (v := 0) dX10_first_1 rfl ?_
  obtain ⟨m1, hm1, h⟩ := ev_letE h
  refine pt_X10_81 (pc := 2) rfl dX10_first_2 ?_
  refine ev_mem (pc := 5) hm1 ?_
  refine ev_aload_0 (pc := 5) dX10_first_5 ?_
  refine ev_iload_1 (pc := 6) dX10_first_6 ?_
  refine ev_iload_2 (pc := 7) dX10_first_7 ?_
  refine ev_iload_3 (pc := 8) dX10_first_8 ?_
  obtain ⟨p2, hp2, h⟩ := ev_bindE hN h
  refine cl1_X10_338 (pc := 9) rfl dX10_first_9 (by decide) (Nat.le_of_ble_eq_true rfl) (c_X10_layFor hp2) ?_
  refine ev_ifb_eq (pc := 12) (tgt := 25) dX10_first_12 (by decide) (fun c3 => ?_) (fun c3 => ?_)
  · replace h := ev_ifn h c3
    refine ev_iconst (pc := 25) (v := (-1)) dX10_first_25 rfl ?_
    exact ev_iret (pc := 26) dX10_first_26 rfl rfl (hR _ _ h)
  · replace h := ev_ifp h c3
    refine ev_iload_4 (pc := 15) dX10_first_15 ?_
    refine ev_iconst (pc := 17) (v := 0) dX10_first_17 rfl ?_
    refine ev_iconst (pc := 18) (v := 2) dX10_first_18 rfl ?_
    refine cl1_X10_89 (pc := 19) rfl dX10_first_19 (by decide) (Nat.le_of_ble_eq_true rfl) (c_X10_in p2.2 x4_ 0 2) ?_
    refine ev_ifb_ne (pc := 22) (tgt := 27) dX10_first_22 (by decide) (fun c4 => ?_) (fun c4 => ?_)
    · replace h := ev_ifp h c4
      refine ev_aload_0 (pc := 27) dX10_first_27 ?_
      refine ev_iconst (pc := 28) (v := 1) dX10_first_28 rfl ?_
      refine ev_iconst (pc := 29) (v := 0) dX10_first_29 rfl ?_
      refine ev_iload_3 (pc := 30) dX10_first_30 ?_
      obtain ⟨m5, hm5, h⟩ := ev_bindE hN h
      refine cl0_X10_315 (pc := 31) rfl dX10_first_31 (by decide) (Nat.le_of_ble_eq_true rfl) (c_X10_runBy hm5) ?_
      refine ev_iconst (pc := 34) (v := (-1)) dX10_first_34 rfl ?_
      refine ev_istore_5 (pc := 35) dX10_first_35 (by decide) rfl ?_
      refine ev_iconst (pc := 37) (v := 1) dX10_first_37 rfl ?_
      refine ev_istore_6 (pc := 38) dX10_first_38 (by decide) rfl ?_
      refine ev_iconst (pc := 40) (v := (-1)) dX10_first_40 rfl ?_
      refine ev_istore_7 (pc := 41) dX10_first_41 (by decide) rfl ?_
      refine ev_lconst (pc := 43) (v := 0) dX10_first_43 rfl ?_
      refine ev_lstore_8 (pc := 44) dX10_first_44 (by decide) rfl ?_
      refine ev_iconst (pc := 46) (v := 1) dX10_first_46 rfl ?_
      refine ev_istore_10 (pc := 47) dX10_first_47 (by decide) rfl ?_
      refine ev_E.forget (L' := [some (vr 10 (i0)), none, none, some (vi (x3_)), some (vi (x4_)), some (vi ((-1))), some (vi (1)), some (vi ((-1))), some (vl (0)), none, some (vi (1))]) ⟨rfl, ⟨rfl, ⟨rfl, ⟨rfl, ⟨rfl, ⟨rfl, ⟨rfl, ⟨rfl, trivial⟩⟩⟩⟩⟩⟩⟩⟩ ?_
      refine e_lp_X10_first_49 hR hN 4000 _ _ _ _ _ _ h (fun x48 x49 x50 h => ?_)
      refine ev_iload_4 (pc := 157) dX10_first_157 ?_
      refine ev_ifc_ne (pc := 159) (tgt := 167) dX10_first_159 (by decide) (fun c51 => ?_) (fun c51 => ?_)
      · replace h := ev_ifn h c51
        refine ev_iload_4 (pc := 167) dX10_first_167 ?_
        refine ev_iconst (pc := 169) (v := 1) dX10_first_169 rfl ?_
        refine ev_icc_ne (pc := 170) (tgt := 178) dX10_first_170 (by decide) (fun c52 => ?_) (fun c52 => ?_)
        · replace h := ev_ifn h c52
          refine ev_iload_7 (pc := 178) dX10_first_178 ?_
          exact ev_iret (pc := 180) dX10_first_180 rfl rfl (hR _ _ h)
        · replace h := ev_ifp h c52
          refine ev_iload_6 (pc := 173) dX10_first_173 ?_
          refine ev_goto (pc := 175) (tgt := 180) dX10_first_175 (by decide) ?_
          exact ev_iret (pc := 180) dX10_first_180 rfl rfl (hR _ _ h)
      · replace h := ev_ifp h c51
        refine ev_iload_5 (pc := 162) dX10_first_162 ?_
        refine ev_goto (pc := 164) (tgt := 180) dX10_first_164 (by decide) ?_
        exact ev_iret (pc := 180) dX10_first_180 rfl rfl (hR _ _ h)
    · replace h := ev_ifn h c4
      refine ev_iconst (pc := 25) (v := (-1)) dX10_first_25 rfl ?_
      exact ev_iret (pc := 26) dX10_first_26 rfl rfl (hR _ _ h)
theorem c_X10_first {G : ev_G} {mF : ev_m} {i0 : Nat} {x1_ : Int32} {x2_ : Int32} {x3_ : Int32} {x4_ : Int32} {r : Int32 × ev_m} (h : f_X10_first mF i0 x1_ x2_ x3_ x4_ = some r) : ev_CF G K_X10_first B_X10_first [vr 10 (i0), vi (x1_), vi (x2_), vi (x3_), vi (x4_)] mF (some (vi (r.1))) r.2 :=
  ev_Ct_of rfl rfl (Nat.le_of_ble_eq_true rfl) (e_X10_first (R := some r) (fun x0 m0 q => by cases q; exact ⟨rfl, rfl⟩) (fun q => by cases q) h)
set_option maxRecDepth 20000 in
set_option maxHeartbeats 4000000 in
theorem e_X10_better {G : ev_G} {Q : Option ev_V → ev_M → Prop} {R : Option (Int32 × ev_m)} {mF : ev_m} (hR : ∀ (x0 : Int32) (m0 : ev_m), (some ((x0, m0))) = R → Q (some (vi x0)) (ev_emb m0)) (hN : none ≠ R) {i0 : Nat} {x1_ : Int32} {x2_ : Int32} {x3_ : Int32} {x4_ : Int32} (h : f_X10_better mF i0 x1_ x2_ x3_ x4_ = R) : ev_E G K_X10_better B_X10_better (0, 0) 0 [some (vr 10 (i0)), some (vi (x1_)), some (vi (x2_)), some (vi (x3_)), some (vi (x4_)), none, none, none, none] [] (ev_emb mF) Q := by
  unfold f_X10_better at h
  refine ev_aload_0 (pc := 0) dX10_better_0 ?_
  refine ev_iconst (pc := 1) (v := 0) dX10_better_1 rfl ?_
  obtain ⟨m1, hm1, h⟩ := ev_letE h
  refine pt_X10_81 (pc := 2) rfl dX10_better_2 ?_
  refine ev_mem (pc := 5) hm1 ?_
  refine ev_aload_0 (pc := 5) dX10_better_5 ?_
  refine ev_iconst (pc := 6) (v := 1) dX10_better_6 rfl ?_
  refine ev_iload_3 (pc := 7) dX10_better_7 ?_
  obtain ⟨x2, hx2, h⟩ := ev_bindE hN h
  refine cl1_X10_226 (pc := 8) rfl dX10_better_8 (by decide) (Nat.le_of_ble_eq_true rfl) (c_X10_is hx2) ?_
  refine ev_ifb_eq (pc := 11) (tgt := 25) dX10_better_11 (by decide) (fun c3 => ?_) (fun c3 => ?_)
  · replace h := ev_ifn h c3
    refine ev_iconst (pc := 25) (v := (-1)) dX10_better_25 rfl ?_
    exact ev_iret (pc := 26) dX10_better_26 rfl rfl (hR _ _ h)
  · replace h := ev_ifp h c3
    refine ev_aload_0 (pc := 14) dX10_better_14 ?_
    refine ev_iload_1 (pc := 15) dX10_better_15 ?_
    refine ev_iload_2 (pc := 16) dX10_better_16 ?_
    refine ev_iload_4 (pc := 17) dX10_better_17 ?_
    obtain ⟨p4, hp4, h⟩ := ev_bindE hN h
    refine cl1_X10_338 (pc := 19) rfl dX10_better_19 (by decide) (Nat.le_of_ble_eq_true rfl) (c_X10_layFor hp4) ?_
    refine ev_ifb_ne (pc := 22) (tgt := 27) dX10_better_22 (by decide) (fun c5 => ?_) (fun c5 => ?_)
    · replace h := ev_ifp h c5
      refine ev_aload_0 (pc := 27) dX10_better_27 ?_
      refine ev_iload_4 (pc := 28) dX10_better_28 ?_
      obtain ⟨p6, hp6, h⟩ := ev_bindE hN h
      refine cl1_X10_346 (pc := 30) rfl dX10_better_30 (by decide) (Nat.le_of_ble_eq_true rfl) (c_X10_costBy hp6) ?_
      obtain ⟨y7, hy7, h⟩ := ev_letE h
      refine ev_topl (pc := 33) hy7 ?_
      refine ev_lstore_5 (pc := 33) dX10_better_33 (by decide) rfl ?_
      refine ev_aload_0 (pc := 35) dX10_better_35 ?_
      refine ev_iconst (pc := 36) (v := 0) dX10_better_36 rfl ?_
      refine ev_iload_3 (pc := 37) dX10_better_37 ?_
      obtain ⟨m8, hm8, h⟩ := ev_bindE hN h
      refine cl0_X10_326 (pc := 38) rfl dX10_better_38 (by decide) (Nat.le_of_ble_eq_true rfl) (c_X10_layHand hm8) ?_
      refine ev_aload_0 (pc := 41) dX10_better_41 ?_
      refine ev_iload_4 (pc := 42) dX10_better_42 ?_
      obtain ⟨p9, hp9, h⟩ := ev_bindE hN h
      refine cl1_X10_346 (pc := 44) rfl dX10_better_44 (by decide) (Nat.le_of_ble_eq_true rfl) (c_X10_costBy hp9) ?_
      obtain ⟨y10, hy10, h⟩ := ev_letE h
      refine ev_topl (pc := 47) hy10 ?_
      refine ev_lstore_7 (pc := 47) dX10_better_47 (by decide) rfl ?_
      refine ev_lload_5 (pc := 49) dX10_better_49 ?_
      refine ev_lload_7 (pc := 51) dX10_better_51 ?_
      refine ev_lcc_ge (pc := 53) (tgt := 61) dX10_better_53 dX10_better_54 (by decide) (fun c11 => ?_) (fun c11 => ?_)
      · replace h := ev_ifn h c11
        refine ev_lload_5 (pc := 61) dX10_better_61 ?_
        refine ev_lload_7 (pc := 63) dX10_better_63 ?_
        refine ev_lcc_le (pc := 65) (tgt := 73) dX10_better_65 dX10_better_66 (by decide) (fun c12 => ?_) (fun c12 => ?_)
        · replace h := ev_ifn h c12
          refine ev_iconst (pc := 73) (v := 2) dX10_better_73 rfl ?_
          exact ev_iret (pc := 74) dX10_better_74 rfl rfl (hR _ _ h)
        · replace h := ev_ifp h c12
          refine ev_iconst (pc := 69) (v := 1) dX10_better_69 rfl ?_
          refine ev_goto (pc := 70) (tgt := 74) dX10_better_70 (by decide) ?_
          exact ev_iret (pc := 74) dX10_better_74 rfl rfl (hR _ _ h)
      · replace h := ev_ifp h c11
        refine ev_iconst (pc := 57) (v := 0) dX10_better_57 rfl ?_
        refine ev_goto (pc := 58) (tgt := 74) dX10_better_58 (by decide) ?_
        exact ev_iret (pc := 74) dX10_better_74 rfl rfl (hR _ _ h)
    · replace h := ev_ifn h c5
      refine ev_iconst (pc := 25) (v := (-1)) dX10_better_25 rfl ?_
      exact ev_iret (pc := 26) dX10_better_26 rfl rfl (hR _ _ h)
theorem c_X10_better {G : ev_G} {mF : ev_m} {i0 : Nat} {x1_ : Int32} {x2_ : Int32} {x3_ : Int32} {x4_ : Int32} {r : Int32 × ev_m} (h : f_X10_better mF i0 x1_ x2_ x3_ x4_ = some r) : ev_CF G K_X10_better B_X10_better [vr 10 (i0), vi (x1_), vi (x2_), vi (x3_), vi (x4_)] mF (some (vi (r.1))) r.2 :=
  ev_Ct_of rfl rfl (Nat.le_of_ble_eq_true rfl) (e_X10_better (R := some r) (fun x0 m0 q => by cases q; exact ⟨rfl, rfl⟩) (fun q => by cases q) h)
set_option maxRecDepth 20000 in
set_option maxHeartbeats 4000000 in
theorem e_jn_X10_reads_148_67 {G : ev_G} {Q : Option ev_V → ev_M → Prop} {R : Option (Int32 × ev_m)} (hR : ∀ (x0 : Int32) (m0 : ev_m), (some ((x0, m0))) = R → Q (some (vi x0)) (ev_emb m0)) (hN : none ≠ R) {m32 : ev_m} {i9 : Nat} {x10 : Int32} {x11 : Int32} {x12 : Int32} {x13 : Int32} {x29 : Int32} {y30 : Int64} {x31 : Int32} {kb : Int32 → Int64 → Int32 → ev_m → Option (Int32 × ev_m)} {kx : Int32 → Int64 → ev_m → Option (Int32 × ev_m)}  (h : jn_X10_reads_148_67 m32 i9 x10 x11 x12 x13 x29 y30 x31 kb kx = R) (hkb : ∀ (x14' : Int32) (y15' : Int64) (x16' : Int32) (m17' : ev_m), kb x14' y15' x16' m17' = R → ev_E G K_X10_reads B_X10_reads (0, 0) 67 [some (vr 10 (i9)), none, none, some (vi (x10)), some (vi (x11)), some (vi (x12)), some (vi (x13)), some (vi (x14')), some (vl (y15')), none, some (vi (x16'))] [] (ev_emb m17') Q) (hkx : ∀ (x14' : Int32) (y15' : Int64) (m17' : ev_m), kx x14' y15' m17' = R → ev_E G K_X10_reads B_X10_reads (0, 0) 154 [none, none, none, none, none, some (vi (x12)), some (vi (x13)), some (vi (x14')), some (vl (y15')), none, none] [] (ev_emb m17') Q) : ev_E G K_X10_reads B_X10_reads (0, 0) 148 [some (vr 10 (i9)), none, none, some (vi (x10)), some (vi (x11)), some (vi (x12)), some (vi (x13)), some (vi (x29)), some (vl (y30)), none, some (vi (x31))] [] (ev_emb m32) Q := by
  unfold jn_X10_reads_148_67 at h
  refine ev_iinc_10 (pc := 148) (y := x31 + 1) dX10_reads_148 rfl (by decide) rfl ?_
  refine ev_goto (pc := 151) (tgt := 67) dX10_reads_151 (by decide) ?_
  exact hkb _ _ _ _  h
set_option maxRecDepth 20000 in
set_option maxHeartbeats 4000000 in
theorem e_jn_X10_reads_137_67 {G : ev_G} {Q : Option ev_V → ev_M → Prop} {R : Option (Int32 × ev_m)} (hR : ∀ (x0 : Int32) (m0 : ev_m), (some ((x0, m0))) = R → Q (some (vi x0)) (ev_emb m0)) (hN : none ≠ R) {m27 : ev_m} {i9 : Nat} {x10 : Int32} {x11 : Int32} {x12 : Int32} {x13 : Int32} {x26 : Int32} {kb : Int32 → Int64 → Int32 → ev_m → Option (Int32 × ev_m)} {kx : Int32 → Int64 → ev_m → Option (Int32 × ev_m)}  (h : jn_X10_reads_137_67 m27 i9 x10 x11 x12 x13 x26 kb kx = R) (hkb : ∀ (x14' : Int32) (y15' : Int64) (x16' : Int32) (m17' : ev_m), kb x14' y15' x16' m17' = R → ev_E G K_X10_reads B_X10_reads (0, 0) 67 [some (vr 10 (i9)), none, none, some (vi (x10)), some (vi (x11)), some (vi (x12)), some (vi (x13)), some (vi (x14')), some (vl (y15')), none, some (vi (x16'))] [] (ev_emb m17') Q) (hkx : ∀ (x14' : Int32) (y15' : Int64) (m17' : ev_m), kx x14' y15' m17' = R → ev_E G K_X10_reads B_X10_reads (0, 0) 154 [none, none, none, none, none, some (vi (x12)), some (vi (x13)), some (vi (x14')), some (vl (y15')), none, none] [] (ev_emb m17') Q) : ev_E G K_X10_reads B_X10_reads (0, 0) 137 [some (vr 10 (i9)), none, none, some (vi (x10)), some (vi (x11)), some (vi (x12)), some (vi (x13)), none, none, none, some (vi (x26))] [] (ev_emb m27) Q := by
  unfold jn_X10_reads_137_67 at h
  refine ev_iload_10 (pc := 137) dX10_reads_137 ?_
  refine ev_istore_7 (pc := 139) dX10_reads_139 (by decide) rfl ?_
  refine ev_aload_0 (pc := 141) dX10_reads_141 ?_
  refine ev_iload_3 (pc := 142) dX10_reads_142 ?_
  obtain ⟨x28, hx28, h⟩ := ev_bindE hN h
  refine cl1_X10_366 (pc := 143) rfl dX10_reads_143 (by decide) (Nat.le_of_ble_eq_true rfl) (c_X10_apartFrom hx28) ?_
  refine ev_lstore_8 (pc := 146) dX10_reads_146 (by decide) rfl ?_
  exact e_jn_X10_reads_148_67 hR hN h hkb hkx
set_option maxRecDepth 20000 in
set_option maxHeartbeats 4000000 in
theorem e_lp_X10_reads_67 {G : ev_G} {Q : Option ev_V → ev_M → Prop} {R : Option (Int32 × ev_m)} (hR : ∀ (x0 : Int32) (m0 : ev_m), (some ((x0, m0))) = R → Q (some (vi x0)) (ev_emb m0)) (hN : none ≠ R) {i9 : Nat} {x10 : Int32} {x11 : Int32} {x12 : Int32} {x13 : Int32} : ∀ (f : Nat) (x14 : Int32) (y15 : Int64) (x16 : Int32) (m17 : ev_m) (kx : Int32 → Int64 → ev_m → Option (Int32 × ev_m)) (h : lp_X10_reads_67 i9 x10 x11 x12 x13 f x14 y15 x16 m17 kx = R) (hk : ∀ (x14' : Int32) (y15' : Int64) (m17' : ev_m), kx x14' y15' m17' = R → ev_E G K_X10_reads B_X10_reads (0, 0) 154 [none, none, none, none, none, some (vi (x12)), some (vi (x13)), some (vi (x14')), some (vl (y15')), none, none] [] (ev_emb m17') Q), ev_E G K_X10_reads B_X10_reads (0, 0) 67 [some (vr 10 (i9)), none, none, some (vi (x10)), some (vi (x11)), some (vi (x12)), some (vi (x13)), some (vi (x14)), some (vl (y15)), none, some (vi (x16))] [] (ev_emb m17) Q := by
  intro f
  induction f with
  | zero => intro x14 y15 x16 m17 kx h hk; rw [lp_X10_reads_67] at h; exact absurd h hN
  | succ f ih =>
    intro x14 y15 x16 m17 kx h hk
    rw [lp_X10_reads_67] at h
    refine ev_iload_10 (pc := 67) dX10_reads_67 ?_
    refine ev_iload_4 (pc := 69) dX10_reads_69 ?_
    refine ev_iconst (pc := 71) (v := 1) dX10_reads_71 rfl ?_
    refine ev_iadd (pc := 72) dX10_reads_72 ?_
    refine ev_iload_5 (pc := 73) dX10_reads_73 ?_
    refine ev_iconst (pc := 75) (v := 1) dX10_reads_75 rfl ?_
    refine ev_iadd (pc := 76) dX10_reads_76 ?_
    refine ev_imul (pc := 77) dX10_reads_77 ?_
    refine ev_icc_ge (pc := 78) (tgt := 154) dX10_reads_78 (by decide) (fun c18 => ?_) (fun c18 => ?_)
    · replace h := ev_ifn h c18
      refine ev_E.forget (L' := [none, none, none, none, none, some (vi (x12)), some (vi (x13)), some (vi (x14)), some (vl (y15)), none, none]) ⟨rfl, ⟨rfl, ⟨rfl, ⟨rfl, trivial⟩⟩⟩⟩ ?_
      exact hk _ _ _  h
    · replace h := ev_ifp h c18
      refine ev_aload_0 (pc := 81) dX10_reads_81 ?_
      refine ev_iconst (pc := 82) (v := 0) dX10_reads_82 rfl ?_
      refine ev_iload_10 (pc := 83) dX10_reads_83 ?_
      refine ev_iload_5 (pc := 85) dX10_reads_85 ?_
      refine ev_iconst (pc := 87) (v := 1) dX10_reads_87 rfl ?_
      refine ev_iadd (pc := 88) dX10_reads_88 ?_
      obtain ⟨x19, hx19, h⟩ := ev_bindE hN h
      refine ev_idiv1 (pc := 89) hx19 dX10_reads_89 ?_
      obtain ⟨m20, hm20, h⟩ := ev_bindE hN h
      refine cl0_X10_343 (pc := 90) rfl dX10_reads_90 (by decide) (Nat.le_of_ble_eq_true rfl) (c_X10_put hm20) ?_
      refine ev_aload_0 (pc := 93) dX10_reads_93 ?_
      refine ev_iconst (pc := 94) (v := 1) dX10_reads_94 rfl ?_
      refine ev_iload_10 (pc := 95) dX10_reads_95 ?_
      refine ev_iload_5 (pc := 97) dX10_reads_97 ?_
      refine ev_iconst (pc := 99) (v := 1) dX10_reads_99 rfl ?_
      refine ev_iadd (pc := 100) dX10_reads_100 ?_
      obtain ⟨x21, hx21, h⟩ := ev_bindE hN h
      refine ev_irem1 (pc := 101) hx21 dX10_reads_101 ?_
      obtain ⟨m22, hm22, h⟩ := ev_bindE hN h
      refine cl0_X10_343 (pc := 102) rfl dX10_reads_102 (by decide) (Nat.le_of_ble_eq_true rfl) (c_X10_put hm22) ?_
      refine ev_aload_0 (pc := 105) dX10_reads_105 ?_
      refine ev_iconst (pc := 106) (v := 1) dX10_reads_106 rfl ?_
      refine ev_iconst (pc := 107) (v := 0) dX10_reads_107 rfl ?_
      refine ev_aload_0 (pc := 108) dX10_reads_108 ?_
      refine gt_X10_32 (pc := 109) rfl dX10_reads_109 ?_
      refine ev_bipush (pc := 112) (v := 61) dX10_reads_112 (by decide) ?_
      refine ev_iload_3 (pc := 114) dX10_reads_114 ?_
      refine ev_imul (pc := 115) dX10_reads_115 ?_
      obtain ⟨x23, hx23, h⟩ := ev_bindE hN h
      refine ev_iald1 (pc := 116) rfl (by decide) rfl hx23 dX10_reads_116 ?_
      obtain ⟨m24, hm24, h⟩ := ev_bindE hN h
      refine cl0_X10_315 (pc := 117) rfl dX10_reads_117 (by decide) (Nat.le_of_ble_eq_true rfl) (c_X10_runBy hm24) ?_
      refine ev_iload_7 (pc := 120) dX10_reads_120 ?_
      refine ev_iconst (pc := 122) (v := (-1)) dX10_reads_122 rfl ?_
      refine ev_icc_eq (pc := 123) (tgt := 137) dX10_reads_123 (by decide) (fun c25 => ?_) (fun c25 => ?_)
      · replace h := ev_ifp h c25
        refine ev_E.forget (L' := [some (vr 10 (i9)), none, none, some (vi (x10)), some (vi (x11)), some (vi (x12)), some (vi (x13)), none, none, none, some (vi (x16))]) ⟨rfl, ⟨rfl, ⟨rfl, ⟨rfl, ⟨rfl, ⟨rfl, trivial⟩⟩⟩⟩⟩⟩ ?_
        exact e_jn_X10_reads_137_67 hR hN h (fun _ _ _ _ h => ih _ _ _ _ kx h hk) hk
      · replace h := ev_ifn h c25
        refine ev_aload_0 (pc := 126) dX10_reads_126 ?_
        refine ev_iload_3 (pc := 127) dX10_reads_127 ?_
        obtain ⟨x33, hx33, h⟩ := ev_bindE hN h
        refine cl1_X10_366 (pc := 128) rfl dX10_reads_128 (by decide) (Nat.le_of_ble_eq_true rfl) (c_X10_apartFrom hx33) ?_
        refine ev_lload_8 (pc := 131) dX10_reads_131 ?_
        refine ev_lcc_ge (pc := 133) (tgt := 148) dX10_reads_133 dX10_reads_134 (by decide) (fun c34 => ?_) (fun c34 => ?_)
        · replace h := ev_ifn h c34
          exact e_jn_X10_reads_148_67 hR hN h (fun _ _ _ _ h => ih _ _ _ _ kx h hk) hk
        · replace h := ev_ifp h c34
          refine ev_E.forget (L' := [some (vr 10 (i9)), none, none, some (vi (x10)), some (vi (x11)), some (vi (x12)), some (vi (x13)), none, none, none, some (vi (x16))]) ⟨rfl, ⟨rfl, ⟨rfl, ⟨rfl, ⟨rfl, ⟨rfl, trivial⟩⟩⟩⟩⟩⟩ ?_
          exact e_jn_X10_reads_137_67 hR hN h (fun _ _ _ _ h => ih _ _ _ _ kx h hk) hk
set_option maxRecDepth 20000 in
set_option maxHeartbeats 4000000 in
theorem e_X10_reads {G : ev_G} {Q : Option ev_V → ev_M → Prop} {R : Option (Int32 × ev_m)} {mF : ev_m} (hR : ∀ (x0 : Int32) (m0 : ev_m), (some ((x0, m0))) = R → Q (some (vi x0)) (ev_emb m0)) (hN : none ≠ R) {i0 : Nat} {x1_ : Int32} {x2_ : Int32} {x3_ : Int32} {x4_ : Int32} {x5_ : Int32} {x6_ : Int32} (h : f_X10_reads mF i0 x1_ x2_ x3_ x4_ x5_ x6_ = R) : ev_E G K_X10_reads B_X10_reads (0, 0) 0 [some (vr 10 (i0)), some (vi (x1_)), some (vi (x2_)), some (vi (x3_)), some (vi (x4_)), some (vi (x5_)), some (vi (x6_)), none, none, none, none] [] (ev_emb mF) Q := by
  unfold f_X10_reads at h
  refine ev_aload_0 (pc := 0) dX10_reads_0 ?_
  refine ev_iconst (pc := 1) (v := 0) dX10_reads_1 rfl ?_
  obtain ⟨m1, hm1, h⟩ := ev_letE h
  refine pt_X10_81 (pc := 2) rfl dX10_reads_2 ?_
  refine ev_mem (pc := 5) hm1 ?_
  refine ev_aload_0 (pc := 5) dX10_reads_5 ?_
  refine ev_iconst (pc := 6) (v := 2) dX10_reads_6 rfl ?_
  refine ev_iload_3 (pc := 7) dX10_reads_7 ?_
  obtain ⟨x2, hx2, h⟩ := ev_bindE hN h
  refine cl1_X10_226 (pc := 8) rfl dX10_reads_8 (by decide) (Nat.le_of_ble_eq_true rfl) (c_X10_is hx2) ?_
  refine ev_ifb_eq (pc := 11) (tgt := 56) dX10_reads_11 (by decide) (fun c3 => ?_) (fun c3 => ?_)
  · replace h := ev_ifn h c3
    refine ev_iconst (pc := 56) (v := (-1)) dX10_reads_56 rfl ?_
    exact ev_iret (pc := 57) dX10_reads_57 rfl rfl (hR _ _ h)
  · replace h := ev_ifp h c3
    refine ev_aload_0 (pc := 14) dX10_reads_14 ?_
    refine ev_iload_1 (pc := 15) dX10_reads_15 ?_
    refine ev_iload_2 (pc := 16) dX10_reads_16 ?_
    refine ev_iconst (pc := 17) (v := 0) dX10_reads_17 rfl ?_
    obtain ⟨p4, hp4, h⟩ := ev_bindE hN h
    refine cl1_X10_329 (pc := 18) rfl dX10_reads_18 (by decide) (Nat.le_of_ble_eq_true rfl) (c_X10_lay hp4) ?_
    refine ev_ifb_eq (pc := 21) (tgt := 56) dX10_reads_21 (by decide) (fun c5 => ?_) (fun c5 => ?_)
    · replace h := ev_ifn h c5
      refine ev_iconst (pc := 56) (v := (-1)) dX10_reads_56 rfl ?_
      exact ev_iret (pc := 57) dX10_reads_57 rfl rfl (hR _ _ h)
    · replace h := ev_ifp h c5
      refine ev_iload_4 (pc := 24) dX10_reads_24 ?_
      refine ev_iconst (pc := 26) (v := 0) dX10_reads_26 rfl ?_
      refine ev_bipush (pc := 27) (v := 20) dX10_reads_27 (by decide) ?_
      refine cl1_X10_89 (pc := 29) rfl dX10_reads_29 (by decide) (Nat.le_of_ble_eq_true rfl) (c_X10_in p4.2 x4_ 0 20) ?_
      refine ev_ifb_eq (pc := 32) (tgt := 56) dX10_reads_32 (by decide) (fun c6 => ?_) (fun c6 => ?_)
      · replace h := ev_ifn h c6
        refine ev_iconst (pc := 56) (v := (-1)) dX10_reads_56 rfl ?_
        exact ev_iret (pc := 57) dX10_reads_57 rfl rfl (hR _ _ h)
      · replace h := ev_ifp h c6
        refine ev_iload_5 (pc := 35) dX10_reads_35 ?_
        refine ev_iconst (pc := 37) (v := 0) dX10_reads_37 rfl ?_
        refine ev_bipush (pc := 38) (v := 20) dX10_reads_38 (by decide) ?_
        refine cl1_X10_89 (pc := 40) rfl dX10_reads_40 (by decide) (Nat.le_of_ble_eq_true rfl) (c_X10_in p4.2 x5_ 0 20) ?_
        refine ev_ifb_eq (pc := 43) (tgt := 56) dX10_reads_43 (by decide) (fun c7 => ?_) (fun c7 => ?_)
        · replace h := ev_ifn h c7
          refine ev_iconst (pc := 56) (v := (-1)) dX10_reads_56 rfl ?_
          exact ev_iret (pc := 57) dX10_reads_57 rfl rfl (hR _ _ h)
        · replace h := ev_ifp h c7
          refine ev_iload_6 (pc := 46) dX10_reads_46 ?_
          refine ev_iconst (pc := 48) (v := 0) dX10_reads_48 rfl ?_
          refine ev_iconst (pc := 49) (v := 2) dX10_reads_49 rfl ?_
          refine cl1_X10_89 (pc := 50) rfl dX10_reads_50 (by decide) (Nat.le_of_ble_eq_true rfl) (c_X10_in p4.2 x6_ 0 2) ?_
          refine ev_ifb_ne (pc := 53) (tgt := 58) dX10_reads_53 (by decide) (fun c8 => ?_) (fun c8 => ?_)
          · replace h := ev_ifp h c8
            refine ev_iconst (pc := 58) (v := (-1)) dX10_reads_58 rfl ?_
            refine ev_istore_7 (pc := 59) dX10_reads_59 (by decide) rfl ?_
            refine ev_lconst (pc := 61) (v := 0) dX10_reads_61 rfl ?_
            refine ev_lstore_8 (pc := 62) dX10_reads_62 (by decide) rfl ?_
            refine ev_iconst (pc := 64) (v := 0) dX10_reads_64 rfl ?_
            refine ev_istore_10 (pc := 65) dX10_reads_65 (by decide) rfl ?_
            refine ev_E.forget (L' := [some (vr 10 (i0)), none, none, some (vi (x3_)), some (vi (x4_)), some (vi (x5_)), some (vi (x6_)), some (vi ((-1))), some (vl (0)), none, some (vi (0))]) ⟨rfl, ⟨rfl, ⟨rfl, ⟨rfl, ⟨rfl, ⟨rfl, ⟨rfl, ⟨rfl, trivial⟩⟩⟩⟩⟩⟩⟩⟩ ?_
            refine e_lp_X10_reads_67 hR hN 4000 _ _ _ _ _ h (fun x35 y36 m37 h => ?_)
            refine ev_iload_6 (pc := 154) dX10_reads_154 ?_
            refine ev_ifc_ne (pc := 156) (tgt := 169) dX10_reads_156 (by decide) (fun c38 => ?_) (fun c38 => ?_)
            · replace h := ev_ifn h c38
              refine ev_iload_6 (pc := 169) dX10_reads_169 ?_
              refine ev_iconst (pc := 171) (v := 1) dX10_reads_171 rfl ?_
              refine ev_icc_ne (pc := 172) (tgt := 185) dX10_reads_172 (by decide) (fun c39 => ?_) (fun c39 => ?_)
              · replace h := ev_ifn h c39
                refine ev_lload_8 (pc := 185) dX10_reads_185 ?_
                refine ev_l2i (pc := 187) dX10_reads_187 ?_
                exact ev_iret (pc := 188) dX10_reads_188 rfl rfl (hR _ _ h)
              · replace h := ev_ifp h c39
                refine ev_iload_7 (pc := 175) dX10_reads_175 ?_
                refine ev_iload_5 (pc := 177) dX10_reads_177 ?_
                refine ev_iconst (pc := 179) (v := 1) dX10_reads_179 rfl ?_
                refine ev_iadd (pc := 180) dX10_reads_180 ?_
                obtain ⟨x40, hx40, h⟩ := ev_bindE hN h
                refine ev_irem1 (pc := 181) hx40 dX10_reads_181 ?_
                refine ev_goto (pc := 182) (tgt := 188) dX10_reads_182 (by decide) ?_
                exact ev_iret (pc := 188) dX10_reads_188 rfl rfl (hR _ _ h)
            · replace h := ev_ifp h c38
              refine ev_iload_7 (pc := 159) dX10_reads_159 ?_
              refine ev_iload_5 (pc := 161) dX10_reads_161 ?_
              refine ev_iconst (pc := 163) (v := 1) dX10_reads_163 rfl ?_
              refine ev_iadd (pc := 164) dX10_reads_164 ?_
              obtain ⟨x41, hx41, h⟩ := ev_bindE hN h
              refine ev_idiv1 (pc := 165) hx41 dX10_reads_165 ?_
              refine ev_goto (pc := 166) (tgt := 188) dX10_reads_166 (by decide) ?_
              exact ev_iret (pc := 188) dX10_reads_188 rfl rfl (hR _ _ h)
          · replace h := ev_ifn h c8
            refine ev_iconst (pc := 56) (v := (-1)) dX10_reads_56 rfl ?_
            exact ev_iret (pc := 57) dX10_reads_57 rfl rfl (hR _ _ h)
theorem c_X10_reads {G : ev_G} {mF : ev_m} {i0 : Nat} {x1_ : Int32} {x2_ : Int32} {x3_ : Int32} {x4_ : Int32} {x5_ : Int32} {x6_ : Int32} {r : Int32 × ev_m} (h : f_X10_reads mF i0 x1_ x2_ x3_ x4_ x5_ x6_ = some r) : ev_CF G K_X10_reads B_X10_reads [vr 10 (i0), vi (x1_), vi (x2_), vi (x3_), vi (x4_), vi (x5_), vi (x6_)] mF (some (vi (r.1))) r.2 :=
  ev_Ct_of rfl rfl (Nat.le_of_ble_eq_true rfl) (e_X10_reads (R := some r) (fun x0 m0 q => by cases q; exact ⟨rfl, rfl⟩) (fun q => by cases q) h)
set_option maxRecDepth 20000 in
set_option maxHeartbeats 4000000 in
theorem e_jn_X10_parted_122_63 {G : ev_G} {Q : Option ev_V → ev_M → Prop} {R : Option (Int32 × ev_m)} (hR : ∀ (x0 : Int32) (m0 : ev_m), (some ((x0, m0))) = R → Q (some (vi x0)) (ev_emb m0)) (hN : none ≠ R) {m28 : ev_m} {i10 : Nat} {x11 : Int32} {x12 : Int32} {x25 : Int32} {y26 : Int64} {x27 : Int32} {kb : Int32 → Int64 → Int32 → ev_m → Option (Int32 × ev_m)} {kx : Int32 → ev_m → Option (Int32 × ev_m)}  (h : jn_X10_parted_122_63 m28 i10 x11 x12 x25 y26 x27 kb kx = R) (hkb : ∀ (x13' : Int32) (y14' : Int64) (x15' : Int32) (m16' : ev_m), kb x13' y14' x15' m16' = R → ev_E G K_X10_parted B_X10_parted (0, 0) 63 [some (vr 10 (i10)), none, none, none, some (vi (x11)), some (vi (x12)), some (vi (x13')), some (vl (y14')), none, some (vi (x15'))] [] (ev_emb m16') Q) (hkx : ∀ (x13' : Int32) (m16' : ev_m), kx x13' m16' = R → ev_E G K_X10_parted B_X10_parted (0, 0) 128 [none, none, none, none, none, none, some (vi (x13')), none, none, none] [] (ev_emb m16') Q) : ev_E G K_X10_parted B_X10_parted (0, 0) 122 [some (vr 10 (i10)), none, none, none, some (vi (x11)), some (vi (x12)), some (vi (x25)), some (vl (y26)), none, some (vi (x27))] [] (ev_emb m28) Q := by
  unfold jn_X10_parted_122_63 at h
  refine ev_iinc_9 (pc := 122) (y := x27 + 1) dX10_parted_122 rfl (by decide) rfl ?_
  refine ev_goto (pc := 125) (tgt := 63) dX10_parted_125 (by decide) ?_
  exact hkb _ _ _ _  h
set_option maxRecDepth 20000 in
set_option maxHeartbeats 4000000 in
theorem e_jn_X10_parted_110_63 {G : ev_G} {Q : Option ev_V → ev_M → Prop} {R : Option (Int32 × ev_m)} (hR : ∀ (x0 : Int32) (m0 : ev_m), (some ((x0, m0))) = R → Q (some (vi x0)) (ev_emb m0)) (hN : none ≠ R) {m23 : ev_m} {i10 : Nat} {x11 : Int32} {x12 : Int32} {x22 : Int32} {kb : Int32 → Int64 → Int32 → ev_m → Option (Int32 × ev_m)} {kx : Int32 → ev_m → Option (Int32 × ev_m)}  (h : jn_X10_parted_110_63 m23 i10 x11 x12 x22 kb kx = R) (hkb : ∀ (x13' : Int32) (y14' : Int64) (x15' : Int32) (m16' : ev_m), kb x13' y14' x15' m16' = R → ev_E G K_X10_parted B_X10_parted (0, 0) 63 [some (vr 10 (i10)), none, none, none, some (vi (x11)), some (vi (x12)), some (vi (x13')), some (vl (y14')), none, some (vi (x15'))] [] (ev_emb m16') Q) (hkx : ∀ (x13' : Int32) (m16' : ev_m), kx x13' m16' = R → ev_E G K_X10_parted B_X10_parted (0, 0) 128 [none, none, none, none, none, none, some (vi (x13')), none, none, none] [] (ev_emb m16') Q) : ev_E G K_X10_parted B_X10_parted (0, 0) 110 [some (vr 10 (i10)), none, none, none, some (vi (x11)), some (vi (x12)), none, none, none, some (vi (x22))] [] (ev_emb m23) Q := by
  unfold jn_X10_parted_110_63 at h
  refine ev_iload_9 (pc := 110) dX10_parted_110 ?_
  refine ev_istore_6 (pc := 112) dX10_parted_112 (by decide) rfl ?_
  refine ev_aload_0 (pc := 114) dX10_parted_114 ?_
  refine ev_iload_4 (pc := 115) dX10_parted_115 ?_
  obtain ⟨x24, hx24, h⟩ := ev_bindE hN h
  refine cl1_X10_366 (pc := 117) rfl dX10_parted_117 (by decide) (Nat.le_of_ble_eq_true rfl) (c_X10_apartFrom hx24) ?_
  refine ev_lstore_7 (pc := 120) dX10_parted_120 (by decide) rfl ?_
  exact e_jn_X10_parted_122_63 hR hN h hkb hkx
set_option maxRecDepth 20000 in
set_option maxHeartbeats 4000000 in
theorem e_lp_X10_parted_63 {G : ev_G} {Q : Option ev_V → ev_M → Prop} {R : Option (Int32 × ev_m)} (hR : ∀ (x0 : Int32) (m0 : ev_m), (some ((x0, m0))) = R → Q (some (vi x0)) (ev_emb m0)) (hN : none ≠ R) {i10 : Nat} {x11 : Int32} {x12 : Int32} : ∀ (f : Nat) (x13 : Int32) (y14 : Int64) (x15 : Int32) (m16 : ev_m) (kx : Int32 → ev_m → Option (Int32 × ev_m)) (h : lp_X10_parted_63 i10 x11 x12 f x13 y14 x15 m16 kx = R) (hk : ∀ (x13' : Int32) (m16' : ev_m), kx x13' m16' = R → ev_E G K_X10_parted B_X10_parted (0, 0) 128 [none, none, none, none, none, none, some (vi (x13')), none, none, none] [] (ev_emb m16') Q), ev_E G K_X10_parted B_X10_parted (0, 0) 63 [some (vr 10 (i10)), none, none, none, some (vi (x11)), some (vi (x12)), some (vi (x13)), some (vl (y14)), none, some (vi (x15))] [] (ev_emb m16) Q := by
  intro f
  induction f with
  | zero => intro x13 y14 x15 m16 kx h hk; rw [lp_X10_parted_63] at h; exact absurd h hN
  | succ f ih =>
    intro x13 y14 x15 m16 kx h hk
    rw [lp_X10_parted_63] at h
    refine ev_iload_9 (pc := 63) dX10_parted_63 ?_
    refine ev_iload_5 (pc := 65) dX10_parted_65 ?_
    refine ev_icc_gt (pc := 67) (tgt := 128) dX10_parted_67 (by decide) (fun c17 => ?_) (fun c17 => ?_)
    · replace h := ev_ifp h c17
      refine ev_E.forget (L' := [none, none, none, none, none, none, some (vi (x13)), none, none, none]) ⟨rfl, trivial⟩ ?_
      exact hk _ _  h
    · replace h := ev_ifn h c17
      refine ev_aload_0 (pc := 70) dX10_parted_70 ?_
      refine ev_iconst (pc := 71) (v := 0) dX10_parted_71 rfl ?_
      obtain ⟨m18, hm18, h⟩ := ev_letE h
      refine cl0_X10_309 (pc := 72) (fr := 1) (lo := 20) (m' := m18) rfl dX10_parted_72 (by decide) (Nat.le_of_ble_eq_true rfl) (by rw [hm18]; exact c_X10_begin m16 i10 0) ?_
      refine ev_aload_0 (pc := 75) dX10_parted_75 ?_
      refine ev_iconst (pc := 76) (v := 0) dX10_parted_76 rfl ?_
      refine ev_iload_9 (pc := 77) dX10_parted_77 ?_
      obtain ⟨m19, hm19, h⟩ := ev_bindE hN h
      refine cl0_X10_312 (pc := 79) rfl dX10_parted_79 (by decide) (Nat.le_of_ble_eq_true rfl) (c_X10_steer hm19) ?_
      refine ev_aload_0 (pc := 82) dX10_parted_82 ?_
      refine ev_iconst (pc := 83) (v := 1) dX10_parted_83 rfl ?_
      refine ev_iload_5 (pc := 84) dX10_parted_84 ?_
      refine ev_iload_9 (pc := 86) dX10_parted_86 ?_
      refine ev_isub (pc := 88) dX10_parted_88 ?_
      obtain ⟨m20, hm20, h⟩ := ev_bindE hN h
      refine cl0_X10_312 (pc := 89) rfl dX10_parted_89 (by decide) (Nat.le_of_ble_eq_true rfl) (c_X10_steer hm20) ?_
      refine ev_iload_6 (pc := 92) dX10_parted_92 ?_
      refine ev_iconst (pc := 94) (v := (-1)) dX10_parted_94 rfl ?_
      refine ev_icc_eq (pc := 95) (tgt := 110) dX10_parted_95 (by decide) (fun c21 => ?_) (fun c21 => ?_)
      · replace h := ev_ifp h c21
        refine ev_E.forget (L' := [some (vr 10 (i10)), none, none, none, some (vi (x11)), some (vi (x12)), none, none, none, some (vi (x15))]) ⟨rfl, ⟨rfl, ⟨rfl, ⟨rfl, trivial⟩⟩⟩⟩ ?_
        exact e_jn_X10_parted_110_63 hR hN h (fun _ _ _ _ h => ih _ _ _ _ kx h hk) hk
      · replace h := ev_ifn h c21
        refine ev_aload_0 (pc := 98) dX10_parted_98 ?_
        refine ev_iload_4 (pc := 99) dX10_parted_99 ?_
        obtain ⟨x29, hx29, h⟩ := ev_bindE hN h
        refine cl1_X10_366 (pc := 101) rfl dX10_parted_101 (by decide) (Nat.le_of_ble_eq_true rfl) (c_X10_apartFrom hx29) ?_
        refine ev_lload_7 (pc := 104) dX10_parted_104 ?_
        refine ev_lcc_ge (pc := 106) (tgt := 122) dX10_parted_106 dX10_parted_107 (by decide) (fun c30 => ?_) (fun c30 => ?_)
        · replace h := ev_ifn h c30
          exact e_jn_X10_parted_122_63 hR hN h (fun _ _ _ _ h => ih _ _ _ _ kx h hk) hk
        · replace h := ev_ifp h c30
          refine ev_E.forget (L' := [some (vr 10 (i10)), none, none, none, some (vi (x11)), some (vi (x12)), none, none, none, some (vi (x15))]) ⟨rfl, ⟨rfl, ⟨rfl, ⟨rfl, trivial⟩⟩⟩⟩ ?_
          exact e_jn_X10_parted_110_63 hR hN h (fun _ _ _ _ h => ih _ _ _ _ kx h hk) hk
set_option maxRecDepth 20000 in
set_option maxHeartbeats 4000000 in
theorem e_X10_parted {G : ev_G} {Q : Option ev_V → ev_M → Prop} {R : Option (Int32 × ev_m)} {mF : ev_m} (hR : ∀ (x0 : Int32) (m0 : ev_m), (some ((x0, m0))) = R → Q (some (vi x0)) (ev_emb m0)) (hN : none ≠ R) {i0 : Nat} {x1_ : Int32} {x2_ : Int32} {x3_ : Int32} {x4_ : Int32} (h : f_X10_parted mF i0 x1_ x2_ x3_ x4_ = R) : ev_E G K_X10_parted B_X10_parted (0, 0) 0 [some (vr 10 (i0)), some (vi (x1_)), some (vi (x2_)), some (vi (x3_)), some (vi (x4_)), none, none, none, none, none] [] (ev_emb mF) Q := by
  unfold f_X10_parted at h
  refine ev_aload_0 (pc := 0) dX10_parted_0 ?_
  refine ev_iconst (pc := 1) (v := 0) dX10_parted_1 rfl ?_
  obtain ⟨m1, hm1, h⟩ := ev_letE h
  refine pt_X10_81 (pc := 2) rfl dX10_parted_2 ?_
  refine ev_mem (pc := 5) hm1 ?_
  refine ev_aload_0 (pc := 5) dX10_parted_5 ?_
  refine ev_iconst (pc := 6) (v := 1) dX10_parted_6 rfl ?_
  refine ev_iload_3 (pc := 7) dX10_parted_7 ?_
  obtain ⟨x2, hx2, h⟩ := ev_bindE hN h
  refine cl1_X10_226 (pc := 8) rfl dX10_parted_8 (by decide) (Nat.le_of_ble_eq_true rfl) (c_X10_is hx2) ?_
  refine ev_ifb_eq (pc := 11) (tgt := 34) dX10_parted_11 (by decide) (fun c3 => ?_) (fun c3 => ?_)
  · replace h := ev_ifn h c3
    refine ev_iconst (pc := 34) (v := (-1)) dX10_parted_34 rfl ?_
    exact ev_iret (pc := 35) dX10_parted_35 rfl rfl (hR _ _ h)
  · replace h := ev_ifp h c3
    refine ev_aload_0 (pc := 14) dX10_parted_14 ?_
    refine ev_iconst (pc := 15) (v := 2) dX10_parted_15 rfl ?_
    refine ev_iload_4 (pc := 16) dX10_parted_16 ?_
    obtain ⟨x4, hx4, h⟩ := ev_bindE hN h
    refine cl1_X10_226 (pc := 18) rfl dX10_parted_18 (by decide) (Nat.le_of_ble_eq_true rfl) (c_X10_is hx4) ?_
    refine ev_ifb_eq (pc := 21) (tgt := 34) dX10_parted_21 (by decide) (fun c5 => ?_) (fun c5 => ?_)
    · replace h := ev_ifn h c5
      refine ev_iconst (pc := 34) (v := (-1)) dX10_parted_34 rfl ?_
      exact ev_iret (pc := 35) dX10_parted_35 rfl rfl (hR _ _ h)
    · replace h := ev_ifp h c5
      refine ev_aload_0 (pc := 24) dX10_parted_24 ?_
      refine ev_iload_1 (pc := 25) dX10_parted_25 ?_
      refine ev_iload_2 (pc := 26) dX10_parted_26 ?_
      refine ev_iconst (pc := 27) (v := 0) dX10_parted_27 rfl ?_
      obtain ⟨p6, hp6, h⟩ := ev_bindE hN h
      refine cl1_X10_329 (pc := 28) rfl dX10_parted_28 (by decide) (Nat.le_of_ble_eq_true rfl) (c_X10_lay hp6) ?_
      refine ev_ifb_ne (pc := 31) (tgt := 36) dX10_parted_31 (by decide) (fun c7 => ?_) (fun c7 => ?_)
      · replace h := ev_ifp h c7
        refine ev_aload_0 (pc := 36) dX10_parted_36 ?_
        refine ev_iconst (pc := 37) (v := 1) dX10_parted_37 rfl ?_
        refine ev_iload_3 (pc := 38) dX10_parted_38 ?_
        obtain ⟨m8, hm8, h⟩ := ev_bindE hN h
        refine cl0_X10_326 (pc := 39) rfl dX10_parted_39 (by decide) (Nat.le_of_ble_eq_true rfl) (c_X10_layHand hm8) ?_
        refine ev_aload_0 (pc := 42) dX10_parted_42 ?_
        refine gt_X10_32 (pc := 43) rfl dX10_parted_43 ?_
        refine ev_bipush (pc := 46) (v := 61) dX10_parted_46 (by decide) ?_
        refine ev_iload_4 (pc := 48) dX10_parted_48 ?_
        refine ev_imul (pc := 50) dX10_parted_50 ?_
        obtain ⟨x9, hx9, h⟩ := ev_bindE hN h
        refine ev_iald1 (pc := 51) rfl (by decide) rfl hx9 dX10_parted_51 ?_
        refine ev_istore_5 (pc := 52) dX10_parted_52 (by decide) rfl ?_
        refine ev_iconst (pc := 54) (v := (-1)) dX10_parted_54 rfl ?_
        refine ev_istore_6 (pc := 55) dX10_parted_55 (by decide) rfl ?_
        refine ev_lconst (pc := 57) (v := 0) dX10_parted_57 rfl ?_
        refine ev_lstore_7 (pc := 58) dX10_parted_58 (by decide) rfl ?_
        refine ev_iconst (pc := 60) (v := 0) dX10_parted_60 rfl ?_
        refine ev_istore_9 (pc := 61) dX10_parted_61 (by decide) rfl ?_
        refine ev_E.forget (L' := [some (vr 10 (i0)), none, none, none, some (vi (x4_)), some (vi (x9)), some (vi ((-1))), some (vl (0)), none, some (vi (0))]) ⟨rfl, ⟨rfl, ⟨rfl, ⟨rfl, ⟨rfl, ⟨rfl, trivial⟩⟩⟩⟩⟩⟩ ?_
        refine e_lp_X10_parted_63 hR hN 4000 _ _ _ _ _ h (fun x31 m32 h => ?_)
        refine ev_iload_6 (pc := 128) dX10_parted_128 ?_
        exact ev_iret (pc := 130) dX10_parted_130 rfl rfl (hR _ _ h)
      · replace h := ev_ifn h c7
        refine ev_iconst (pc := 34) (v := (-1)) dX10_parted_34 rfl ?_
        exact ev_iret (pc := 35) dX10_parted_35 rfl rfl (hR _ _ h)
theorem c_X10_parted {G : ev_G} {mF : ev_m} {i0 : Nat} {x1_ : Int32} {x2_ : Int32} {x3_ : Int32} {x4_ : Int32} {r : Int32 × ev_m} (h : f_X10_parted mF i0 x1_ x2_ x3_ x4_ = some r) : ev_CF G K_X10_parted B_X10_parted [vr 10 (i0), vi (x1_), vi (x2_), vi (x3_), vi (x4_)] mF (some (vi (r.1))) r.2 :=
  ev_Ct_of rfl rfl (Nat.le_of_ble_eq_true rfl) (e_X10_parted (R := some r) (fun x0 m0 q => by cases q; exact ⟨rfl, rfl⟩) (fun q => by cases q) h)
set_option maxRecDepth 20000 in
set_option maxHeartbeats 4000000 in
theorem e_X10_count {G : ev_G} {Q : Option ev_V → ev_M → Prop} {R : Option (Int32 × ev_m)} {mF : ev_m} (hR : ∀ (x0 : Int32) (m0 : ev_m), (some ((x0, m0))) = R → Q (some (vi x0)) (ev_emb m0)) (hN : none ≠ R) {i0 : Nat} {x1_ : Int32} (h : f_X10_count mF i0 x1_ = R) : ev_E G K_X10_count B_X10_count (0, 0) 0 [some (vr 10 (i0)), some (vi (x1_))] [] (ev_emb mF) Q := by
  unfold f_X10_count at h
  refine ev_aload_0 (pc := 0) dX10_count_0 ?_
  refine ev_iconst (pc := 1) (v := 0) dX10_count_1 rfl ?_
  obtain ⟨m1, hm1, h⟩ := ev_letE h
  refine pt_X10_81 (pc := 2) rfl dX10_count_2 ?_
  refine ev_mem (pc := 5) hm1 ?_
  refine ev_iload_1 (pc := 5) dX10_count_5 ?_
  refine ev_iconst (pc := 6) (v := 0) dX10_count_6 rfl ?_
  refine ev_iconst (pc := 7) (v := 3) dX10_count_7 rfl ?_
  refine cl1_X10_89 (pc := 8) rfl dX10_count_8 (by decide) (Nat.le_of_ble_eq_true rfl) (c_X10_in m1 x1_ 0 3) ?_
  refine ev_ifb_eq (pc := 11) (tgt := 23) dX10_count_11 (by decide) (fun c2 => ?_) (fun c2 => ?_)
  · replace h := ev_ifn h c2
    refine ev_bipush (pc := 23) (v := (-2)) dX10_count_23 (by decide) ?_
    exact ev_iret (pc := 25) dX10_count_25 rfl rfl (hR _ _ h)
  · replace h := ev_ifp h c2
    refine ev_aload_0 (pc := 14) dX10_count_14 ?_
    refine gt_X10_23 (pc := 15) rfl dX10_count_15 ?_
    refine ev_iload_1 (pc := 18) dX10_count_18 ?_
    obtain ⟨x3, hx3, h⟩ := ev_bindE hN h
    refine ev_iald1 (pc := 19) rfl (by decide) rfl hx3 dX10_count_19 ?_
    refine ev_goto (pc := 20) (tgt := 25) dX10_count_20 (by decide) ?_
    exact ev_iret (pc := 25) dX10_count_25 rfl rfl (hR _ _ h)
theorem c_X10_count {G : ev_G} {mF : ev_m} {i0 : Nat} {x1_ : Int32} {r : Int32 × ev_m} (h : f_X10_count mF i0 x1_ = some r) : ev_CF G K_X10_count B_X10_count [vr 10 (i0), vi (x1_)] mF (some (vi (r.1))) r.2 :=
  ev_Ct_of rfl rfl (Nat.le_of_ble_eq_true rfl) (e_X10_count (R := some r) (fun x0 m0 q => by cases q; exact ⟨rfl, rfl⟩) (fun q => by cases q) h)
set_option maxRecDepth 20000 in
set_option maxHeartbeats 4000000 in
theorem e_X10_image {G : ev_G} {Q : Option ev_V → ev_M → Prop} {R : Option (Bool × ev_m)} {mF : ev_m} (hR : ∀ (x0 : Bool) (m0 : ev_m), (some ((x0, m0))) = R → Q (some (vi (bi x0))) (ev_emb m0)) (hN : none ≠ R) {i0 : Nat} {x1_ : Int32} (h : f_X10_image mF i0 x1_ = R) : ev_E G K_X10_image B_X10_image (0, 0) 0 [some (vr 10 (i0)), some (vi (x1_))] [] (ev_emb mF) Q := by
  unfold f_X10_image at h
  refine ev_aload_0 (pc := 0) dX10_image_0 ?_
  refine ev_iconst (pc := 1) (v := 0) dX10_image_1 rfl ?_
  obtain ⟨m1, hm1, h⟩ := ev_letE h
  refine pt_X10_81 (pc := 2) rfl dX10_image_2 ?_
  refine ev_mem (pc := 5) hm1 ?_
  refine ev_iload_1 (pc := 5) dX10_image_5 ?_
  refine ev_iconst (pc := 6) (v := 0) dX10_image_6 rfl ?_
  refine ev_iconst (pc := 7) (v := 2) dX10_image_7 rfl ?_
  refine cl1_X10_89 (pc := 8) rfl dX10_image_8 (by decide) (Nat.le_of_ble_eq_true rfl) (c_X10_in m1 x1_ 0 2) ?_
  refine ev_ifb_ne (pc := 11) (tgt := 16) dX10_image_11 (by decide) (fun c2 => ?_) (fun c2 => ?_)
  · replace h := ev_ifp h c2
    refine ev_aload_0 (pc := 16) dX10_image_16 ?_
    refine ev_iconst (pc := 17) (v := 0) dX10_image_17 rfl ?_
    refine ev_iload_1 (pc := 18) dX10_image_18 ?_
    refine ev_iconst (pc := 19) (v := 1) dX10_image_19 rfl ?_
    refine ev_iadd (pc := 20) dX10_image_20 ?_
    obtain ⟨m3, hm3, h⟩ := ev_bindE hN h
    refine cl0_X10_374 (pc := 21) rfl dX10_image_21 (by decide) (Nat.le_of_ble_eq_true rfl) (c_X10_copyAll hm3) ?_
    refine ev_aload_0 (pc := 24) dX10_image_24 ?_
    refine gt_X10_77 (pc := 25) rfl dX10_image_25 ?_
    refine ev_iload_1 (pc := 28) dX10_image_28 ?_
    refine ev_iconst (pc := 29) (v := 1) dX10_image_29 rfl ?_
    obtain ⟨m4, hm4, h⟩ := ev_bindE hN h
    refine ev_zast1 (pc := 30) rfl (by decide) (by decide) rfl hm4 dX10_image_30 ?_
    refine ev_iconst (pc := 31) (v := 1) dX10_image_31 rfl ?_
    exact ev_iret (pc := 32) dX10_image_32 rfl rfl (hR _ _ h)
  · replace h := ev_ifn h c2
    refine ev_iconst (pc := 14) (v := 0) dX10_image_14 rfl ?_
    exact ev_iret (pc := 15) dX10_image_15 rfl rfl (hR _ _ h)
theorem c_X10_image {G : ev_G} {mF : ev_m} {i0 : Nat} {x1_ : Int32} {r : Bool × ev_m} (h : f_X10_image mF i0 x1_ = some r) : ev_CF G K_X10_image B_X10_image [vr 10 (i0), vi (x1_)] mF (some (vi (bi (r.1)))) r.2 :=
  ev_Ct_of rfl rfl (Nat.le_of_ble_eq_true rfl) (e_X10_image (R := some r) (fun x0 m0 q => by cases q; exact ⟨rfl, rfl⟩) (fun q => by cases q) h)
