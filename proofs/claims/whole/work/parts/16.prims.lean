/-! methods by hand: rows of ints read, written, copied; the texts of String constants -/
theorem ev_lenT31 (r : Nat) : ev_len r < 2 ^ 31 := by
  by_cases h : r < 64
  · exact ev_len31 r h
  · have : ev_lenT.length ≤ r := by show 64 ≤ r; omega
    unfold ev_len
    rw [List.getD_eq_getElem?_getD, List.getElem?_eq_none this]
    decide
theorem ev_ge0 {x : Int32} : ¬ x < 0 ↔ 0 ≤ x.toInt := by
  rw [Int32.lt_iff_toInt_lt]
  show ¬ x.toInt < 0 ↔ _
  omega
theorem ev_ltn {x : Int32} {n : Nat} (h : n < 2 ^ 31) : x < Int32.ofNat n ↔ x.toInt < n := by
  rw [Int32.lt_iff_toInt_lt, show (Int32.ofNat n).toInt = (n : Int) from nI_toInt h]
theorem c_X9_at {G : ev_G} {r i : Nat} {x : Int32} {m : ev_m} (hr : ev_rk r = .inr 0) (h60 : r < 60) : ev_CF G K_X9_at B_X9_at [vr r i, vi x] m (some (vi (ev_at (m.1 r i) (ev_len r) x))) m := by
  refine ev_Ct_of rfl rfl (Nat.le_of_ble_eq_true rfl) ?_
  refine ev_aload_0 (pc := 0) dX9_at_0 ?_
  refine ev_ifnull_r (pc := 1) dX9_at_1 ?_
  refine ev_iload_1 (pc := 4) dX9_at_4 ?_
  refine ev_ifc_lt (pc := 5) (tgt := 20) dX9_at_5 (by decide) (fun c => ?_) (fun c => ?_)
  · refine ev_iconst (pc := 20) (v := 0) dX9_at_20 rfl ?_
    refine ev_iret (pc := 21) dX9_at_21 rfl rfl ⟨?_, rfl⟩
    unfold ev_at
    rw [if_neg (fun q => (ev_ge0.mpr q.1) c)]
  · refine ev_iload_1 (pc := 8) dX9_at_8 ?_
    refine ev_aload_0 (pc := 9) dX9_at_9 ?_
    refine ev_alen1 (pc := 10) (y := Int32.ofNat (ev_len r)) hr h60 rfl dX9_at_10 ?_
    refine ev_icc_ge (pc := 11) (tgt := 20) dX9_at_11 (by decide) (fun c2 => ?_) (fun c2 => ?_)
    · refine ev_iconst (pc := 20) (v := 0) dX9_at_20 rfl ?_
      refine ev_iret (pc := 21) dX9_at_21 rfl rfl ⟨?_, rfl⟩
      unfold ev_at
      rw [if_neg (fun q => c2 ((ev_ltn (ev_lenT31 r)).mpr q.2))]
    · have hin : 0 ≤ x.toInt ∧ x.toInt < (ev_len r : Nat) := ⟨ev_ge0.mp c, (ev_ltn (ev_lenT31 r)).mp c2⟩
      refine ev_aload_0 (pc := 14) dX9_at_14 ?_
      refine ev_iload_1 (pc := 15) dX9_at_15 ?_
      refine ev_ialdS (pc := 16) hr h60 rfl (vp_in_iff.mpr hin) dX9_at_16 ?_
      refine ev_goto (pc := 17) (tgt := 21) dX9_at_17 (by decide) ?_
      refine ev_iret (pc := 21) dX9_at_21 rfl rfl ⟨?_, rfl⟩
      unfold ev_at
      rw [if_pos hin]
theorem c_X9_atC {G : ev_G} {j : Nat} {x : Int32} {m : ev_m} (hj : j < 4) : ev_CF G K_X9_at B_X9_at [vr (60 + j) 0, vi x] m (some (vi (ev_at (ev_cst j) (ev_len (60 + j)) x))) m := by
  have hr : ev_rk (60 + j) = .inr 0 := by
    match j, hj with
    | 0, _ => rfl
    | 1, _ => rfl
    | 2, _ => rfl
    | 3, _ => rfl
  refine ev_Ct_of rfl rfl (Nat.le_of_ble_eq_true rfl) ?_
  refine ev_aload_0 (pc := 0) dX9_at_0 ?_
  refine ev_ifnull_r (pc := 1) dX9_at_1 ?_
  refine ev_iload_1 (pc := 4) dX9_at_4 ?_
  refine ev_ifc_lt (pc := 5) (tgt := 20) dX9_at_5 (by decide) (fun c => ?_) (fun c => ?_)
  · refine ev_iconst (pc := 20) (v := 0) dX9_at_20 rfl ?_
    refine ev_iret (pc := 21) dX9_at_21 rfl rfl ⟨?_, rfl⟩
    unfold ev_at
    rw [if_neg (fun q => (ev_ge0.mpr q.1) c)]
  · refine ev_iload_1 (pc := 8) dX9_at_8 ?_
    refine ev_aload_0 (pc := 9) dX9_at_9 ?_
    refine ev_alen (pc := 10) (y := Int32.ofNat (ev_len (60 + j))) hr rfl dX9_at_10 (fun h => absurd h (by omega)) (fun _ => ⟨rfl, rfl⟩) ?_
    refine ev_icc_ge (pc := 11) (tgt := 20) dX9_at_11 (by decide) (fun c2 => ?_) (fun c2 => ?_)
    · refine ev_iconst (pc := 20) (v := 0) dX9_at_20 rfl ?_
      refine ev_iret (pc := 21) dX9_at_21 rfl rfl ⟨?_, rfl⟩
      unfold ev_at
      rw [if_neg (fun q => c2 ((ev_ltn (ev_lenT31 _)).mpr q.2))]
    · have hin : 0 ≤ x.toInt ∧ x.toInt < (ev_len (60 + j) : Nat) := ⟨ev_ge0.mp c, (ev_ltn (ev_lenT31 _)).mp c2⟩
      refine ev_aload_0 (pc := 14) dX9_at_14 ?_
      refine ev_iload_1 (pc := 15) dX9_at_15 ?_
      refine ev_iald (pc := 16) hr (vp_in_iff.mpr hin) dX9_at_16 (fun h => absurd h (by omega)) (fun _ => rfl) ?_
      refine ev_goto (pc := 17) (tgt := 21) dX9_at_17 (by decide) ?_
      refine ev_E.known (fun _ _ h3 => ?_)
      refine ev_iret (pc := 21) dX9_at_21 rfl rfl ⟨?_, rfl⟩
      unfold ev_at
      rw [if_pos hin, h3.2.1 j _ hj]
theorem c_X9_put {G : ev_G} {r i : Nat} {x y : Int32} {m : ev_m} (hr : ev_rk r = .inr 0) (h60 : r < 60) (h23 : r < 23 ∨ 28 ≤ r) : ev_CF G K_X9_put B_X9_put [vr r i, vi x, vi y] m none (ev_put m r i (ev_len r) x y) := by
  refine ev_Ct_of rfl rfl (Nat.le_of_ble_eq_true rfl) ?_
  refine ev_aload_0 (pc := 0) dX9_put_0 ?_
  refine ev_ifnull_r (pc := 1) dX9_put_1 ?_
  refine ev_iload_1 (pc := 4) dX9_put_4 ?_
  refine ev_ifc_lt (pc := 5) (tgt := 18) dX9_put_5 (by decide) (fun c => ?_) (fun c => ?_)
  · refine ev_vret (pc := 18) dX9_put_18 rfl ⟨rfl, ?_⟩
    unfold ev_put
    rw [if_neg (fun q => (ev_ge0.mpr q.1) c)]
  · refine ev_iload_1 (pc := 8) dX9_put_8 ?_
    refine ev_aload_0 (pc := 9) dX9_put_9 ?_
    refine ev_alen1 (pc := 10) (y := Int32.ofNat (ev_len r)) hr h60 rfl dX9_put_10 ?_
    refine ev_icc_ge (pc := 11) (tgt := 18) dX9_put_11 (by decide) (fun c2 => ?_) (fun c2 => ?_)
    · refine ev_vret (pc := 18) dX9_put_18 rfl ⟨rfl, ?_⟩
      unfold ev_put
      rw [if_neg (fun q => c2 ((ev_ltn (ev_lenT31 r)).mpr q.2))]
    · have hin : 0 ≤ x.toInt ∧ x.toInt < (ev_len r : Nat) := ⟨ev_ge0.mp c, (ev_ltn (ev_lenT31 r)).mp c2⟩
      refine ev_aload_0 (pc := 14) dX9_put_14 ?_
      refine ev_iload_1 (pc := 15) dX9_put_15 ?_
      refine ev_iload_2 (pc := 16) dX9_put_16 ?_
      refine ev_iastS (pc := 17) hr h60 h23 rfl (vp_in_iff.mpr hin) dX9_put_17 ?_
      refine ev_vret (pc := 18) dX9_put_18 rfl ⟨rfl, ?_⟩
      unfold ev_put
      rw [if_pos hin]
theorem ev_cl_len (r : Nat) : (Int32.ofNat (ev_len r)).toNatClampNeg = ev_len r := nI_clamp (ev_lenT31 r)
theorem ev_nn_len (r : Nat) : ¬ Int32.ofNat (ev_len r) < 0 := nI_pos (ev_lenT31 r)
theorem ev_topb {G : ev_G} {k : ev_K} {b : ev_B} {u : Nat × Nat} {pc : Nat} {L : List (Option ev_V)} {st : List ev_V} {Q : Option ev_V → ev_M → Prop} {x y : Bool} {M : ev_M} (h : y = x) (kk : ev_E G k b u pc L (vi (bi y) :: st) M Q) : ev_E G k b u pc L (vi (bi x) :: st) M Q := h ▸ kk
section EVP
variable {G : ev_G} {k : ev_K} {b : ev_B} {u : Nat × Nat} {pc : Nat} {L : List (Option ev_V)} {st : List ev_V} {m : ev_m} {Q : Option ev_V → ev_M → Prop}
/-- System.arraycopy of whole rows of the same length -/
theorem ev_copy1 {r i i' t idx : Nat} (ht : t < 2) (hr : ev_rk r = .inr t) (h23 : r < 23) (hty : t = 1 → r = 11) (hl : Cond.methodLink k.2.1.cls idx arraycopyName ∈ ev_GW) (hb : 1 ≤ b.1 ∧ 8 + (nativeFrameWords "java/lang/System" "arraycopy" 5 + 11) ≤ b.2.1) (hs : ev_cats st ≤ 8) (d : decode k.1 pc = .ok (.invokestatic idx, 3))
    (kk : ev_E G k b u (pc + 3) L st (ev_emb (ev_cpm m r i i' (ev_len r))) Q) : ev_E G k b u pc L (vi (Int32.ofNat (ev_len r)) :: vi 0 :: vr r i' :: vi 0 :: vr r i :: st) (ev_emb m) Q :=
  ev_E.known (fun _ h2 _ => ev_copy ht hr hr h23 h23 (ev_nn_len r) (by rw [ev_cl_len]; exact Nat.le_refl _) (by rw [ev_cl_len]; exact Nat.le_refl _) Iff.rfl hl acopy_w hb hs (ev_fr h2.2.2.2.2.1 (by omega)) (ev_fr h2.2.2.1 (by omega)) d hty (by rw [ev_cl_len]; exact kk))
end EVP
theorem ev_mm_self (x : Int32) : (if x < x then x else x) = x := by split <;> rfl
theorem c_X9_copyRow {G : ev_G} {r i i' : Nat} {m : ev_m} (hr : ev_rk r = .inr 0) (h23 : r < 23) : ev_CF G K_X9_copyRow B_X9_copyRow [vr r i, vr r i'] m none (ev_cpm m r i i' (ev_len r)) := by
  refine ev_Ct_of rfl rfl (Nat.le_of_ble_eq_true rfl) ?_
  refine ev_aload_0 (pc := 0) dX9_copyRow_0 ?_
  refine ev_ifnull_r (pc := 1) dX9_copyRow_1 ?_
  refine ev_aload_1 (pc := 4) dX9_copyRow_4 ?_
  refine ev_ifnull_r (pc := 5) dX9_copyRow_5 ?_
  refine ev_aload_0 (pc := 8) dX9_copyRow_8 ?_
  refine ev_iconst (pc := 9) (v := 0) dX9_copyRow_9 rfl ?_
  refine ev_aload_1 (pc := 10) dX9_copyRow_10 ?_
  refine ev_iconst (pc := 11) (v := 0) dX9_copyRow_11 rfl ?_
  refine ev_aload_0 (pc := 12) dX9_copyRow_12 ?_
  refine ev_alen1 (pc := 13) (y := Int32.ofNat (ev_len r)) hr (by omega) rfl dX9_copyRow_13 ?_
  refine ev_aload_1 (pc := 14) dX9_copyRow_14 ?_
  refine ev_alen1 (pc := 15) (y := Int32.ofNat (ev_len r)) hr (by omega) rfl dX9_copyRow_15 ?_
  refine ev_mmin (pc := 16) mmin_X9_334 mmin_w (by decide) (Nat.le_of_ble_eq_true rfl) dX9_copyRow_16 ?_
  refine ev_topi (pc := 19) (ev_mm_self _).symm ?_
  refine ev_copy1 (pc := 19) (t := 0) (by decide) hr h23 (fun h => absurd h (by decide)) acopy_X9_336 (by decide) (Nat.le_of_ble_eq_true rfl) dX9_copyRow_19 ?_
  exact ev_vret (pc := 22) dX9_copyRow_22 rfl ⟨rfl, rfl⟩
theorem c_X6_copy {G : ev_G} {i : Nat} {o : Option Nat} {m : ev_m} : ev_CF G K_X6_copy B_X6_copy [vr 2 i, vo 2 o] m none (ev_tcp m o i) := by
  refine ev_Ct_of (L0 := [some (vr 2 i), some (vo 2 o)]) rfl rfl (Nat.le_of_ble_eq_true rfl) ?_
  refine ev_aload_1 (pc := 0) dX6_copy_0 ?_
  rcases o with _ | a
  · refine ev_ifnull_n (pc := 1) (tgt := 38) dX6_copy_1 (by decide) ?_
    exact ev_vret (pc := 38) dX6_copy_38 rfl ⟨rfl, rfl⟩
  show ev_E G K_X6_copy B_X6_copy (0, 0) 1 [some (vr 2 i), some (vr 2 a)] [vr 2 a] (ev_emb m) _
  refine ev_ifnull_r (pc := 1) dX6_copy_1 ?_
  refine ev_aload_1 (pc := 4) dX6_copy_4 ?_
  refine gt_X6_9 (pc := 5) rfl dX6_copy_5 ?_
  refine ev_iconst (pc := 8) (v := 0) dX6_copy_8 rfl ?_
  refine ev_aload_0 (pc := 9) dX6_copy_9 ?_
  refine gt_X6_9 (pc := 10) rfl dX6_copy_10 ?_
  refine ev_iconst (pc := 13) (v := 0) dX6_copy_13 rfl ?_
  refine ev_aload_1 (pc := 14) dX6_copy_14 ?_
  refine gt_X6_9 (pc := 15) rfl dX6_copy_15 ?_
  refine ev_alen1 (pc := 18) (y := Int32.ofNat (ev_len 11)) rfl (by decide) rfl dX6_copy_18 ?_
  refine ev_aload_0 (pc := 19) dX6_copy_19 ?_
  refine gt_X6_9 (pc := 20) rfl dX6_copy_20 ?_
  refine ev_alen1 (pc := 23) (y := Int32.ofNat (ev_len 11)) rfl (by decide) rfl dX6_copy_23 ?_
  refine ev_mmin (pc := 24) mmin_X6_23 mmin_w (by decide) (Nat.le_of_ble_eq_true rfl) dX6_copy_24 ?_
  refine ev_topi (pc := 27) (ev_mm_self _).symm ?_
  refine ev_copy1 (pc := 27) (t := 1) (by decide) rfl (by decide) (fun _ => rfl) acopy_X6_29 (by decide) (Nat.le_of_ble_eq_true rfl) dX6_copy_27 ?_
  refine ev_aload_0 (pc := 30) dX6_copy_30 ?_
  refine ev_aload_1 (pc := 31) dX6_copy_31 ?_
  refine gt_X6_19 (pc := 32) rfl dX6_copy_32 ?_
  refine pt_X6_19 (pc := 35) rfl dX6_copy_35 ?_
  exact ev_vret (pc := 38) dX6_copy_38 rfl ⟨rfl, rfl⟩
theorem e_lp_X10_copyRow {G : ev_G} {Q : Option ev_V → ev_M → Prop} {R : Option ev_m} (hR : ∀ m0, some m0 = R → Q none (ev_emb m0)) (hN : none ≠ R) {r i ln : Nat} (hr : ev_rk r = .inr 0) (h60 : r < 60) (h23 : r < 23 ∨ 28 ≤ r) (hln : ev_len r = ln) {n fr to : Int32} : ∀ (f : Nat) (k : Int32) (m : ev_m) (h : lp_X10_copyRow r i ln n fr to f k m some = R), ev_E G K_X10_copyRow B_X10_copyRow (0, 0) 3 [some (vr r i), some (vi n), some (vi fr), some (vi to), some (vi k)] [] (ev_emb m) Q := by
  intro f
  induction f with
  | zero => intro k m h; rw [lp_X10_copyRow] at h; exact absurd h hN
  | succ f ih =>
    intro k m h
    rw [lp_X10_copyRow] at h
    refine ev_iload_4 (pc := 3) dX10_copyRow_3 ?_
    refine ev_iload_1 (pc := 5) dX10_copyRow_5 ?_
    refine ev_icc_ge (pc := 6) (tgt := 31) dX10_copyRow_6 (by decide) (fun c => ?_) (fun c => ?_)
    · replace h := ev_ifn h c
      exact ev_vret (pc := 31) dX10_copyRow_31 rfl (hR _ h)
    · replace h := ev_ifp h c
      obtain ⟨x, hx, h⟩ := ev_bindE hN h
      obtain ⟨m', hm', h⟩ := ev_bindE hN h
      refine ev_aload_0 (pc := 9) dX10_copyRow_9 ?_
      refine ev_iload_1 (pc := 10) dX10_copyRow_10 ?_
      refine ev_iload_3 (pc := 11) dX10_copyRow_11 ?_
      refine ev_imul (pc := 12) dX10_copyRow_12 ?_
      refine ev_iload_4 (pc := 13) dX10_copyRow_13 ?_
      refine ev_iadd (pc := 15) dX10_copyRow_15 ?_
      refine ev_aload_0 (pc := 16) dX10_copyRow_16 ?_
      refine ev_iload_1 (pc := 17) dX10_copyRow_17 ?_
      refine ev_iload_2 (pc := 18) dX10_copyRow_18 ?_
      refine ev_imul (pc := 19) dX10_copyRow_19 ?_
      refine ev_iload_4 (pc := 20) dX10_copyRow_20 ?_
      refine ev_iadd (pc := 22) dX10_copyRow_22 ?_
      refine ev_iald1 (pc := 23) hr h60 hln hx dX10_copyRow_23 ?_
      refine ev_iast1 (pc := 24) hr h60 h23 hln hm' dX10_copyRow_24 ?_
      refine ev_iinc_4 (pc := 25) (y := k + 1) dX10_copyRow_25 rfl (by decide) rfl ?_
      refine ev_goto (pc := 28) (tgt := 3) dX10_copyRow_28 (by decide) ?_
      exact ih (k + 1) m' h
/-! texts -/
section EVS
variable {G : ev_G} {k : ev_K} {b : ev_B} {u : Nat × Nat} {pc : Nat} {L : List (Option ev_V)} {st : List ev_V} {m : ev_m} {Q : Option ev_V → ev_M → Prop}
/-- a String constant's cell is there -/
theorem ev_strc {M : ev_M} {s : State} {H : Heap} {j : Nat} (hK : ev_Kn G s) (hH : ev_Ho G M H) (hj : j < 22) : ∃ cell : Cell, H[ev_la G 65 j]? = some cell ∧ cell.vm.isStatics = false ∧ s.vm.findClass "java/lang/String" = some cell.cls := by
  obtain ⟨cell, h1, h2, h3, h4⟩ := (hK.2.2.1.1 j hj).1
  refine ⟨cell, ?_, h2, h3⟩
  rw [show ev_la G 65 j = G.2.2.2.1 65 j from if_neg (by decide), hH.2.1 _ (Nat.not_le.mp h4)]
  exact h1
theorem ev_callVs {k' : ev_K} {fr lo : Nat} {j n idx : Nat} {As st0 : List ev_V} {v : Option ev_V} {m' : ev_m} (hj : j < 22) (hl : Cond.methodLink k.2.1.cls idx k'.2.1 ∈ ev_GW) (hm : ev_MI k' n) (hci : k'.2.1.cls = "java/lang/String") (hn : As.length = n) (d : decode k.1 pc = .ok (.invokevirtual idx, 3)) (hb : fr + 1 ≤ b.1 ∧ 8 + (k'.2.2.1 + 11) + lo ≤ b.2.1) (hs : ev_cats st ≤ 8) (h0 : As.reverse ++ vr 65 j :: st = st0)
    (hC : ev_CF G k' (fr, lo, 0, 0) (vr 65 j :: As) m v m') (kk : ev_E G k b u (pc + 3) L (v.toList ++ st) (ev_emb m') Q) : ev_E G k b u pc L st0 (ev_emb m) Q := by
  subst h0
  intro p l e R s mm args below meth c H locs ls Z F RT hH h1 h2 h3 hS hu hlv
  obtain ⟨g1, g2⟩ := ev_oks_app.mp h2
  have hM := hC ⟨g2.1, ev_oks_rev.mp g1⟩ h3 l
  have hts := F.2.2.2.2.2.1
  have hK := F.2.2.2.2.2.2.2.2.2.2.2.2
  refine ev_after (mc := 0) (ms := 0) (Q' := fun v0 M0 => v0 = v ∧ M0 = ev_emb m') F RT hH h1 g2.2 hS hlv hu.1 hu.2 (a := (Value.ref (ev_la G 65 j) :: As.map (ev_real G)).toArray) ?_ (fun v0 M0 q => by obtain ⟨rfl, rfl⟩ := q; exact kk)
  refine va_runV (As := As.map (ev_real G)) (b := ev_la G 65 j) (C := k'.2.1.cls) (own := k.2.1.cls) (Ts := ev_GW) ⟨F.1, F.2.1, F.2.2.2.1, F.2.2.2.2.1, hts⟩ hM ⟨ev_cb (b' := (fr, lo, 0, 0)) F hl hm.1 hb.1 hb.2, hts _ hm.2.1, hts _ hm.2.2⟩ ⟨ev_blind, ?_, fun U hU hW => ⟨rfl, by rw [hU]; exact hH, ev_Kn.warm hW hK⟩⟩ rfl (by rw [List.length_map]; exact hn) hlv.1 ?_ (by rw [ev_cats_real]; show 2 * 0 + _ ≤ 8; omega) d ⟨Nat.le_trans hu.1 F.2.2.2.2.2.2.2.2.2.2.1, Nat.le_trans hu.2 F.2.2.2.2.2.2.2.2.2.2.2.1⟩
  · rw [hci]
    exact ev_strc hK hH hj
  · show (As.reverse ++ vr 65 j :: st).map (ev_real G) = _
    rw [List.map_append, List.map_reverse, List.map_cons]
    rfl
theorem ev_gcoder {M : ev_M} {j idx : Nat} (hj : j < 22) (hl : Cond.fieldLink k.2.1.cls idx "java/lang/String" "coder" "B" ∈ ev_GW) (d : decode k.1 pc = .ok (.getfield idx, 3)) (kk : ev_E G k b u (pc + 3) L (vi 0 :: st) M Q) : ev_E G k b u pc L (vr 65 j :: st) M Q := by
  intro p l e R s mm args below meth c H locs ls Z F RT hH h1 h2 h3 hS hu hlv
  have hK := F.2.2.2.2.2.2.2.2.2.2.2.2
  obtain ⟨cf, kf, fi, f, cell, g1, g2, g3, g4, g5, g6⟩ := (hK.2.2.1.1 j hj).2.1
  refine W.getf F.1 F.2.1 F.2.2.2.2.1 (F.2.2.2.2.2.1 _ hl) g1 g2 (a := ev_la G 65 j) (cell := cell) ?_ g4 (v := .int 0) g5 rfl rfl d (kk p l e R s mm args below meth c H locs ls Z F RT hH h1 ⟨trivial, h2.2⟩ h3 hS hu hlv)
  rw [show ev_la G 65 j = G.2.2.2.1 65 j from if_neg (by decide), hH.2.1 _ (Nat.not_le.mp g6)]
  exact g3
theorem ev_gvalue {M : ev_M} {j idx : Nat} (hj : j < 22) (hl : Cond.fieldLink k.2.1.cls idx "java/lang/String" "value" "[B" ∈ ev_GW) (d : decode k.1 pc = .ok (.getfield idx, 3)) (kk : ev_E G k b u (pc + 3) L (vr 66 j :: st) M Q) : ev_E G k b u pc L (vr 65 j :: st) M Q := by
  intro p l e R s mm args below meth c H locs ls Z F RT hH h1 h2 h3 hS hu hlv
  have hK := F.2.2.2.2.2.2.2.2.2.2.2.2
  obtain ⟨cf, kf, fi, f, cell, g1, g2, g3, g4, g5, g6⟩ := (hK.2.2.1.1 j hj).2.2.1
  refine W.getf F.1 F.2.1 F.2.2.2.2.1 (F.2.2.2.2.2.1 _ hl) g1 g2 (a := ev_la G 65 j) (cell := cell) ?_ g4 (v := .ref (ev_la G 66 j)) (by rw [show ev_la G 66 j = G.2.2.2.1 66 j from if_neg (by decide)]; exact g5) rfl rfl d (kk p l e R s mm args below meth c H locs ls Z F RT hH h1 ⟨Or.inr (show 60 ≤ 66 by decide), h2.2⟩ h3 hS hu hlv)
  rw [show ev_la G 65 j = G.2.2.2.1 65 j from if_neg (by decide), hH.2.1 _ (Nat.not_le.mp g6)]
  exact g3
theorem ev_alen66 {M : ev_M} {j : Nat} {y : Int32} (hj : j < 22) (hy : Int32.ofNat (ev_strL.getD j 0) = y) (d : decode k.1 pc = .ok (.arraylength, 1)) (kk : ev_E G k b u (pc + 1) L (vi y :: st) M Q) : ev_E G k b u pc L (vr 66 j :: st) M Q := by
  subst hy
  intro p l e R s mm args below meth c H locs ls Z F RT hH h1 h2 h3 hS hu hlv
  have hK := F.2.2.2.2.2.2.2.2.2.2.2.2
  obtain ⟨cell, g1, g2, g3, g4, g5, g6, g7⟩ := (hK.2.2.1.1 j hj).2.2.2
  refine W.alen (n := Int32.ofNat (ev_strL.getD j 0)) F.1 F.2.1 (a := ev_la G 66 j) (cell := cell) ?_ g2 g5 rfl rfl d (kk p l e R s mm args below meth c H locs ls Z F RT hH h1 ⟨trivial, h2.2⟩ h3 hS hu hlv)
  rw [show ev_la G 66 j = G.2.2.2.1 66 j from if_neg (by decide), hH.2.1 _ (Nat.not_le.mp g7)]
  exact g1
theorem ev_bald66 {M : ev_M} {j : Nat} {x : Int32} (hj : j < 22) (hin : vp_in x (ev_strL.getD j 0)) (d : decode k.1 pc = .ok (.baload, 1)) (kk : ev_E G k b u (pc + 1) L (vi ((ev_strB.getD j []).getD x.toNatClampNeg 0) :: st) M Q) : ev_E G k b u pc L (vi x :: vr 66 j :: st) M Q := by
  intro p l e R s mm args below meth c H locs ls Z F RT hH h1 h2 h3 hS hu hlv
  have hK := F.2.2.2.2.2.2.2.2.2.2.2.2
  obtain ⟨cell, g1, g2, g3, g4, g5, g6, g7⟩ := (hK.2.2.1.1 j hj).2.2.2
  have hlt : x.toNatClampNeg < ev_strL.getD j 0 := Nat.not_le.mp fun q => hin (Or.inr q)
  refine W.bald (v := .int ((ev_strB.getD j []).getD x.toNatClampNeg 0)) F.1 F.2.1 (a := ev_la G 66 j) (cell := cell) ?_ g2 g3 (fun z => ?_) (g6 _ hlt) rfl rfl d (kk p l e R s mm args below meth c H locs ls Z F RT hH h1 ⟨trivial, h2.2.2⟩ h3 hS hu hlv)
  · rw [show ev_la G 66 j = G.2.2.2.1 66 j from if_neg (by decide), hH.2.1 _ (Nat.not_le.mp g7)]
    exact g1
  · rcases z with z | z
    · exact hin (Or.inl z)
    · omega
theorem ev_gcs {M : ev_M} {idx : Nat} (hl : Cond.fieldLink k.2.1.cls idx "java/lang/String" "COMPACT_STRINGS" "Z" ∈ ev_GW) (d : decode k.1 pc = .ok (.getstatic idx, 3)) (kk : ev_E G k b u (pc + 3) L (vi 1 :: st) M Q) : ev_E G k b u pc L st M Q := by
  intro p l e R s mm args below meth c H locs ls Z F RT hH h1 h2 h3 hS hu hlv
  have hK := F.2.2.2.2.2.2.2.2.2.2.2.2
  obtain ⟨cf, kf, fi, f, a, cell, g1, g2, g3, g4, g5, g6, g7, g8⟩ := hK.2.2.2.2.2.2.2.2.2.1
  exact W.gets F.1 F.2.1 F.2.2.2.2.1 (F.2.2.2.2.2.1 _ hl) g1 g2 g3 g4 (by rw [hH.2.1 a (Nat.not_le.mp g8)]; exact g5) (fun e => by rw [e] at g6; cases g6) g7 rfl d (kk p l e R s mm args below meth c H locs ls Z F RT hH h1 ⟨trivial, h2⟩ h3 hS hu hlv)
theorem ev_gsio {M : ev_M} {idx : Nat} (hl : Cond.fieldLink k.2.1.cls idx "jdk/internal/util/Preconditions" "SIOOBE_FORMATTER" "Ljava/util/function/BiFunction;" ∈ ev_GW) (d : decode k.1 pc = .ok (.getstatic idx, 3)) (kk : ∀ o : ev_R, ev_E G k b u (pc + 3) L (vq o :: st) M Q) : ev_E G k b u pc L st M Q := by
  intro p l e R s mm args below meth c H locs ls Z F RT hH h1 h2 h3 hS hu hlv
  have hK := F.2.2.2.2.2.2.2.2.2.2.2.2
  rcases hK.2.2.2.2.2.2.2.2.2.2.1 with hz | hz
  · obtain ⟨cf, kf, fi, f, a, cell, g1, g2, g3, g4, g5, g6, g7, g8⟩ := hz
    exact W.gets F.1 F.2.1 F.2.2.2.2.1 (F.2.2.2.2.2.1 _ hl) g1 g2 g3 g4 (by rw [hH.2.1 a (Nat.not_le.mp g8)]; exact g5) (fun e => by rw [e] at g6; cases g6) g7 rfl d (kk none p l e R s mm args below meth c H locs ls Z F RT hH h1 ⟨trivial, h2⟩ h3 hS hu hlv)
  · obtain ⟨cf, kf, fi, f, a, cell, g1, g2, g3, g4, g5, g6, g7, g8⟩ := hz
    exact W.gets F.1 F.2.1 F.2.2.2.2.1 (F.2.2.2.2.2.1 _ hl) g1 g2 g3 g4 (by rw [hH.2.1 a (Nat.not_le.mp g8)]; exact g5) (fun e => by rw [e] at g6; cases g6) g7 rfl d (kk (some (67, 0)) p l e R s mm args below meth c H locs ls Z F RT hH h1 ⟨Or.inr (show 60 ≤ 67 by decide), h2⟩ h3 hS hu hlv)
theorem ev_i2c {M : ev_M} {x y : Int32} (hy : (x.toUInt32 % 65536).toInt32 = y) (d : decode k.1 pc = .ok (.i2c, 1)) (kk : ev_E G k b u (pc + 1) L (vi y :: st) M Q) : ev_E G k b u pc L (vi x :: st) M Q := by
  intro p l e R s mm args below meth c H locs ls Z F RT hH h1 h2 h3 hS hu hlv
  exact lv_i2c F.1 F.2.1 d hy (kk p l e R s mm args below meth c H locs ls Z F RT hH h1 ⟨trivial, h2.2⟩ h3 hS hu hlv)
theorem c_J3_checkIndex {x y : Int32} {o : ev_R} (h1 : ¬ x < 0) (h2 : x < y) : ev_CF G K_J3_checkIndex_8e157 B_J3_checkIndex_8e157 [vi x, vi y, vq o] m (some (vi x)) m := by
  refine ev_Ct_of rfl rfl (Nat.le_of_ble_eq_true rfl) ?_
  refine ev_iload_0 (pc := 0) dJ3_checkIndex_8e157_0 ?_
  refine ev_ifc_lt (pc := 1) (tgt := 9) dJ3_checkIndex_8e157_1 (by decide) (fun c => absurd c h1) (fun c => ?_)
  refine ev_iload_0 (pc := 4) dJ3_checkIndex_8e157_4 ?_
  refine ev_iload_1 (pc := 5) dJ3_checkIndex_8e157_5 ?_
  refine ev_icc_lt (pc := 6) (tgt := 16) dJ3_checkIndex_8e157_6 (by decide) (fun c2 => ?_) (fun c2 => absurd h2 c2)
  refine ev_iload_0 (pc := 16) dJ3_checkIndex_8e157_16 ?_
  exact ev_iret (pc := 17) dJ3_checkIndex_8e157_17 rfl rfl ⟨rfl, rfl⟩
theorem c_J0_checkIndex {x y : Int32} (h1 : ¬ x < 0) (h2 : x < y) : ev_CF G K_J0_checkIndex_df160 B_J0_checkIndex_df160 [vi x, vi y] m none m := by
  refine ev_Ct_of rfl rfl (Nat.le_of_ble_eq_true rfl) ?_
  refine ev_iload_0 (pc := 0) dJ0_checkIndex_df160_0 ?_
  refine ev_iload_1 (pc := 1) dJ0_checkIndex_df160_1 ?_
  refine ev_gsio (pc := 2) wf_J0_1053 dJ0_checkIndex_df160_2 (fun o => ?_)
  refine cl1_J0_1059 (pc := 5) rfl dJ0_checkIndex_df160_5 (by decide) (Nat.le_of_ble_eq_true rfl) (c_J3_checkIndex h1 h2) ?_
  refine ev_pop_i (pc := 8) dJ0_checkIndex_df160_8 ?_
  exact ev_vret (pc := 9) dJ0_checkIndex_df160_9 rfl ⟨rfl, rfl⟩
theorem ev_strB_ok : ∀ j, j < 22 → ∀ i, i < ev_strL.getD j 0 → ∃ c, c < 128 ∧ (ev_strB.getD j []).getD i 0 = nI c := by
  have h : ∀ j, j < 22 → ∀ i, i < ev_strL.getD j 0 → ((List.range 128).any fun c => decide ((ev_strB.getD j []).getD i 0 = nI c)) = true := by decide +kernel
  intro j hj i hi
  obtain ⟨c, hc, he⟩ := List.any_eq_true.mp (h j hj i hi)
  exact ⟨c, List.mem_range.mp hc, of_decide_eq_true he⟩
theorem ev_chr_ok : ∀ c, c < 128 → ((((nI c) &&& 255).toUInt32 % 65536).toInt32 = nI c ∧ narrow .char (.int (nI c)) = .int (nI c)) := by decide +kernel
theorem c_J1_charAt {j : Nat} {x : Int32} (hj : j < 22) (hin : vp_in x (ev_strL.getD j 0)) : ev_CF G K_J1_charAt_3b067 B_J1_charAt_3b067 [vr 66 j, vi x] m (some (vi ((ev_strB.getD j []).getD x.toNatClampNeg 0))) m := by
  have h0 : ¬ x < 0 := fun q => hin (Or.inl q)
  have hlt : x.toNatClampNeg < ev_strL.getD j 0 := Nat.not_le.mp fun q => hin (Or.inr q)
  have hb : ∀ j, j < 22 → ev_strL.getD j 0 < 2 ^ 31 := by decide +kernel
  have h1 : x < Int32.ofNat (ev_strL.getD j 0) := (ev_ltn (hb j hj)).mpr (vp_in_iff.mp hin).2
  obtain ⟨ch, hc, he⟩ := ev_strB_ok j hj _ hlt
  obtain ⟨e1, e2⟩ := ev_chr_ok ch hc
  refine ev_Ct_of rfl rfl (Nat.le_of_ble_eq_true rfl) ?_
  refine ev_iload_1 (pc := 0) dJ1_charAt_3b067_0 ?_
  refine ev_aload_0 (pc := 1) dJ1_charAt_3b067_1 ?_
  refine ev_alen66 (pc := 2) hj rfl dJ1_charAt_3b067_2 ?_
  refine cl0_J1_9 (pc := 3) rfl dJ1_charAt_3b067_3 (by decide) (Nat.le_of_ble_eq_true rfl) (c_J0_checkIndex h0 h1) ?_
  refine ev_aload_0 (pc := 6) dJ1_charAt_3b067_6 ?_
  refine ev_iload_1 (pc := 7) dJ1_charAt_3b067_7 ?_
  refine ev_bald66 (pc := 8) hj hin dJ1_charAt_3b067_8 ?_
  rw [he]
  refine ev_sipush (pc := 9) (v := 255) dJ1_charAt_3b067_9 (by decide) ?_
  refine ev_iand (pc := 12) dJ1_charAt_3b067_12 ?_
  refine ev_i2c (pc := 13) e1 dJ1_charAt_3b067_13 ?_
  exact ev_iret (pc := 14) dJ1_charAt_3b067_14 rfl e2 ⟨rfl, rfl⟩
theorem c_J0_isLatin1 {j : Nat} (hj : j < 22) : ev_CF G K_J0_isLatin1_aae02 B_J0_isLatin1_aae02 [vr 65 j] m (some (vi 1)) m := by
  refine ev_Ct_of rfl rfl (Nat.le_of_ble_eq_true rfl) ?_
  refine ev_gcs (pc := 0) wf_J0_38 dJ0_isLatin1_aae02_0 ?_
  refine ev_ifc_eq (pc := 3) (tgt := 17) dJ0_isLatin1_aae02_3 (by decide) (fun c => absurd c (by decide)) (fun c => ?_)
  refine ev_aload_0 (pc := 6) dJ0_isLatin1_aae02_6 ?_
  refine ev_gcoder (pc := 7) hj wf_J0_15 dJ0_isLatin1_aae02_7 ?_
  refine ev_ifc_ne (pc := 10) (tgt := 17) dJ0_isLatin1_aae02_10 (by decide) (fun c => absurd rfl c) (fun c => ?_)
  refine ev_iconst (pc := 13) (v := 1) dJ0_isLatin1_aae02_13 rfl ?_
  refine ev_goto (pc := 14) (tgt := 18) dJ0_isLatin1_aae02_14 (by decide) ?_
  exact ev_iret (pc := 18) dJ0_isLatin1_aae02_18 rfl rfl ⟨rfl, rfl⟩
theorem c_J0_charAt {j : Nat} {x : Int32} (hj : j < 22) (hin : vp_in x (ev_strL.getD j 0)) : ev_CF G K_J0_charAt_5068e B_J0_charAt_5068e [vr 65 j, vi x] m (some (vi ((ev_strB.getD j []).getD x.toNatClampNeg 0))) m := by
  have hlt : x.toNatClampNeg < ev_strL.getD j 0 := Nat.not_le.mp fun q => hin (Or.inr q)
  obtain ⟨ch, hc, he⟩ := ev_strB_ok j hj _ hlt
  obtain ⟨e1, e2⟩ := ev_chr_ok ch hc
  refine ev_Ct_of rfl rfl (Nat.le_of_ble_eq_true rfl) ?_
  refine ev_aload_0 (pc := 0) dJ0_charAt_5068e_0 ?_
  refine ev_callVs (k' := K_J0_isLatin1_aae02) (pc := 1) (st := []) (As := []) (v := some (vi 1)) (fr := 0) (lo := 0) (idx := 492) hj wl_J0_492 mi_J0_isLatin1_aae02 rfl rfl dJ0_charAt_5068e_1 (by decide) (Nat.le_of_ble_eq_true rfl) rfl (c_J0_isLatin1 hj) ?_
  refine ev_ifc_eq (pc := 4) (tgt := 16) dJ0_charAt_5068e_4 (by decide) (fun c => absurd c (by decide)) (fun c => ?_)
  refine ev_aload_0 (pc := 7) dJ0_charAt_5068e_7 ?_
  refine ev_gvalue (pc := 8) hj wf_J0_9 dJ0_charAt_5068e_8 ?_
  refine ev_iload_1 (pc := 11) dJ0_charAt_5068e_11 ?_
  refine cl1_J0_495 (pc := 12) rfl dJ0_charAt_5068e_12 (by decide) (Nat.le_of_ble_eq_true rfl) (c_J1_charAt hj hin) ?_
  exact ev_iret (pc := 15) dJ0_charAt_5068e_15 rfl (by rw [he]; exact e2) ⟨rfl, rfl⟩
theorem c_J0_coder {j : Nat} (hj : j < 22) : ev_CF G K_J0_coder_7d493 B_J0_coder_7d493 [vr 65 j] m (some (vi 0)) m := by
  refine ev_Ct_of rfl rfl (Nat.le_of_ble_eq_true rfl) ?_
  refine ev_gcs (pc := 0) wf_J0_38 dJ0_coder_7d493_0 ?_
  refine ev_ifc_eq (pc := 3) (tgt := 13) dJ0_coder_7d493_3 (by decide) (fun c => absurd c (by decide)) (fun c => ?_)
  refine ev_aload_0 (pc := 6) dJ0_coder_7d493_6 ?_
  refine ev_gcoder (pc := 7) hj wf_J0_15 dJ0_coder_7d493_7 ?_
  refine ev_goto (pc := 10) (tgt := 14) dJ0_coder_7d493_10 (by decide) ?_
  exact ev_iret (pc := 14) dJ0_coder_7d493_14 rfl rfl ⟨rfl, rfl⟩
theorem c_J0_length {j : Nat} (hj : j < 22) : ev_CF G K_J0_length_8abf5 B_J0_length_8abf5 [vr 65 j] m (some (vi (Int32.ofNat (ev_strL.getD j 0)))) m := by
  refine ev_Ct_of rfl rfl (Nat.le_of_ble_eq_true rfl) ?_
  refine ev_aload_0 (pc := 0) dJ0_length_8abf5_0 ?_
  refine ev_gvalue (pc := 1) hj wf_J0_9 dJ0_length_8abf5_1 ?_
  refine ev_alen66 (pc := 4) hj rfl dJ0_length_8abf5_4 ?_
  refine ev_aload_0 (pc := 5) dJ0_length_8abf5_5 ?_
  refine ev_callVs (k' := K_J0_coder_7d493) (pc := 6) (st := [vi (Int32.ofNat (ev_strL.getD j 0))]) (As := []) (v := some (vi 0)) (fr := 0) (lo := 0) (idx := 335) hj wl_J0_335 mi_J0_coder_7d493 rfl rfl dJ0_length_8abf5_6 (by decide) (Nat.le_of_ble_eq_true rfl) rfl (c_J0_coder hj) ?_
  refine ev_ishr (pc := 9) dJ0_length_8abf5_9 ?_
  rw [sb_shr0]
  exact ev_iret (pc := 10) dJ0_length_8abf5_10 rfl rfl ⟨rfl, rfl⟩
theorem ev_slen {j : Nat} {y : Int32} (hc : k.2.1.cls = "HelmHand$Reader") (hy : ev_slo j = some y) (hb : 2 ≤ b.1 ∧ 40 ≤ b.2.1) (hs : ev_cats st ≤ 8) (d : decode k.1 pc = .ok (.invokevirtual 220, 3)) (kk : ev_E G k b u (pc + 3) L (vi y :: st) (ev_emb m) Q) : ev_E G k b u pc L (vr 65 j :: st) (ev_emb m) Q := by
  unfold ev_slo at hy
  by_cases hj : j < 22
  · rw [if_pos hj] at hy
    cases hy
    exact ev_callVs (k' := K_J0_length_8abf5) (As := []) (fr := 1) (lo := 20) (idx := 220) (v := some (vi (Int32.ofNat (ev_strL.getD j 0)))) hj (hc ▸ wl_X4_220) mi_J0_length_8abf5 rfl rfl d ⟨hb.1, hb.2⟩ hs rfl (c_J0_length hj) kk
  · rw [if_neg hj] at hy
    cases hy
theorem ev_schr {j : Nat} {x y : Int32} (hc : k.2.1.cls = "HelmHand$Reader") (hy : ev_sc j x = some y) (hb : 4 ≤ b.1 ∧ 85 ≤ b.2.1) (hs : ev_cats st ≤ 8) (d : decode k.1 pc = .ok (.invokevirtual 225, 3)) (kk : ev_E G k b u (pc + 3) L (vi y :: st) (ev_emb m) Q) : ev_E G k b u pc L (vi x :: vr 65 j :: st) (ev_emb m) Q := by
  unfold ev_sc at hy
  obtain ⟨hin, rfl⟩ := ev_aldE hy
  by_cases hj : j < 22
  · exact ev_callVs (k' := K_J0_charAt_5068e) (As := [vi x]) (fr := 3) (lo := 64) (idx := 225) (v := some (vi ((ev_strB.getD j []).getD x.toNatClampNeg 0))) hj (hc ▸ wl_X4_225) mi_J0_charAt_5068e rfl rfl d ⟨hb.1, hb.2⟩ hs rfl (c_J0_charAt hj hin) kk
  · have : ev_strL.length ≤ j := by show 22 ≤ j; omega
    rw [List.getD_eq_getElem?_getD, List.getElem?_eq_none this] at hin
    exact absurd (vp_in_iff.mp hin) (fun q => by have := q.1; have := q.2; simp at this; omega)
/-- the script -/
theorem ev_slen64 {xs : List Int32} {y : Int32} (hxs : G.2.2.2.2 = xs) (hy : Int32.ofNat xs.length = y) (d : decode k.1 pc = .ok (.arraylength, 1)) (kk : ev_E G k b u (pc + 1) L (vi y :: st) (ev_emb m) Q) : ev_E G k b u pc L (vr 64 0 :: st) (ev_emb m) Q := by
  subst hy
  subst hxs
  intro p l e R s m' args below meth c H locs ls Z F RT hH h1 h2 h3 hS hu hl
  have hX := F.2.2.2.2.2.2.2.2.2.2.2.2.2.2.2.2.1
  obtain ⟨scr, g1, g2, g3, g4, g5⟩ := hX
  have hla : ev_la G 64 0 = G.2.2.2.1 64 0 := if_neg (by decide)
  refine W.alen (n := Int32.ofNat G.2.2.2.2.length) F.1 F.2.1 (a := ev_la G 64 0) (cell := scr) ?_ g2 (by rw [g4] <;> rfl) rfl rfl d (kk p l e R s m' args below meth c H locs ls Z F RT hH h1 ⟨trivial, h2.2⟩ h3 hS hu hl)
  rw [hla, hH.2.1 _ F.2.2.2.2.2.2.2.2.2.2.2.2.2.2.2.2.2.1]
  exact g1
theorem ev_sld {xs : List Int32} {x y : Int32} (hxs : G.2.2.2.2 = xs) (hy : ev_ald (fun k => xs.getD k 0) xs.length x = some y) (d : decode k.1 pc = .ok (.iaload, 1)) (kk : ev_E G k b u (pc + 1) L (vi y :: st) (ev_emb m) Q) : ev_E G k b u pc L (vi x :: vr 64 0 :: st) (ev_emb m) Q := by
  subst hxs
  obtain ⟨hin, rfl⟩ := ev_aldE hy
  intro p l e R s m' args below meth c H locs ls Z F RT hH h1 h2 h3 hS hu hl
  have hX := F.2.2.2.2.2.2.2.2.2.2.2.2.2.2.2.2.1
  obtain ⟨scr, g1, g2, g3, g4, g5⟩ := hX
  have hla : ev_la G 64 0 = G.2.2.2.1 64 0 := if_neg (by decide)
  have hlt : x.toNatClampNeg < G.2.2.2.2.length := Nat.not_le.mp fun q => hin (Or.inr q)
  refine W.iald (v := .int (G.2.2.2.2.getD x.toNatClampNeg 0)) F.1 F.2.1 (a := ev_la G 64 0) (cell := scr) ?_ g2 g3 (by rw [g4]; exact hin) (g5 _ hlt) rfl rfl d (kk p l e R s m' args below meth c H locs ls Z F RT hH h1 ⟨trivial, h2.2.2⟩ h3 hS hu hl)
  rw [hla, hH.2.1 _ F.2.2.2.2.2.2.2.2.2.2.2.2.2.2.2.2.2.1]
  exact g1
end EVS
theorem c_X10_copyRow {G : ev_G} {r i ln : Nat} {m m' : ev_m} {n fr to : Int32} (hr : ev_rk r = .inr 0) (h60 : r < 60) (h23 : r < 23 ∨ 28 ≤ r) (hln : ev_len r = ln) (h : f_X10_copyRow r i ln m n fr to = some m') : ev_CF G K_X10_copyRow B_X10_copyRow [vr r i, vi n, vi fr, vi to] m none m' := by
  refine ev_Ct_of rfl rfl (Nat.le_of_ble_eq_true rfl) ?_
  refine ev_iconst (pc := 0) (v := 0) dX10_copyRow_0 rfl ?_
  refine ev_istore_4 (pc := 1) dX10_copyRow_1 (by decide) rfl ?_
  exact e_lp_X10_copyRow (R := some m') (fun m0 q => by cases q; exact ⟨rfl, rfl⟩) (fun q => by cases q) hr h60 h23 hln 4000 0 m h
