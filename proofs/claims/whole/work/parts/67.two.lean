/-! pure: two hands: change, parted, both -/
/-- a run of one, then of the other -/
def pu_ch (S D E : Nat → Int32) (k n : Nat) : pu_Q := pu_steer S E (n - k) (pu_steer S D k (pu_q0 S 0))
theorem pu_steer_d (S D : Nat → Int32) (n : Nat) (q : pu_Q) : (pu_steer S D n q).2.2.2.2.1 = q.2.2.2.2.1 + n := pu_go_d S D n _
theorem pb_H_steer {S D : Nat → Int32} {n : Nat} {q : pu_Q} (h : pb_H q) : pb_H (pu_steer S D n q) := pb_H_go n _ h
theorem pb_R_steer {S D : Nat → Int32} (hS : pu_okS S) {n : Nat} {q : pu_Q} (h : pb_R q) : pb_R (pu_steer S D n q) := pb_R_go hS n _ h
theorem pu_ch_d {S D E : Nat → Int32} {k n : Nat} (h : k ≤ n) : (pu_ch S D E k n).2.2.2.2.1 = n := by
  unfold pu_ch
  rw [pu_steer_d, pu_steer_d]
  show 0 + k + (n - k) = n
  omega
theorem pu_ch_H {S D E : Nat → Int32} (hS : pu_okS S) (k n : Nat) : pb_H (pu_ch S D E k n) := pb_H_steer (pb_H_steer (pb_q0 hS))
theorem pu_ch_R {S D E : Nat → Int32} (hS : pu_okS S) (k n : Nat) : pb_R (pu_ch S D E k n) := pb_R_steer hS (pb_R_steer hS (pb_R_q0 S 0))
theorem cl_ch {m : ev_m} {i j l k n : Nat} {S D E : Nat → Int32} (hS : pu_okS S) (hD : pu_okD D) (hE : pu_okD E) (hcS : cc_S m i S) (hcD : cc_D m j D) (hcE : cc_D m l E) (hk : k ≤ n) (hn : n ≤ 400) : ∃ m', f_X9_sailChanged m 0 (some i) (some j) (some l) (nI k) (nI n) = some m' ∧ cc_q m' (pu_ch S D E k n) ∧ m'.2.2 8 0 0 = some i ∧ cc_S m' i S ∧ pq_Fr cc_P m m' := by
  obtain ⟨b1, b2, b3, b4⟩ := cl_begin (seed := 0) hcS
  obtain ⟨m2, e2, r2, bb, s2, -, F2⟩ := cl_steer (n := k) hD hS (by omega) (by show 0 ≤ 400; omega) (hcD.fr b4 rfl rfl rfl) (hcS.fr b4 rfl rfl) b1 b2 (pb_q0 hS)
  have hmin : min k (400 - (pu_q0 S 0).2.2.2.2.1) = k := by show min k (400 - 0) = k; omega
  rw [hmin] at r2 bb
  have hF2 := b4.trans F2
  have hd2 := pu_steer_d S D k (pu_q0 S 0)
  have hd2 : (pu_steer S D k (pu_q0 S 0)).2.2.2.2.1 = k := by rw [hd2]; show 0 + k = k; omega
  obtain ⟨m3, e3, r3, b3', s3, -, F3⟩ := cl_steer (n := n - k) hE hS (by omega) (by omega) (hcE.fr hF2 rfl rfl rfl) (hcS.fr hF2 rfl rfl) s2 r2 bb
  have hmin2 : min (n - k) (400 - (pu_steer S D k (pu_q0 S 0)).2.2.2.2.1) = n - k := by rw [hd2]; omega
  rw [hmin2] at r3
  unfold f_X9_sailChanged
  rw [pq_let, e2, pq_sb, pk_sub hk, e3, pq_sb]
  exact ⟨m3, rfl, r3, s3, hcS.fr (hF2.trans F3) rfl rfl, hF2.trans F3⟩
/-- both hands laid in the reference -/
def tw_ (m0 m : ev_m) (S D E : Nat → Int32) : Prop := rr_S m S ∧ rr_H m 0 D ∧ rr_H m 1 E ∧ pq_Fr PR_ m0 m
theorem tw_.fr {m0 m m' : ev_m} {S D E : Nat → Int32} (h : tw_ m0 m S D E) (hF : pq_Fr rr_P m m') : tw_ m0 m' S D E := ⟨h.1.fr hF rfl, h.2.1.fr hF rfl, h.2.2.1.fr hF rfl, h.2.2.2.trans (hF.sub PR_P)⟩
theorem rf_two {m m0 : ev_m} {c0 c1 c2 c3 h2 : Nat} {S D : Nat → Int32} (hI : iv_B m0 0 c0 c1 c2 c3) (h : tr_ m0 m S D) (hh2 : h2 < c1) : ∃ m', f_X10_layHand m 0 1 (nI h2) = some m' ∧ tw_ m0 m' S D (pv_D m0 h2) := by
  obtain ⟨m7, e7, r7, k7, F7⟩ := rf_layHand (m := m) (p := 1) (h := h2) (by decide) (by have := hI.1.2.1; omega)
  have hp7 : (fun k => m.1 36 0 (18 * h2 + k)) = pv_D m0 h2 := by
    funext k
    rw [h.2.2 36 0 _ rfl]
    rfl
  rw [hp7] at r7
  exact ⟨m7, e7, h.1.fr F7 rfl, k7 0 _ (by decide) h.2.1, r7, h.2.2.trans (F7.sub (fun r i q => pv_L41 r i (PR_L r i q)))⟩
theorem rf_ch {m0 m : ev_m} {S D E : Nat → Int32} {k n : Nat} (hS : pu_okS S) (hD : pu_okD D) (hE : pu_okD E) (h : tw_ m0 m S D E) (hk : k ≤ n) (hn : n ≤ 400) : ∃ m2 m3, f_X10_steer (s_X10_begin m 0 0) 0 0 (nI k) = some m2 ∧ f_X10_steer m2 0 1 (nI n - nI k) = some m3 ∧ rr_R m3 (pu_ch S D E k n) ∧ tw_ m0 m3 S D E := by
  obtain ⟨r1, F1⟩ := rf_begin (seed := 0) h.1
  have h1 := h.fr F1
  obtain ⟨m2, e2, r2, F2⟩ := rf_steer (p := 0) (n := k) (by decide) hD hS (by show 0 + k ≤ 400; omega) h1.2.1 h1.1 r1
  have h2 := h1.fr F2
  have hd2 : (pu_steer S D k (pu_q0 S 0)).2.2.2.2.1 = k := by rw [pu_steer_d]; show 0 + k = k; omega
  obtain ⟨m3, e3, r3, F3⟩ := rf_steer (p := 1) (n := n - k) (by decide) hE hS (by omega) h2.2.2.1 h2.1 r2
  exact ⟨m2, m3, e2, by rw [pk_sub hk]; exact e3, r3, h2.fr F3⟩
/-- calls on two hands -/
theorem k_change {m : ev_m} {c0 c1 c2 c3 : Nat} (hI : iv_B m 0 c0 c1 c2 c3) (x y y2 z : Int32) : kc_ m (fun m => f_X9_change m 0 x y y2 z) (fun m => f_X10_change m 0 x y y2 z) := by
  have his1 : ∀ m', pq_Fr PI_ m m' → ∀ x, f_X10_is (ev_pim m' 10 0 0 0) 0 1 x = some (s_X10_in (ev_pim m' 10 0 0 0) x 0 (nI c1 - 1)) := fun m' hF x => rf_is (t := 1) (by decide) (hI.fr (hF.trans PI_pim) (by decide) (m' := ev_pim m' 10 0 0 0)).2.2.1.2.1
  by_cases hv : (∃ s, s < c0 ∧ x = nI s) ∧ (∃ h, h < c1 ∧ y = nI h) ∧ ∃ n, 1 ≤ n ∧ n ≤ 200 ∧ z = nI n
  · by_cases hv2 : ∃ h, h < c1 ∧ y2 = nI h
    · obtain ⟨⟨s, hs, rfl⟩, ⟨h, hh, rfl⟩, n, hn1, hn2, rfl⟩ := hv
      obtain ⟨h2, hh2, rfl⟩ := hv2
      have hS := iv_okS hI hs
      have hD := iv_okD hI hh
      have hE := iv_okD hI hh2
      obtain ⟨c, hc⟩ : ∃ c : Nat → Int64, ∀ k, pc_cost (pv_S m s) (pu_ch (pv_S m s) (pv_D m h) (pv_D m h2) k n) = c k := ⟨fun k => pc_cost (pv_S m s) (pu_ch (pv_S m s) (pv_D m h) (pv_D m h2) k n), fun _ => rfl⟩
      have hcm : ∀ j, j ≤ n → c j < 9223372036854775807 := fun j hj => by
        rw [← hc]
        exact pL_max (pc_cost_b (pu_ch_H hS _ _) (pu_ch_R hS _ _) hS (by rw [pu_ch_d hj]; omega)).2
      obtain ⟨m2, e2, t2⟩ := lp_mem (L := fun f (s' : Int32 × Int64) i m => lp_X9_change_66 0 (nI n) s h h2 f s'.1 s'.2 i m (fun x26 m27 => (some ((x26, m27))))) (kx := fun s m => some (s.1, m)) (T := fun m' => pq_Fr PI_ m m') (N := n + 1) (g := pm_s c (-1) 9223372036854775807 nI) (ix := nI)
        (by
          intro f m'
          rw [lp_X9_change_66, if_pos (nI_lt (by omega) (by omega))])
        (by
          intro f k m' hk hT
          have hI' := hI.fr hT (by decide)
          have hcS : cc_S m' s (pv_S m s) := by rw [← pv_S.fr hT (PI_k (by decide))]; exact iv_cS hI' hs
          have hcD : cc_D m' h (pv_D m h) := by rw [← pv_D.fr hT (PI_k (by decide))]; exact iv_cD hI' hh
          have hcE : cc_D m' h2 (pv_D m h2) := by rw [← pv_D.fr hT (PI_k (by decide))]; exact iv_cD hI' hh2
          obtain ⟨m'', e, q, l, cS, F⟩ := cl_ch (k := k) (n := n) hS hD hE hcS hcD hcE (by omega) (by omega)
          have hd := pu_ch_d (S := pv_S m s) (D := pv_D m h) (E := pv_D m h2) (k := k) (n := n) (by omega)
          have hcost := cl_cost q (pu_ch_H hS _ _) (pu_ch_R hS _ _) hS (cS.1 5 (by decide)) l (by omega)
          rw [hc] at hcost
          refine ⟨m'', ?_, hT.trans (F.sub (fun r i h => PC_P r i (PI_C r i h)))⟩
          have k1 := pm_c1 (c := c) (b0 := -1) (y0 := 9223372036854775807) (v := nI) (hcm k (by omega))
          have k2 := pm_c2 (c := c) (b0 := -1) (y0 := 9223372036854775807) (v := nI) (hcm k (by omega))
          rw [lp_X9_change_66, if_neg (nI_nlt (by omega) (by omega)), e, pq_sb, hcost, pq_sb, pq_sb]
          unfold jn_X9_change_113_66
          rw [nI_1]
          by_cases q2 : c k < (pm_s c (-1) 9223372036854775807 nI k).2
          · rw [if_pos q2] at k1 k2 ⊢
            rw [← k1, ← k2]
          · rw [if_neg q2] at k1 k2 ⊢
            rw [← k1, ← k2])
        (n + 1) 4000 0 m (by omega) (by omega) (pq_Fr.refl _ m)
      obtain ⟨m3, e3, t3⟩ := rk_t hI t2 hs hh hn1 hn2
      have hI2 := hI.fr t2 (by decide)
      obtain ⟨m4, e4, t4⟩ := rf_two hI2 t3 hh2
      rw [pv_D.fr t2 (PI_k (by decide))] at t4
      obtain ⟨m5, e5, t5⟩ := lp_mem (L := fun f (s' : Int32 × Int64) i m => lp_X10_change_42 0 (nI n) f s'.1 s'.2 i m (fun x21 m22 => (some ((x21, m22))))) (kx := fun s m => some (s.1, m)) (T := fun m' => tw_ m2 m' (pv_S m s) (pv_D m h) (pv_D m h2)) (N := n + 1) (g := pm_s c (-1) 0 nI) (ix := nI)
        (by
          intro f m'
          rw [lp_X10_change_42, if_pos (nI_lt (by omega) (by omega))])
        (by
          intro f k m' hk hT
          obtain ⟨ma, mb, ea, eb, r, t⟩ := rf_ch (k := k) (n := n) hS hD hE hT (by omega) (by omega)
          refine ⟨mb, ?_, t⟩
          have hcost := rf_cost r t.1
          rw [hc] at hcost
          rw [lp_X10_change_42, if_neg (nI_nlt (by omega) (by omega)), pq_let, ea, pq_sb, eb, pq_sb, hcost, pq_let, pq_let, nI_1]
          try dsimp only
          rw [pm_r1 (fun j hj => nI_m1 (by omega)), pm_r2 (fun j hj => nI_m1 (by omega))])
        (n + 1) 4000 0 m4 (by omega) (by omega) t4
      refine ⟨(pm_s c (-1) 0 nI (n + 1)).1, m2, m5, ?_, ?_, t2.trans (t5.2.2.2.sub PI_R)⟩
      · try dsimp only
        unfold f_X9_change
        rw [at_t hI hs, pq_sb, ath_t hI hh, pq_sb, ath_t hI hh2, pq_sb, pq_on1, pq_on1, pq_on1, show s_X9_isTrial m (nI n) = true from in_T (m := m) (a := 1) (b := 200) hn1 hn2 (by decide), if_pos rfl]
        refine Eq.trans e2 ?_
        rw [pm_e (k := n + 1) (b1 := -1) (y1 := 0) (by omega)]
      · try dsimp only
        unfold f_X10_change
        rw [pq_let, his1 m2 t2, pq_sb, is_T hh2 (by have := hI.1.2.1; omega), if_pos rfl, e3, pq_sb, if_pos rfl, e4, pq_sb]
        exact e5
    · obtain ⟨⟨s, hs, rfl⟩, ⟨h, hh, rfl⟩, n, hn1, hn2, rfl⟩ := hv
      refine ⟨-1, m, ev_pim m 10 0 0 0, ?_, ?_, PI_pim⟩
      · try dsimp only
        unfold f_X9_change
        rw [at_t hI hs, pq_sb, ath_t hI hh, pq_sb, ath_f hI hv2, pq_sb, pq_on1, pq_on1, pq_on0]
      · try dsimp only
        unfold f_X10_change
        rw [pq_let, his1 m (pq_Fr.refl _ m), pq_sb, if_neg (fun q => hv2 (is_F (by have := hI.1.2.1; omega) q))]
  · have hcl : f_X9_change m 0 x y y2 z = some (-1, m) := by
      unfold f_X9_change
      by_cases hx : ∃ s, s < c0 ∧ x = nI s
      · obtain ⟨s, hs, rfl⟩ := hx
        by_cases hy : ∃ h, h < c1 ∧ y = nI h
        · obtain ⟨h, hh, rfl⟩ := hy
          by_cases hy2 : ∃ h, h < c1 ∧ y2 = nI h
          · obtain ⟨h2, hh2, rfl⟩ := hy2
            rw [at_t hI hs, pq_sb, ath_t hI hh, pq_sb, ath_t hI hh2, pq_sb, pq_on1, pq_on1, pq_on1]
            by_cases ez : s_X9_isTrial m z = true
            · exact absurd ⟨⟨s, hs, rfl⟩, ⟨h, hh, rfl⟩, in_F (m := m) (a := 1) (b := 200) (by decide) (by decide) ez⟩ hv
            · rw [if_neg ez]
          · rw [at_t hI hs, pq_sb, ath_t hI hh, pq_sb, ath_f hI hy2, pq_sb, pq_on1, pq_on1, pq_on0]
        · by_cases hy2 : ∃ h, h < c1 ∧ y2 = nI h
          · obtain ⟨h2, hh2, rfl⟩ := hy2
            rw [at_t hI hs, pq_sb, ath_f hI hy, pq_sb, ath_t hI hh2, pq_sb, pq_on1, pq_on0]
          · rw [at_t hI hs, pq_sb, ath_f hI hy, pq_sb, ath_f hI hy2, pq_sb, pq_on1, pq_on0]
      · have hh : ∀ y, ∃ o, f_X0_handAt m 0 y = some o := fun y => by
          by_cases hy : ∃ h, h < c1 ∧ y = nI h
          · obtain ⟨h, hh, rfl⟩ := hy
            exact ⟨_, ath_t hI hh⟩
          · exact ⟨_, ath_f hI hy⟩
        obtain ⟨o1, e1⟩ := hh y
        obtain ⟨o2, e2⟩ := hh y2
        rw [at_f hI hx, pq_sb, e1, pq_sb, e2, pq_sb, pq_on0]
    refine ⟨-1, m, ev_pim m 10 0 0 0, hcl, ?_, PI_pim⟩
    try dsimp only
    unfold f_X10_change
    rw [pq_let, his1 m (pq_Fr.refl _ m), pq_sb]
    by_cases h2 : s_X10_in (ev_pim m 10 0 0 0) y2 0 (nI c1 - 1) = true
    · rw [if_pos h2, rk_f hI (pq_Fr.refl _ m) hv, pq_sb, if_neg Bool.false_ne_true]
    · rw [if_neg h2]
