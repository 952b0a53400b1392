/-! pure: alone, harder seas, runs that are asked of, better -/
theorem iv_cS {m : ev_m} {c0 c1 c2 c3 s : Nat} (hI : iv_B m 0 c0 c1 c2 c3) (hs : s < c0) : cc_S m s (pv_S m s) := by
  have := (hI.2.2.2.1 s hs).1
  rw [show 2 * 0 + s = s by omega] at this
  exact this
theorem iv_cD {m : ev_m} {c0 c1 c2 c3 s : Nat} (hI : iv_B m 0 c0 c1 c2 c3) (hs : s < c1) : cc_D m s (pv_D m s) := by
  have := (hI.2.2.2.2.1 s hs).1
  rw [show 4 * 0 + s = s by omega] at this
  exact this
theorem at_t {m : ev_m} {c0 c1 c2 c3 s : Nat} (hI : iv_B m 0 c0 c1 c2 c3) (hs : s < c0) : f_X0_shipAt m 0 (nI s) = some (some s) := by
  have := cl_shipAt_t (b := 0) hI.2.1.1 hI.1.1 hs
  rw [show 2 * 0 + s = s by omega] at this
  exact this
theorem at_f {m : ev_m} {c0 c1 c2 c3 : Nat} {x : Int32} (hI : iv_B m 0 c0 c1 c2 c3) (hs : ¬ ∃ s, s < c0 ∧ x = nI s) : f_X0_shipAt m 0 x = some none := cl_shipAt_f (b := 0) hI.2.1.1 hI.1.1 (fun s h e => hs ⟨s, h, e⟩)
theorem ath_t {m : ev_m} {c0 c1 c2 c3 s : Nat} (hI : iv_B m 0 c0 c1 c2 c3) (hs : s < c1) : f_X0_handAt m 0 (nI s) = some (some s) := by
  have := cl_handAt_t (b := 0) hI.2.1.2.1 hI.1.2.1 hs
  rw [show 4 * 0 + s = s by omega] at this
  exact this
theorem ath_f {m : ev_m} {c0 c1 c2 c3 : Nat} {x : Int32} (hI : iv_B m 0 c0 c1 c2 c3) (hs : ¬ ∃ s, s < c1 ∧ x = nI s) : f_X0_handAt m 0 x = some none := cl_handAt_f (b := 0) hI.2.1.2.1 hI.1.2.1 (fun s h e => hs ⟨s, h, e⟩)
/-- the reference's lay, behind the class -/
theorem ry_t {m m' : ev_m} {c0 c1 c2 c3 s h : Nat} {z : Int32} (hI : iv_B m 0 c0 c1 c2 c3) (hF : pq_Fr PI_ m m') (hs : s < c0) (hh : h < c1) : ∃ m'', f_X10_lay (ev_pim m' 10 0 0 0) 0 (nI s) (nI h) z = some (true, m'') ∧ tr_ m' m'' (pv_S m s) (pv_D m h) := by
  have hI' := hI.fr (hF.trans PI_pim) (by decide) (m' := ev_pim m' 10 0 0 0)
  obtain ⟨⟨b0, b1, -, -⟩, -, ⟨r0, r1, -, -⟩, -⟩ := hI'
  obtain ⟨m'', e, h1, h2, h3⟩ := rf_lay_t (x3 := z) r0 r1 b0 b1 hs hh
  rw [pv_S.fr (hF.trans PI_pim) (PI_k (by decide))] at h1
  rw [pv_D.fr (hF.trans PI_pim) (PI_k (by decide))] at h2
  exact ⟨m'', e, h1, h2, ((pq_Fr.refl PR_ m').pim rfl).trans (h3.sub PR_L)⟩
theorem ry_n {m m' : ev_m} {c0 c1 c2 c3 s : Nat} (hI : iv_B m 0 c0 c1 c2 c3) (hF : pq_Fr PI_ m m') (hs : s < c0) : ∃ m'', f_X10_lay (ev_pim m' 10 0 0 0) 0 (nI s) (-1) 1 = some (true, m'') ∧ rr_S m'' (pv_S m s) ∧ pq_Fr PR_ m' m'' := by
  have hI' := hI.fr (hF.trans PI_pim) (by decide) (m' := ev_pim m' 10 0 0 0)
  obtain ⟨⟨b0, b1, -, -⟩, -, ⟨r0, r1, -, -⟩, -⟩ := hI'
  obtain ⟨m'', e, h1, h3⟩ := rf_lay_n r0 r1 b0 b1 hs
  rw [pv_S.fr (hF.trans PI_pim) (PI_k (by decide))] at h1
  exact ⟨m'', e, h1, ((pq_Fr.refl PR_ m').pim rfl).trans (h3.sub PR_L)⟩
theorem ry_f {m m' : ev_m} {c0 c1 c2 c3 : Nat} {x y z : Int32} (hI : iv_B m 0 c0 c1 c2 c3) (hF : pq_Fr PI_ m m') (hn : ¬ ((∃ s, s < c0 ∧ x = nI s) ∧ ((∃ h, h < c1 ∧ y = nI h) ∨ (z ≠ 0 ∧ y = -1)))) : f_X10_lay (ev_pim m' 10 0 0 0) 0 x y z = some (false, ev_pim m' 10 0 0 0) := by
  have hI' := hI.fr (hF.trans PI_pim) (by decide) (m' := ev_pim m' 10 0 0 0)
  obtain ⟨⟨b0, b1, -, -⟩, -, ⟨r0, r1, -, -⟩, -⟩ := hI'
  exact rf_lay_f r0 r1 b0 b1 hn
/-- ALONE -/
def tn_ (m0 m : ev_m) (S : Nat → Int32) : Prop := cc_S m 8 S ∧ pq_Fr PC_ m0 m
def tq_ (m0 m : ev_m) (S : Nat → Int32) : Prop := rr_S m S ∧ pq_Fr PR_ m0 m
def px_W0 (S : Nat → Int32) (n : Nat) : Int32 := pa_wid (pu_run0 S 0 n).1 n
theorem k_alone {m : ev_m} {c0 c1 c2 c3 : Nat} (hI : iv_B m 0 c0 c1 c2 c3) (x z w : Int32) : kc_ m (fun m => f_X9_alone m 0 x z w) (fun m => f_X10_alone m 0 x z w) := by
  by_cases hz : s_X10_in m z 1 200 = true
  · obtain ⟨n, hn1, hn2, rfl⟩ := in_F (a := 1) (b := 200) (by decide) (by decide) hz
    have hy : ∀ m : ev_m, s_X10_in m (nI n) 1 200 = true := fun _ => hz
    have hyc : ∀ m : ev_m, s_X9_isTrial m (nI n) = true := fun _ => hz
    by_cases hx : ∃ s, s < c0 ∧ x = nI s
    · obtain ⟨s, hs, rfl⟩ := hx
      by_cases hw : w < 0
      · refine ⟨-1, m, ev_pim m 10 0 0 0, ?_, ?_, PI_pim⟩
        · try dsimp only
          unfold f_X9_alone
          rw [at_t hI hs, pq_sb, pq_on1, if_pos (hyc _), if_pos hw]
        · try dsimp only
          unfold f_X10_alone
          rw [pq_let, if_pos (hy _), if_pos hw]
      · have hS := iv_okS hI hs
        have hcS := iv_cS hI hs
        obtain ⟨ma, ea, x1, x2, x3, x4⟩ := cl_copyS (m := m) (i := 8) (j := s) (by have := hI.1.1; omega)
        have ta : tn_ m ma (pv_S m s) := ⟨cl_copySR hS hcS x1 x2, fun r i k hp => by
          have := PC_no hp
          exact x3 r i k (by omega)⟩
        obtain ⟨S, eS⟩ : ∃ S, S = pv_S m s := ⟨_, rfl⟩
        rw [← eS] at hS hcS ta
        have hok : ∀ v, pu_okS (upd S 7 v) := fun v => hS.put (by omega)
        have := lp_up (L := fun f x m => lp_X9_alone_40 0 (nI n) w f x m (fun m16 => (some (((-1), m16))))) (T := fun m' => ∃ v, tn_ m m' (upd S 7 v)) (p := fun k => !decide (w < px_W0 (upd S 7 (nI k)) n)) (N := 100)
          (by
            intro f m' hT
            refine ⟨m', ?_, hT⟩
            rw [lp_X9_alone_40, if_pos (by decide)])
          (by
            intro f k m' hk ⟨v, hT1, hT2⟩
            have hS7 : cc_S (s_X5_write m' 8 (nI 7) (nI k)) 8 (upd S 7 (nI k)) := by
              rw [cl_write 7 (by decide)]
              refine ⟨fun c hc => ?_, fun c hc => ?_⟩
              · rw [pq_pim]
                by_cases e : c = 7
                · rw [if_pos ⟨rfl, rfl, e⟩, e, pk_us]
                · rw [if_neg (fun q => e q.2.2), pk_un e, hT1.1 c hc, pk_un e]
              · rw [pk_un (by decide)] at hc
                rw [pq_pim, if_neg (by omega), pk_un (by omega), hT1.2 c (by rw [pk_un (by decide)]; exact hc), pk_un (by omega)]
            obtain ⟨m'', e, q, b, -, F⟩ := cl_sail0 (seed := 0) (n := n) (hok _) (by omega) hS7
            have hd := pu_run0_d (upd S 7 (nI k)) 0 n
            have hw' := cl_widest q (by omega)
            rw [hd] at hw'
            have hw'' : f_X8_widest m'' 0 = some (px_W0 (upd S 7 (nI k)) n).toInt64 := hw'
            refine ⟨m'', ?_, nI k, hS7.fr F rfl rfl, hT2.trans (((pq_Fr.refl PC_ m').pim (r := 3) (i := 8) rfl).trans (by rw [cl_write 7 (by decide)] at F; exact F.sub PC_P))⟩
            rw [lp_X9_alone_40, if_neg (show ¬ 99 < nI k from nI_nlt (a := 99) (by omega) (by decide)), show (7 : Int32) = nI 7 from rfl, pq_let, e, pq_sb, hw'', pq_sb, ite_dec]
            by_cases hw : w < px_W0 (upd S 7 (nI k)) n
            · rw [if_pos ((fa_wide_lt _ _).mpr hw), if_pos hw]
            · rw [if_neg (fun q => hw ((fa_wide_lt _ _).mp q)), if_neg hw])
          100 4000 0 ma (by decide) (by decide) ⟨S 7, by rw [upd_self]; exact ta⟩
        obtain ⟨m2, e2, v2, -, t2⟩ := this
        have hF2 : pq_Fr PI_ m m2 := t2.sub PI_C
        obtain ⟨m3, e3, t3, F3⟩ := ry_n hI hF2 hs
        rw [← eS] at t3
        have := lp_up (L := fun f x m => lp_X10_alone_35 0 (nI n) w f x m (fun m15 => (some (((-1), m15))))) (T := fun m4 => ∃ v, tq_ m2 m4 (upd S 7 v)) (p := fun k => !decide (w < px_W0 (upd S 7 (nI k)) n)) (N := 100)
          (by
            intro f m' hT
            refine ⟨m', ?_, hT⟩
            rw [lp_X10_alone_35, if_pos (by decide)])
          (by
            intro f k m' hk ⟨v, hT1, hT2⟩
            have hS7 : rr_S (ev_pim m' 40 0 7 (nI k)) (upd S 7 (nI k)) := by
              have := hT1.put (k := 7) (v := nI k)
              rw [upd_twice] at this
              exact this
            obtain ⟨m'', e, r, F⟩ := rf_run0 (seed := 0) (n := n) (hok _) (by omega) hS7
            have hd := pu_run0_d (upd S 7 (nI k)) 0 n
            have hw' := r.2.1.2.2.1
            rw [hd] at hw'
            refine ⟨m'', ?_, nI k, hS7.fr F rfl, hT2.trans (((pq_Fr.refl PR_ m').pim rfl).trans (F.sub PR_P))⟩
            rw [lp_X10_alone_35, if_neg (show ¬ 99 < nI k from nI_nlt (a := 99) (by omega) (by decide)), pq_let, e, pq_sb, hw', ite_dec]
            rfl)
          100 4000 0 m3 (by decide) (by decide) ⟨S 7, by rw [upd_self]; exact ⟨t3, F3⟩⟩
        obtain ⟨m4, e4, v4, -, t4⟩ := this
        refine ⟨pz_up (fun k => !decide (w < px_W0 (upd S 7 (nI k)) n)) 0 100, m2, m4, ?_, ?_, hF2.trans (t4.sub PI_R)⟩
        · try dsimp only
          unfold f_X9_alone
          rw [at_t hI hs, pq_sb, pq_on1, if_pos (hyc _), if_neg hw, ea, pq_sb]
          exact e2
        · try dsimp only
          unfold f_X10_alone
          rw [pq_let, if_pos (hy _), if_neg hw, e3, pq_sb, if_pos rfl]
          exact e4
    · refine ⟨-1, m, ev_pim m 10 0 0 0, ?_, ?_, PI_pim⟩
      · try dsimp only
        unfold f_X9_alone
        rw [at_f hI hx, pq_sb, pq_on0]
      · try dsimp only
        unfold f_X10_alone
        rw [pq_let, if_pos (hy _)]
        by_cases hw : w < 0
        · rw [if_pos hw]
        · rw [if_neg hw, ry_f hI (pq_Fr.refl _ m) (fun q => hx q.1), pq_sb, if_neg Bool.false_ne_true]
  · have hn : ∀ m : ev_m, ¬ s_X10_in m z 1 200 = true := fun _ => hz
    have hnc : ∀ m : ev_m, ¬ s_X9_isTrial m z = true := fun _ => hz
    refine ⟨-1, m, ev_pim m 10 0 0 0, ?_, ?_, PI_pim⟩
    · try dsimp only
      unfold f_X9_alone
      by_cases hx : ∃ s, s < c0 ∧ x = nI s
      · obtain ⟨s, hs, rfl⟩ := hx
        rw [at_t hI hs, pq_sb, pq_on1, if_neg (hnc _)]
      · rw [at_f hI hx, pq_sb, pq_on0]
    · try dsimp only
      unfold f_X10_alone
      rw [pq_let, if_neg (hn _)]
/-- BETTER -/
theorem k_better {m : ev_m} {c0 c1 c2 c3 : Nat} (hI : iv_B m 0 c0 c1 c2 c3) (x y y2 z : Int32) : kc_ m (fun m => f_X9_better m 0 x y y2 z) (fun m => f_X10_better m 0 x y y2 z) := by
  by_cases hv : (∃ s, s < c0 ∧ x = nI s) ∧ (∃ h, h < c1 ∧ y = nI h) ∧ ∃ n, 1 ≤ n ∧ n ≤ 200 ∧ z = nI n
  · by_cases hv2 : ∃ h, h < c1 ∧ y2 = nI h
    · obtain ⟨⟨s, hs, rfl⟩, ⟨h, hh, rfl⟩, n, hn1, hn2, rfl⟩ := hv
      obtain ⟨h2, hh2, rfl⟩ := hv2
      have hS := iv_okS hI hs
      have hD := iv_okD hI hh
      have hE := iv_okD hI hh2
      obtain ⟨m1, e1, t1⟩ := cl_ready_t hI hs hh hn1 hn2
      obtain ⟨m2, e2, t2⟩ := cl_trialCost (n := n) t1 hS hD (by omega)
      have F2 : pq_Fr PI_ m m2 := t2.2.2.sub PI_C
      obtain ⟨m3, e3, t3⟩ := cl_ready_t (hI.fr F2 (by decide)) hs hh2 hn1 hn2
      rw [pv_S.fr F2 (PI_k (by decide)), pv_D.fr F2 (PI_k (by decide))] at t3
      obtain ⟨m4, e4, t4⟩ := cl_trialCost (n := n) t3 hS hE (by omega)
      have F4 : pq_Fr PI_ m m4 := F2.trans (t4.2.2.sub PI_C)
      obtain ⟨m5, e5, t5⟩ := rk_t hI F4 hs hh hn1 hn2
      obtain ⟨m6, e6, t6⟩ := rf_trialCost (n := n) t5 hS hD (by omega)
      obtain ⟨m7, e7, r7, -, F7⟩ := rf_layHand (m := m6) (p := 0) (h := h2) (by decide) (by have := hI.1.2.1; omega)
      have hp7 : (fun k => m6.1 36 0 (18 * h2 + k)) = pv_D m h2 := by
        funext k
        rw [t6.2.2 36 0 _ rfl, F4 36 0 _ (PI_k (by decide))]
        rfl
      rw [hp7] at r7
      have t7 : tr_ m4 m7 (pv_S m s) (pv_D m h2) := ⟨t6.1.fr F7 rfl, r7, t6.2.2.trans (F7.sub (fun r i q => pv_L41 r i (PR_L r i q)))⟩
      obtain ⟨m8, e8, t8⟩ := rf_trialCost (n := n) t7 hS hE (by omega)
      have hI4 := hI.fr (F4.trans PI_pim) (by decide) (m' := ev_pim m4 10 0 0 0)
      refine ⟨if px_C (pv_S m s) (pv_D m h) n < px_C (pv_S m s) (pv_D m h2) n then 0 else if px_C (pv_S m s) (pv_D m h2) n < px_C (pv_S m s) (pv_D m h) n then 1 else 2, m4, m8, ?_, ?_, F4.trans (t8.2.2.sub PI_R)⟩
      · try dsimp only
        unfold f_X9_better
        rw [e1, pq_sb, if_pos rfl, e2, pq_sb, pq_let, e3, pq_sb, if_pos rfl, e4, pq_sb, pq_let]
        split
        · rfl
        · split <;> rfl
      · try dsimp only
        unfold f_X10_better
        rw [pq_let, show f_X10_is (ev_pim m4 10 0 0 0) 0 1 (nI h2) = _ from rf_is (t := 1) (by decide) hI4.2.2.1.2.1, pq_sb, is_T hh2 (by have := hI.1.2.1; omega), if_pos rfl, e5, pq_sb, if_pos rfl, e6, pq_sb, pq_let, show f_X10_layHand m6 0 0 (nI h2) = _ from e7, pq_sb, e8, pq_sb, pq_let]
        split
        · rfl
        · split <;> rfl
    · obtain ⟨⟨s, hs, rfl⟩, ⟨h, hh, rfl⟩, n, hn1, hn2, rfl⟩ := hv
      have hS := iv_okS hI hs
      have hD := iv_okD hI hh
      obtain ⟨m1, e1, t1⟩ := cl_ready_t hI hs hh hn1 hn2
      obtain ⟨m2, e2, t2⟩ := cl_trialCost (n := n) t1 hS hD (by omega)
      have F2 : pq_Fr PI_ m m2 := t2.2.2.sub PI_C
      have hI2 := hI.fr (F2.trans PI_pim) (by decide) (m' := ev_pim m2 10 0 0 0)
      refine ⟨-1, m2, ev_pim m2 10 0 0 0, ?_, ?_, F2.trans PI_pim⟩
      · try dsimp only
        unfold f_X9_better
        rw [e1, pq_sb, if_pos rfl, e2, pq_sb, pq_let, cl_ready_f (hI.fr F2 (by decide)) (fun q => hv2 q.2.1), pq_sb, if_neg Bool.false_ne_true]
      · try dsimp only
        unfold f_X10_better
        rw [pq_let, show f_X10_is (ev_pim m2 10 0 0 0) 0 1 y2 = _ from rf_is (t := 1) (by decide) hI2.2.2.1.2.1, pq_sb, if_neg (fun q => hv2 (is_F (by have := hI.1.2.1; omega) q))]
  · refine ⟨-1, m, ev_pim m 10 0 0 0, ?_, ?_, PI_pim⟩
    · try dsimp only
      unfold f_X9_better
      rw [cl_ready_f hI hv, pq_sb, if_neg Bool.false_ne_true]
    · have hI2 := hI.fr PI_pim (by decide) (m' := ev_pim m 10 0 0 0)
      try dsimp only
      unfold f_X10_better
      rw [pq_let, show f_X10_is (ev_pim m 10 0 0 0) 0 1 y2 = _ from rf_is (t := 1) (by decide) hI2.2.2.1.2.1, pq_sb]
      by_cases h2 : s_X10_in (ev_pim m 10 0 0 0) y2 0 (nI c1 - 1) = true
      · rw [if_pos h2, rk_f hI (pq_Fr.refl _ m) hv, pq_sb, if_neg Bool.false_ne_true]
      · rw [if_neg h2]
