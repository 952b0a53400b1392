/-! pure: parted, both -/
/-- whether there is a ship, are two hands -/
theorem hat_o {m : ev_m} {c0 c1 c2 c3 : Nat} (hI : iv_B m 0 c0 c1 c2 c3) (y : Int32) : ∃ o, f_X0_handAt m 0 y = some o := by
  by_cases hy : ∃ h, h < c1 ∧ y = nI h
  · obtain ⟨h, hh, rfl⟩ := hy
    exact ⟨_, ath_t hI hh⟩
  · exact ⟨_, ath_f hI hy⟩
theorem pat_o {m : ev_m} {c0 c1 c2 c3 : Nat} (hI : iv_B m 0 c0 c1 c2 c3) (y : Int32) : ∃ o, f_X0_paperAt m 0 y = some o := by
  by_cases hy : ∃ h, h < c2 ∧ y = nI h
  · obtain ⟨h, hh, rfl⟩ := hy
    exact ⟨_, pat_t hI hh⟩
  · exact ⟨_, pat_f hI hy⟩
/-- PARTED -/
theorem k_parted {m : ev_m} {c0 c1 c2 c3 : Nat} (hI : iv_B m 0 c0 c1 c2 c3) (x y y2 z : Int32) : kc_ m (fun m => f_X9_parted m 0 x y y2 z) (fun m => f_X10_parted m 0 x y y2 z) := by
  have his1 : ∀ m', pq_Fr PI_ m m' → ∀ x, f_X10_is (ev_pim m' 10 0 0 0) 0 1 x = some (s_X10_in (ev_pim m' 10 0 0 0) x 0 (nI c1 - 1)) := fun m' hF x => rf_is (t := 1) (by decide) (hI.fr (hF.trans PI_pim) (by decide) (m' := ev_pim m' 10 0 0 0)).2.2.1.2.1
  have his2 : ∀ m', pq_Fr PI_ m m' → ∀ x, f_X10_is (ev_pim m' 10 0 0 0) 0 2 x = some (s_X10_in (ev_pim m' 10 0 0 0) x 0 (nI c2 - 1)) := fun m' hF x => rf_is (t := 2) (by decide) (hI.fr (hF.trans PI_pim) (by decide) (m' := ev_pim m' 10 0 0 0)).2.2.1.2.2.1
  by_cases hv : ((∃ s, s < c0 ∧ x = nI s) ∧ (∃ h, h < c1 ∧ y = nI h)) ∧ (∃ h, h < c1 ∧ y2 = nI h) ∧ ∃ p, p < c2 ∧ z = nI p
  · obtain ⟨⟨⟨s, hs, rfl⟩, h, hh, rfl⟩, ⟨h2, hh2, rfl⟩, p, hp, rfl⟩ := hv
    have hp2 : p < 2 := by have := hI.1.2.2.1; omega
    obtain ⟨n, hn1, hn2, h0, hB⟩ := iv_okP hI hp
    have hP := iv_cP hI hp
    have hS := iv_okS hI hs
    have hD := iv_okD hI hh
    have hE := iv_okD hI hh2
    obtain ⟨a, ha⟩ : ∃ a : Nat → Int32, ∀ k, pp_ap (pv_P m p) (pu_ch (pv_S m s) (pv_D m h) (pv_D m h2) k n).1 n = a k := ⟨fun k => pp_ap (pv_P m p) (pu_ch (pv_S m s) (pv_D m h) (pv_D m h2) k n).1 n, fun _ => rfl⟩
    have ham : ∀ j, j ≤ n → a j < 2147483647 := fun j hj => by
      have := pp_ap_b (q := pu_ch (pv_S m s) (pv_D m h) (pv_D m h2) j n) hB hn2 (pu_ch_H hS _ _) (by rw [pu_ch_d hj]; exact Nat.le_refl _) n (Nat.le_refl _)
      rw [← ha, fa_lt, show (2147483647 : Int32).toInt = 2147483647 from rfl]
      omega
    obtain ⟨m2, e2, t2⟩ := lp_memT (L := fun f (s' : Int32 × Int32) i m => lp_X9_parted_74 0 s h h2 p f s'.1 s'.2 i m (fun x24 m25 => (some ((x24, m25))))) (kx := fun s m => some (s.1, m)) (T := fun m' => pq_Fr PI_ m m') (N := n + 1) (g := pm_j a nI) (ix := nI)
      (by
        intro f m' hT
        have hP' : cp_P m' p (pv_P m p) := hP.fr hT (PI_s (by omega)) (PI_s (by omega))
        rw [lp_X9_parted_74, hP'.1, h0, if_pos (nI_lt (by omega) (by omega))])
      (by
        intro f k m' hk hT
        have hI' := hI.fr hT (by decide)
        have hP' : cp_P m' p (pv_P m p) := hP.fr hT (PI_s (by omega)) (PI_s (by omega))
        have hcS : cc_S m' s (pv_S m s) := by rw [← pv_S.fr hT (PI_k (by decide))]; exact iv_cS hI' hs
        have hcD : cc_D m' h (pv_D m h) := by rw [← pv_D.fr hT (PI_k (by decide))]; exact iv_cD hI' hh
        have hcE : cc_D m' h2 (pv_D m h2) := by rw [← pv_D.fr hT (PI_k (by decide))]; exact iv_cD hI' hh2
        obtain ⟨m'', e, q, l, cS, F⟩ := cl_ch (k := k) (n := n) hS hD hE hcS hcD hcE (by omega) (by omega)
        have hd := pu_ch_d (S := pv_S m s) (D := pv_D m h) (E := pv_D m h2) (k := k) (n := n) (by omega)
        have hcost := cl_ap (hP'.fr F rfl rfl) h0 hn2 q (by omega)
        rw [ha] at hcost
        refine ⟨m'', ?_, hT.trans (F.sub (fun r i h => PC_P r i (PI_C r i h)))⟩
        rw [lp_X9_parted_74, hP'.1, h0, if_neg (nI_nlt (by omega) (by omega)), e, pq_sb, hcost, pq_sb, pq_let, pq_let, nI_1]
        try dsimp only
        rw [pm_j1 (ham k (by omega)), pm_j2 (ham k (by omega))])
      (n + 1) 4000 0 m (by omega) (by omega) (pq_Fr.refl _ m)
    obtain ⟨m3, e3, t3⟩ := ry_t (z := 0) hI t2 hs hh
    have hI2 := hI.fr t2 (by decide)
    obtain ⟨m4, e4, t4⟩ := rf_two hI2 t3 hh2
    rw [pv_D.fr t2 (PI_k (by decide))] at t4
    have hpv : pv_P m2 p = pv_P m p := pv_P.fr t2 (PI_k (by decide)) p
    obtain ⟨m5, e5, t5⟩ := lp_mem (L := fun f (s' : Int32 × Int64) i m => lp_X10_parted_63 0 (nI p) (nI n) f s'.1 s'.2 i m (fun x31 m32 => (some ((x31, m32))))) (kx := fun s m => some (s.1, m)) (T := fun m' => tw_ m2 m' (pv_S m s) (pv_D m h) (pv_D m h2)) (N := n + 1) (g := pm_s (fun j => (a j).toInt64) (-1) 0 nI) (ix := nI)
      (by
        intro f m'
        rw [lp_X10_parted_63, if_pos (nI_lt (by omega) (by omega))])
      (by
        intro f k m' hk hT
        obtain ⟨ma, mb, ea, eb, r, t⟩ := rf_ch (k := k) (n := n) hS hD hE hT (by omega) (by omega)
        refine ⟨mb, ?_, t⟩
        have hcost := rf_ap (q := pu_ch (pv_S m s) (pv_D m h) (pv_D m h2) k n) hp2 ((pv_P.fr t.2.2.2 rfl p).trans hpv) h0 hB hn2 r (pu_ch_H hS _ _) (by rw [pu_ch_d (by omega)]; exact Nat.le_refl _)
        rw [ha] at hcost
        have key := pm_r (c := fun j => (a j).toInt64) (y0 := 0) (v := nI) (k := k) (fun j hj => nI_m1 (by omega))
        have k1 := congrArg Prod.fst key
        have k2 := congrArg Prod.snd key
        dsimp only at k1 k2
        rw [lp_X10_parted_63, if_neg (nI_nlt (by omega) (by omega)), pq_let, ea, pq_sb, eb, pq_sb]
        unfold jn_X10_parted_110_63 jn_X10_parted_122_63
        rw [hcost, pq_sb, pq_sb, nI_1]
        by_cases q1 : (pm_s (fun j => (a j).toInt64) (-1) 0 nI k).1 = -1
        · rw [if_pos q1] at k1 k2 ⊢
          rw [← k1, ← k2]
        · rw [if_neg q1] at k1 k2 ⊢
          by_cases q2 : (a k).toInt64 < (pm_s (fun j => (a j).toInt64) (-1) 0 nI k).2
          · rw [if_pos q2] at k1 k2 ⊢
            rw [← k1, ← k2]
          · rw [if_neg q2] at k1 k2 ⊢
            rw [← k1, ← k2])
      (n + 1) 4000 0 m4 (by omega) (by omega) t4
    refine ⟨(pm_j a nI (n + 1)).1, m2, m5, ?_, ?_, t2.trans (t5.2.2.2.sub PI_R)⟩
    · try dsimp only
      unfold f_X9_parted
      rw [at_t hI hs, pq_sb, ath_t hI hh, pq_sb, ath_t hI hh2, pq_sb, pat_t hI hp, pq_sb, pq_on1, pq_on1, pq_on1, pq_on1]
      exact e2
    · try dsimp only
      unfold f_X10_parted
      rw [pq_let, his1 m2 t2, pq_sb, is_T hh2 (by have := hI.1.2.1; omega), if_pos rfl, his2 m2 t2, pq_sb, is_T hp (by have := hI.1.2.2.1; omega), if_pos rfl, e3, pq_sb, if_pos rfl, e4, pq_sb, rf_pn hp2 ((pv_P.fr t4.2.2.2 rfl p).trans hpv) h0, pq_sb]
      refine Eq.trans e5 ?_
      rw [pm_j_e (y0 := 0)]
  · have hcl : f_X9_parted m 0 x y y2 z = some (-1, m) := by
      unfold f_X9_parted
      obtain ⟨o1, e1⟩ := hat_o hI y
      obtain ⟨o2, e2⟩ := hat_o hI y2
      obtain ⟨o3, e3⟩ := pat_o hI z
      by_cases hx : ∃ s, s < c0 ∧ x = nI s
      · obtain ⟨s, hs, rfl⟩ := hx
        by_cases hy : ∃ h, h < c1 ∧ y = nI h
        · obtain ⟨h, hh, rfl⟩ := hy
          by_cases hy2 : ∃ h, h < c1 ∧ y2 = nI h
          · obtain ⟨h2, hh2, rfl⟩ := hy2
            by_cases hz : ∃ p, p < c2 ∧ z = nI p
            · exact absurd ⟨⟨⟨s, hs, rfl⟩, h, hh, rfl⟩, ⟨h2, hh2, rfl⟩, hz⟩ hv
            · rw [at_t hI hs, pq_sb, ath_t hI hh, pq_sb, ath_t hI hh2, pq_sb, pat_f hI hz, pq_sb, pq_on1, pq_on1, pq_on1, pq_on0]
          · rw [at_t hI hs, pq_sb, ath_t hI hh, pq_sb, ath_f hI hy2, pq_sb, e3, pq_sb, pq_on1, pq_on1, pq_on0]
        · rw [at_t hI hs, pq_sb, ath_f hI hy, pq_sb, e2, pq_sb, e3, pq_sb, pq_on1, pq_on0]
      · rw [at_f hI hx, pq_sb, e1, pq_sb, e2, pq_sb, e3, pq_sb, pq_on0]
    by_cases h1 : s_X10_in (ev_pim m 10 0 0 0) y2 0 (nI c1 - 1) = true
    · by_cases h2 : s_X10_in (ev_pim m 10 0 0 0) z 0 (nI c2 - 1) = true
      · refine ⟨-1, m, ev_pim m 10 0 0 0, hcl, ?_, PI_pim⟩
        try dsimp only
        unfold f_X10_parted
        rw [pq_let, his1 m (pq_Fr.refl _ m), pq_sb, if_pos h1, his2 m (pq_Fr.refl _ m), pq_sb, if_pos h2, ry_f hI (pq_Fr.refl _ m) (fun q => hv ⟨⟨q.1, q.2.elim id (fun r => absurd rfl r.1)⟩, is_F (by have := hI.1.2.1; omega) h1, is_F (by have := hI.1.2.2.1; omega) h2⟩), pq_sb, if_neg Bool.false_ne_true]
      · refine ⟨-1, m, ev_pim m 10 0 0 0, hcl, ?_, PI_pim⟩
        try dsimp only
        unfold f_X10_parted
        rw [pq_let, his1 m (pq_Fr.refl _ m), pq_sb, if_pos h1, his2 m (pq_Fr.refl _ m), pq_sb, if_neg h2]
    · refine ⟨-1, m, ev_pim m 10 0 0 0, hcl, ?_, PI_pim⟩
      try dsimp only
      unfold f_X10_parted
      rw [pq_let, his1 m (pq_Fr.refl _ m), pq_sb, if_neg h1]
/-- two at one wheel, n seconds -/
theorem pu_go2_d (S D E : Nat → Int32) : ∀ n s, (pu_go2 S D E n s).1.2.2.2.2.1 = s.1.2.2.2.2.1 + n
  | 0, s => rfl
  | n + 1, s => by
    rw [pu_go2, pu_go2_d S D E n]
    show s.1.2.2.2.2.1 + 1 + n = _
    omega
theorem pb_H_go2 {S D E : Nat → Int32} : ∀ n s, pb_H s.1 → pb_H (pu_go2 S D E n s).1
  | 0, _, h => h
  | n + 1, s, h => pb_H_go2 n (pu_2 S D E s) (pb_ps (q := (s.1.1, s.1.2.1, s.1.2.2.1, s.1.2.2.2.1, s.1.2.2.2.2.1, pu_sd D s.1.2.2.2.2.2)) h)
theorem pb_R_go2 {S D E : Nat → Int32} (hS : pu_okS S) : ∀ n s, pb_R s.1 → pb_R (pu_go2 S D E n s).1
  | 0, _, h => h
  | n + 1, s, h => pb_R_go2 hS n (pu_2 S D E s) (pb_R_ps (q := (s.1.1, s.1.2.1, s.1.2.2.1, s.1.2.2.2.1, s.1.2.2.2.2.1, pu_sd D s.1.2.2.2.2.2)) hS h)
def pu_q1 (D : Nat → Int32) (q : pu_Q) : pu_Q := (q.1, q.2.1, q.2.2.1, q.2.2.2.1, q.2.2.2.2.1, pu_sd D q.2.2.2.2.2)
def pu_w2 (S D E : Nat → Int32) (q : pu_Q) (a b : pu_A) : Int32 := (pu_wt S D q a + pu_wt S E (pu_q1 D q) b) / 2
theorem pu_2_e (S D E : Nat → Int32) (q : pu_Q) (a b : pu_A) : pu_2 S D E (q, a, b) = (pu_ps S (pu_q1 D q) (pu_w2 S D E q a b) 0 (pu_sd E (pu_q1 D q).2.2.2.2.2), pu_mt S D q a, pu_mt S E (pu_q1 D q) b) := rfl
theorem pu_ps_sd (S : Nat → Int32) (q : pu_Q) (w s seed x : Int32) : pu_ps S (q.1, q.2.1, q.2.2.1, q.2.2.2.1, q.2.2.2.2.1, x) w s seed = pu_ps S q w s seed := rfl
theorem cl_tog_l {N i j l : Nat} {S D E : Nat → Int32} {kx : ev_m → Option ev_m} (hD : pu_okD D) (hE : pu_okD E) (hS : pu_okS S) (hN : N ≤ 400) : ∀ n f k m q a b, k + n = N → n < f → q.2.2.2.2.1 + n ≤ 400 → a.1 + n < 2 ^ 20 → b.1 + n < 2 ^ 20 → cc_D m j D → cc_D m l E → cc_S m i S → m.2.2 9 0 0 = some j → m.2.2 9 1 0 = some l → m.2.2 8 0 0 = some i → cc_q m q → pb_H q → cc_m m 0 a → cc_m m 1 b →
    ∃ m', lp_X8_steerTogether_19 0 (nI N) f (nI k) m kx = kx m' ∧ cc_q m' (pu_go2 S D E n (q, a, b)).1 ∧ m'.2 = m.2 ∧ pq_Fr cc_P m m' := by
  intro n
  induction n with
  | zero =>
    intro f k m q a b hk hf _ _ _ _ _ _ _ _ _ hq _ _ _
    obtain ⟨g, rfl⟩ : ∃ g, f = g + 1 := ⟨f - 1, by omega⟩
    rw [lp_X8_steerTogether_19, if_neg (nI_nlt (by omega) (by omega))]
    exact ⟨m, rfl, hq, rfl, pq_Fr.refl _ m⟩
  | succ n ih =>
    intro f k m q a b hk hf hd ha hb hcD hcE hcS hr hr2 hs hq hB hm hm2
    obtain ⟨g, rfl⟩ : ∃ g, f = g + 1 := ⟨f - 1, by omega⟩
    rw [lp_X8_steerTogether_19, if_pos (nI_lt (by omega) (by omega)), hq.2.2.2.1, if_pos (show nI q.2.2.2.2.1 < 400 from nI_lt (b := 400) (by omega) (by decide))]
    have hsub : ∀ {m m' : ev_m}, pq_Fr (fun r _ => r != 8 && r != 9) m m' → pq_Fr cc_P m m' := fun hF => hF.sub (fun r i h => by
      revert h
      simp only [cc_P, Bool.and_eq_true, bne_iff_ne, Bool.or_eq_true, decide_eq_true_eq]
      omega)
    obtain ⟨m1, e1, s1, q1, k1, o1, F1⟩ := cl_wants (p := 0) (by decide) hcD hcS hD hS hr hs hq hB hm (by omega) (by omega)
    have F1' := hsub F1
    have q1 : cc_q m1 (pu_q1 D q) := q1
    obtain ⟨m2, e2, s2, q2, k2, o2, F2⟩ := cl_wants (p := 1) (by decide) (hcE.fr F1' rfl rfl rfl) (hcS.fr F1' rfl rfl) hE hS (by rw [s1]; exact hr2) (by rw [s1]; exact hs) q1 (show pb_H (pu_q1 D q) from hB) (o1 1 b (by decide) hm2) (by show q.2.2.2.2.1 ≤ 400; omega) (by omega)
    have F2' := F1'.trans (hsub F2)
    obtain ⟨m3, e3, s3, q3, w3, k3, F3⟩ := cl_move (want := pu_w2 S D E q a b) (saw := 0) (hcS.fr F2' rfl rfl) hS (by rw [s2, s1]; exact hs) q2 (by show q.2.2.2.2.1 < 400; omega)
    have q3 : cc_q m3 (pu_ps S (pu_q1 D q) (pu_w2 S D E q a b) 0 (pu_sd E (pu_q1 D q).2.2.2.2.2)) := by
      have h := pu_ps_sd S (pu_q1 D q) (pu_w2 S D E q a b) 0 (pu_sd E (pu_q1 D q).2.2.2.2.2) (pu_sd E (pu_q1 D q).2.2.2.2.2)
      rw [← h]
      exact q3
    have hF : pq_Fr cc_P m m3 := F2'.trans (F3.sub (fun r i h => by
      revert h
      simp only [cc_P, Bool.and_eq_true, bne_iff_ne, Bool.or_eq_true, decide_eq_true_eq]
      omega))
    rw [e1, pq_sb, pq_let, e2, pq_sb, show (pu_wt S D q a + pu_wt S E (pu_q1 D q) b) / 2 = pu_w2 S D E q a b from rfl, e3, pq_sb, nI_1]
    have hk1 := o2 0 _ (by decide) k1
    obtain ⟨m4, f1, f2, f3, f4⟩ := ih g (k + 1) m3 (pu_ps S (pu_q1 D q) (pu_w2 S D E q a b) 0 (pu_sd E (pu_q1 D q).2.2.2.2.2)) (pu_mt S D q a) (pu_mt S E (pu_q1 D q) b) (by omega) (by omega) (by show q.2.2.2.2.1 + 1 + n ≤ 400; omega) (by show a.1 + 1 + n < 2 ^ 20; omega) (by show b.1 + 1 + n < 2 ^ 20; omega) (hcD.fr hF rfl rfl rfl) (hcE.fr hF rfl rfl rfl) (hcS.fr hF rfl rfl) (by rw [s3, s2, s1]; exact hr) (by rw [s3, s2, s1]; exact hr2) (by rw [s3, s2, s1]; exact hs) q3 (pb_ps (q := pu_q1 D q) hB) ⟨(k3 0 1).trans hk1.1, (k3 0 2).trans hk1.2.1, (k3 0 3).trans hk1.2.2⟩ ⟨(k3 1 1).trans k2.1, (k3 1 2).trans k2.2.1, (k3 1 3).trans k2.2.2⟩
    refine ⟨m4, f1, ?_, by rw [f3, s3, s2, s1], hF.trans f4⟩
    rw [pu_go2, pu_2_e]
    exact f2
theorem rf_tog_l {N : Nat} {S D E : Nat → Int32} {x12 : Int32} {kx : ev_m → Option (Int64 × ev_m)} (hD : pu_okD D) (hE : pu_okD E) (hS : pu_okS S) (hN : N ≤ 400) : ∀ n f k m q a b, k + n = N → n < f → q.2.2.2.2.1 + n ≤ 400 → rr_H m 0 D → rr_H m 1 E → rr_S m S → rr_R m q → rr_m m 0 a q.2.2.2.2.1 → rr_m m 1 b q.2.2.2.2.1 →
    ∃ m', lp_X10_both_53 0 (nI N) x12 f (nI k) m kx = kx m' ∧ rr_R m' (pu_go2 S D E n (q, a, b)).1 ∧ pq_Fr rr_P m m' := by
  intro n
  induction n with
  | zero =>
    intro f k m q a b hk hf _ _ _ _ hq _ _
    obtain ⟨g, rfl⟩ : ∃ g, f = g + 1 := ⟨f - 1, by omega⟩
    rw [lp_X10_both_53, if_neg (nI_nlt (by omega) (by omega))]
    exact ⟨m, rfl, hq, pq_Fr.refl _ m⟩
  | succ n ih =>
    intro f k m q a b hk hf hd hHD hHE hR hq hm hm2
    obtain ⟨g, rfl⟩ : ∃ g, f = g + 1 := ⟨f - 1, by omega⟩
    obtain ⟨m1, e1, r1, k1, o1, F1⟩ := rf_wantsR (p := 0) (by decide) hHD hD hS hR hq hm (by omega)
    have r1 : rr_R m1 (pu_q1 D q) := r1
    obtain ⟨m2, e2, r2, k2, o2, F2⟩ := rf_wantsR (p := 1) (by decide) (hHE.fr F1 rfl) hE hS (hR.fr F1 rfl) r1 (o1 1 b _ (by decide) hm2) (by show q.2.2.2.2.1 ≤ 400; omega)
    obtain ⟨m3, e3, r3, k3, F3⟩ := rf_passR (want := pu_w2 S D E q a b) (saw := 0) hS ((hR.fr F1 rfl).fr F2 rfl) r2 (by show q.2.2.2.2.1 < 400; omega)
    have r3 : rr_R m3 (pu_ps S (pu_q1 D q) (pu_w2 S D E q a b) 0 (pu_sd E (pu_q1 D q).2.2.2.2.2)) := by
      have h := pu_ps_sd S (pu_q1 D q) (pu_w2 S D E q a b) 0 (pu_sd E (pu_q1 D q).2.2.2.2.2) (pu_sd E (pu_q1 D q).2.2.2.2.2)
      rw [← h]
      exact r3
    have hF := (F1.trans F2).trans F3
    rw [lp_X10_both_53, if_pos (nI_lt (by omega) (by omega)), show f_X10_wants m 0 0 = _ from e1, pq_sb, pq_let, show f_X10_wants m1 0 1 = _ from e2, pq_sb, pq_let, show (pu_wt S D q a + pu_wt S E (pu_q1 D q) b) / 2 = pu_w2 S D E q a b from rfl, e3, pq_sb, nI_1]
    obtain ⟨m4, f1, f2, f3⟩ := ih g (k + 1) m3 (pu_ps S (pu_q1 D q) (pu_w2 S D E q a b) 0 (pu_sd E (pu_q1 D q).2.2.2.2.2)) (pu_mt S D q a) (pu_mt S E (pu_q1 D q) b) (by omega) (by omega) (by show q.2.2.2.2.1 + 1 + n ≤ 400; omega) (hHD.fr hF rfl) (hHE.fr hF rfl) (hR.fr hF rfl) r3 (k3 0 _ _ (o2 0 _ _ (by decide) k1)) (k3 1 _ _ k2)
    refine ⟨m4, f1, ?_, hF.trans f3⟩
    rw [pu_go2, pu_2_e]
    exact f2
def pu_bo (S D E : Nat → Int32) (n : Nat) : pu_Q := (pu_go2 S D E n (pu_q0 S 0, (0, 0, 0), (0, 0, 0))).1
/-- BOTH -/
theorem k_both {m : ev_m} {c0 c1 c2 c3 : Nat} (hI : iv_B m 0 c0 c1 c2 c3) (x y y2 z w : Int32) : kc_ m (fun m => f_X9_both m 0 x y y2 z w) (fun m => f_X10_both m 0 x y y2 z w) := by
  have his1 : ∀ m', pq_Fr PI_ m m' → ∀ x, f_X10_is (ev_pim m' 10 0 0 0) 0 1 x = some (s_X10_in (ev_pim m' 10 0 0 0) x 0 (nI c1 - 1)) := fun m' hF x => rf_is (t := 1) (by decide) (hI.fr (hF.trans PI_pim) (by decide) (m' := ev_pim m' 10 0 0 0)).2.2.1.2.1
  by_cases hv : ((∃ s, s < c0 ∧ x = nI s) ∧ (∃ h, h < c1 ∧ y = nI h) ∧ ∃ n, 1 ≤ n ∧ n ≤ 200 ∧ z = nI n) ∧ (∃ h, h < c1 ∧ y2 = nI h)
  · obtain ⟨⟨⟨s, hs, rfl⟩, ⟨h, hh, rfl⟩, n, hn1, hn2, rfl⟩, h2, hh2, rfl⟩ := hv
    have hS := iv_okS hI hs
    have hD := iv_okD hI hh
    have hE := iv_okD hI hh2
    have hcS := iv_cS hI hs
    have hcD := iv_cD hI hh
    have hcE := iv_cD hI hh2
    have hd : (pu_bo (pv_S m s) (pv_D m h) (pv_D m h2) n).2.2.2.2.1 = n := by
      unfold pu_bo
      rw [pu_go2_d]
      show 0 + n = n
      omega
    have hH : pb_H (pu_bo (pv_S m s) (pv_D m h) (pv_D m h2) n) := pb_H_go2 n _ (pb_q0 hS)
    have hR : pb_R (pu_bo (pv_S m s) (pv_D m h) (pv_D m h2) n) := pb_R_go2 hS n _ (pb_R_q0 _ 0)
    obtain ⟨b1, b2, b3, b4⟩ := cl_begin (seed := 0) hcS
    obtain ⟨a1, a2, a3, a4⟩ := cl_rel (s_X8_begin m 0 (some s) 0) 0 (some h)
    obtain ⟨g1, g2, g3, g4⟩ := cl_rel (s_X2_relieve (s_X8_begin m 0 (some s) 0) 0 (some h)) 1 (some h2)
    have hFa := (a4.trans g4).sub cc_P9
    have hFb := b4.trans hFa
    obtain ⟨m2, e2, q2, l2, F2⟩ := cl_tog_l (kx := fun m13 => some m13) (N := n) hD hE hS (by omega) n 4000 0 (s_X2_relieve (s_X2_relieve (s_X8_begin m 0 (some s) 0) 0 (some h)) 1 (some h2)) (pu_q0 (pv_S m s) 0) (0, 0, 0) (0, 0, 0) (by omega) (by omega) (by show 0 + n ≤ 400; omega) (by show 0 + n < 2 ^ 20; omega) (by show 0 + n < 2 ^ 20; omega) (hcD.fr hFb rfl rfl rfl) (hcE.fr hFb rfl rfl rfl) (hcS.fr hFb rfl rfl) (by rw [g1, a1]; rfl) (by rw [g1]; rfl) (by rw [g1, a1]; exact b1) ((b2.fr a4 rfl rfl rfl rfl).fr g4 rfl rfl rfl rfl) (pb_q0 hS) ⟨(g3 0 (by decide) 1).trans a2.1, (g3 0 (by decide) 2).trans a2.2.1, (g3 0 (by decide) 3).trans a2.2.2⟩ g2
    have hF2 : pq_Fr cc_P m m2 := hFb.trans F2
    have hFI : pq_Fr PI_ m m2 := hF2.sub (fun r i h => PC_P r i (PI_C r i h))
    have hl : m2.2.2 8 0 0 = some s := by rw [l2, g1, a1]; exact b1
    have hcost := cl_cost q2 hH hR hS ((hcS.fr hF2 rfl rfl).1 5 (by decide)) hl (by show (pu_bo (pv_S m s) (pv_D m h) (pv_D m h2) n).2.2.2.2.1 ≤ 400; omega)
    have hwid := cl_widest q2 (by show (pu_bo (pv_S m s) (pv_D m h) (pv_D m h2) n).2.2.2.2.1 ≤ 400; omega)
    obtain ⟨m3, e3, t3⟩ := rk_t hI hFI hs hh hn1 hn2
    obtain ⟨m4, e4, t4⟩ := rf_two (hI.fr hFI (by decide)) t3 hh2
    rw [pv_D.fr hFI (PI_k (by decide))] at t4
    obtain ⟨r5, F5⟩ := rf_begin (seed := 0) t4.1
    have t5 := t4.fr F5
    obtain ⟨m6, e6, r6, k6, o6, F6⟩ := rf_takesR (p := 0) (by decide) r5
    have t6 := t5.fr F6
    obtain ⟨m7, e7, r7, k7, o7, F7⟩ := rf_takesR (p := 1) (by decide) r6
    have t7 := t6.fr F7
    obtain ⟨m8, e8, r8, F8⟩ := rf_tog_l (x12 := w) (kx := fun m21 => (if w = 0 then (some ((s_X10_cost m21 0, m21))) else (some (((m21.1 10 0 36).toInt64, m21))))) (N := n) hD hE hS (by omega) n 4000 0 m7 (pu_q0 (pv_S m s) 0) (0, 0, 0) (0, 0, 0) (by omega) (by omega) (by show 0 + n ≤ 400; omega) t7.2.1 t7.2.2.1 t7.1 r7 (o7 0 _ _ (by decide) k6) k7
    have t8 := t7.fr F8
    refine ⟨if w = 0 then pc_cost (pv_S m s) (pu_bo (pv_S m s) (pv_D m h) (pv_D m h2) n) else (pa_wid (pu_bo (pv_S m s) (pv_D m h) (pv_D m h2) n).1 (pu_bo (pv_S m s) (pv_D m h) (pv_D m h2) n).2.2.2.2.1).toInt64, m2, m8, ?_, ?_, hFI.trans (t8.2.2.2.sub PI_R)⟩
    · try dsimp only
      unfold f_X9_both
      rw [at_t hI hs, pq_sb, ath_t hI hh, pq_sb, ath_t hI hh2, pq_sb, pq_on1, pq_on1, pq_on1, show s_X9_isTrial m (nI n) = true from in_T (m := m) (a := 1) (b := 200) hn1 hn2 (by decide), if_pos rfl, pq_let]
      unfold f_X8_steerTogether
      rw [pq_let, pq_let, show lp_X8_steerTogether_19 0 (nI n) 4000 0 (s_X2_relieve (s_X2_relieve (s_X8_begin m 0 (some s) 0) 0 (some h)) 1 (some h2)) (fun m13 => some m13) = _ from e2, pq_sb]
      by_cases hw : w = 0
      · rw [if_pos hw, if_pos hw, hcost, pq_sb]
        rfl
      · rw [if_neg hw, if_neg hw, hwid, pq_sb]
        rfl
    · try dsimp only
      unfold f_X10_both
      rw [pq_let, his1 m2 hFI, pq_sb, is_T hh2 (by have := hI.1.2.1; omega), if_pos rfl, e3, pq_sb, if_pos rfl, e4, pq_sb, pq_let, show f_X10_takes (s_X10_begin m4 0 0) 0 0 = _ from e6, pq_sb, show f_X10_takes m6 0 1 = _ from e7, pq_sb]
      refine Eq.trans e8 ?_
      rw [rf_cost r8 t8.1, r8.2.1.2.2.1]
      by_cases hw : w = 0
      · rw [if_pos hw, if_pos hw]
        rfl
      · rw [if_neg hw, if_neg hw]
        rfl
  · have hcl : f_X9_both m 0 x y y2 z w = some (-1, m) := by
      unfold f_X9_both
      obtain ⟨o1, e1⟩ := hat_o hI y
      obtain ⟨o2, e2⟩ := hat_o hI y2
      by_cases hx : ∃ s, s < c0 ∧ x = nI s
      · obtain ⟨s, hs, rfl⟩ := hx
        by_cases hy : ∃ h, h < c1 ∧ y = nI h
        · obtain ⟨h, hh, rfl⟩ := hy
          by_cases hy2 : ∃ h, h < c1 ∧ y2 = nI h
          · obtain ⟨h2, hh2, rfl⟩ := hy2
            rw [at_t hI hs, pq_sb, ath_t hI hh, pq_sb, ath_t hI hh2, pq_sb, pq_on1, pq_on1, pq_on1]
            by_cases ez : s_X9_isTrial m z = true
            · exact absurd ⟨⟨⟨s, hs, rfl⟩, ⟨h, hh, rfl⟩, in_F (m := m) (a := 1) (b := 200) (by decide) (by decide) ez⟩, h2, hh2, rfl⟩ hv
            · rw [if_neg ez]
          · rw [at_t hI hs, pq_sb, ath_t hI hh, pq_sb, ath_f hI hy2, pq_sb, pq_on1, pq_on1, pq_on0]
        · rw [at_t hI hs, pq_sb, ath_f hI hy, pq_sb, e2, pq_sb, pq_on1, pq_on0]
      · rw [at_f hI hx, pq_sb, e1, pq_sb, e2, pq_sb, pq_on0]
    refine ⟨-1, m, ev_pim m 10 0 0 0, hcl, ?_, PI_pim⟩
    try dsimp only
    unfold f_X10_both
    rw [pq_let, his1 m (pq_Fr.refl _ m), pq_sb]
    by_cases h2 : s_X10_in (ev_pim m 10 0 0 0) y2 0 (nI c1 - 1) = true
    · rw [if_pos h2, rk_f hI (pq_Fr.refl _ m) (fun q => hv ⟨q, is_F (by have := hI.1.2.1; omega) h2⟩), pq_sb, if_neg Bool.false_ne_true]
    · rw [if_neg h2]
