/-! pure: runs that are asked of; harder seas -/
theorem cl_free_k {N i : Nat} {S : Nat → Int32} {kx : ev_m → Option ev_m} (hS : pu_okS S) (hN : N ≤ 400) : ∀ n f k m q, k + n = N → n < f → q.2.2.2.2.1 + n ≤ 400 → cc_S m i S → m.2.2 9 0 0 = none → m.2.2 8 0 0 = some i → m.1 9 0 3 = 0 → cc_q m q →
    ∃ m', lp_X8_steer_10 0 (nI N) f (nI k) m kx = kx m' ∧ m'.2 = m.2 := by
  intro n
  induction n with
  | zero =>
    intro f k m q hk hf hd hcS hr hs h3 hq
    obtain ⟨g, rfl⟩ : ∃ g, f = g + 1 := ⟨f - 1, by omega⟩
    rw [lp_X8_steer_10, if_neg (nI_nlt (by omega) (by omega))]
    exact ⟨m, rfl, rfl⟩
  | succ n ih =>
    intro f k m q hk hf hd hcS hr hs h3 hq
    obtain ⟨g, rfl⟩ : ∃ g, f = g + 1 := ⟨f - 1, by omega⟩
    have ew : f_X2_wants m 0 (some 0) = some (0, m) := by
      unfold f_X2_wants
      rw [pq_let, hr, pq_on0]
    obtain ⟨m2, e3, e4, r2, w2, k2, F2⟩ := cl_move (want := 0) (saw := 0) hcS hS hs hq (by omega)
    rw [lp_X8_steer_10, if_pos (nI_lt (by omega) (by omega)), hq.2.2.2.1, if_pos (show nI q.2.2.2.2.1 < 400 from nI_lt (b := 400) (by omega) (by decide)), ew, pq_sb, e3, pq_sb, nI_1]
    have hF : pq_Fr cc_P m m2 := F2.sub (fun r i h => by
      revert h
      simp only [cc_P, Bool.and_eq_true, bne_iff_ne, Bool.or_eq_true, decide_eq_true_eq]
      omega)
    obtain ⟨m3, f1, f2⟩ := ih g (k + 1) m2 _ (by omega) (by omega) (by show q.2.2.2.2.1 + 1 + n ≤ 400; omega) (hcS.fr hF rfl rfl) (by rw [e4]; exact hr) (by rw [e4]; exact hs) ((k2 0 3).trans h3) r2
    exact ⟨m3, f1, f2.trans e4⟩
theorem cl_sail0k {m : ev_m} {n i : Nat} {S : Nat → Int32} {seed : Int32} (hS : pu_okS S) (hn : n ≤ 400) (hcS : cc_S m i S) :
    ∃ m', f_X8_sail m 0 (some i) none seed (nI n) = some m' ∧ cc_q m' (pu_run0 S seed n) ∧ pb_H (pu_run0 S seed n) ∧ cc_W m' (pu_run0 S seed n).2.2.2.1 n ∧ m'.2.2 8 0 0 = some i ∧ pq_Fr cc_P m m' := by
  obtain ⟨m', e, q, b, w, F⟩ := cl_sail0 (seed := seed) hS hn hcS
  refine ⟨m', e, q, b, w, ?_, F⟩
  obtain ⟨b1, b2, b3, b4⟩ := cl_begin (seed := seed) hcS
  obtain ⟨a1, a2, -, a4⟩ := cl_rel (s_X8_begin m 0 (some i) seed) 0 none
  obtain ⟨m2, e2, s2⟩ := cl_free_k (kx := fun m => some m) (i := i) hS (N := n) (by omega) n 4000 0 (s_X2_relieve (s_X8_begin m 0 (some i) seed) 0 none) (pu_q0 S seed) (by omega) (by omega) (by show 0 + n ≤ 400; omega) ((hcS.fr b4 rfl rfl).fr a4 rfl rfl) (by rw [a1]; rfl) (by rw [a1]; exact b1) a2.2.2 (b2.fr a4 rfl rfl rfl rfl)
  have e3 : f_X8_sail m 0 (some i) none seed (nI n) = some m2 := by
    unfold f_X8_sail
    rw [pq_let]
    unfold f_X8_steer
    rw [pq_let, show (0 : Int32) = nI 0 from rfl, e2, pq_sb]
  rw [e] at e3
  cases e3
  rw [s2, a1]
  exact b1
/-- a run that is asked of, on both sides -/
theorem sl_t {m : ev_m} {c0 c1 c2 c3 s n : Nat} {y : Int32} (hI : iv_B m 0 c0 c1 c2 c3) (hs : s < c0) (hy : (∃ h, h < c1 ∧ y = nI h) ∨ y = -1) (hn : n ≤ 400) (seed : Int32) :
    ∃ q : pu_Q, q.2.2.2.2.1 = n ∧ pb_H q ∧ pb_R q ∧ (∃ m1, f_X9_sailed m 0 (nI s) y seed (nI n) = some (true, m1) ∧ cc_q m1 q ∧ cc_W m1 q.2.2.2.1 q.2.2.2.2.1 ∧ m1.2.2 8 0 0 = some s ∧ cc_S m1 s (pv_S m s) ∧ pq_Fr PI_ m m1) ∧ (∀ m', pq_Fr PI_ m m' → ∃ m2 m3, f_X10_lay (ev_pim m' 10 0 0 0) 0 (nI s) y 1 = some (true, m2) ∧ f_X10_runBy m2 0 (if y = -1 then 0 else 1) seed (nI n) = some m3 ∧ rr_R m3 q ∧ rr_S m3 (pv_S m s) ∧ pq_Fr PR_ m' m3) := by
  have hS := iv_okS hI hs
  have hcS := iv_cS hI hs
  rcases hy with ⟨h, hh, rfl⟩ | rfl
  · have hD := iv_okD hI hh
    have hcD := iv_cD hI hh
    have h31 : h < 2 ^ 31 := by have := hI.1.2.1; omega
    refine ⟨pu_run (pv_S m s) (pv_D m h) seed n, pu_run_d _ _ _ _, pb_H_run hS _ _, pb_R_run hS _ _, ?_, ?_⟩
    · obtain ⟨m', e, q, b, w, l, F⟩ := cl_sail (seed := seed) hD hS hn hcD hcS
      rw [pu_run_d]
      refine ⟨m', ?_, q, w, l, hcS.fr F rfl rfl, F.sub (fun r i h => PC_P r i (PI_C r i h))⟩
      unfold f_X9_sailed
      rw [at_t hI hs, pq_sb, ath_t hI hh, pq_sb, pq_on1, pq_on1]
      unfold jn_X9_sailed_37
      rw [e, pq_sb]
    · intro m' hF
      obtain ⟨m2, e2, t2⟩ := ry_t (z := 1) hI hF hs hh
      obtain ⟨m3, e3, r3, t3⟩ := rf_trial (seed := seed) t2 hS hD hn
      refine ⟨m2, m3, e2, ?_, r3, t3.1, t3.2.2⟩
      rw [if_neg (nI_m1 h31)]
      exact e3
  · refine ⟨pu_run0 (pv_S m s) seed n, pu_run0_d _ _ _, pb_H_run0 hS _ _, pb_R_run0 hS _ _, ?_, ?_⟩
    · obtain ⟨m', e, q, b, w, l, F⟩ := cl_sail0k (seed := seed) hS hn hcS
      rw [pu_run0_d]
      refine ⟨m', ?_, q, w, l, hcS.fr F rfl rfl, F.sub (fun r i h => PC_P r i (PI_C r i h))⟩
      unfold f_X9_sailed
      rw [at_t hI hs, pq_sb, ath_f hI (fun ⟨h, hh, e⟩ => nI_m1 (by have := hI.1.2.1; omega) e.symm), pq_sb, pq_on1, pq_on0, if_pos rfl]
      unfold jn_X9_sailed_37
      rw [e, pq_sb]
    · intro m' hF
      obtain ⟨m2, e2, t2, F2⟩ := ry_n hI hF hs
      obtain ⟨m3, e3, r3, F3⟩ := rf_run0 (seed := seed) hS hn t2
      refine ⟨m2, m3, e2, ?_, r3, t2.fr F3 rfl, F2.trans (F3.sub PR_P)⟩
      rw [if_pos rfl]
      exact e3
theorem sl_l {m m' : ev_m} {c0 c1 c2 c3 s : Nat} {y : Int32} (hI : iv_B m 0 c0 c1 c2 c3) (hF : pq_Fr PI_ m m') (hs : s < c0) (hy : (∃ h, h < c1 ∧ y = nI h) ∨ y = -1) : ∃ m2, f_X10_lay (ev_pim m' 10 0 0 0) 0 (nI s) y 1 = some (true, m2) ∧ pq_Fr PR_ m' m2 := by
  rcases hy with ⟨h, hh, rfl⟩ | rfl
  · obtain ⟨m2, e2, t2⟩ := ry_t (z := 1) hI hF hs hh
    exact ⟨m2, e2, t2.2.2⟩
  · obtain ⟨m2, e2, t2, F2⟩ := ry_n hI hF hs
    exact ⟨m2, e2, F2⟩
theorem sl_f {m : ev_m} {c0 c1 c2 c3 : Nat} {x y seed z : Int32} (hI : iv_B m 0 c0 c1 c2 c3) (hv : ¬ ((∃ s, s < c0 ∧ x = nI s) ∧ ((∃ h, h < c1 ∧ y = nI h) ∨ y = -1))) : f_X9_sailed m 0 x y seed z = some (false, m) ∧ f_X10_lay (ev_pim m 10 0 0 0) 0 x y 1 = some (false, ev_pim m 10 0 0 0) := by
  constructor
  · unfold f_X9_sailed
    by_cases hx : ∃ s, s < c0 ∧ x = nI s
    · obtain ⟨s, hs, rfl⟩ := hx
      rw [at_t hI hs, pq_sb]
      by_cases hy : ∃ h, h < c1 ∧ y = nI h
      · exact absurd ⟨⟨s, hs, rfl⟩, Or.inl hy⟩ hv
      · rw [ath_f hI hy, pq_sb, pq_on1, pq_on0, if_neg (fun e => hv ⟨⟨s, hs, rfl⟩, Or.inr e⟩)]
    · rw [at_f hI hx, pq_sb]
      by_cases hy : ∃ h, h < c1 ∧ y = nI h
      · obtain ⟨h, hh, rfl⟩ := hy
        rw [ath_t hI hh, pq_sb, pq_on0]
      · rw [ath_f hI hy, pq_sb, pq_on0]
  · exact ry_f hI (pq_Fr.refl _ m) (fun ⟨a, b⟩ => hv ⟨a, b.elim Or.inl (fun q => Or.inr q.2)⟩)
theorem z_in {z : Int32} {lo : Nat} (h0 : ¬ z < nI lo) (h1 : ¬ 400 < z) (hl : lo < 2 ^ 31) : ∃ n, lo ≤ n ∧ n ≤ 400 ∧ z = nI n := by
  have h : 0 ≤ z.toInt := by
    rw [fa_lt, nI_toInt hl] at h0
    omega
  obtain ⟨n, hn, rfl⟩ := nI_of (x := z) (by rw [lt_i0]; omega)
  rw [nI_ltI hn hl] at h0
  rw [show (400 : Int32) = nI 400 from rfl, nI_ltI (by decide) hn] at h1
  exact ⟨n, by omega, by omega, rfl⟩
theorem x_no3 {m : ev_m} {x : Int32} (h0 : x ≠ 0) (h1 : x ≠ 1) (h2 : x ≠ 2) (h3 : x ≠ 3) : ¬ s_X10_in m x 0 3 = true := by
  intro h
  obtain ⟨w, -, hw, rfl⟩ := in_F (a := 0) (b := 3) (by decide) (by decide) h
  rcases (show w = 0 ∨ w = 1 ∨ w = 2 ∨ w = 3 by omega) with rfl | rfl | rfl | rfl
  · exact h0 rfl
  · exact h1 rfl
  · exact h2 rfl
  · exact h3 rfl
/-- SECOND -/
theorem k_second {m : ev_m} {c0 c1 c2 c3 : Nat} (hI : iv_B m 0 c0 c1 c2 c3) (x y sd z w : Int32) : kc_ m (fun m => f_X9_second m 0 x y sd z w) (fun m => f_X10_second m 0 x y sd z w) := by
  by_cases hz : s_X10_in m z 0 400 = true
  · obtain ⟨n, -, hn, rfl⟩ := in_F (a := 0) (b := 400) (by decide) (by decide) hz
    have hy : ∀ m : ev_m, s_X10_in m (nI n) 0 400 = true := fun _ => hz
    by_cases hv : (∃ s, s < c0 ∧ x = nI s) ∧ ((∃ h, h < c1 ∧ y = nI h) ∨ y = -1)
    · obtain ⟨⟨s, hs, rfl⟩, hv2⟩ := hv
      obtain ⟨q, hd, hH, hR, ⟨m1, e1, q1, w1, l1, s1, F1⟩, hr⟩ := sl_t hI hs hv2 hn sd
      obtain ⟨m2, m3, e2, e3, r3, s3, F3⟩ := hr m1 F1
      by_cases hw : s_X10_in m w 0 3 = true
      · have hw2 : ∀ m : ev_m, s_X10_in m w 0 3 = true := fun _ => hw
        have hc : f_X9_second m 0 (nI s) y sd (nI n) w = some (if w = 0 then q.1 n else if w = 1 then q.2.1 n else if w = 2 then q.2.2.1 n else q.2.2.2.1 n, m1) := by
          unfold f_X9_second
          rw [if_neg (nI_pos (by omega)), if_neg (show ¬ 400 < nI n from nI_nlt (a := 400) hn (by decide)), e1, pq_sb, if_pos rfl]
          dsimp only
          rw [pq_at (by omega) (by decide), pq_at (by omega) (by decide), pq_at (by omega) (by decide), pq_at (by omega) (by decide), q1.1 n (by omega), q1.2.1 n (by omega), q1.2.2.1 n (by omega), w1 n (by omega)]
          by_cases w0 : w = 0
          · rw [if_pos w0, if_pos w0]
          · rw [if_neg w0, if_neg w0]
            by_cases w1 : w = 1
            · rw [if_pos w1, if_pos w1]
            · rw [if_neg w1, if_neg w1]
              by_cases w2 : w = 2
              · rw [if_pos w2, if_pos w2]
              · rw [if_neg w2, if_neg w2]
                by_cases w3 : w = 3
                · rw [if_pos w3]
                · exact absurd hw (x_no3 w0 w1 w2 w3)
        refine ⟨_, m1, m3, hc, ?_, F1.trans (F3.sub PI_R)⟩
        try dsimp only
        unfold f_X10_second
        rw [pq_let, e2, pq_sb, if_pos rfl, if_pos (hy _), if_pos (hw2 _), pq_let, e3, pq_sb, pq_ald (by omega) (by decide), pq_sb, pq_ald (by omega) (by decide), pq_sb, pq_ald (by omega) (by decide), pq_sb, pq_ald (by omega) (by decide), pq_sb, r3.1.1 n (by omega), r3.1.2.1 n (by omega), r3.1.2.2.1 n (by omega), r3.1.2.2.2.1 n (by omega)]
        split
        · rfl
        · split
          · rfl
          · split <;> rfl
      · have hw2 : ∀ m : ev_m, ¬ s_X10_in m w 0 3 = true := fun _ => hw
        refine ⟨-100000, m1, m2, ?_, ?_, F1.trans ?_⟩
        · try dsimp only
          unfold f_X9_second
          rw [if_neg (nI_pos (by omega)), if_neg (show ¬ 400 < nI n from nI_nlt (a := 400) hn (by decide)), e1, pq_sb, if_pos rfl, if_neg (fun e => hw (by rw [e]; exact in_T (m := m) (n := 0) (a := 0) (b := 3) (by omega) (by omega) (by decide))), if_neg (fun e => hw (by rw [e]; exact in_T (m := m) (n := 1) (a := 0) (b := 3) (by omega) (by omega) (by decide))), if_neg (fun e => hw (by rw [e]; exact in_T (m := m) (n := 2) (a := 0) (b := 3) (by omega) (by omega) (by decide))), if_neg (fun e => hw (by rw [e]; exact in_T (m := m) (n := 3) (a := 0) (b := 3) (by omega) (by omega) (by decide)))]
        · try dsimp only
          unfold f_X10_second
          rw [pq_let, e2, pq_sb, if_pos rfl, if_pos (hy _), if_neg (hw2 _)]
        · obtain ⟨m2', e2', F2'⟩ := sl_l hI F1 hs hv2
          rw [e2] at e2'
          cases e2'
          exact F2'.sub PI_R
    · obtain ⟨f1, f2⟩ := sl_f (seed := sd) (z := nI n) hI hv
      refine ⟨-100000, m, ev_pim m 10 0 0 0, ?_, ?_, PI_pim⟩
      · try dsimp only
        unfold f_X9_second
        rw [if_neg (nI_pos (by omega)), if_neg (show ¬ 400 < nI n from nI_nlt (a := 400) hn (by decide)), f1, pq_sb, if_neg Bool.false_ne_true]
      · try dsimp only
        unfold f_X10_second
        rw [pq_let, f2, pq_sb, if_neg Bool.false_ne_true]
  · have hn : ∀ m : ev_m, ¬ s_X10_in m z 0 400 = true := fun _ => hz
    have hc : f_X9_second m 0 x y sd z w = some (-100000, m) := by
      unfold f_X9_second
      by_cases a1 : z < 0
      · rw [if_pos a1]
      · rw [if_neg a1]
        by_cases a2 : 400 < z
        · rw [if_pos a2]
        · exact absurd (in_y a1 a2) hz
    by_cases hv : (∃ s, s < c0 ∧ x = nI s) ∧ ((∃ h, h < c1 ∧ y = nI h) ∨ y = -1)
    · obtain ⟨⟨s, hs, rfl⟩, hv2⟩ := hv
      obtain ⟨m2, e2, F2⟩ := sl_l hI (pq_Fr.refl _ m) hs hv2
      refine ⟨-100000, m, m2, hc, ?_, F2.sub PI_R⟩
      try dsimp only
      unfold f_X10_second
      rw [pq_let, e2, pq_sb, if_pos rfl, if_neg (hn _)]
    · obtain ⟨f1, f2⟩ := sl_f (seed := sd) (z := z) hI hv
      refine ⟨-100000, m, ev_pim m 10 0 0 0, hc, ?_, PI_pim⟩
      try dsimp only
      unfold f_X10_second
      rw [pq_let, f2, pq_sb, if_neg Bool.false_ne_true]
theorem x_no9 {m : ev_m} {x : Int32} (h0 : x ≠ 0) (h1 : x ≠ 1) (h2 : x ≠ 2) (h3 : x ≠ 3) (h4 : x ≠ 4) (h5 : x ≠ 5) (h6 : x ≠ 6) (h7 : x ≠ 7) (h8 : x ≠ 8) (h9 : x ≠ 9) : ¬ s_X10_in m x 0 9 = true := by
  intro h
  obtain ⟨w, -, hw, rfl⟩ := in_F (a := 0) (b := 9) (by decide) (by decide) h
  rcases (show w = 0 ∨ w = 1 ∨ w = 2 ∨ w = 3 ∨ w = 4 ∨ w = 5 ∨ w = 6 ∨ w = 7 ∨ w = 8 ∨ w = 9 by omega) with rfl | rfl | rfl | rfl | rfl | rfl | rfl | rfl | rfl | rfl
  · exact h0 rfl
  · exact h1 rfl
  · exact h2 rfl
  · exact h3 rfl
  · exact h4 rfl
  · exact h5 rfl
  · exact h6 rfl
  · exact h7 rfl
  · exact h8 rfl
  · exact h9 rfl
/-- RUN -/
theorem k_run {m : ev_m} {c0 c1 c2 c3 : Nat} (hI : iv_B m 0 c0 c1 c2 c3) (x y sd z w : Int32) : kc_ m (fun m => f_X9_run m 0 x y sd z w) (fun m => f_X10_run m 0 x y sd z w) := by
  by_cases hz : s_X10_in m z 1 400 = true
  · obtain ⟨n, hn1, hn, rfl⟩ := in_F (a := 1) (b := 400) (by decide) (by decide) hz
    have hy : ∀ m : ev_m, s_X10_in m (nI n) 1 400 = true := fun _ => hz
    by_cases hv : (∃ s, s < c0 ∧ x = nI s) ∧ ((∃ h, h < c1 ∧ y = nI h) ∨ y = -1)
    · obtain ⟨⟨s, hs, rfl⟩, hv2⟩ := hv
      have hS := iv_okS hI hs
      obtain ⟨q, hd, hH, hR, ⟨m1, e1, q1, w1, l1, s1, F1⟩, hr⟩ := sl_t hI hs hv2 hn sd
      obtain ⟨m2, m3, e2, e3, r3, s3, F3⟩ := hr m1 F1
      have hd4 : q.2.2.2.2.1 ≤ 400 := by omega
      have hc : ∀ a, f_X8_tally m1 0 w = some a → f_X9_run m 0 (nI s) y sd (nI n) w = some (a, m1) := by
        intro a ha
        unfold f_X9_run
        rw [if_neg (show ¬ nI n < 1 from nI_nlt (b := 1) hn1 (by omega)), if_neg (show ¬ 400 < nI n from nI_nlt (a := 400) hn (by decide)), e1, pq_sb, if_pos rfl, ha, pq_sb]
      by_cases hw : s_X10_in m w 0 9 = true
      · have hw2 : ∀ m : ev_m, s_X10_in m w 0 9 = true := fun _ => hw
        have hall : ∃ a, f_X8_tally m1 0 w = some a ∧ f_X10_run m1 0 (nI s) y sd (nI n) w = some (a, m3) := by
          unfold f_X10_run
          rw [pq_let, e2, pq_sb, if_pos rfl, if_pos (hy _), if_pos (hw2 _), pq_let, e3, pq_sb]
          unfold f_X8_tally
          by_cases w0 : w = 0
          · refine ⟨pc_cost (pv_S m s) q, ?_, ?_⟩
            · rw [if_pos w0, cl_cost q1 hH hR hS (s1.1 5 (by decide)) l1 hd4, pq_sb]
            · rw [if_pos w0, rf_cost r3 s3]
          rw [if_neg w0, if_neg w0]
          by_cases w1 : w = 1
          · refine ⟨pa_off q.1 q.2.2.2.2.1, ?_, ?_⟩
            · rw [if_pos w1, cl_off q1 hd4, pq_sb]
            · rw [if_pos w1, r3.2.1.1]
          rw [if_neg w1, if_neg w1]
          by_cases w2 : w = 2
          · refine ⟨(pa_wea q.2.2.1 q.2.2.2.2.1).toInt64, ?_, ?_⟩
            · rw [if_pos w2, cl_wear q1 hR hd4, pq_sb]
            · rw [if_pos w2, r3.2.2.1]
          rw [if_neg w2, if_neg w2]
          by_cases w3 : w = 3
          · refine ⟨pa_los q.1 q.2.2.2.2.1, ?_, ?_⟩
            · rw [if_pos w3, cl_lost q1 hH hd4, pq_sb]
            · rw [if_pos w3, r3.2.1.2.1]
          rw [if_neg w3, if_neg w3]
          by_cases w4 : w = 4
          · refine ⟨(pa_wid q.1 q.2.2.2.2.1).toInt64, ?_, ?_⟩
            · rw [if_pos w4, cl_widest q1 hd4, pq_sb]
            · rw [if_pos w4, r3.2.1.2.2.1]
          rw [if_neg w4, if_neg w4]
          by_cases w5 : w = 5
          · refine ⟨pa_dri q.1 q.2.2.2.2.1, ?_, ?_⟩
            · rw [if_pos w5, cl_drift q1 hd4, pq_sb]
            · rw [if_pos w5, r3.2.1.2.2.2.1]
          rw [if_neg w5, if_neg w5]
          by_cases w6 : w = 6
          · refine ⟨(nI (pa_tim q.1 q.2.2.2.2.1)).toInt64, ?_, ?_⟩
            · rw [if_pos w6, cl_cross q1 hd4, pq_sb]
            · rw [if_pos w6, r3.2.1.2.2.2.2.1]
          rw [if_neg w6, if_neg w6]
          by_cases w7 : w = 7
          · refine ⟨if pc_grow q = true then 1 else 0, ?_, ?_⟩
            · rw [if_pos w7, cl_grows q1 hd4, pq_sb]
              split <;> rfl
            · rw [if_pos w7, rf_grows r3 hd4, pq_sb]
              split <;> rfl
          rw [if_neg w7, if_neg w7]
          by_cases w8 : w = 8
          · refine ⟨(pa_spk q.2.2.1 q.2.2.2.2.1).toInt64, ?_, ?_⟩
            · rw [if_pos w8, cl_spokes q1 hR hd4, pq_sb]
            · rw [if_pos w8, r3.2.2.2.1]
          rw [if_neg w8, if_neg w8]
          by_cases w9 : w = 9
          · refine ⟨(pa_lng q.2.2.1 q.2.2.2.2.1).toInt64, ?_, ?_⟩
            · rw [if_pos w9, cl_waits q1 hR hd4, pq_sb]
            · rw [r3.2.2.2.2.2]
          exact absurd hw (x_no9 w0 w1 w2 w3 w4 w5 w6 w7 w8 w9)
        obtain ⟨a, h1, h2⟩ := hall
        exact ⟨a, m1, m3, hc a h1, h2, F1.trans (F3.sub PI_R)⟩
      · have hw2 : ∀ m : ev_m, ¬ s_X10_in m w 0 9 = true := fun _ => hw
        have hne : ∀ k : Nat, k ≤ 9 → w ≠ nI k := fun k hk e => hw (by rw [e]; exact in_T (m := m) (n := k) (a := 0) (b := 9) (by omega) (by omega) (by decide))
        refine ⟨-9223372036854775808, m1, m2, hc _ ?_, ?_, F1.trans ?_⟩
        · unfold f_X8_tally
          rw [if_neg (show ¬ w = 0 from hne 0 (by decide)), if_neg (show ¬ w = 1 from hne 1 (by decide)), if_neg (show ¬ w = 2 from hne 2 (by decide)), if_neg (show ¬ w = 3 from hne 3 (by decide)), if_neg (show ¬ w = 4 from hne 4 (by decide)), if_neg (show ¬ w = 5 from hne 5 (by decide)), if_neg (show ¬ w = 6 from hne 6 (by decide)), if_neg (show ¬ w = 7 from hne 7 (by decide)), if_neg (show ¬ w = 8 from hne 8 (by decide)), if_neg (show ¬ w = 9 from hne 9 (by decide))]
        · try dsimp only
          unfold f_X10_run
          rw [pq_let, e2, pq_sb, if_pos rfl, if_pos (hy _), if_neg (hw2 _)]
        · obtain ⟨m2', e2', F2'⟩ := sl_l hI F1 hs hv2
          rw [e2] at e2'
          cases e2'
          exact F2'.sub PI_R
    · obtain ⟨f1, f2⟩ := sl_f (seed := sd) (z := nI n) hI hv
      refine ⟨-9223372036854775808, m, ev_pim m 10 0 0 0, ?_, ?_, PI_pim⟩
      · try dsimp only
        unfold f_X9_run
        rw [if_neg (show ¬ nI n < 1 from nI_nlt (b := 1) hn1 (by omega)), if_neg (show ¬ 400 < nI n from nI_nlt (a := 400) hn (by decide)), f1, pq_sb, if_neg Bool.false_ne_true]
      · try dsimp only
        unfold f_X10_run
        rw [pq_let, f2, pq_sb, if_neg Bool.false_ne_true]
  · have hn : ∀ m : ev_m, ¬ s_X10_in m z 1 400 = true := fun _ => hz
    have hc : f_X9_run m 0 x y sd z w = some (-9223372036854775808, m) := by
      unfold f_X9_run
      by_cases a1 : z < 1
      · rw [if_pos a1]
      · rw [if_neg a1]
        by_cases a2 : 400 < z
        · rw [if_pos a2]
        · exact absurd (in_y a1 a2) hz
    by_cases hv : (∃ s, s < c0 ∧ x = nI s) ∧ ((∃ h, h < c1 ∧ y = nI h) ∨ y = -1)
    · obtain ⟨⟨s, hs, rfl⟩, hv2⟩ := hv
      obtain ⟨m2, e2, F2⟩ := sl_l hI (pq_Fr.refl _ m) hs hv2
      refine ⟨-9223372036854775808, m, m2, hc, ?_, F2.sub PI_R⟩
      try dsimp only
      unfold f_X10_run
      rw [pq_let, e2, pq_sb, if_pos rfl, if_neg (hn _)]
    · obtain ⟨f1, f2⟩ := sl_f (seed := sd) (z := z) hI hv
      refine ⟨-9223372036854775808, m, ev_pim m 10 0 0 0, hc, ?_, PI_pim⟩
      try dsimp only
      unfold f_X10_run
      rw [pq_let, f2, pq_sb, if_neg Bool.false_ne_true]
/-- PEAK -/
theorem k_peak {m : ev_m} {c0 c1 c2 c3 : Nat} (hI : iv_B m 0 c0 c1 c2 c3) (x y sd z w : Int32) : kc_ m (fun m => f_X9_peak m 0 x y sd z w) (fun m => f_X10_peak m 0 x y sd z w) := by
  by_cases hz : s_X10_in m z 1 400 = true
  · obtain ⟨n, hn1, hn, rfl⟩ := in_F (a := 1) (b := 400) (by decide) (by decide) hz
    have hy : ∀ m : ev_m, s_X10_in m (nI n) 1 400 = true := fun _ => hz
    by_cases hv : (∃ s, s < c0 ∧ x = nI s) ∧ ((∃ h, h < c1 ∧ y = nI h) ∨ y = -1)
    · obtain ⟨⟨s, hs, rfl⟩, hv2⟩ := hv
      obtain ⟨q, hd, hH, hR, ⟨m1, e1, q1, w1, l1, s1, F1⟩, hr⟩ := sl_t hI hs hv2 hn sd
      obtain ⟨m2, m3, e2, e3, r3, s3, F3⟩ := hr m1 F1
      have hd4 : q.2.2.2.2.1 ≤ 400 := by omega
      have htl := pa_tim_le q.1 q.2.2.2.2.1
      have hc : ∀ a, f_X8_peakAt m1 0 w = some a → f_X9_peak m 0 (nI s) y sd (nI n) w = some (a, m1) := by
        intro a ha
        unfold f_X9_peak
        rw [if_neg (show ¬ nI n < 1 from nI_nlt (b := 1) hn1 (by omega)), if_neg (show ¬ 400 < nI n from nI_nlt (a := 400) hn (by decide)), e1, pq_sb, if_pos rfl, ha, pq_sb]
      by_cases ht : ∃ t, t ≤ pa_tim q.1 q.2.2.2.2.1 ∧ w = nI t
      · obtain ⟨t, ht, rfl⟩ := ht
        refine ⟨_, m1, m3, hc _ (cl_peak_t q1 hd4 ht), ?_, F1.trans (F3.sub PI_R)⟩
        try dsimp only
        unfold f_X10_peak
        rw [pq_let, e2, pq_sb, if_pos rfl, if_pos (hy _), pq_let, e3, pq_sb, r3.2.1.2.2.2.2.1, if_pos (show s_X10_in m3 (nI t) 0 (nI (pa_tim q.1 q.2.2.2.2.1)) = true from in_T (a := 0) (by omega) ht (by omega)), pq_ald (by omega) (by decide), pq_sb, r3.2.1.2.2.2.2.2.2 t ht]
      · refine ⟨_, m1, m3, hc _ (cl_peak_f q1 hd4 (fun t h e => ht ⟨t, h, e⟩)), ?_, F1.trans (F3.sub PI_R)⟩
        try dsimp only
        unfold f_X10_peak
        rw [pq_let, e2, pq_sb, if_pos rfl, if_pos (hy _), pq_let, e3, pq_sb, r3.2.1.2.2.2.2.1, if_neg (fun h => ht (by
          obtain ⟨t, -, h2, e⟩ := in_F (a := 0) (b := pa_tim q.1 q.2.2.2.2.1) (by omega) (by decide) h
          exact ⟨t, h2, e⟩))]
    · obtain ⟨f1, f2⟩ := sl_f (seed := sd) (z := nI n) hI hv
      refine ⟨-1, m, ev_pim m 10 0 0 0, ?_, ?_, PI_pim⟩
      · try dsimp only
        unfold f_X9_peak
        rw [if_neg (show ¬ nI n < 1 from nI_nlt (b := 1) hn1 (by omega)), if_neg (show ¬ 400 < nI n from nI_nlt (a := 400) hn (by decide)), f1, pq_sb, if_neg Bool.false_ne_true]
      · try dsimp only
        unfold f_X10_peak
        rw [pq_let, f2, pq_sb, if_neg Bool.false_ne_true]
  · have hn : ∀ m : ev_m, ¬ s_X10_in m z 1 400 = true := fun _ => hz
    have hc : f_X9_peak m 0 x y sd z w = some (-1, m) := by
      unfold f_X9_peak
      by_cases a1 : z < 1
      · rw [if_pos a1]
      · rw [if_neg a1]
        by_cases a2 : 400 < z
        · rw [if_pos a2]
        · exact absurd (in_y a1 a2) hz
    by_cases hv : (∃ s, s < c0 ∧ x = nI s) ∧ ((∃ h, h < c1 ∧ y = nI h) ∨ y = -1)
    · obtain ⟨⟨s, hs, rfl⟩, hv2⟩ := hv
      obtain ⟨m2, e2, F2⟩ := sl_l hI (pq_Fr.refl _ m) hs hv2
      refine ⟨-1, m, m2, hc, ?_, F2.sub PI_R⟩
      try dsimp only
      unfold f_X10_peak
      rw [pq_let, e2, pq_sb, if_pos rfl, if_neg (hn _)]
    · obtain ⟨f1, f2⟩ := sl_f (seed := sd) (z := z) hI hv
      refine ⟨-1, m, ev_pim m 10 0 0 0, hc, ?_, PI_pim⟩
      try dsimp only
      unfold f_X10_peak
      rw [pq_let, f2, pq_sb, if_neg Bool.false_ne_true]
