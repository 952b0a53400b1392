/-! pure: the class's run, second by second -/
theorem cl_w67 {m : ev_m} {p i j d t b : Nat} {S D H : Nat → Int32} {sum saw seed : Int32} (hc : cc_D m j D) (hD : pu_okD D) (hS : pu_okS S) (h3 : m.1 3 i 3 = S 3) (hr : m.2.2 9 p 0 = some j) (hs : m.2.2 8 0 0 = some i) (hd : d ≤ 400) (hb : b < 2 ^ 29) (ht : t < 2 ^ 30) (h1 : m.1 8 0 1 = nI d) (h6 : m.1 8 0 6 = seed) (hH : ∀ k, k ≤ d → m.1 18 0 k = H k) (hB : ∀ k, k ≤ d → -18000 ≤ (H k).toInt ∧ (H k).toInt ≤ 18000) (hT : m.1 9 p 1 = nI (t + 1)) (hsum : m.1 9 p 2 = sum) (hsaw : m.1 9 p 3 = saw) :
    ∀ v g s1 w, v = pu_pt D (H (pu_ix (nI d) (nI b)).toNatClampNeg) → g = (if t = 0 then 0 else v - saw) → s1 = pu_wi (sum + v) 9999 → w = pu_wa S D v g s1 (nI (t + 1)) →
    jn_X2_wants_67 m p 0 (nI b) = some (if 0 < D 7 then (if pu_rn (pu_dr seed) < D 7 then m.1 20 0 d else w) else w, if 0 < D 7 then ev_pim (ev_pim (ev_pim m 9 p 2 s1) 9 p 3 v) 8 0 6 (pu_dr seed) else ev_pim (ev_pim m 9 p 2 s1) 9 p 3 v) := by
  intro v g s1 w hv hg hs1 hw
  obtain ⟨x, hx, ex⟩ := pu_ix_ok (d := d) (b := b) (by omega) (by omega)
  have hvb : -18000 ≤ v.toInt ∧ v.toInt ≤ 18000 := by
    rw [hv, ex, nI_clamp (by omega)]
    exact pt_b hD (hB x hx).1 (hB x hx).2
  unfold jn_X2_wants_67
  rw [pq_let, hr, pq_on1, cl_ago hd hb h1 hH, cl_point hc hD, pq_sb, ← hv, pq_let, hT, hsaw, hsum, pu_wi_c m (by decide), ← hs1]
  have eg : (if nI (t + 1) = 1 then (0 : Int32) else v - saw) = g := by
    rw [hg]
    by_cases e : t = 0
    · rw [if_pos ((pu_t1 ht).mpr e), if_pos e]
    · rw [if_neg (fun q => e ((pu_t1 ht).mp q)), if_neg e]
  rw [eg, pq_let, pq_let]
  have g2 : (ev_pim (ev_pim m 9 p 2 s1) 9 p 3 v).1 9 p 2 = s1 := by simp [pq_pim]
  have gT : (ev_pim (ev_pim m 9 p 2 s1) 9 p 3 v).1 9 p 1 = nI (t + 1) := by simp [pq_pim, hT]
  have gr : (ev_pim (ev_pim m 9 p 2 s1) 9 p 3 v).2.2 9 p 0 = some j := hr
  have gs : (ev_pim (ev_pim m 9 p 2 s1) 9 p 3 v).2.2 8 0 0 = some i := hs
  have gF : pq_Fr (fun r _ => r != 9) m (ev_pim (ev_pim m 9 p 2 s1) 9 p 3 v) := ((pq_Fr.refl _ m).pim rfl).pim rfl
  generalize ev_pim (ev_pim m 9 p 2 s1) 9 p 3 v = m26 at *
  have gD : cc_D m26 j D := hc.fr gF rfl rfl rfl
  have g3 : m26.1 3 i 3 = S 3 := (gF 3 i 3 rfl).trans h3
  simp only [pq_let, gr, gs, pq_on1]
  rw [g2, gT, g3, pu_wi_c m26 hS.2.1.1, gD.1 5 (by decide), gD.1 7 (by decide), cl_ruled gD hD hS (by omega), ← hw]
  by_cases h7 : 0 < D 7
  · rw [if_pos h7, if_pos h7, if_pos h7]
    have ed : s_X8_drawn m26 0 = (pu_rn (pu_dr seed), ev_pim m26 8 0 6 (pu_dr seed)) := by
      unfold s_X8_drawn
      rw [pq_let]
      have e6 : m26.1 8 0 6 = seed := (gF 8 0 6 rfl).trans h6
      rw [e6]
      have e7 : (ev_pim m26 8 0 6 (seed * 1103515245 + 12345)).1 8 0 6 = pu_dr seed := by simp [pq_pim, pu_dr]
      rw [e7]
      rfl
    rw [ed]
    dsimp only
    have ej : (ev_pim m26 8 0 6 (pu_dr seed)).2.2 9 p 0 = some j := gr
    have e47 : (ev_pim m26 8 0 6 (pu_dr seed)).1 4 j 7 = D 7 := by simp [pq_pim]; exact gD.1 7 (by decide)
    rw [ej, pq_on1, e47]
    by_cases hsl : pu_rn (pu_dr seed) < D 7
    · rw [if_pos hsl, if_pos hsl]
      unfold s_X8_rudderNow
      have e1 : (ev_pim m26 8 0 6 (pu_dr seed)).1 8 0 1 = nI d := by simp [pq_pim]; exact (gF 8 0 1 rfl).trans h1
      have e2 : (ev_pim m26 8 0 6 (pu_dr seed)).1 20 0 d = m.1 20 0 d := by simp [pq_pim]; exact gF 20 0 d rfl
      rw [e1, pq_at (by omega) (by decide), e2]
    · rw [if_neg hsl, if_neg hsl]
  · rw [if_neg h7, if_neg h7, if_neg h7]
theorem cl_wants {m : ev_m} {p i j : Nat} {S D : Nat → Int32} {q : pu_Q} {a : pu_A} (hp : p < 2) (hc : cc_D m j D) (hcS : cc_S m i S) (hD : pu_okD D) (hS : pu_okS S) (hr : m.2.2 9 p 0 = some j) (hs : m.2.2 8 0 0 = some i) (hq : cc_q m q) (hB : pb_H q) (hm : cc_m m p a) (hd : q.2.2.2.2.1 ≤ 400) (ha : a.1 < 2 ^ 20) :
    ∃ m', f_X2_wants m p (some 0) = some (pu_wt S D q a, m') ∧ m'.2 = m.2 ∧ cc_q m' (q.1, q.2.1, q.2.2.1, q.2.2.2.1, q.2.2.2.2.1, pu_sd D q.2.2.2.2.2) ∧ cc_m m' p (pu_mt S D q a) ∧ (∀ k a0, k ≠ p → cc_m m k a0 → cc_m m' k a0) ∧ pq_Fr (fun r _ => r != 8 && r != 9) m m' := by
  obtain ⟨q18, q19, q20, q1, q6⟩ := hq
  obtain ⟨hT, hsum, hsaw⟩ := hm
  obtain ⟨H, P, R, W, d, seed⟩ := q
  obtain ⟨t, sum, saw⟩ := a
  dsimp only at *
  obtain ⟨b, hb, eb⟩ := pu_back_ok (t := t + 1) hS hD (by omega)
  have hF6 : pq_Fr (fun r _ => r != 9) m (ev_pim m 9 p 1 (nI (t + 1))) := (pq_Fr.refl _ m).pim rfl
  have hc6 : cc_D (ev_pim m 9 p 1 (nI (t + 1))) j D := hc.fr hF6 rfl rfl rfl
  have hcS6 : cc_S (ev_pim m 9 p 1 (nI (t + 1))) i S := hcS.fr hF6 rfl rfl
  have hr6 : (ev_pim m 9 p 1 (nI (t + 1))).2.2 9 p 0 = some j := hr
  have hs6 : (ev_pim m 9 p 1 (nI (t + 1))).2.2 8 0 0 = some i := hs
  have hT6 : (ev_pim m 9 p 1 (nI (t + 1))).1 9 p 1 = nI (t + 1) := by simp [pq_pim]
  have hj := cl_w67 (b := b) (S := S) (t := t) (sum := sum) (saw := saw) (seed := seed) (d := d) (H := H) hc6 hD hS (hcS6.1 3 (by decide)) hr6 hs6 hd (by omega) (by omega) ((hF6 8 0 1 rfl).trans q1) ((hF6 8 0 6 rfl).trans q6) (fun k hk => (hF6 18 0 k rfl).trans (q18 k hk)) hB hT6 (by simp [pq_pim, hsum]) (by simp [pq_pim, hsaw]) (pu_ms S D (H, P, R, W, d, seed) (t, sum, saw)) (pu_gs S D (H, P, R, W, d, seed) (t, sum, saw)) (pu_mt S D (H, P, R, W, d, seed) (t, sum, saw)).2.1 (pu_w0 S D (H, P, R, W, d, seed) (t, sum, saw)) (by unfold pu_ms pu_see; dsimp only; rw [eb]) rfl rfl rfl
  have hrun : f_X2_wants m p (some 0) = jn_X2_wants_67 (ev_pim m 9 p 1 (nI (t + 1))) p 0 (nI b) := by
    unfold f_X2_wants
    rw [pq_let, hr, pq_on1, pq_on1, pq_let, hs, pq_on1, hT, nI_1, pq_let, pq_let, hr6, pq_on1, hT6, cl_star hc6 hD, pq_sb]
    unfold pu_back at eb
    by_cases hst : pu_st D (nI (t + 1)) 0 (D 9).toNatClampNeg = true
    · rw [if_pos hst] at eb
      rw [if_pos hst, ← eb]
    · rw [if_neg hst] at eb
      rw [if_neg hst, pq_let, hs6, pq_on1, pq_let, pq_on1, cl_slow hc6 hD, pq_sb, hcS6.1 2 (by decide), eb]
  rw [hrun, hj]
  have e20 : (ev_pim m 9 p 1 (nI (t + 1))).1 20 0 d = R d := (hF6 20 0 d rfl).trans (q20 d (Nat.le_refl _))
  rw [e20]
  refine ⟨_, rfl, ?_, ⟨?_, ?_, ?_, ?_, ?_⟩, ⟨?_, ?_, ?_⟩, ?_, ?_⟩
  · split <;> rfl
  · intro k hk
    refine Eq.trans ?_ (q18 k hk)
    split <;> simp [pq_pim]
  · intro k hk
    refine Eq.trans ?_ (q19 k hk)
    split <;> simp [pq_pim]
  · intro k hk
    refine Eq.trans ?_ (q20 k hk)
    split <;> simp [pq_pim]
  · rw [← q1]
    split <;> simp [pq_pim]
  · show _ = pu_sd D seed
    unfold pu_sd
    split <;> simp [pq_pim, q6]
  · split <;> simp [pq_pim, pu_mt]
  · split <;> simp [pq_pim]
  · split <;> simp [pq_pim, pu_mt]
  · intro k a0 hk ⟨g1, g2, g3⟩
    refine ⟨?_, ?_, ?_⟩
    · rw [← g1]; split <;> simp [pq_pim, hk]
    · rw [← g2]; split <;> simp [pq_pim, hk]
    · rw [← g3]; split <;> simp [pq_pim, hk]
  · split
    · exact ((((pq_Fr.refl _ m).pim rfl).pim rfl).pim rfl).pim rfl
    · exact (((pq_Fr.refl _ m).pim rfl).pim rfl).pim rfl
theorem cl_sea {m : ev_m} {i d : Nat} {S : Nat → Int32} (hc : cc_S m i S) (hS : pu_okS S) (hd : d ≤ 1000) : f_X5_seaOf m i (nI (d + 1)) = some (S (11 + d % (S 10).toNatClampNeg)) := by
  obtain ⟨-, -, -, -, -, c, hc1, hc2, e⟩ := hS
  have hcl : (S 10).toNatClampNeg = c := by rw [e]; exact nI_clamp (by omega)
  have hmod : d % c < c := Nat.mod_lt _ (by omega)
  unfold f_X5_seaOf
  rw [hc.1 10 (by decide), e, if_pos (by rw [i0_lt, nI_toInt (by omega)]; omega), nI_pred]
  unfold ev_rm
  rw [if_neg (nI_ne0 (by omega) (by omega)), pq_sb, pk_rem (by omega) (by omega) (by omega), pq_at (by omega) (by decide), hc.2 _ (by rw [hcl]; omega), nI_clamp (by omega)]
theorem cl_move {m : ev_m} {i : Nat} {S : Nat → Int32} {q : pu_Q} {want saw : Int32} (hc : cc_S m i S) (hS : pu_okS S) (hs : m.2.2 8 0 0 = some i) (hq : cc_q m q) (hd : q.2.2.2.2.1 < 400) :
    ∃ m', f_X8_move m 0 want = some m' ∧ m'.2 = m.2 ∧ cc_q m' (pu_ps S q want saw q.2.2.2.2.2) ∧ (∀ W, cc_W m W q.2.2.2.2.1 → cc_W m' (upd W (q.2.2.2.2.1 + 1) (m.1 9 0 3)) (q.2.2.2.2.1 + 1)) ∧ (∀ p k, m'.1 9 p k = m.1 9 p k) ∧ pq_Fr (fun r _ => r != 8 && (decide (r < 18) || decide (21 < r))) m m' := by
  obtain ⟨q18, q19, q20, q1, q6⟩ := hq
  obtain ⟨H, P, R, W, d, seed⟩ := q
  dsimp only at *
  have hs8 : (ev_pim m 8 0 1 (nI (d + 1))).2.2 8 0 0 = some i := hs
  have hF8 : pq_Fr (fun r _ => r != 8) m (ev_pim m 8 0 1 (nI (d + 1))) := (pq_Fr.refl _ m).pim rfl
  have hc8 : cc_S (ev_pim m 8 0 1 (nI (d + 1))) i S := hc.fr hF8 rfl rfl
  have g1 : (ev_pim m 8 0 1 (nI (d + 1))).1 8 0 1 = nI (d + 1) := by simp [pq_pim]
  have e18 : ev_at (m.1 18 0) 401 (nI d) = H d := by rw [pq_at (by omega) (by decide), q18 d (Nat.le_refl _)]
  have e19 : ev_at (m.1 19 0) 401 (nI d) = P d := by rw [pq_at (by omega) (by decide), q19 d (Nat.le_refl _)]
  have erud : s_X8_rudderNow m 0 = R d := by unfold s_X8_rudderNow; rw [q1, pq_at (by omega) (by decide), q20 d (Nat.le_refl _)]
  unfold f_X8_move
  simp only [pq_let, hs, pq_on1]
  rw [erud, hc.1 4 (by decide), pu_wi_c m hS.2.2.1.1, q1, nI_1, e18, e19]
  have er : R d + pu_wi (want - R d) (S 4) = pu_nr S (H, P, R, W, d, seed) want := rfl
  rw [er]
  simp only [hs8, pq_on1]
  rw [g1, cl_sea hc8 hS (by omega), pq_sb, hc8.1 1 (by decide), hc8.1 0 (by decide), hc8.1 6 (by decide), hc8.1 7 (by decide), pu_wi_c _ (by decide), pu_wi_c _ (by decide)]
  generalize hnr : pu_nr S (H, P, R, W, d, seed) want = nr
  have ep : pu_wi (((((P d - ((P d * S 1) / 100)) + (S 0 * nr)) + S 6) + S (11 + d % (S 10).toNatClampNeg)) - ((S 7 * H d) / 100)) 9999 = pu_np S (H, P, R, W, d, seed) want := by
    unfold pu_np
    rw [hnr]
  rw [ep]
  generalize hnp : pu_np S (H, P, R, W, d, seed) want = np
  have eh : pu_wi (H d + np) 18000 = pu_nh S (H, P, R, W, d, seed) want := by unfold pu_nh; rw [hnp]
  rw [eh]
  generalize hnh : pu_nh S (H, P, R, W, d, seed) want = nh
  have eps : pu_ps S (H, P, R, W, d, seed) want saw seed = (upd H (d + 1) nh, upd P (d + 1) np, upd R (d + 1) nr, upd W (d + 1) saw, d + 1, seed) := by
    unfold pu_ps
    rw [hnh, hnp, hnr]
  rw [eps, pq_put (k := d + 1) (by omega) (by decide)]
  have k1 : (ev_pim (ev_pim m 8 0 1 (nI (d + 1))) 18 0 (d + 1) nh).1 8 0 1 = nI (d + 1) := by simp [pq_pim]
  rw [k1, pq_put (k := d + 1) (by omega) (by decide)]
  have k2 : (ev_pim (ev_pim (ev_pim m 8 0 1 (nI (d + 1))) 18 0 (d + 1) nh) 19 0 (d + 1) np).1 8 0 1 = nI (d + 1) := by simp [pq_pim]
  rw [k2, pq_put (k := d + 1) (by omega) (by decide)]
  have k3 : (ev_pim (ev_pim (ev_pim (ev_pim m 8 0 1 (nI (d + 1))) 18 0 (d + 1) nh) 19 0 (d + 1) np) 20 0 (d + 1) nr).1 8 0 1 = nI (d + 1) := by simp [pq_pim]
  have k4 : (ev_pim (ev_pim (ev_pim (ev_pim m 8 0 1 (nI (d + 1))) 18 0 (d + 1) nh) 19 0 (d + 1) np) 20 0 (d + 1) nr).1 9 0 3 = m.1 9 0 3 := by simp [pq_pim]
  rw [k3, k4, pq_put (k := d + 1) (by omega) (by decide)]
  refine ⟨_, rfl, rfl, ⟨?_, ?_, ?_, ?_, ?_⟩, ?_, ?_, ?_⟩
  · intro k hk
    dsimp only at hk ⊢
    unfold upd
    by_cases e : k = d + 1
    · simp [pq_pim, e]
    · simp [pq_pim, e]
      exact q18 k (by omega)
  · intro k hk
    dsimp only at hk ⊢
    unfold upd
    by_cases e : k = d + 1
    · simp [pq_pim, e]
    · simp [pq_pim, e]
      exact q19 k (by omega)
  · intro k hk
    dsimp only at hk ⊢
    unfold upd
    by_cases e : k = d + 1
    · simp [pq_pim, e]
    · simp [pq_pim, e]
      exact q20 k (by omega)
  · simp [pq_pim]
  · simp [pq_pim, q6]
  · intro W0 hW k hk
    unfold upd
    by_cases e : k = d + 1
    · simp [pq_pim, e]
    · simp [pq_pim, e]
      exact hW k (by omega)
  · intro p k
    simp [pq_pim]
  · exact (((((pq_Fr.refl _ m).pim rfl).pim rfl).pim rfl).pim rfl).pim rfl
theorem pb_ps {S : Nat → Int32} {q : pu_Q} {want saw seed : Int32} (h : pb_H q) : pb_H (pu_ps S q want saw seed) := by
  intro k hk
  show -18000 ≤ (upd q.1 (q.2.2.2.2.1 + 1) (pu_nh S q want) k).toInt ∧ _
  have hk : k ≤ q.2.2.2.2.1 + 1 := hk
  by_cases e : k = q.2.2.2.2.1 + 1
  · rw [e]
    show -18000 ≤ (upd q.1 (q.2.2.2.2.1 + 1) (pu_nh S q want) (q.2.2.2.2.1 + 1)).toInt ∧ (upd q.1 (q.2.2.2.2.1 + 1) (pu_nh S q want) (q.2.2.2.2.1 + 1)).toInt ≤ 18000
    rw [pk_us]
    exact pu_wi_b (w := 18000) (by decide)
  · show -18000 ≤ (upd q.1 (q.2.2.2.2.1 + 1) (pu_nh S q want) k).toInt ∧ (upd q.1 (q.2.2.2.2.1 + 1) (pu_nh S q want) k).toInt ≤ 18000
    rw [pk_un e]
    exact h k (by omega)
