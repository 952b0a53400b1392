/-! pure: the reference's run, the second and the whole -/
theorem pu_t1 {t : Nat} (ht : t < 2 ^ 30) : nI (t + 1) = 1 ↔ t = 0 := by
  rw [show (1 : Int32) = nI 1 from rfl, nI_eq (by omega) (by omega)]
  omega
theorem rf_wants {m : ev_m} {p : Nat} {S D : Nat → Int32} {q : pu_Q} {a : pu_A} (hp : p < 2) (hH : rr_H m p D) (hD : pu_okD D) (hS : pu_okS S) (hR : rr_S m S) (hq : rr_q m q) (hm : rr_m m p a q.2.2.2.2.1) (hd : q.2.2.2.2.1 ≤ 400) :
    ∃ m', f_X10_wants m 0 (nI p) = some (pu_wt S D q a, m') ∧ m'.2 = m.2 ∧ (∀ k, k ≠ 26 → m'.1 10 0 k = m.1 10 0 k) ∧ m'.1 10 0 26 = pu_sd D q.2.2.2.2.2 ∧ m'.1 42 0 p = pu_ms S D q a ∧ m'.1 43 0 p = (pu_mt S D q a).2.1 ∧ (∀ k, k ≠ p → m'.1 42 0 k = m.1 42 0 k ∧ m'.1 43 0 k = m.1 43 0 k) ∧ pq_Fr (fun r _ => r != 10 && r != 42 && r != 43) m m' := by
  obtain ⟨hqH, hqP, hqR, hqW, h32, h26⟩ := hq
  obtain ⟨h42, h43, b, hb, h44⟩ := hm
  obtain ⟨H, P, R, W, d, seed⟩ := q
  obtain ⟨t, sum, saw⟩ := a
  dsimp only at *
  have e1 : nI d + 1 - nI b = nI (t + 1) := by rw [nI_1, pk_sub (by omega)]; congr 1; omega
  have hms : pu_ms S D (H, P, R, W, d, seed) (t, sum, saw) = pu_see S D H (nI d) (nI (t + 1)) := rfl
  have hgo : ∀ g, g = pu_gs S D (H, P, R, W, d, seed) (t, sum, saw) → jn_X10_wants_38 m 0 (nI p) (nI (t + 1)) (pu_see S D H (nI d) (nI (t + 1))) g = some (pu_wt S D (H, P, R, W, d, seed) (t, sum, saw), if 0 < D 7 then ev_pim (ev_pim (ev_pim m 42 0 p (pu_see S D H (nI d) (nI (t + 1)))) 43 0 p (pu_wi (sum + (pu_see S D H (nI d) (nI (t + 1)))) 9999)) 10 0 26 (pu_dr seed) else ev_pim (ev_pim m 42 0 p (pu_see S D H (nI d) (nI (t + 1)))) 43 0 p (pu_wi (sum + (pu_see S D H (nI d) (nI (t + 1)))) 9999)) := by
    intro g hg
    rw [rf_w38 (S := S) (d := d) (seed := seed) hp hH (hR 3 (by decide)) h43 hd h32 h26, hqR d (Nat.le_refl _)]
    subst hg
    rfl
  have hrun : f_X10_wants m 0 (nI p) = some (pu_wt S D (H, P, R, W, d, seed) (t, sum, saw), if 0 < D 7 then ev_pim (ev_pim (ev_pim m 42 0 p (pu_see S D H (nI d) (nI (t + 1)))) 43 0 p (pu_wi (sum + (pu_see S D H (nI d) (nI (t + 1)))) 9999)) 10 0 26 (pu_dr seed) else ev_pim (ev_pim m 42 0 p (pu_see S D H (nI d) (nI (t + 1)))) 43 0 p (pu_wi (sum + (pu_see S D H (nI d) (nI (t + 1)))) 9999)) := by
    unfold f_X10_wants
    rw [pq_ald hp (by decide), pq_sb, pq_let, h44, h32, e1, rf_sees (S := S) (D := D) (H := H) (d := d) hp hH hD hS (hR 2 (by decide)) hd (by omega) h32 hqH, pq_sb]
    by_cases ht : t = 0
    · rw [if_pos ((pu_t1 (by omega)).mpr ht)]
      exact hgo 0 (by unfold pu_gs; rw [if_pos ht])
    · rw [if_neg (fun e => ht ((pu_t1 (by omega)).mp e)), pq_ald hp (by decide), pq_sb, h42]
      exact hgo _ (by unfold pu_gs; rw [if_neg ht, hms])
  refine ⟨_, hrun, ?_, ?_, ?_, ?_, ?_, ?_, ?_⟩
  · split <;> rfl
  · intro k hk
    split <;> simp [pq_pim, hk]
  · unfold pu_sd
    split <;> simp [pq_pim, h26]
  · split <;> simp [pq_pim, hms]
  · split <;> simp [pq_pim, pu_mt, hms]
  · intro k hk
    split <;> simp [pq_pim, hk]
  · split
    · exact (((pq_Fr.refl _ m).pim rfl).pim rfl).pim rfl
    · exact ((pq_Fr.refl _ m).pim rfl).pim rfl
theorem rf_tally {m : ev_m} {H : Nat → Int32} {d : Nat} (hd : d < 400) (h32 : m.1 10 0 32 = nI (d + 1)) (h45 : m.1 45 0 (d + 1) = H (d + 1)) (ht : rr_t m H d) :
    ∃ m', f_X10_tally m 0 = some m' ∧ rr_t m' H (d + 1) ∧ (∀ k, k ≠ 36 → k ≠ 38 → k ≠ 39 → m'.1 10 0 k = m.1 10 0 k) ∧ pq_Fr (fun r _ => r != 10 && r != 49) m m' := by
  obtain ⟨h33, h35, h36, h37, h38, h39, h49⟩ := ht
  have hle := pa_tim_le H d
  unfold f_X10_tally
  rw [h32, pq_ald (by omega) (by decide), pq_sb, h45]
  simp only [pq_let, pq_pim, pq_pim2, pq_plm, pq_plml, pq_plmr, pq_pom, pq_poml, pq_pomr, pq_prm, pq_prm2, Nat.reduceEqDiff, reduceIte, and_true, true_and, and_false, false_and, and_self, pu_pl_r, pu_sg_r, h33, h35, h36, h37, h38, h39]
  generalize hm8 : ev_plm (ev_pim (ev_plm (ev_plm m 10 0 33 (pa_off H d + (pu_pl (H (d + 1))).toInt64)) 10 0 35 (pa_los H d + (H (d + 1)).toInt64 * (H (d + 1)).toInt64 / 1000)) 10 0 36 (if pa_wid H d < pu_pl (H (d + 1)) then pu_pl (H (d + 1)) else pa_wid H d)) 10 0 37 (pa_dri H d + (H (d + 1)).toInt64) = m8
  have g33 : m8.2.1 10 0 33 = pa_off H (d + 1) := by subst hm8; simp [pq_pim, pq_pim2, pq_plm, pq_plml, pq_plmr, pq_pom, pq_poml, pq_pomr, pq_prm, pq_prm2, Nat.reduceEqDiff, reduceIte, and_true, true_and, and_false, false_and, and_self, pa_off]
  have g35 : m8.2.1 10 0 35 = pa_los H (d + 1) := by subst hm8; simp [pq_pim, pq_pim2, pq_plm, pq_plml, pq_plmr, pq_pom, pq_poml, pq_pomr, pq_prm, pq_prm2, Nat.reduceEqDiff, reduceIte, and_true, true_and, and_false, false_and, and_self, pa_los]
  have g36 : m8.1 10 0 36 = pa_wid H (d + 1) := by subst hm8; simp [pq_pim, pq_pim2, pq_plm, pq_plml, pq_plmr, pq_pom, pq_poml, pq_pomr, pq_prm, pq_prm2, Nat.reduceEqDiff, reduceIte, and_true, true_and, and_false, false_and, and_self, pa_wid]
  have g37 : m8.2.1 10 0 37 = pa_dri H (d + 1) := by subst hm8; simp [pq_pim, pq_pim2, pq_plm, pq_plml, pq_plmr, pq_pom, pq_poml, pq_pomr, pq_prm, pq_prm2, Nat.reduceEqDiff, reduceIte, and_true, true_and, and_false, false_and, and_self, pa_dri]
  have g38 : m8.1 10 0 38 = nI (pa_tim H d) := by subst hm8; simp [pq_pim, pq_pim2, pq_plm, pq_plml, pq_plmr, pq_pom, pq_poml, pq_pomr, pq_prm, pq_prm2, Nat.reduceEqDiff, reduceIte, and_true, true_and, and_false, false_and, and_self, h38]
  have g39 : m8.1 10 0 39 = pa_sig H d := by subst hm8; simp [pq_pim, pq_pim2, pq_plm, pq_plml, pq_plmr, pq_pom, pq_poml, pq_pomr, pq_prm, pq_prm2, Nat.reduceEqDiff, reduceIte, and_true, true_and, and_false, false_and, and_self, h39]
  have g49 : ∀ k, m8.1 49 0 k = m.1 49 0 k := by intro k; subst hm8; simp [pq_pim, pq_pim2, pq_plm, pq_plml, pq_plmr, pq_pom, pq_poml, pq_pomr, pq_prm, pq_prm2, Nat.reduceEqDiff, reduceIte, and_true, true_and, and_false, false_and, and_self]
  have gk : ∀ k, k ≠ 36 → m8.1 10 0 k = m.1 10 0 k := by intro k h; subst hm8; simp [pq_pim, pq_pim2, pq_plm, pq_plml, pq_plmr, pq_pom, pq_poml, pq_pomr, pq_prm, pq_prm2, Nat.reduceEqDiff, reduceIte, and_true, true_and, and_false, false_and, and_self, h]
  have gf : pq_Fr (fun r _ => r != 10 && r != 49) m m8 := by subst hm8; exact pq_Fr.plm (pq_Fr.pim (pq_Fr.plm (pq_Fr.plm (pq_Fr.refl _ m))) rfl)
  have e6 : (if pa_wid H d < pu_pl (H (d + 1)) then pu_pl (H (d + 1)) else pa_wid H d) = pa_wid H (d + 1) := rfl
  clear hm8
  -- behind the crossing
  have hj : ∀ m9 : ev_m, m9.2 = m8.2 → m9.1 10 0 38 = nI (pa_tim H (d + 1)) → m9.1 49 0 (pa_tim H (d + 1)) = (if pu_sg (H (d + 1)) * pa_sig H d < 0 then 0 else pa_top H d) → (∀ k, k < pa_tim H (d + 1) → m9.1 49 0 k = pa_pk H d k) → (∀ k, k ≠ 38 → m9.1 10 0 k = m8.1 10 0 k) → pq_Fr (fun r _ => r != 10 && r != 49) m m9 →
      ∃ m', jn_X10_tally_109 m9 0 (pu_pl (H (d + 1))) (pu_sg (H (d + 1))) = some m' ∧ rr_t m' H (d + 1) ∧ (∀ k, k ≠ 36 → k ≠ 38 → k ≠ 39 → m'.1 10 0 k = m.1 10 0 k) ∧ pq_Fr (fun r _ => r != 10 && r != 49) m m' := by
    intro m9 e2 k38 k49 klt k10 kf
    have hle1 := pa_tim_le H (d + 1)
    unfold jn_X10_tally_109
    rw [pq_let, pq_let]
    have e39 : (if pu_sg (H (d + 1)) = 0 then m9.1 10 0 39 else pu_sg (H (d + 1))) = pa_sig H (d + 1) := by rw [k10 39 (by decide), g39, pa_sig]
    rw [e39]
    have k38' : (ev_pim m9 10 0 39 (pa_sig H (d + 1))).1 10 0 38 = nI (pa_tim H (d + 1)) := by simp [pq_pim, k38]
    have k49' : (ev_pim m9 10 0 39 (pa_sig H (d + 1))).1 49 0 (pa_tim H (d + 1)) = (if pu_sg (H (d + 1)) * pa_sig H d < 0 then 0 else pa_top H d) := by simp [pq_pim, k49]
    rw [k38', pq_ald (by omega) (by decide), pq_sb, k49', pq_sb]
    have hfin : ∀ x, x = pa_top H (d + 1) → ∃ m', jn_X10_tally_159 (ev_pim m9 10 0 39 (pa_sig H (d + 1))) x (nI (pa_tim H (d + 1))) = some m' ∧ rr_t m' H (d + 1) ∧ (∀ k, k ≠ 36 → k ≠ 38 → k ≠ 39 → m'.1 10 0 k = m.1 10 0 k) ∧ pq_Fr (fun r _ => r != 10 && r != 49) m m' := by
      intro x hx
      unfold jn_X10_tally_159
      rw [pq_ast (by omega) (by decide), pq_sb]
      refine ⟨_, rfl, ⟨?_, ?_, ?_, ?_, ?_, ?_, ?_⟩, ?_, ?_⟩
      · simp [pq_pim, pq_pim2, pq_plm, pq_plml, pq_plmr, pq_pom, pq_poml, pq_pomr, pq_prm, pq_prm2, Nat.reduceEqDiff, reduceIte, and_true, true_and, and_false, false_and, and_self, e2, g33]
      · simp [pq_pim, pq_pim2, pq_plm, pq_plml, pq_plmr, pq_pom, pq_poml, pq_pomr, pq_prm, pq_prm2, Nat.reduceEqDiff, reduceIte, and_true, true_and, and_false, false_and, and_self, e2, g35]
      · simp [pq_pim, pq_pim2, pq_plm, pq_plml, pq_plmr, pq_pom, pq_poml, pq_pomr, pq_prm, pq_prm2, Nat.reduceEqDiff, reduceIte, and_true, true_and, and_false, false_and, and_self, k10, g36]
      · simp [pq_pim, pq_pim2, pq_plm, pq_plml, pq_plmr, pq_pom, pq_poml, pq_pomr, pq_prm, pq_prm2, Nat.reduceEqDiff, reduceIte, and_true, true_and, and_false, false_and, and_self, e2, g37]
      · simp [pq_pim, pq_pim2, pq_plm, pq_plml, pq_plmr, pq_pom, pq_poml, pq_pomr, pq_prm, pq_prm2, Nat.reduceEqDiff, reduceIte, and_true, true_and, and_false, false_and, and_self, k38]
      · simp [pq_pim, pq_pim2, pq_plm, pq_plml, pq_plmr, pq_pom, pq_poml, pq_pomr, pq_prm, pq_prm2, Nat.reduceEqDiff, reduceIte, and_true, true_and, and_false, false_and, and_self]
      · intro k hk
        rw [pa_pk]
        by_cases e : k = pa_tim H (d + 1)
        · rw [e, pk_us, pq_pim, if_pos ⟨rfl, rfl, rfl⟩, hx]
        · rw [pk_un e, pq_pim, if_neg (fun q => e q.2.2), pq_pim, if_neg (fun q => absurd q.1 (by decide)), klt k (by omega)]
      · intro k a1 a2 a3
        rw [pq_pim, if_neg (fun q => absurd q.1 (by decide)), pq_pim, if_neg (fun q => a3 q.2.2), k10 k a2, gk k a1]
      · exact (kf.pim rfl).pim rfl
    have etop : pa_top H (d + 1) = (if (if pu_sg (H (d + 1)) * pa_sig H d < 0 then 0 else pa_top H d) < pu_pl (H (d + 1)) then pu_pl (H (d + 1)) else (if pu_sg (H (d + 1)) * pa_sig H d < 0 then 0 else pa_top H d)) := rfl
    by_cases hc : (if pu_sg (H (d + 1)) * pa_sig H d < 0 then 0 else pa_top H d) < pu_pl (H (d + 1))
    · rw [if_pos hc]
      exact hfin _ (by rw [etop, if_pos hc])
    · rw [if_neg hc]
      exact hfin _ (by rw [etop, if_neg hc])
  by_cases hx : pu_sg (H (d + 1)) * pa_sig H d < 0
  · rw [if_pos hx, nI_1]
    have et : pa_tim H (d + 1) = pa_tim H d + 1 := by rw [pa_tim, if_pos hx]
    rw [pq_ast (by omega) (by decide), pq_sb]
    refine hj _ rfl ?_ ?_ ?_ ?_ ?_
    · simp [pq_pim, pq_pim2, pq_plm, pq_plml, pq_plmr, pq_pom, pq_poml, pq_pomr, pq_prm, pq_prm2, Nat.reduceEqDiff, reduceIte, and_true, true_and, and_false, false_and, and_self, et]
    · rw [et, if_pos hx]; simp [pq_pim, pq_pim2, pq_plm, pq_plml, pq_plmr, pq_pom, pq_poml, pq_pomr, pq_prm, pq_prm2, Nat.reduceEqDiff, reduceIte, and_true, true_and, and_false, false_and, and_self]
    · intro k hk
      rw [pq_pim, if_neg (fun q => by omega), pq_pim, if_neg (fun q => absurd q.1 (by decide)), g49 k]
      exact h49 k (by omega)
    · intro k hk
      simp [pq_pim, pq_pim2, pq_plm, pq_plml, pq_plmr, pq_pom, pq_poml, pq_pomr, pq_prm, pq_prm2, Nat.reduceEqDiff, reduceIte, and_true, true_and, and_false, false_and, and_self, hk]
    · exact (gf.pim rfl).pim rfl
  · rw [if_neg hx]
    have et : pa_tim H (d + 1) = pa_tim H d := by rw [pa_tim, if_neg hx]
    refine hj m8 rfl (by rw [et]; exact g38) ?_ ?_ (fun _ _ => rfl) gf
    · rw [et, if_neg hx, g49, h49 _ (Nat.le_refl _), pa_pk_top]
    · intro k hk
      rw [g49 k]
      exact h49 k (by omega)
theorem rf_tail {m : ev_m} {x wea spk sti lng : Int32} {k : ev_m → Option ev_m} (h34 : m.1 10 0 34 = wea) (h40 : m.1 10 0 40 = spk) (h41 : m.1 10 0 41 = sti) (h42 : m.1 10 0 42 = lng) :
    ∃ m', (ev_let (ev_pim m 10 0 34 ((m.1 10 0 34) + x)) (fun m16 => ev_let (if 0 < x then 1 else 0 : Int32) (fun x18 => ev_let (ev_pim m16 10 0 40 ((m16.1 10 0 40) + x18)) (fun m19 => ev_let (if 0 < x then 0 else ((m19.1 10 0 41) + 1) : Int32) (fun x21 => ev_let (ev_pim m19 10 0 41 x21) (fun m22 => ev_let (if (m22.1 10 0 42) < (m22.1 10 0 41) then (m22.1 10 0 41) else (m22.1 10 0 42) : Int32) (fun x24 => ev_let (ev_pim m22 10 0 42 x24) k))))))) = k m' ∧
      m'.1 10 0 34 = wea + x ∧ m'.1 10 0 40 = spk + (if 0 < x then 1 else 0) ∧ m'.1 10 0 41 = (if 0 < x then 0 else sti + 1) ∧ m'.1 10 0 42 = (if lng < (if 0 < x then 0 else sti + 1) then (if 0 < x then 0 else sti + 1) else lng) ∧ m'.2 = m.2 ∧ (∀ r k, (r = 10 → k ≠ 34 ∧ k ≠ 40 ∧ k ≠ 41 ∧ k ≠ 42) → m'.1 r 0 k = m.1 r 0 k) ∧ ∀ P m0, P 10 0 = false → pq_Fr P m0 m → pq_Fr P m0 m' := by
  rw [h34, pq_let, pq_let]
  have e1 : (ev_pim m 10 0 34 (wea + x)).1 10 0 40 = spk := by simp [pq_pim, h40]
  rw [e1, pq_let]
  generalize hg : ev_pim (ev_pim m 10 0 34 (wea + x)) 10 0 40 (spk + (if 0 < x then 1 else 0)) = m19
  have g34 : m19.1 10 0 34 = wea + x := by subst hg; simp [pq_pim]
  have g40 : m19.1 10 0 40 = spk + (if 0 < x then 1 else 0) := by subst hg; simp [pq_pim]
  have g41 : m19.1 10 0 41 = sti := by subst hg; simp [pq_pim, h41]
  have g42 : m19.1 10 0 42 = lng := by subst hg; simp [pq_pim, h42]
  have g2 : m19.2 = m.2 := by subst hg; rfl
  have gk : ∀ r k, (r = 10 → k ≠ 34 ∧ k ≠ 40 ∧ k ≠ 41 ∧ k ≠ 42) → m19.1 r 0 k = m.1 r 0 k := by
    intro r k h
    subst hg
    by_cases e : r = 10
    · obtain ⟨x1, x2, x3, x4⟩ := h e
      simp [pq_pim, e, x1, x2]
    · simp [pq_pim, e]
  have gF : ∀ P m0, P 10 0 = false → pq_Fr P m0 m → pq_Fr P m0 m19 := by
    intro P m0 hp h
    subst hg
    exact (h.pim hp).pim hp
  clear hg
  rw [g41, pq_let, pq_let]
  generalize hg : ev_pim m19 10 0 41 (if 0 < x then 0 else sti + 1) = m22
  have k41 : m22.1 10 0 41 = (if 0 < x then 0 else sti + 1) := by subst hg; simp [pq_pim]
  have k42 : m22.1 10 0 42 = lng := by subst hg; simp [pq_pim, g42]
  rw [k41, k42, pq_let, pq_let]
  subst hg
  refine ⟨_, rfl, ?_, ?_, ?_, ?_, ?_, ?_, ?_⟩
  · simp [pq_pim, g34]
  · simp [pq_pim, g40]
  · simp [pq_pim]
  · simp [pq_pim]
  · exact g2
  · intro r k h
    rw [← gk r k h]
    by_cases e : r = 10
    · obtain ⟨x1, x2, x3, x4⟩ := h e
      simp [pq_pim, e, x3, x4]
    · simp [pq_pim, e]
  · intro P m0 hp h
    exact ((gF P m0 hp h).pim hp).pim hp
set_option maxHeartbeats 4000000 in
/-- a second of the reference's: all that is known behind it -/
theorem rf_pass {m : ev_m} {S : Nat → Int32} {q : pu_Q} {want saw : Int32} (hS : pu_okS S) (hR : rr_S m S) (hq : rr_q m q) (ht : rr_t m q.1 q.2.2.2.2.1) (hw : rr_w m q.2.2.1 q.2.2.2.2.1) (hd : q.2.2.2.2.1 < 400) :
    ∃ m', f_X10_pass m 0 want saw = some m' ∧ rr_q m' (pu_ps S q want saw q.2.2.2.2.2) ∧ rr_t m' (pu_ps S q want saw q.2.2.2.2.2).1 (q.2.2.2.2.1 + 1) ∧ rr_w m' (pu_ps S q want saw q.2.2.2.2.2).2.2.1 (q.2.2.2.2.1 + 1) ∧ pq_Fr (fun r _ => r != 10 && r != 45 && r != 46 && r != 47 && r != 48 && r != 49) m m' := by
  obtain ⟨-, -, -, -, -, c, hc1, hc2, hc⟩ := hS
  obtain ⟨hqH, hqP, hqR, hqW, h32, h26⟩ := hq
  obtain ⟨h34, h40, h41, h42⟩ := hw
  obtain ⟨H, P, R, W, d, seed⟩ := q
  dsimp only at *
  have hr0 : (∀ x, x < 23 → m.1 40 0 x = S x) := hR
  have hmod : d % c < 12 := Nat.lt_of_lt_of_le (Nat.mod_lt _ (by omega)) hc2
  unfold f_X10_pass
  simp only [h32]
  rw [pq_ald (k := d) (f := m.1 47 0) (by omega) (by decide), pq_sb, pq_sb, pq_let, pq_ald (k := d) (f := m.1 45 0) (by omega) (by decide), pq_sb, pq_ald (k := d) (f := m.1 46 0) (by omega) (by decide), pq_sb, hr0 10 (by decide), hc]
  unfold ev_rm
  rw [if_neg (nI_ne0 (by omega) (by omega)), pq_sb, pk_rem (by omega) (by omega) (by omega), show (11 : Int32) = nI 11 from rfl, nI_add, pq_ald (k := 11 + d % c) (by omega) (by decide), pq_sb, pq_sb, pq_let, pq_let, nI_1, hqH d (Nat.le_refl _), hqP d (Nat.le_refl _), hqR d (Nat.le_refl _), hr0 4 (by decide), hr0 (11 + d % c) (by omega), pu_wi_r, pu_pl_r]
  have er : R d + pu_wi (want - R d) (S 4) = pu_nr S (H, P, R, W, d, seed) want := rfl
  rw [er]
  generalize hnr : pu_nr S (H, P, R, W, d, seed) want = nr
  have e1 : (ev_pim m 10 0 32 (nI (d + 1))).1 10 0 32 = nI (d + 1) := by simp [pq_pim]
  rw [e1, pq_ast (k := d + 1) (by omega) (by decide), pq_sb]
  have e2 : (ev_pim (ev_pim m 10 0 32 (nI (d + 1))) 47 0 (d + 1) nr).1 10 0 32 = nI (d + 1) := by simp [pq_pim]
  rw [e2, pq_ast (k := d + 1) (by omega) (by decide), pq_sb]
  generalize hm12 : ev_pim (ev_pim (ev_pim m 10 0 32 (nI (d + 1))) 47 0 (d + 1) nr) 48 0 (d + 1) saw = m12
  have a32 : m12.1 10 0 32 = nI (d + 1) := by subst hm12; simp [pq_pim]
  have a40 : ∀ x, x < 23 → m12.1 40 0 x = S x := by intro x hx; subst hm12; simp [pq_pim]; exact hr0 x hx
  rw [a32, a40 1 (by decide), a40 0 (by decide), a40 6 (by decide), a40 7 (by decide), pu_wi_r]
  have ep : pu_wi (((((P d - ((P d * S 1) / 100)) + (S 0 * nr)) + S 6) + S (11 + d % c)) - ((S 7 * H d) / 100)) 9999 = pu_np S (H, P, R, W, d, seed) want := by
    unfold pu_np
    rw [hnr]
    dsimp only
    rw [hc, nI_clamp (by omega)]
  rw [ep, pq_ast (k := d + 1) (by omega) (by decide), pq_sb]
  generalize hnp : pu_np S (H, P, R, W, d, seed) want = np
  have e3 : (ev_pim m12 46 0 (d + 1) np).1 10 0 32 = nI (d + 1) := by simp [pq_pim, a32]
  have e4 : (ev_pim m12 46 0 (d + 1) np).1 46 0 (d + 1) = np := by simp [pq_pim]
  rw [e3, pq_ald (k := d + 1) (by omega) (by decide), pq_sb, e4, pu_wi_r, pq_ast (k := d + 1) (by omega) (by decide), pq_sb]
  have eh : pu_wi (H d + np) 18000 = pu_nh S (H, P, R, W, d, seed) want := by unfold pu_nh; rw [hnp]
  rw [eh]
  generalize hnh : pu_nh S (H, P, R, W, d, seed) want = nh
  generalize hm15 : ev_pim (ev_pim m12 46 0 (d + 1) np) 45 0 (d + 1) nh = m15
  have b34 : m15.1 10 0 34 = pa_wea R d := by subst hm15; subst hm12; simp [pq_pim, h34]
  have b40 : m15.1 10 0 40 = pa_spk R d := by subst hm15; subst hm12; simp [pq_pim, h40]
  have b41 : m15.1 10 0 41 = pa_sti R d := by subst hm15; subst hm12; simp [pq_pim, h41]
  have b42 : m15.1 10 0 42 = pa_lng R d := by subst hm15; subst hm12; simp [pq_pim, h42]
  have b32 : m15.1 10 0 32 = nI (d + 1) := by subst hm15; subst hm12; simp [pq_pim]
  have b26 : m15.1 10 0 26 = seed := by subst hm15; subst hm12; simp [pq_pim, h26]
  have bk : ∀ k, k ≠ 32 → m15.1 10 0 k = m.1 10 0 k := by intro k hk; subst hm15; subst hm12; simp [pq_pim, hk]
  have b2 : m15.2 = m.2 := by subst hm15; subst hm12; rfl
  have bH : ∀ k, k ≤ d + 1 → m15.1 45 0 k = upd H (d + 1) nh k := by
    intro k hk
    subst hm15; subst hm12
    unfold upd
    by_cases e : k = d + 1
    · simp [pq_pim, e]
    · simp [pq_pim, e]
      exact hqH k (by omega)
  have bP : ∀ k, k ≤ d + 1 → m15.1 46 0 k = upd P (d + 1) np k := by
    intro k hk
    subst hm15; subst hm12
    unfold upd
    by_cases e : k = d + 1
    · simp [pq_pim, e]
    · simp [pq_pim, e]
      exact hqP k (by omega)
  have bR : ∀ k, k ≤ d + 1 → m15.1 47 0 k = upd R (d + 1) nr k := by
    intro k hk
    subst hm15; subst hm12
    unfold upd
    by_cases e : k = d + 1
    · simp [pq_pim, e]
    · simp [pq_pim, e]
      exact hqR k (by omega)
  have bW : ∀ k, k ≤ d + 1 → m15.1 48 0 k = upd W (d + 1) saw k := by
    intro k hk
    subst hm15; subst hm12
    unfold upd
    by_cases e : k = d + 1
    · simp [pq_pim, e]
    · simp [pq_pim, e]
      exact hqW k (by omega)
  have b49 : ∀ k, m15.1 49 0 k = m.1 49 0 k := by intro k; subst hm15; subst hm12; simp [pq_pim]
  have bF : pq_Fr (fun r _ => r != 10 && r != 45 && r != 46 && r != 47 && r != 48 && r != 49) m m15 := by
    subst hm15; subst hm12
    exact ((((((pq_Fr.refl _ m).pim rfl).pim rfl).pim rfl).pim rfl).pim rfl)
  clear hm15 hm12
  -- the accumulated words
  have hH' : pa_al (upd H (d + 1) nh) H d := pa_al.upd H d nh
  have hR' : pa_al (upd R (d + 1) nr) R d := pa_al.upd R d nr
  have etu : pa_tu (upd R (d + 1) nr) d = pu_pl (nr - R d) := by unfold pa_tu; rw [pk_us, pk_un (by omega)]
  obtain ⟨m25, e25, d34, d40, d41, d42, c2, ck, cF0⟩ := rf_tail (x := pu_pl (nr - R d)) (k := fun m25 => (f_X10_tally m25 0).bind (fun m26 => some m26)) b34 b40 b41 b42
  have cF := cF0 _ m rfl bF
  have c34 : m25.1 10 0 34 = pa_wea (upd R (d + 1) nr) (d + 1) := by rw [d34, pa_wea, etu, pa_wea_c hR']
  have c40 : m25.1 10 0 40 = pa_spk (upd R (d + 1) nr) (d + 1) := by rw [d40, pa_spk, etu, pa_spk_c hR']
  have c41 : m25.1 10 0 41 = pa_sti (upd R (d + 1) nr) (d + 1) := by rw [d41, pa_sti, etu, pa_sti_c hR']
  have c42 : m25.1 10 0 42 = pa_lng (upd R (d + 1) nr) (d + 1) := by rw [d42, pa_lng, pa_sti, etu, pa_lng_c hR', pa_sti_c hR']
  rw [e25]
  have c32 : m25.1 10 0 32 = nI (d + 1) := by rw [ck 10 32 (by decide), b32]
  have c45 : m25.1 45 0 (d + 1) = upd H (d + 1) nh (d + 1) := by rw [ck 45 (d + 1) (fun e => absurd e (by decide)), bH _ (Nat.le_refl _)]
  obtain ⟨t33, t35, t36, t37, t38, t39, t49⟩ := ht
  have ct : rr_t m25 (upd H (d + 1) nh) d := by
    refine ⟨?_, ?_, ?_, ?_, ?_, ?_, ?_⟩
    · rw [c2, b2, t33, pa_off_c hH']
    · rw [c2, b2, t35, pa_los_c hH']
    · rw [ck 10 36 (by decide), bk 36 (by decide), t36, pa_wid_c hH']
    · rw [c2, b2, t37, pa_dri_c hH']
    · rw [ck 10 38 (by decide), bk 38 (by decide), t38, pa_tim_c hH']
    · rw [ck 10 39 (by decide), bk 39 (by decide), t39, pa_sig_c hH']
    · intro k hk
      rw [pa_tim_c hH'] at hk
      rw [ck 49 k (fun e => absurd e (by decide)), b49 k, t49 k hk, pa_pk_c hH']
  obtain ⟨m', hm', k1, k2, k3⟩ := rf_tally (by omega) c32 c45 ct
  have eps : pu_ps S (H, P, R, W, d, seed) want saw seed = (upd H (d + 1) nh, upd P (d + 1) np, upd R (d + 1) nr, upd W (d + 1) saw, d + 1, seed) := by
    unfold pu_ps
    rw [hnh, hnp, hnr]
  rw [hm', pq_sb, eps]
  refine ⟨m', rfl, ⟨?_, ?_, ?_, ?_, ?_, ?_⟩, k1, ⟨?_, ?_, ?_, ?_⟩, ?_⟩
  · intro k hk
    show m'.1 45 0 k = upd H (d + 1) nh k
    rw [k3 45 0 k rfl, ck 45 k (fun e => absurd e (by decide))]
    exact bH k hk
  · intro k hk
    show m'.1 46 0 k = upd P (d + 1) np k
    rw [k3 46 0 k rfl, ck 46 k (fun e => absurd e (by decide))]
    exact bP k hk
  · intro k hk
    show m'.1 47 0 k = upd R (d + 1) nr k
    rw [k3 47 0 k rfl, ck 47 k (fun e => absurd e (by decide))]
    exact bR k hk
  · intro k hk
    show m'.1 48 0 k = upd W (d + 1) saw k
    rw [k3 48 0 k rfl, ck 48 k (fun e => absurd e (by decide))]
    exact bW k hk
  · rw [k2 32 (by decide) (by decide) (by decide), c32]
  · rw [k2 26 (by decide) (by decide) (by decide), ck 10 26 (by decide), b26]
  · rw [k2 34 (by decide) (by decide) (by decide)]
    exact c34
  · rw [k2 40 (by decide) (by decide) (by decide)]
    exact c40
  · rw [k2 41 (by decide) (by decide) (by decide)]
    exact c41
  · rw [k2 42 (by decide) (by decide) (by decide)]
    exact c42
  · refine cF.trans (k3.sub (fun r i h => ?_))
    revert h
    simp only [Bool.and_eq_true, bne_iff_ne]
    omega
