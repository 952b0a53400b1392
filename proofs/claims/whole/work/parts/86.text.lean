/-! pure: text() -/
theorem PI_x {r i : Nat} (h : PI_ r i = true) : ¬ xd_ r i ∧ r ≠ 7 ∧ r ≠ 10 ∧ r ≠ 39 := by
  revert h
  simp only [PI_, sc_, Bool.not_eq_true', Bool.or_eq_false_iff, Bool.and_eq_false_imp, Bool.or_eq_true, Bool.and_eq_true, beq_iff_eq, beq_eq_false_iff_ne, decide_eq_true_eq, decide_eq_false_iff_not, ne_eq]
  unfold xd_ xc_
  omega
theorem iv_K.ot2 {m m2 : ev_m} {b : Nat} (h : iv_K m b) (hb : b ≠ 0) (hb4 : b < 4) (hF : ∀ r i k, PI_ r i = true → ¬ cz_ 0 r i → ¬ rz_ 0 r k → m2.1 r i k = m.1 r i k) : iv_K m2 b := by
  have a : iv_K ((fun r i k => if PI_ r i = true then m.1 r i k else m2.1 r i k), m.2) b := h.fr (fun r i k q => if_pos q) hb4
  refine a.ot (d := 0) hb (fun r i j q1 q2 _ _ _ => ?_)
  show m2.1 r i j = if PI_ r i = true then m.1 r i j else m2.1 r i j
  by_cases q : PI_ r i = true
  · rw [if_pos q]
    exact hF r i j q q1 q2
  · rw [if_neg q]
theorem iv_tell {m m2 : ev_m} (hI : iv_ m) (hB : ∃ c0 c1 c2 c3, iv_B m2 0 c0 c1 c2 c3) (t1 : m2.1 2 0 1 = nI 0) (t2 : m2.1 31 0 0 = nI 0) (t4 : m2.1 1 0 1 = m2.1 32 0 0) (t5 : m2.1 1 0 2 = m2.1 33 0 0) (h30 : ∀ k, m2.1 30 0 k = m.1 30 0 k) (hF : ∀ r i k, PI_ r i = true → ¬ cz_ 0 r i → ¬ rz_ 0 r k → m2.1 r i k = m.1 r i k) : iv_ m2 := by
  obtain ⟨h1, h2, h3⟩ := hI
  obtain ⟨c0, c1, c2, c3, hB⟩ := hB
  refine ⟨⟨c0, c1, c2, c3, 0, hB, Nat.zero_le _, t1, t2, fun k hk => absurd hk (Nat.not_lt_zero k), t4, t5⟩, fun k hk => ?_, fun k => by rw [h30 k]; exact h3 k⟩
  have e22 : m2.1 22 0 k = m.1 22 0 k := hF 22 0 k (PI_k (by decide)) (by unfold cz_; omega) (by unfold rz_; omega)
  have e52 : m2.1 52 0 k = m.1 52 0 k := hF 52 0 k (PI_k (by decide)) (by unfold cz_; omega) (by unfold rz_; omega)
  rcases h2 k hk with ⟨g1, g2⟩ | ⟨g1, g2, g3⟩
  · exact Or.inl ⟨e22.trans g1, e52.trans g2⟩
  · exact Or.inr ⟨e22.trans g1, e52.trans g2, g3.ot2 (by omega) (by omega) hF⟩
theorem iv_B.tq {m m2 : ev_m} {c0 c1 c2 c3 : Nat} (h : iv_B m 0 c0 c1 c2 c3) (h1 : ∀ j, 3 ≤ j → j < 7 → m2.1 1 0 j = m.1 1 0 j) (hF : ∀ r i k, PI_ r i = true → bk_ r = true → m2.1 r i k = m.1 r i k) : iv_B m2 0 c0 c1 c2 c3 := by
  have hb := h.1
  exact h.mv h1 (fun s hs => ⟨fun k _ => hF 3 _ k (PI_s (by omega)) rfl, fun k _ => hF 12 _ k (PI_s (by omega)) rfl⟩) (fun s hs => ⟨fun k _ => hF 4 _ k (PI_s (by omega)) rfl, fun k _ => ⟨hF 13 _ k (PI_s (by omega)) rfl, hF 14 _ k (PI_s (by omega)) rfl⟩⟩) (fun s hs => ⟨hF 5 _ 1 (PI_s (by omega)) rfl, fun k _ => hF 15 _ k (PI_s (by omega)) rfl⟩) (fun s hs => ⟨hF 6 _ 2 (PI_s (by omega)) rfl, fun k _ => ⟨hF 16 _ k (PI_s (by omega)) rfl, hF 17 _ k (PI_s (by omega)) rfl⟩⟩) (fun j _ => hF 34 0 _ (PI_k (by decide)) rfl) (fun j _ => hF 35 0 _ (PI_k (by decide)) rfl) (fun j _ => hF 36 0 _ (PI_k (by decide)) rfl) (fun j _ => hF 37 0 _ (PI_k (by decide)) rfl) (fun j _ => hF 38 0 _ (PI_k (by decide)) rfl)
/-- what a told text changes -/
def TF_ (so k W : Nat) (cr : Nat → Prop) (m m2 : ev_m) : Prop := ∀ r i j, PI_ r i = true → ¬ (cr r ∧ i = k) → ¬ (r = 1 ∧ i = 0 ∧ (j = 1 ∨ j = 2 ∨ j = 3 + so)) → ¬ (r = 2 ∧ i = 0) → ¬ ((r = 31 ∨ r = 32 ∨ r = 33) ∧ i = 0 ∧ j = 0) → ¬ (r = 34 ∧ i = 0 ∧ j = so) → ¬ (r = 35 + so ∧ i = 0 ∧ W * k ≤ j ∧ j < W * k + W) → m2.1 r i j = m.1 r i j
theorem fin_ship {m m2 : ev_m} {c0 c1 c2 c3 k : Nat} {R : Nat → Int32} (hB : iv_B m 0 c0 c1 c2 c3) (hk : k < 2) (hkc : k ≤ c0) (h1 : m2.1 1 0 (3 + 0) = nI (if c0 < k + 1 then k + 1 else c0)) (h34 : m2.1 34 0 0 = nI (if c0 < k + 1 then k + 1 else c0)) (hE : E0_ k m2 R) (hR : ∀ j, j < 23 → m2.1 (35 + 0) 0 (23 * k + j) = R j) (hF : TF_ 0 k 23 cr0_ m m2) : ∃ d0 d1 d2 d3, iv_B m2 0 d0 d1 d2 d3 := by
  obtain ⟨⟨b0, b1, b2, b3⟩, ⟨k0, k1, k2, k3⟩, ⟨r0, r1, r2, r3⟩, gs, gh, gp, gw⟩ := hB
  have hd : (if c0 < k + 1 then k + 1 else c0) ≤ 2 ∧ ∀ s, s < (if c0 < k + 1 then k + 1 else c0) → s = k ∨ (s ≠ k ∧ s < c0) := by
    split
    · exact ⟨by omega, fun s hs => by omega⟩
    · exact ⟨by omega, fun s hs => by omega⟩
  generalize (if c0 < k + 1 then k + 1 else c0) = d at *
  obtain ⟨hd1, hd2⟩ := hd
  refine ⟨d, c1, c2, c3, ⟨hd1, b1, b2, b3⟩, ⟨h1, (hF 1 0 4 (PI_k (by omega)) (by unfold cr0_; omega) (by omega) (by omega) (by omega) (by omega) (by omega)).trans k1, (hF 1 0 5 (PI_k (by omega)) (by unfold cr0_; omega) (by omega) (by omega) (by omega) (by omega) (by omega)).trans k2, (hF 1 0 6 (PI_k (by omega)) (by unfold cr0_; omega) (by omega) (by omega) (by omega) (by omega) (by omega)).trans k3⟩, ⟨h34, (hF 34 0 1 (PI_k (by omega)) (by unfold cr0_; omega) (by omega) (by omega) (by omega) (by omega) (by omega)).trans r1, (hF 34 0 2 (PI_k (by omega)) (by unfold cr0_; omega) (by omega) (by omega) (by omega) (by omega) (by omega)).trans r2, (hF 34 0 3 (PI_k (by omega)) (by unfold cr0_; omega) (by omega) (by omega) (by omega) (by omega) (by omega)).trans r3⟩, fun s hs => ?_, fun s hs => ?_, fun s hs => ?_, fun s hs => ?_⟩
  · rcases hd2 s hs with e | ⟨e, hs2⟩
    · rw [show 2 * 0 + s = k by omega]
      exact ⟨cc_S.cg hE.1 hE.2 hR (fun _ _ => rfl) (fun _ _ => rfl), pu_okS.cg hE.2 hR⟩
    · exact ⟨cc_S.cg (gs s hs2).1 (gs s hs2).2 (fun j hj => (hF 35 0 _ (PI_k (by omega)) (by unfold cr0_; omega) (by omega) (by omega) (by omega) (by omega) (by omega))) (fun j hj => (hF 3 _ j (PI_s (by omega)) (by unfold cr0_; omega) (by omega) (by omega) (by omega) (by omega) (by omega))) (fun j hj => (hF 12 _ j (PI_s (by omega)) (by unfold cr0_; omega) (by omega) (by omega) (by omega) (by omega) (by omega))), pu_okS.cg (gs s hs2).2 (fun j hj => (hF 35 0 _ (PI_k (by omega)) (by unfold cr0_; omega) (by omega) (by omega) (by omega) (by omega) (by omega)))⟩
  · exact ⟨cc_D.cg (gh s hs).1 (gh s hs).2 (fun j hj => (hF 36 0 _ (PI_k (by omega)) (by unfold cr0_; omega) (by omega) (by omega) (by omega) (by omega) (by omega))) (fun j hj => (hF 4 _ j (PI_s (by omega)) (by unfold cr0_; omega) (by omega) (by omega) (by omega) (by omega) (by omega))) (fun j hj => ⟨(hF 13 _ j (PI_s (by omega)) (by unfold cr0_; omega) (by omega) (by omega) (by omega) (by omega) (by omega)), (hF 14 _ j (PI_s (by omega)) (by unfold cr0_; omega) (by omega) (by omega) (by omega) (by omega) (by omega))⟩), pu_okD.cg (gh s hs).2 (fun j hj => (hF 36 0 _ (PI_k (by omega)) (by unfold cr0_; omega) (by omega) (by omega) (by omega) (by omega) (by omega)))⟩
  · exact ⟨cp_P.cg (gp s hs).1 (gp s hs).2 (fun j hj => (hF 37 0 _ (PI_k (by omega)) (by unfold cr0_; omega) (by omega) (by omega) (by omega) (by omega) (by omega))) ((hF 5 _ 1 (PI_s (by omega)) (by unfold cr0_; omega) (by omega) (by omega) (by omega) (by omega) (by omega))) (fun j hj => (hF 15 _ j (PI_s (by omega)) (by unfold cr0_; omega) (by omega) (by omega) (by omega) (by omega) (by omega))), pu_okP.cg (gp s hs).2 (fun j hj => (hF 37 0 _ (PI_k (by omega)) (by unfold cr0_; omega) (by omega) (by omega) (by omega) (by omega) (by omega)))⟩
  · exact ⟨cp_W.cg (gw s hs).1 (gw s hs).2 (fun j hj => (hF 38 0 _ (PI_k (by omega)) (by unfold cr0_; omega) (by omega) (by omega) (by omega) (by omega) (by omega))) ((hF 6 _ 2 (PI_s (by omega)) (by unfold cr0_; omega) (by omega) (by omega) (by omega) (by omega) (by omega))) (fun j hj => ⟨(hF 16 _ j (PI_s (by omega)) (by unfold cr0_; omega) (by omega) (by omega) (by omega) (by omega) (by omega)), (hF 17 _ j (PI_s (by omega)) (by unfold cr0_; omega) (by omega) (by omega) (by omega) (by omega) (by omega))⟩), pu_okW.cg (gw s hs).2 (fun j hj => (hF 38 0 _ (PI_k (by omega)) (by unfold cr0_; omega) (by omega) (by omega) (by omega) (by omega) (by omega)))⟩
theorem fin_hand {m m2 : ev_m} {c0 c1 c2 c3 k : Nat} {R : Nat → Int32} (hB : iv_B m 0 c0 c1 c2 c3) (hk : k < 4) (hkc : k ≤ c1) (h1 : m2.1 1 0 (3 + 1) = nI (if c1 < k + 1 then k + 1 else c1)) (h34 : m2.1 34 0 1 = nI (if c1 < k + 1 then k + 1 else c1)) (hE : E1_ k m2 R) (hR : ∀ j, j < 18 → m2.1 (35 + 1) 0 (18 * k + j) = R j) (hF : TF_ 1 k 18 cr1_ m m2) : ∃ d0 d1 d2 d3, iv_B m2 0 d0 d1 d2 d3 := by
  obtain ⟨⟨b0, b1, b2, b3⟩, ⟨k0, k1, k2, k3⟩, ⟨r0, r1, r2, r3⟩, gs, gh, gp, gw⟩ := hB
  have hd : (if c1 < k + 1 then k + 1 else c1) ≤ 4 ∧ ∀ s, s < (if c1 < k + 1 then k + 1 else c1) → s = k ∨ (s ≠ k ∧ s < c1) := by
    split
    · exact ⟨by omega, fun s hs => by omega⟩
    · exact ⟨by omega, fun s hs => by omega⟩
  generalize (if c1 < k + 1 then k + 1 else c1) = d at *
  obtain ⟨hd1, hd2⟩ := hd
  refine ⟨c0, d, c2, c3, ⟨b0, hd1, b2, b3⟩, ⟨(hF 1 0 3 (PI_k (by omega)) (by unfold cr1_; omega) (by omega) (by omega) (by omega) (by omega) (by omega)).trans k0, h1, (hF 1 0 5 (PI_k (by omega)) (by unfold cr1_; omega) (by omega) (by omega) (by omega) (by omega) (by omega)).trans k2, (hF 1 0 6 (PI_k (by omega)) (by unfold cr1_; omega) (by omega) (by omega) (by omega) (by omega) (by omega)).trans k3⟩, ⟨(hF 34 0 0 (PI_k (by omega)) (by unfold cr1_; omega) (by omega) (by omega) (by omega) (by omega) (by omega)).trans r0, h34, (hF 34 0 2 (PI_k (by omega)) (by unfold cr1_; omega) (by omega) (by omega) (by omega) (by omega) (by omega)).trans r2, (hF 34 0 3 (PI_k (by omega)) (by unfold cr1_; omega) (by omega) (by omega) (by omega) (by omega) (by omega)).trans r3⟩, fun s hs => ?_, fun s hs => ?_, fun s hs => ?_, fun s hs => ?_⟩
  · exact ⟨cc_S.cg (gs s hs).1 (gs s hs).2 (fun j hj => (hF 35 0 _ (PI_k (by omega)) (by unfold cr1_; omega) (by omega) (by omega) (by omega) (by omega) (by omega))) (fun j hj => (hF 3 _ j (PI_s (by omega)) (by unfold cr1_; omega) (by omega) (by omega) (by omega) (by omega) (by omega))) (fun j hj => (hF 12 _ j (PI_s (by omega)) (by unfold cr1_; omega) (by omega) (by omega) (by omega) (by omega) (by omega))), pu_okS.cg (gs s hs).2 (fun j hj => (hF 35 0 _ (PI_k (by omega)) (by unfold cr1_; omega) (by omega) (by omega) (by omega) (by omega) (by omega)))⟩
  · rcases hd2 s hs with e | ⟨e, hs2⟩
    · rw [show 4 * 0 + s = k by omega]
      exact ⟨cc_D.cg hE.1 hE.2 hR (fun _ _ => rfl) (fun _ _ => ⟨rfl, rfl⟩), pu_okD.cg hE.2 hR⟩
    · exact ⟨cc_D.cg (gh s hs2).1 (gh s hs2).2 (fun j hj => (hF 36 0 _ (PI_k (by omega)) (by unfold cr1_; omega) (by omega) (by omega) (by omega) (by omega) (by omega))) (fun j hj => (hF 4 _ j (PI_s (by omega)) (by unfold cr1_; omega) (by omega) (by omega) (by omega) (by omega) (by omega))) (fun j hj => ⟨(hF 13 _ j (PI_s (by omega)) (by unfold cr1_; omega) (by omega) (by omega) (by omega) (by omega) (by omega)), (hF 14 _ j (PI_s (by omega)) (by unfold cr1_; omega) (by omega) (by omega) (by omega) (by omega) (by omega))⟩), pu_okD.cg (gh s hs2).2 (fun j hj => (hF 36 0 _ (PI_k (by omega)) (by unfold cr1_; omega) (by omega) (by omega) (by omega) (by omega) (by omega)))⟩
  · exact ⟨cp_P.cg (gp s hs).1 (gp s hs).2 (fun j hj => (hF 37 0 _ (PI_k (by omega)) (by unfold cr1_; omega) (by omega) (by omega) (by omega) (by omega) (by omega))) ((hF 5 _ 1 (PI_s (by omega)) (by unfold cr1_; omega) (by omega) (by omega) (by omega) (by omega) (by omega))) (fun j hj => (hF 15 _ j (PI_s (by omega)) (by unfold cr1_; omega) (by omega) (by omega) (by omega) (by omega) (by omega))), pu_okP.cg (gp s hs).2 (fun j hj => (hF 37 0 _ (PI_k (by omega)) (by unfold cr1_; omega) (by omega) (by omega) (by omega) (by omega) (by omega)))⟩
  · exact ⟨cp_W.cg (gw s hs).1 (gw s hs).2 (fun j hj => (hF 38 0 _ (PI_k (by omega)) (by unfold cr1_; omega) (by omega) (by omega) (by omega) (by omega) (by omega))) ((hF 6 _ 2 (PI_s (by omega)) (by unfold cr1_; omega) (by omega) (by omega) (by omega) (by omega) (by omega))) (fun j hj => ⟨(hF 16 _ j (PI_s (by omega)) (by unfold cr1_; omega) (by omega) (by omega) (by omega) (by omega) (by omega)), (hF 17 _ j (PI_s (by omega)) (by unfold cr1_; omega) (by omega) (by omega) (by omega) (by omega) (by omega))⟩), pu_okW.cg (gw s hs).2 (fun j hj => (hF 38 0 _ (PI_k (by omega)) (by unfold cr1_; omega) (by omega) (by omega) (by omega) (by omega) (by omega)))⟩
theorem fin_paper {m m2 : ev_m} {c0 c1 c2 c3 k : Nat} {R : Nat → Int32} (hB : iv_B m 0 c0 c1 c2 c3) (hk : k < 2) (hkc : k ≤ c2) (h1 : m2.1 1 0 (3 + 2) = nI (if c2 < k + 1 then k + 1 else c2)) (h34 : m2.1 34 0 2 = nI (if c2 < k + 1 then k + 1 else c2)) (hE : E2_ k m2 R) (hR : ∀ j, j < 61 → m2.1 (35 + 2) 0 (61 * k + j) = R j) (hF : TF_ 2 k 61 cr2_ m m2) : ∃ d0 d1 d2 d3, iv_B m2 0 d0 d1 d2 d3 := by
  obtain ⟨⟨b0, b1, b2, b3⟩, ⟨k0, k1, k2, k3⟩, ⟨r0, r1, r2, r3⟩, gs, gh, gp, gw⟩ := hB
  have hd : (if c2 < k + 1 then k + 1 else c2) ≤ 2 ∧ ∀ s, s < (if c2 < k + 1 then k + 1 else c2) → s = k ∨ (s ≠ k ∧ s < c2) := by
    split
    · exact ⟨by omega, fun s hs => by omega⟩
    · exact ⟨by omega, fun s hs => by omega⟩
  generalize (if c2 < k + 1 then k + 1 else c2) = d at *
  obtain ⟨hd1, hd2⟩ := hd
  refine ⟨c0, c1, d, c3, ⟨b0, b1, hd1, b3⟩, ⟨(hF 1 0 3 (PI_k (by omega)) (by unfold cr2_; omega) (by omega) (by omega) (by omega) (by omega) (by omega)).trans k0, (hF 1 0 4 (PI_k (by omega)) (by unfold cr2_; omega) (by omega) (by omega) (by omega) (by omega) (by omega)).trans k1, h1, (hF 1 0 6 (PI_k (by omega)) (by unfold cr2_; omega) (by omega) (by omega) (by omega) (by omega) (by omega)).trans k3⟩, ⟨(hF 34 0 0 (PI_k (by omega)) (by unfold cr2_; omega) (by omega) (by omega) (by omega) (by omega) (by omega)).trans r0, (hF 34 0 1 (PI_k (by omega)) (by unfold cr2_; omega) (by omega) (by omega) (by omega) (by omega) (by omega)).trans r1, h34, (hF 34 0 3 (PI_k (by omega)) (by unfold cr2_; omega) (by omega) (by omega) (by omega) (by omega) (by omega)).trans r3⟩, fun s hs => ?_, fun s hs => ?_, fun s hs => ?_, fun s hs => ?_⟩
  · exact ⟨cc_S.cg (gs s hs).1 (gs s hs).2 (fun j hj => (hF 35 0 _ (PI_k (by omega)) (by unfold cr2_; omega) (by omega) (by omega) (by omega) (by omega) (by omega))) (fun j hj => (hF 3 _ j (PI_s (by omega)) (by unfold cr2_; omega) (by omega) (by omega) (by omega) (by omega) (by omega))) (fun j hj => (hF 12 _ j (PI_s (by omega)) (by unfold cr2_; omega) (by omega) (by omega) (by omega) (by omega) (by omega))), pu_okS.cg (gs s hs).2 (fun j hj => (hF 35 0 _ (PI_k (by omega)) (by unfold cr2_; omega) (by omega) (by omega) (by omega) (by omega) (by omega)))⟩
  · exact ⟨cc_D.cg (gh s hs).1 (gh s hs).2 (fun j hj => (hF 36 0 _ (PI_k (by omega)) (by unfold cr2_; omega) (by omega) (by omega) (by omega) (by omega) (by omega))) (fun j hj => (hF 4 _ j (PI_s (by omega)) (by unfold cr2_; omega) (by omega) (by omega) (by omega) (by omega) (by omega))) (fun j hj => ⟨(hF 13 _ j (PI_s (by omega)) (by unfold cr2_; omega) (by omega) (by omega) (by omega) (by omega) (by omega)), (hF 14 _ j (PI_s (by omega)) (by unfold cr2_; omega) (by omega) (by omega) (by omega) (by omega) (by omega))⟩), pu_okD.cg (gh s hs).2 (fun j hj => (hF 36 0 _ (PI_k (by omega)) (by unfold cr2_; omega) (by omega) (by omega) (by omega) (by omega) (by omega)))⟩
  · rcases hd2 s hs with e | ⟨e, hs2⟩
    · rw [show 2 * 0 + s = k by omega]
      exact ⟨cp_P.cg hE.1 hE.2 hR rfl (fun _ _ => rfl), pu_okP.cg hE.2 hR⟩
    · exact ⟨cp_P.cg (gp s hs2).1 (gp s hs2).2 (fun j hj => (hF 37 0 _ (PI_k (by omega)) (by unfold cr2_; omega) (by omega) (by omega) (by omega) (by omega) (by omega))) ((hF 5 _ 1 (PI_s (by omega)) (by unfold cr2_; omega) (by omega) (by omega) (by omega) (by omega) (by omega))) (fun j hj => (hF 15 _ j (PI_s (by omega)) (by unfold cr2_; omega) (by omega) (by omega) (by omega) (by omega) (by omega))), pu_okP.cg (gp s hs2).2 (fun j hj => (hF 37 0 _ (PI_k (by omega)) (by unfold cr2_; omega) (by omega) (by omega) (by omega) (by omega) (by omega)))⟩
  · exact ⟨cp_W.cg (gw s hs).1 (gw s hs).2 (fun j hj => (hF 38 0 _ (PI_k (by omega)) (by unfold cr2_; omega) (by omega) (by omega) (by omega) (by omega) (by omega))) ((hF 6 _ 2 (PI_s (by omega)) (by unfold cr2_; omega) (by omega) (by omega) (by omega) (by omega) (by omega))) (fun j hj => ⟨(hF 16 _ j (PI_s (by omega)) (by unfold cr2_; omega) (by omega) (by omega) (by omega) (by omega) (by omega)), (hF 17 _ j (PI_s (by omega)) (by unfold cr2_; omega) (by omega) (by omega) (by omega) (by omega) (by omega))⟩), pu_okW.cg (gw s hs).2 (fun j hj => (hF 38 0 _ (PI_k (by omega)) (by unfold cr2_; omega) (by omega) (by omega) (by omega) (by omega) (by omega)))⟩
theorem fin_watch {m m2 : ev_m} {c0 c1 c2 c3 k : Nat} {R : Nat → Int32} (hB : iv_B m 0 c0 c1 c2 c3) (hk : k < 2) (hkc : k ≤ c3) (h1 : m2.1 1 0 (3 + 3) = nI (if c3 < k + 1 then k + 1 else c3)) (h34 : m2.1 34 0 3 = nI (if c3 < k + 1 then k + 1 else c3)) (hE : E3_ k m2 R) (hR : ∀ j, j < 17 → m2.1 (35 + 3) 0 (17 * k + j) = R j) (hF : TF_ 3 k 17 cr3_ m m2) : ∃ d0 d1 d2 d3, iv_B m2 0 d0 d1 d2 d3 := by
  obtain ⟨⟨b0, b1, b2, b3⟩, ⟨k0, k1, k2, k3⟩, ⟨r0, r1, r2, r3⟩, gs, gh, gp, gw⟩ := hB
  have hd : (if c3 < k + 1 then k + 1 else c3) ≤ 2 ∧ ∀ s, s < (if c3 < k + 1 then k + 1 else c3) → s = k ∨ (s ≠ k ∧ s < c3) := by
    split
    · exact ⟨by omega, fun s hs => by omega⟩
    · exact ⟨by omega, fun s hs => by omega⟩
  generalize (if c3 < k + 1 then k + 1 else c3) = d at *
  obtain ⟨hd1, hd2⟩ := hd
  refine ⟨c0, c1, c2, d, ⟨b0, b1, b2, hd1⟩, ⟨(hF 1 0 3 (PI_k (by omega)) (by unfold cr3_; omega) (by omega) (by omega) (by omega) (by omega) (by omega)).trans k0, (hF 1 0 4 (PI_k (by omega)) (by unfold cr3_; omega) (by omega) (by omega) (by omega) (by omega) (by omega)).trans k1, (hF 1 0 5 (PI_k (by omega)) (by unfold cr3_; omega) (by omega) (by omega) (by omega) (by omega) (by omega)).trans k2, h1⟩, ⟨(hF 34 0 0 (PI_k (by omega)) (by unfold cr3_; omega) (by omega) (by omega) (by omega) (by omega) (by omega)).trans r0, (hF 34 0 1 (PI_k (by omega)) (by unfold cr3_; omega) (by omega) (by omega) (by omega) (by omega) (by omega)).trans r1, (hF 34 0 2 (PI_k (by omega)) (by unfold cr3_; omega) (by omega) (by omega) (by omega) (by omega) (by omega)).trans r2, h34⟩, fun s hs => ?_, fun s hs => ?_, fun s hs => ?_, fun s hs => ?_⟩
  · exact ⟨cc_S.cg (gs s hs).1 (gs s hs).2 (fun j hj => (hF 35 0 _ (PI_k (by omega)) (by unfold cr3_; omega) (by omega) (by omega) (by omega) (by omega) (by omega))) (fun j hj => (hF 3 _ j (PI_s (by omega)) (by unfold cr3_; omega) (by omega) (by omega) (by omega) (by omega) (by omega))) (fun j hj => (hF 12 _ j (PI_s (by omega)) (by unfold cr3_; omega) (by omega) (by omega) (by omega) (by omega) (by omega))), pu_okS.cg (gs s hs).2 (fun j hj => (hF 35 0 _ (PI_k (by omega)) (by unfold cr3_; omega) (by omega) (by omega) (by omega) (by omega) (by omega)))⟩
  · exact ⟨cc_D.cg (gh s hs).1 (gh s hs).2 (fun j hj => (hF 36 0 _ (PI_k (by omega)) (by unfold cr3_; omega) (by omega) (by omega) (by omega) (by omega) (by omega))) (fun j hj => (hF 4 _ j (PI_s (by omega)) (by unfold cr3_; omega) (by omega) (by omega) (by omega) (by omega) (by omega))) (fun j hj => ⟨(hF 13 _ j (PI_s (by omega)) (by unfold cr3_; omega) (by omega) (by omega) (by omega) (by omega) (by omega)), (hF 14 _ j (PI_s (by omega)) (by unfold cr3_; omega) (by omega) (by omega) (by omega) (by omega) (by omega))⟩), pu_okD.cg (gh s hs).2 (fun j hj => (hF 36 0 _ (PI_k (by omega)) (by unfold cr3_; omega) (by omega) (by omega) (by omega) (by omega) (by omega)))⟩
  · exact ⟨cp_P.cg (gp s hs).1 (gp s hs).2 (fun j hj => (hF 37 0 _ (PI_k (by omega)) (by unfold cr3_; omega) (by omega) (by omega) (by omega) (by omega) (by omega))) ((hF 5 _ 1 (PI_s (by omega)) (by unfold cr3_; omega) (by omega) (by omega) (by omega) (by omega) (by omega))) (fun j hj => (hF 15 _ j (PI_s (by omega)) (by unfold cr3_; omega) (by omega) (by omega) (by omega) (by omega) (by omega))), pu_okP.cg (gp s hs).2 (fun j hj => (hF 37 0 _ (PI_k (by omega)) (by unfold cr3_; omega) (by omega) (by omega) (by omega) (by omega) (by omega)))⟩
  · rcases hd2 s hs with e | ⟨e, hs2⟩
    · rw [show 2 * 0 + s = k by omega]
      exact ⟨cp_W.cg hE.1 hE.2 hR rfl (fun _ _ => ⟨rfl, rfl⟩), pu_okW.cg hE.2 hR⟩
    · exact ⟨cp_W.cg (gw s hs2).1 (gw s hs2).2 (fun j hj => (hF 38 0 _ (PI_k (by omega)) (by unfold cr3_; omega) (by omega) (by omega) (by omega) (by omega) (by omega))) ((hF 6 _ 2 (PI_s (by omega)) (by unfold cr3_; omega) (by omega) (by omega) (by omega) (by omega) (by omega))) (fun j hj => ⟨(hF 16 _ j (PI_s (by omega)) (by unfold cr3_; omega) (by omega) (by omega) (by omega) (by omega) (by omega)), (hF 17 _ j (PI_s (by omega)) (by unfold cr3_; omega) (by omega) (by omega) (by omega) (by omega) (by omega))⟩), pu_okW.cg (gw s hs2).2 (fun j hj => (hF 38 0 _ (PI_k (by omega)) (by unfold cr3_; omega) (by omega) (by omega) (by omega) (by omega) (by omega)))⟩
def tz_ (X : ev_m) : ev_m := ev_pim (ev_pim (ev_pim (ev_pim (ev_pim X 10 0 0 0) 10 0 11 ((ev_pim X 10 0 0 0).1 31 0 0)) 31 0 0 0) 32 0 0 0) 33 0 0 (-1)
theorem tz_fr (X : ev_m) (r i k : Nat) (h : r ≠ 10) (h2 : ¬ ((r = 31 ∨ r = 32 ∨ r = 33) ∧ i = 0 ∧ k = 0)) : (tz_ X).1 r i k = X.1 r i k := by
  unfold tz_
  rw [pq_pim, if_neg (by omega), pq_pim, if_neg (by omega), pq_pim, if_neg (by omega), pq_pim, if_neg (by omega), pq_pim, if_neg (by omega)]
theorem tz_11 (X : ev_m) : (tz_ X).1 10 0 11 = X.1 31 0 0 := by
  unfold tz_
  rw [pq_pim, if_neg (by omega), pq_pim, if_neg (by omega), pq_pim, if_neg (by omega), pq_pim, if_pos ⟨rfl, rfl, rfl⟩, pq_pim, if_neg (by omega)]
theorem tz_31 (X : ev_m) : (tz_ X).1 31 0 0 = 0 ∧ (tz_ X).1 32 0 0 = 0 ∧ (tz_ X).1 33 0 0 = -1 := by
  unfold tz_
  refine ⟨?_, ?_, ?_⟩
  · rw [pq_pim, if_neg (by omega), pq_pim, if_neg (by omega), pq_pim, if_pos ⟨rfl, rfl, rfl⟩]
  · rw [pq_pim, if_neg (by omega), pq_pim, if_pos ⟨rfl, rfl, rfl⟩]
  · rw [pq_pim, if_pos ⟨rfl, rfl, rfl⟩]
def ry_ (so c k : Nat) (y : Int32) : Prop := (y = -1 ∧ k = c ∧ nI c ≠ (if nI so = 1 then 4 else 2)) ∨ (y = nI k ∧ k < c)
theorem rf_text_t {X : ev_m} {so c k : Nat} {y : Int32} (hso : so < 4) (hc4 : c ≤ 4) (hc : X.1 34 0 so = nI c) (hy : ry_ so c k y) : f_X10_text X 0 (nI so) y = jn_X10_text_78 (tz_ X) 0 (nI so) y := by
  have hc' : (tz_ X).1 34 0 so = nI c := by
    rw [tz_fr X 34 0 so (by decide) (by omega)]
    exact hc
  show (if s_X10_in (tz_ X) (nI so) 0 3 = true then (if y = -1 then (ev_ald ((tz_ X).1 34 0) 16 (nI so)).bind (fun x28 => (if x28 = (s_X10_mostOf (tz_ X) (nI so)) then (some (((-2), tz_ X))) else (jn_X10_text_78 (tz_ X) 0 (nI so) y))) else (f_X10_is (tz_ X) 0 (nI so) y).bind (fun x8 => (if x8 = true then (jn_X10_text_78 (tz_ X) 0 (nI so) y) else (some (((-2), tz_ X)))))) else (some (((-2), tz_ X)))) = _
  rw [if_pos (show s_X10_in (tz_ X) (nI so) 0 3 = true from in_T (a := 0) (b := 3) (by omega) (by omega) (by decide))]
  rcases hy with ⟨h1, h2, h3⟩ | ⟨h1, h2⟩
  · rw [if_pos h1, pq_ald (by omega) (by decide), pq_sb, hc']
    unfold s_X10_mostOf
    rw [if_neg h3]
  · rw [if_neg (by rw [h1]; exact nI_m1 (by omega)), rf_is (c := c) (by omega) hc', pq_sb, h1, is_T h2 (by omega), if_pos rfl]
theorem rf_78_f {X M' : ev_m} {x y : Int32} (h : f_X10_readText (tz_ X) 0 x = some (false, M')) : jn_X10_text_78 (tz_ X) 0 x y = some (-1, M') := by
  unfold jn_X10_text_78
  rw [h, pq_sb, if_neg Bool.false_ne_true]
theorem rf_78_t {X M' : ev_m} {so c k : Nat} {y : Int32} (hso : so < 4) (hc4 : c ≤ 4) (hy : ry_ so c k y) (h : f_X10_readText (tz_ X) 0 (nI so) = some (true, M')) (hc : M'.1 34 0 so = nI c) : jn_X10_text_78 (tz_ X) 0 (nI so) y = (f_X10_store (ev_pim M' 34 0 so (nI (if c < k + 1 then k + 1 else c))) 0 (nI so) (nI k)).bind (fun m26 => (some ((nI k, m26)))) := by
  unfold jn_X10_text_78
  rw [h, pq_sb, if_pos rfl]
  unfold jn_X10_text_103
  rcases hy with ⟨h1, h2, h3⟩ | ⟨h1, h2⟩
  · rw [if_pos h1, pq_ald (by omega) (by decide), pq_sb, show (true, M').2.1 34 0 so = nI c from hc, pq_sb, if_pos h1, pq_let, nI_1, pq_ast (by omega) (by decide), pq_sb, if_pos (by omega), h2]
  · rw [if_neg (by rw [h1]; exact nI_m1 (by omega)), pq_ald (by omega) (by decide), pq_sb, show (true, M').2.1 34 0 so = nI c from hc, if_neg (by rw [h1]; exact nI_m1 (by omega)), pq_let, show nI c + 0 = nI c from nI_add c 0, pq_ast (by omega) (by decide), pq_sb, if_neg (by omega), h1]
theorem text_told {so c k dI W : Nat} {y : Int32} {G : ev_m → Int64 → Int32 → Option (Bool × ev_m)} {J : Nat × Nat → ev_m → ev_m → Prop} {EE : Nat → ev_m → (Nat → Int32) → Prop} {cr : Nat → Prop} {m : ev_m} (hso : so < 4) (hT : TS_ (nI so) G J) (hE : TE_ (nI so) J (EE dI)) (hI : iv_ m) (hc4 : c ≤ 4) (hc1 : m.1 1 0 (3 + so) = nI c) (hc : m.1 34 0 so = nI c) (hk4 : k < 4) (hy : ry_ so c k y) (hp : s_X0_placeFor m 0 (nI so) y = nI k)
    (hcr : ∀ r, cr r → (3 ≤ r ∧ r ≤ 6) ∨ (12 ≤ r ∧ r ≤ 17)) (hEfr : ∀ i m m' R, EE i m R → (∀ r j, cr r → m'.1 r i j = m.1 r i j) → EE i m' R)
    (hKeep : ∀ m6 R, m6.1 1 0 (3 + so) = nI c → EE dI m6 R → ∃ m8, f_X0_keep m6 0 (nI so) (nI k) (some 0) = some m8 ∧ m8.1 1 0 (3 + so) = nI (if c < k + 1 then k + 1 else c) ∧ EE k m8 R ∧ ∀ r i j, ¬ (cr r ∧ i = k) → ¬ (r = 1 ∧ i = 0 ∧ j = 3 + so) → m8.1 r i j = m6.1 r i j)
    (hStore : ∀ M : ev_m, ∃ M', f_X10_store M 0 (nI so) (nI k) = some M' ∧ (∀ j, j < W → M'.1 (35 + so) 0 (W * k + j) = M.1 39 0 j) ∧ ∀ r i j, ¬ (r = 35 + so ∧ i = 0 ∧ W * k ≤ j ∧ j < W * k + W) → M'.1 r i j = M.1 r i j)
    (hZ : ∀ j, W * k ≤ j → j < W * k + W → rz_ 0 (35 + so) j) (hZ2 : ∀ r, cr r → cz_ 0 r k)
    (hFin : ∀ (m2 : ev_m) (R : Nat → Int32), m2.1 1 0 (3 + so) = nI (if c < k + 1 then k + 1 else c) → m2.1 34 0 so = nI (if c < k + 1 then k + 1 else c) → EE k m2 R → (∀ j, j < W → m2.1 (35 + so) 0 (W * k + j) = R j) → TF_ so k W cr m m2 → ∃ d0 d1 d2 d3, iv_B m2 0 d0 d1 d2 d3) : kd_ m (fun m => f_X9_text m 0 (nI so) y) (fun m => f_X10_text m 0 (nI so) y) := by
  obtain ⟨⟨c0, c1, c2, c3, L, hB0, t0, t1, t2, t3, t4, t5⟩, hG, hY⟩ := id hI
  have hBok : okB_ (fun k => if k < L then m.1 11 0 k &&& 255 else -1) L := ⟨t0, fun k hk => by
    try dsimp only
    rw [if_pos hk]
    exact and255 _, fun k hk => by
    try dsimp only
    rw [if_neg (by omega)]⟩
  obtain ⟨m3, e3, f3, h3⟩ := text_two (m := m) hBok hT hE t1 (fun k hk => by
    try dsimp only
    rw [if_pos hk]) (fun k hk => by
    try dsimp only
    rw [if_pos hk, t3 k hk, show 600 * 0 + k = k by omega])
  have hne : ¬ nI k = -2 := fun e => by
    have : (nI k).toInt = (-2 : Int32).toInt := by rw [e]
    rw [nI_toInt (by omega), show (-2 : Int32).toInt = -2 from rfl] at this
    omega
  have hcl : f_X9_text m 0 (nI so) y = (if (ev_pim (ev_pim (ev_pim m3 2 0 1 0) 1 0 1 (m3.1 7 0 4)) 1 0 2 (m3.1 7 0 5)).1 7 0 4 = 0 then (f_X0_keep (ev_pim (ev_pim (ev_pim m3 2 0 1 0) 1 0 1 (m3.1 7 0 4)) 1 0 2 (m3.1 7 0 5)) 0 (nI so) (nI k) (some 0)).bind (fun m8 => (some ((nI k, m8)))) else (some (((-1), ev_pim (ev_pim (ev_pim m3 2 0 1 0) 1 0 1 (m3.1 7 0 4)) 1 0 2 (m3.1 7 0 5))))) := by
    unfold f_X9_text
    rw [hp, pq_let, if_neg hne, e3, pq_sb, pq_let, show (ev_pim m3 2 0 1 0).1 7 0 4 = m3.1 7 0 4 by rw [pq_pim, if_neg (by omega)], pq_let, show (ev_pim (ev_pim m3 2 0 1 0) 1 0 1 (m3.1 7 0 4)).1 7 0 5 = m3.1 7 0 5 by rw [pq_pim, if_neg (by omega), pq_pim, if_neg (by omega)], pq_let]
  generalize hm6 : ev_pim (ev_pim (ev_pim m3 2 0 1 0) 1 0 1 (m3.1 7 0 4)) 1 0 2 (m3.1 7 0 5) = m6 at *
  have h6 : ∀ r i j, ¬ (r = 2 ∧ i = 0 ∧ j = 1) → ¬ (r = 1 ∧ i = 0 ∧ (j = 1 ∨ j = 2)) → m6.1 r i j = m3.1 r i j := fun r i j q1 q2 => by rw [← hm6, pq_pim, if_neg (by omega), pq_pim, if_neg (by omega), pq_pim, if_neg (by omega)]
  have h61 : m6.1 2 0 1 = 0 := by rw [← hm6, pq_pim, if_neg (by omega), pq_pim, if_neg (by omega), pq_pim, if_pos ⟨rfl, rfl, rfl⟩]
  have h62 : m6.1 1 0 1 = m3.1 7 0 4 := by rw [← hm6, pq_pim, if_neg (by omega), pq_pim, if_pos ⟨rfl, rfl, rfl⟩]
  have h63 : m6.1 1 0 2 = m3.1 7 0 5 := by rw [← hm6, pq_pim, if_pos ⟨rfl, rfl, rfl⟩]
  clear hm6
  -- the reference behind X
  have hX : ∀ X : ev_m, (∀ r i j, r = 30 ∨ r = 31 ∨ r = 34 → X.1 r i j = m.1 r i j) → ∃ b M', f_X10_text X 0 (nI so) y = jn_X10_text_78 (tz_ X) 0 (nI so) y ∧ f_X10_readText (tz_ X) 0 (nI so) = some (b, M') ∧ TB_ (EE dI) m (tz_ X) m3 M' b := by
    intro X hX
    obtain ⟨b, M', g1, g2⟩ := h3 (tz_ X) (by rw [tz_11, hX 31 0 0 (by omega)]; exact t2) (fun k hk => by
      try dsimp only
      rw [if_pos hk, tz_fr X 30 0 k (by decide) (by omega), hX 30 0 k (by omega), t3 k hk, show 600 * 0 + k = k by omega])
    exact ⟨b, M', rf_text_t hso hc4 (by rw [hX 34 0 so (by omega)]; exact hc) hy, g1, g2⟩
  by_cases hf : m3.1 7 0 4 = 0
  · -- told
    have hX6 : ∀ r i j, r = 30 ∨ r = 31 ∨ r = 34 → m6.1 r i j = m.1 r i j := fun r i j q => by
      rw [h6 r i j (by omega) (by omega)]
      exact f3 r i j (by unfold xd_ xc_; omega)
    obtain ⟨b6, M6, -, -, g6⟩ := hX m6 hX6
    have hE6 : EE dI m6 (M6.1 39 0) := hEfr _ _ _ _ (g6.2.2.2.1 hf) (fun r j q => h6 r dI j (by have := hcr r q; omega) (by have := hcr r q; omega))
    obtain ⟨m8, e8, k1, k2, k3⟩ := hKeep m6 (M6.1 39 0) (by rw [h6 1 0 (3 + so) (by omega) (by omega), f3 1 0 (3 + so) (by unfold xd_ xc_; omega)]; exact hc1) hE6
    have h8 : ∀ r i j, ¬ (cr r ∧ i = k) → ¬ (r = 1 ∧ i = 0 ∧ (j = 1 ∨ j = 2 ∨ j = 3 + so)) → ¬ (r = 2 ∧ i = 0 ∧ j = 1) → m8.1 r i j = m3.1 r i j := fun r i j q1 q2 q3 => by
      rw [k3 r i j q1 (by omega)]
      exact h6 r i j q3 (by omega)
    have hX8 : ∀ r i j, r = 30 ∨ r = 31 ∨ r = 34 → m8.1 r i j = m.1 r i j := fun r i j q => by
      rw [k3 r i j (fun z => by have := hcr r z.1; omega) (by omega)]
      exact hX6 r i j q
    obtain ⟨b, M', a1, a2, o1, o2, o3, o4, o5, o6⟩ := hX m8 hX8
    have hb : b = true := by rw [o3, hf]; rfl
    subst hb
    have hM : ∀ r i j, r ≠ 10 → r ≠ 39 → ¬ ((r = 31 ∨ r = 32 ∨ r = 33) ∧ i = 0 ∧ j = 0) → M'.1 r i j = m8.1 r i j := fun r i j q1 q2 q3 => by
      rw [o6 r i j q1 q2 (by omega)]
      exact tz_fr m8 r i j q1 q3
    obtain ⟨M7, s1, s2, s3⟩ := hStore (ev_pim M' 34 0 so (nI (if c < k + 1 then k + 1 else c)))
    have hM7 : ∀ r i j, ¬ (r = 35 + so ∧ i = 0 ∧ W * k ≤ j ∧ j < W * k + W) → ¬ (r = 34 ∧ i = 0 ∧ j = so) → M7.1 r i j = M'.1 r i j := fun r i j q1 q2 => by
      rw [s3 r i j q1, pq_pim, if_neg q2]
    -- the same row was read
    have hrow : EE k M7 (M'.1 39 0) := by
      obtain ⟨m8', e8', -, k2', -⟩ := hKeep m6 (M'.1 39 0) (by rw [h6 1 0 (3 + so) (by omega) (by omega), f3 1 0 (3 + so) (by unfold xd_ xc_; omega)]; exact hc1) (hEfr _ _ _ _ (o4 hf) (fun r j q => h6 r dI j (by have := hcr r q; omega) (by have := hcr r q; omega)))
      have : m8' = m8 := Option.some.inj (e8'.symm.trans e8)
      subst this
      exact hEfr _ _ _ _ k2' (fun r j q => by
        have := hcr r q
        rw [hM7 r k j (by omega) (by omega)]
        exact hM r k j (by omega) (by omega) (by omega))
    have hTF : TF_ so k W cr m M7 := by
      intro r i j q0 q1 q2 q3 q4 q5 q6
      have hx := PI_x q0
      rw [hM7 r i j q6 q5, hM r i j hx.2.2.1 hx.2.2.2 q4, h8 r i j q1 q2 (by omega)]
      exact f3 r i j hx.1
    refine ⟨nI k, m8, M7, ?_, ?_, iv_tell hI (hFin M7 (M'.1 39 0) ?_ ?_ hrow (fun j hj => ?_) hTF) ?_ ?_ ?_ ?_ (fun j => ?_) (fun r i j q0 q1 q2 => ?_)⟩
    · try dsimp only
      rw [hcl, if_pos (by rw [h6 7 0 4 (by omega) (by omega)]; exact hf), e8, pq_sb]
    · try dsimp only
      rw [a1, rf_78_t hso hc4 hy a2 (by rw [hM 34 0 so (by decide) (by decide) (by omega), hX8 34 0 so (by omega)]; exact hc), s1, pq_sb]
    · rw [hM7 1 0 _ (by omega) (by omega), hM 1 0 _ (by decide) (by decide) (by omega)]
      exact k1
    · rw [s3 34 0 so (by omega), pq_pim, if_pos ⟨rfl, rfl, rfl⟩]
    · rw [s2 j hj, pq_pim, if_neg (by omega)]
    · rw [hM7 2 0 1 (by omega) (by omega), hM 2 0 1 (by decide) (by decide) (by omega), k3 2 0 1 (fun z => by have := hcr 2 z.1; omega) (by omega)]
      exact h61
    · rw [hM7 31 0 0 (by omega) (by omega), o6 31 0 0 (by decide) (by decide) (by omega)]
      exact (tz_31 m8).1
    · rw [hM7 1 0 1 (by omega) (by omega), hM 1 0 1 (by decide) (by decide) (by omega), k3 1 0 1 (fun z => by have := hcr 1 z.1; omega) (by omega), h62, hM7 32 0 0 (by omega) (by omega)]
      exact o1.symm
    · rw [hM7 1 0 2 (by omega) (by omega), hM 1 0 2 (by decide) (by decide) (by omega), k3 1 0 2 (fun z => by have := hcr 1 z.1; omega) (by omega), h63, hM7 33 0 0 (by omega) (by omega)]
      exact o2.symm
    · rw [hM7 30 0 j (by omega) (by omega), hM 30 0 j (by decide) (by decide) (by omega)]
      exact hX8 30 0 j (by omega)
    · refine hTF r i j q0 (fun z => q1 (by rw [z.2]; exact hZ2 r z.1)) (fun z => q1 (by unfold cz_; omega)) (fun z => q1 (by unfold cz_; omega)) (fun z => q2 (by unfold rz_; omega)) (fun z => q2 (by unfold rz_; omega)) (fun z => q2 (by rw [z.1]; exact hZ j z.2.2.1 z.2.2.2))
  · -- a fault
    have hX6 : ∀ r i j, r = 30 ∨ r = 31 ∨ r = 34 → m6.1 r i j = m.1 r i j := fun r i j q => by
      rw [h6 r i j (by omega) (by omega)]
      exact f3 r i j (by unfold xd_ xc_; omega)
    obtain ⟨b, M', a1, a2, o1, o2, o3, -, o5, o6⟩ := hX m6 hX6
    have hb : b = false := by rw [o3, decide_eq_false hf]
    subst hb
    have hM : ∀ r i j, r ≠ 10 → r ≠ 39 → ¬ ((r = 31 ∨ r = 32 ∨ r = 33) ∧ i = 0 ∧ j = 0) → M'.1 r i j = m6.1 r i j := fun r i j q1 q2 q3 => by
      rw [o6 r i j q1 q2 (by omega)]
      exact tz_fr m6 r i j q1 q3
    have hall : ∀ r i j, PI_ r i = true → ¬ ((r = 31 ∨ r = 32 ∨ r = 33) ∧ i = 0 ∧ j = 0) → ¬ (r = 2 ∧ i = 0 ∧ j = 1) → ¬ (r = 1 ∧ i = 0 ∧ (j = 1 ∨ j = 2)) → M'.1 r i j = m.1 r i j := fun r i j q0 q1 q2 q3 => by
      have hx := PI_x q0
      rw [hM r i j hx.2.2.1 hx.2.2.2 q1, h6 r i j q2 q3]
      exact f3 r i j hx.1
    refine ⟨-1, m6, M', ?_, ?_, iv_tell hI ⟨c0, c1, c2, c3, hB0.tq (fun j h1 h2 => hall 1 0 j (PI_k (by decide)) (by omega) (by omega) (by omega)) (fun r i j q q2 => hall r i j q (fun z => by rcases z.1 with z | z | z <;> rw [z] at q2 <;> exact absurd q2 (by decide)) (fun z => by rw [z.1] at q2; exact absurd q2 (by decide)) (fun z => by rw [z.1] at q2; exact absurd q2 (by decide)))⟩ ?_ ?_ ?_ ?_ (fun j => ?_) (fun r i j q0 q1 q2 => ?_)⟩
    · try dsimp only
      rw [hcl, if_neg (by rw [h6 7 0 4 (by omega) (by omega)]; exact hf)]
    · try dsimp only
      rw [a1, rf_78_f a2]
    · rw [hM 2 0 1 (by decide) (by decide) (by omega)]
      exact h61
    · rw [o6 31 0 0 (by decide) (by decide) (by omega)]
      exact (tz_31 m6).1
    · rw [hM 1 0 1 (by decide) (by decide) (by omega), h62]
      exact o1.symm
    · rw [hM 1 0 2 (by decide) (by decide) (by omega), h63]
      exact o2.symm
    · rw [hM 30 0 j (by decide) (by decide) (by omega)]
      exact hX6 30 0 j (by omega)
    · exact hall r i j q0 (fun z => q2 (by unfold rz_; omega)) (fun z => q1 (by unfold cz_; omega)) (fun z => q1 (by unfold cz_; omega))
/-- refused -/
theorem text_ref {m : ev_m} {x y : Int32} (hI : iv_ m) (hp : s_X0_placeFor m 0 x y = -2) (hr : ∀ X : ev_m, (∀ j, X.1 34 0 j = m.1 34 0 j) → f_X10_text X 0 x y = some (-2, tz_ X)) : kd_ m (fun m => f_X9_text m 0 x y) (fun m => f_X10_text m 0 x y) := by
  obtain ⟨⟨c0, c1, c2, c3, L, hB0, t0, t1, t2, t3, t4, t5⟩, hG, hY⟩ := id hI
  have hm1 : ∀ r i j, ¬ (r = 2 ∧ i = 0 ∧ j = 1) → ¬ (r = 1 ∧ i = 0 ∧ (j = 1 ∨ j = 2)) → (ev_pim (ev_pim (ev_pim m 2 0 1 0) 1 0 1 0) 1 0 2 (-1)).1 r i j = m.1 r i j := fun r i j q1 q2 => by rw [pq_pim, if_neg (by omega), pq_pim, if_neg (by omega), pq_pim, if_neg (by omega)]
  have hall : ∀ r i j, r ≠ 10 → ¬ ((r = 31 ∨ r = 32 ∨ r = 33) ∧ i = 0 ∧ j = 0) → ¬ (r = 2 ∧ i = 0 ∧ j = 1) → ¬ (r = 1 ∧ i = 0 ∧ (j = 1 ∨ j = 2)) → (tz_ (ev_pim (ev_pim (ev_pim m 2 0 1 0) 1 0 1 0) 1 0 2 (-1))).1 r i j = m.1 r i j := fun r i j q0 q1 q2 q3 => by
    rw [tz_fr _ r i j q0 q1]
    exact hm1 r i j q2 q3
  refine ⟨-2, _, _, ?_, hr (ev_pim (ev_pim (ev_pim m 2 0 1 0) 1 0 1 0) 1 0 2 (-1)) (fun j => hm1 34 0 j (by omega) (by omega)), iv_tell hI ⟨c0, c1, c2, c3, hB0.tq (fun j h1 h2 => hall 1 0 j (by decide) (by omega) (by omega) (by omega)) (fun r i j q q2 => hall r i j (PI_x q).2.2.1 (fun z => by rcases z.1 with z | z | z <;> rw [z] at q2 <;> exact absurd q2 (by decide)) (fun z => by rw [z.1] at q2; exact absurd q2 (by decide)) (fun z => by rw [z.1] at q2; exact absurd q2 (by decide)))⟩ ?_ ?_ ?_ ?_ (fun j => hall 30 0 j (by decide) (by omega) (by omega) (by omega)) (fun r i j q0 q1 q2 => hall r i j (PI_x q0).2.2.1 (fun z => q2 (by unfold rz_; omega)) (fun z => q1 (by unfold cz_; omega)) (fun z => q1 (by unfold cz_; omega)))⟩
  · try dsimp only
    unfold f_X9_text
    rw [hp, pq_let, if_pos rfl, pq_let, pq_let, pq_let]
  · rw [tz_fr _ 2 0 1 (by decide) (by omega), pq_pim, if_neg (by omega), pq_pim, if_neg (by omega), pq_pim, if_pos ⟨rfl, rfl, rfl⟩]
    rfl
  · exact (tz_31 _).1
  · rw [(tz_31 _).2.1, tz_fr _ 1 0 1 (by decide) (by omega), pq_pim, if_neg (by omega), pq_pim, if_pos ⟨rfl, rfl, rfl⟩]
  · rw [(tz_31 _).2.2, tz_fr _ 1 0 2 (by decide) (by omega), pq_pim, if_pos ⟨rfl, rfl, rfl⟩]
theorem rf_text_f {X : ev_m} {so c : Nat} {y : Int32} (hso : so < 4) (hc4 : c ≤ 4) (hc : X.1 34 0 so = nI c) (hy : (y = -1 ∧ nI c = (if nI so = 1 then 4 else 2)) ∨ (y ≠ -1 ∧ ∀ j, j < c → y ≠ nI j)) : f_X10_text X 0 (nI so) y = some (-2, tz_ X) := by
  have hc' : (tz_ X).1 34 0 so = nI c := by
    rw [tz_fr X 34 0 so (by decide) (by omega)]
    exact hc
  show (if s_X10_in (tz_ X) (nI so) 0 3 = true then (if y = -1 then (ev_ald ((tz_ X).1 34 0) 16 (nI so)).bind (fun x28 => (if x28 = (s_X10_mostOf (tz_ X) (nI so)) then (some (((-2), tz_ X))) else (jn_X10_text_78 (tz_ X) 0 (nI so) y))) else (f_X10_is (tz_ X) 0 (nI so) y).bind (fun x8 => (if x8 = true then (jn_X10_text_78 (tz_ X) 0 (nI so) y) else (some (((-2), tz_ X)))))) else (some (((-2), tz_ X)))) = _
  rw [if_pos (show s_X10_in (tz_ X) (nI so) 0 3 = true from in_T (a := 0) (b := 3) (by omega) (by omega) (by decide))]
  rcases hy with ⟨h1, h3⟩ | ⟨h1, h2⟩
  · rw [if_pos h1, pq_ald (by omega) (by decide), pq_sb, hc']
    unfold s_X10_mostOf
    rw [if_pos h3]
  · rw [if_neg h1, rf_is (c := c) (by omega) hc', pq_sb, if_neg (fun z => by
      obtain ⟨j, hj, e⟩ := is_F (by omega) z
      exact h2 j hj e)]
theorem rf_text_n {X : ev_m} {x y : Int32} (h : ∀ so : Nat, so < 4 → x ≠ nI so) : f_X10_text X 0 x y = some (-2, tz_ X) := by
  show (if s_X10_in (tz_ X) x 0 3 = true then (if y = -1 then (ev_ald ((tz_ X).1 34 0) 16 x).bind (fun x28 => (if x28 = (s_X10_mostOf (tz_ X) x) then (some (((-2), tz_ X))) else (jn_X10_text_78 (tz_ X) 0 x y))) else (f_X10_is (tz_ X) 0 x y).bind (fun x8 => (if x8 = true then (jn_X10_text_78 (tz_ X) 0 x y) else (some (((-2), tz_ X)))))) else (some (((-2), tz_ X)))) = _
  rw [if_neg (fun z => by
    obtain ⟨j, -, hj, e⟩ := in_F (a := 0) (b := 3) (by decide) (by decide) z
    exact h j (by omega) e)]
/-- where a text goes -/
theorem place_n {m : ev_m} {x y : Int32} (h : ∀ so : Nat, so < 4 → x ≠ nI so) : s_X0_placeFor m 0 x y = -2 := by
  unfold s_X0_placeFor s_X0_countOf
  rw [if_neg (show ¬ x = 0 from h 0 (by decide)), if_neg (show ¬ x = 1 from h 1 (by decide)), if_neg (show ¬ x = 2 from h 2 (by decide)), if_neg (show ¬ x = 3 from h 3 (by decide)), pq_let, pq_let, if_pos (by decide)]
theorem place_t {m : ev_m} {so c room : Nat} {y : Int32} (hso : so < 4) (hr : room ≤ 4) (hroom : nI room = (if nI so = 1 then 4 else 2)) (hcr : c ≤ room) (hc : m.1 1 0 (3 + so) = nI c) : (∃ k, k < room ∧ k ≤ c ∧ ry_ so c k y ∧ s_X0_placeFor m 0 (nI so) y = nI k) ∨ (s_X0_placeFor m 0 (nI so) y = -2 ∧ ((y = -1 ∧ nI c = (if nI so = 1 then 4 else 2)) ∨ (y ≠ -1 ∧ ∀ j, j < c → y ≠ nI j))) := by
  have hcount : s_X0_countOf m 0 (nI so) = nI c := by
    unfold s_X0_countOf
    rcases (show so = 0 ∨ so = 1 ∨ so = 2 ∨ so = 3 by omega) with rfl | rfl | rfl | rfl
    · rw [if_pos (show nI 0 = 0 from rfl)]; exact hc
    · rw [if_neg (show ¬ nI 1 = 0 by decide), if_pos (show nI 1 = 1 from rfl)]; exact hc
    · rw [if_neg (show ¬ nI 2 = 0 by decide), if_neg (show ¬ nI 2 = 1 by decide), if_pos (show nI 2 = 2 from rfl)]; exact hc
    · rw [if_neg (show ¬ nI 3 = 0 by decide), if_neg (show ¬ nI 3 = 1 by decide), if_neg (show ¬ nI 3 = 2 by decide), if_pos (show nI 3 = 3 from rfl)]; exact hc
  have hrm : (if nI so = 1 then 4 else (if nI so = 0 then 2 else (if nI so = 2 then 2 else 2)) : Int32) = nI room := by
    rw [hroom, ite_self, ite_self]
  unfold s_X0_placeFor
  rw [hcount, pq_let, hrm, pq_let, if_neg (nI_pos (by omega))]
  by_cases hy : y = -1
  · rw [if_pos hy]
    by_cases hlt : c < room
    · left
      refine ⟨c, hlt, Nat.le_refl _, Or.inl ⟨hy, rfl, fun e => ?_⟩, by rw [if_pos (nI_lt hlt (by omega))]⟩
      rw [← hroom] at e
      have := (nI_eq (by omega) (by omega)).mp e
      omega
    · right
      refine ⟨by rw [if_neg (nI_nlt (by omega) (by omega))], Or.inl ⟨hy, ?_⟩⟩
      rw [← hroom, show c = room by omega]
  · rw [if_neg hy]
    by_cases h0 : y < 0
    · right
      refine ⟨by rw [if_pos h0], Or.inr ⟨hy, fun j hj e => ?_⟩⟩
      rw [e] at h0
      exact nI_pos (by omega) h0
    · obtain ⟨n, hn, rfl⟩ := nI_of h0
      rw [if_neg h0]
      by_cases hnc : n < c
      · left
        exact ⟨n, by omega, by omega, Or.inr ⟨rfl, hnc⟩, by rw [if_pos (nI_lt hnc (by omega))]⟩
      · right
        refine ⟨by rw [if_neg (nI_nlt (by omega) (by omega))], Or.inr ⟨hy, fun j hj e => ?_⟩⟩
        have := (nI_eq hn (by omega)).mp e
        omega
theorem k_text_0 {m : ev_m} (hI : iv_ m) (y : Int32) : kd_ m (fun m => f_X9_text m 0 (nI 0) y) (fun m => f_X10_text m 0 (nI 0) y) := by
  obtain ⟨⟨c0, c1, c2, c3, L, hB, -⟩, -, -⟩ := id hI
  obtain ⟨⟨b0, b1, b2, b3⟩, ⟨k0, k1, k2, k3⟩, ⟨r0, r1, r2, r3⟩, -⟩ := id hB
  rcases place_t (m := m) (so := 0) (c := c0) (room := 2) (y := y) (by decide) (by decide) (by decide) b0 k0 with ⟨k, hk, hkc, hy, hp⟩ | ⟨hp, hy⟩
  · exact text_told (so := 0) (c := c0) (k := k) (W := 23) (EE := E0_) (cr := cr0_) (by decide) ts_ship te_ship hI (by omega) k0 r0 (by omega) hy hp (fun r q => by unfold cr0_ at q; omega) E0_fr (fun m6 R h1 hE => keep_ship c0 k hk b0 m6 R h1 hE) (store_ship hk) (fun j h1 h2 => by unfold rz_; omega) (fun r q => by unfold cr0_ at q; unfold cz_; omega) (fun m2 R h1 h34 hE hR hF => fin_ship hB hk hkc h1 h34 hE hR hF)
  · exact text_ref hI hp (fun X hX => rf_text_f (by decide) (by omega) (by rw [hX]; exact r0) hy)
theorem k_text_1 {m : ev_m} (hI : iv_ m) (y : Int32) : kd_ m (fun m => f_X9_text m 0 (nI 1) y) (fun m => f_X10_text m 0 (nI 1) y) := by
  obtain ⟨⟨c0, c1, c2, c3, L, hB, -⟩, -, -⟩ := id hI
  obtain ⟨⟨b0, b1, b2, b3⟩, ⟨k0, k1, k2, k3⟩, ⟨r0, r1, r2, r3⟩, -⟩ := id hB
  rcases place_t (m := m) (so := 1) (c := c1) (room := 4) (y := y) (by decide) (by decide) (by decide) b1 k1 with ⟨k, hk, hkc, hy, hp⟩ | ⟨hp, hy⟩
  · exact text_told (so := 1) (c := c1) (k := k) (W := 18) (EE := E1_) (cr := cr1_) (by decide) ts_hand te_hand hI (by omega) k1 r1 (by omega) hy hp (fun r q => by unfold cr1_ at q; omega) E1_fr (fun m6 R h1 hE => keep_hand c1 k hk b1 m6 R h1 hE) (store_hand hk) (fun j h1 h2 => by unfold rz_; omega) (fun r q => by unfold cr1_ at q; unfold cz_; omega) (fun m2 R h1 h34 hE hR hF => fin_hand hB hk hkc h1 h34 hE hR hF)
  · exact text_ref hI hp (fun X hX => rf_text_f (by decide) (by omega) (by rw [hX]; exact r1) hy)
theorem k_text_2 {m : ev_m} (hI : iv_ m) (y : Int32) : kd_ m (fun m => f_X9_text m 0 (nI 2) y) (fun m => f_X10_text m 0 (nI 2) y) := by
  obtain ⟨⟨c0, c1, c2, c3, L, hB, -⟩, -, -⟩ := id hI
  obtain ⟨⟨b0, b1, b2, b3⟩, ⟨k0, k1, k2, k3⟩, ⟨r0, r1, r2, r3⟩, -⟩ := id hB
  rcases place_t (m := m) (so := 2) (c := c2) (room := 2) (y := y) (by decide) (by decide) (by decide) b2 k2 with ⟨k, hk, hkc, hy, hp⟩ | ⟨hp, hy⟩
  · exact text_told (so := 2) (c := c2) (k := k) (W := 61) (EE := E2_) (cr := cr2_) (by decide) ts_paper te_paper hI (by omega) k2 r2 (by omega) hy hp (fun r q => by unfold cr2_ at q; omega) E2_fr (fun m6 R h1 hE => keep_paper c2 k hk b2 m6 R h1 hE) (store_paper hk) (fun j h1 h2 => by unfold rz_; omega) (fun r q => by unfold cr2_ at q; unfold cz_; omega) (fun m2 R h1 h34 hE hR hF => fin_paper hB hk hkc h1 h34 hE hR hF)
  · exact text_ref hI hp (fun X hX => rf_text_f (by decide) (by omega) (by rw [hX]; exact r2) hy)
theorem k_text_3 {m : ev_m} (hI : iv_ m) (y : Int32) : kd_ m (fun m => f_X9_text m 0 (nI 3) y) (fun m => f_X10_text m 0 (nI 3) y) := by
  obtain ⟨⟨c0, c1, c2, c3, L, hB, -⟩, -, -⟩ := id hI
  obtain ⟨⟨b0, b1, b2, b3⟩, ⟨k0, k1, k2, k3⟩, ⟨r0, r1, r2, r3⟩, -⟩ := id hB
  rcases place_t (m := m) (so := 3) (c := c3) (room := 2) (y := y) (by decide) (by decide) (by decide) b3 k3 with ⟨k, hk, hkc, hy, hp⟩ | ⟨hp, hy⟩
  · exact text_told (so := 3) (c := c3) (k := k) (W := 17) (EE := E3_) (cr := cr3_) (by decide) ts_watch te_watch hI (by omega) k3 r3 (by omega) hy hp (fun r q => by unfold cr3_ at q; omega) E3_fr (fun m6 R h1 hE => keep_watch c3 k hk b3 m6 R h1 hE) (store_watch hk) (fun j h1 h2 => by unfold rz_; omega) (fun r q => by unfold cr3_ at q; unfold cz_; omega) (fun m2 R h1 h34 hE hR hF => fin_watch hB hk hkc h1 h34 hE hR hF)
  · exact text_ref hI hp (fun X hX => rf_text_f (by decide) (by omega) (by rw [hX]; exact r3) hy)
/-- TEXT -/
theorem k_text {m : ev_m} (hI : iv_ m) (x y : Int32) : kd_ m (fun m => f_X9_text m 0 x y) (fun m => f_X10_text m 0 x y) := by
  by_cases h : ∃ so : Nat, so < 4 ∧ x = nI so
  · obtain ⟨so, hso, rfl⟩ := h
    rcases (show so = 0 ∨ so = 1 ∨ so = 2 ∨ so = 3 by omega) with rfl | rfl | rfl | rfl
    · exact k_text_0 hI y
    · exact k_text_1 hI y
    · exact k_text_2 hI y
    · exact k_text_3 hI y
  · have hn : ∀ so : Nat, so < 4 → x ≠ nI so := fun so hso e => h ⟨so, hso, e⟩
    exact text_ref hI (place_n hn) (fun X _ => rf_text_n hn)
