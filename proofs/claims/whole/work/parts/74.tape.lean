/-! pure: all that is told; the tape -/
theorem cc_S.cg {m m' : ev_m} {i i' : Nat} {S S' : Nat → Int32} (h : cc_S m i S) (hS : pu_okS S) (h1 : ∀ k, k < 23 → S' k = S k) (h3 : ∀ k, k < 11 → m'.1 3 i' k = m.1 3 i k) (h12 : ∀ k, k < 12 → m'.1 12 i' k = m.1 12 i k) : cc_S m' i' S' := by
  obtain ⟨-, -, -, -, -, c, hc1, hc2, e⟩ := hS
  have hcl : (S 10).toNatClampNeg = c := by rw [e]; exact nI_clamp (by omega)
  refine ⟨fun k hk => ?_, fun k hk => ?_⟩
  · rw [h3 k hk, h.1 k hk, h1 k (by omega)]
  · rw [h1 10 (by decide), hcl] at hk
    rw [h12 k (by omega), h.2 k (by omega), h1 (11 + k) (by omega)]
theorem pu_okS.cg {S S' : Nat → Int32} (h : pu_okS S) (h1 : ∀ k, k < 23 → S' k = S k) : pu_okS S' := by
  unfold pu_okS
  rw [h1 2 (by decide), h1 3 (by decide), h1 4 (by decide), h1 5 (by decide), h1 8 (by decide), h1 10 (by decide)]
  exact h
theorem cc_D.cg {m m' : ev_m} {i i' : Nat} {D D' : Nat → Int32} (h : cc_D m i D) (hD : pu_okD D) (h1 : ∀ k, k < 18 → D' k = D k) (h4 : ∀ k, k < 10 → m'.1 4 i' k = m.1 4 i k) (h13 : ∀ k, k < 4 → m'.1 13 i' k = m.1 13 i k ∧ m'.1 14 i' k = m.1 14 i k) : cc_D m' i' D' := by
  obtain ⟨-, -, -, -, c, hc2, e⟩ := hD
  have hcl : (D 9).toNatClampNeg = c := by rw [e]; exact nI_clamp (by omega)
  refine ⟨fun k hk => ?_, fun k hk => ?_⟩
  · rw [h4 k hk, h.1 k hk, h1 k (by omega)]
  · rw [h1 9 (by decide), hcl] at hk
    rw [(h13 k (by omega)).1, (h13 k (by omega)).2, (h.2 k (by omega)).1, (h.2 k (by omega)).2, h1 (10 + 2 * k) (by omega), h1 (11 + 2 * k) (by omega)]
    exact ⟨rfl, rfl⟩
theorem pu_okD.cg {D D' : Nat → Int32} (h : pu_okD D) (h1 : ∀ k, k < 18 → D' k = D k) : pu_okD D' := by
  unfold pu_okD
  rw [h1 3 (by decide), h1 4 (by decide), h1 6 (by decide), h1 8 (by decide), h1 9 (by decide)]
  exact h
theorem cp_P.cg {m m' : ev_m} {i i' : Nat} {B B' : Nat → Int32} (h : cp_P m i B) (hB : pu_okP B) (h1 : ∀ k, k < 61 → B' k = B k) (h5 : m'.1 5 i' 1 = m.1 5 i 1) (h15 : ∀ k, k < 60 → m'.1 15 i' k = m.1 15 i k) : cp_P m' i' B' := by
  obtain ⟨c, hc1, hc2, e, -⟩ := hB
  have hcl : (B 0).toNatClampNeg = c := by rw [e]; exact nI_clamp (by omega)
  refine ⟨?_, fun k hk => ?_⟩
  · rw [h5, h.1, h1 0 (by decide)]
  · rw [h1 0 (by decide), hcl] at hk
    rw [h15 k (by omega), h.2 k (by omega), h1 (1 + k) (by omega)]
theorem pu_okP.cg {B B' : Nat → Int32} (h : pu_okP B) (h1 : ∀ k, k < 61 → B' k = B k) : pu_okP B' := by
  obtain ⟨c, hc1, hc2, e, hk⟩ := h
  refine ⟨c, hc1, hc2, (h1 0 (by decide)).trans e, fun k hkc => ?_⟩
  rw [h1 (1 + k) (by omega)]
  exact hk k hkc
theorem cp_W.cg {m m' : ev_m} {i i' : Nat} {B B' : Nat → Int32} (h : cp_W m i B) (hB : pu_okW B) (h1 : ∀ k, k < 17 → B' k = B k) (h6 : m'.1 6 i' 2 = m.1 6 i 2) (h16 : ∀ k, k < 8 → m'.1 16 i' k = m.1 16 i k ∧ m'.1 17 i' k = m.1 17 i k) : cp_W m' i' B' := by
  obtain ⟨c, hc2, e, -⟩ := hB
  have hcl : (B 0).toNatClampNeg = c := by rw [e]; exact nI_clamp (by omega)
  refine ⟨?_, fun k hk => ?_⟩
  · rw [h6, h.1, h1 0 (by decide)]
  · rw [h1 0 (by decide), hcl] at hk
    rw [(h16 k (by omega)).1, (h16 k (by omega)).2, (h.2 k (by omega)).1, (h.2 k (by omega)).2, h1 (1 + 2 * k) (by omega), h1 (2 + 2 * k) (by omega)]
    exact ⟨rfl, rfl⟩
theorem pu_okW.cg {B B' : Nat → Int32} (h : pu_okW B) (h1 : ∀ k, k < 17 → B' k = B k) : pu_okW B' := by
  obtain ⟨c, hc2, e, hk⟩ := h
  refine ⟨c, hc2, (h1 0 (by decide)).trans e, fun k hkc => ?_⟩
  rw [h1 (1 + 2 * k) (by omega), h1 (2 + 2 * k) (by omega)]
  exact hk k hkc
/-- one book as another -/
theorem iv_B.mv {m m' : ev_m} {b b' c0 c1 c2 c3 : Nat} (h : iv_B m b c0 c1 c2 c3) (h1 : ∀ j, 3 ≤ j → j < 7 → m'.1 1 b' j = m.1 1 b j)
    (hs : ∀ s, s < c0 → (∀ k, k < 11 → m'.1 3 (2 * b' + s) k = m.1 3 (2 * b + s) k) ∧ ∀ k, k < 12 → m'.1 12 (2 * b' + s) k = m.1 12 (2 * b + s) k)
    (hh : ∀ s, s < c1 → (∀ k, k < 10 → m'.1 4 (4 * b' + s) k = m.1 4 (4 * b + s) k) ∧ ∀ k, k < 4 → m'.1 13 (4 * b' + s) k = m.1 13 (4 * b + s) k ∧ m'.1 14 (4 * b' + s) k = m.1 14 (4 * b + s) k)
    (hp : ∀ s, s < c2 → m'.1 5 (2 * b' + s) 1 = m.1 5 (2 * b + s) 1 ∧ ∀ k, k < 60 → m'.1 15 (2 * b' + s) k = m.1 15 (2 * b + s) k)
    (hw : ∀ s, s < c3 → m'.1 6 (2 * b' + s) 2 = m.1 6 (2 * b + s) 2 ∧ ∀ k, k < 8 → m'.1 16 (2 * b' + s) k = m.1 16 (2 * b + s) k ∧ m'.1 17 (2 * b' + s) k = m.1 17 (2 * b + s) k)
    (h34 : ∀ j, j < 4 → m'.1 34 0 (4 * b' + j) = m.1 34 0 (4 * b + j)) (h35 : ∀ k, k < 46 → m'.1 35 0 (46 * b' + k) = m.1 35 0 (46 * b + k)) (h36 : ∀ k, k < 72 → m'.1 36 0 (72 * b' + k) = m.1 36 0 (72 * b + k)) (h37 : ∀ k, k < 122 → m'.1 37 0 (122 * b' + k) = m.1 37 0 (122 * b + k)) (h38 : ∀ k, k < 34 → m'.1 38 0 (34 * b' + k) = m.1 38 0 (34 * b + k)) : iv_B m' b' c0 c1 c2 c3 := by
  obtain ⟨⟨b0, b1, b2, b3⟩, ⟨k0, k1, k2, k3⟩, ⟨r0, r1, r2, r3⟩, gs, gh, gp, gw⟩ := h
  refine ⟨⟨b0, b1, b2, b3⟩, ⟨?_, ?_, ?_, ?_⟩, ⟨?_, ?_, ?_, ?_⟩, fun s hs' => ?_, fun s hs' => ?_, fun s hs' => ?_, fun s hs' => ?_⟩
  · rw [h1 3 (by decide) (by decide)]; exact k0
  · rw [h1 4 (by decide) (by decide)]; exact k1
  · rw [h1 5 (by decide) (by decide)]; exact k2
  · rw [h1 6 (by decide) (by decide)]; exact k3
  · exact (h34 0 (by decide)).trans r0
  · exact (h34 1 (by decide)).trans r1
  · exact (h34 2 (by decide)).trans r2
  · exact (h34 3 (by decide)).trans r3
  · have e : ∀ k, k < 23 → pv_S m' (2 * b' + s) k = pv_S m (2 * b + s) k := fun k hk => by
      have := h35 (23 * s + k) (by omega)
      rw [show 46 * b' + (23 * s + k) = 23 * (2 * b' + s) + k by omega, show 46 * b + (23 * s + k) = 23 * (2 * b + s) + k by omega] at this
      exact this
    exact ⟨(gs s hs').1.cg (gs s hs').2 e (hs s hs').1 (hs s hs').2, (gs s hs').2.cg e⟩
  · have e : ∀ k, k < 18 → pv_D m' (4 * b' + s) k = pv_D m (4 * b + s) k := fun k hk => by
      have := h36 (18 * s + k) (by omega)
      rw [show 72 * b' + (18 * s + k) = 18 * (4 * b' + s) + k by omega, show 72 * b + (18 * s + k) = 18 * (4 * b + s) + k by omega] at this
      exact this
    exact ⟨(gh s hs').1.cg (gh s hs').2 e (hh s hs').1 (hh s hs').2, (gh s hs').2.cg e⟩
  · have e : ∀ k, k < 61 → pv_P m' (2 * b' + s) k = pv_P m (2 * b + s) k := fun k hk => by
      have := h37 (61 * s + k) (by omega)
      rw [show 122 * b' + (61 * s + k) = 61 * (2 * b' + s) + k by omega, show 122 * b + (61 * s + k) = 61 * (2 * b + s) + k by omega] at this
      exact this
    exact ⟨(gp s hs').1.cg (gp s hs').2 e (hp s hs').1 (hp s hs').2, (gp s hs').2.cg e⟩
  · have e : ∀ k, k < 17 → pv_W m' (2 * b' + s) k = pv_W m (2 * b + s) k := fun k hk => by
      have := h38 (17 * s + k) (by omega)
      rw [show 34 * b' + (17 * s + k) = 17 * (2 * b' + s) + k by omega, show 34 * b + (17 * s + k) = 17 * (2 * b + s) + k by omega] at this
      exact this
    exact ⟨(gw s hs').1.cg (gw s hs').2 e (hw s hs').1 (hw s hs').2, (gw s hs').2.cg e⟩
/-- regions of which books are made, the tape apart -/
def bk_ (r : Nat) : Bool := decide (3 ≤ r ∧ r ≤ 6) || decide (12 ≤ r ∧ r ≤ 17) || decide (34 ≤ r ∧ r ≤ 38)
theorem iv_B.tp {m m' : ev_m} {b c0 c1 c2 c3 : Nat} (h : iv_B m b c0 c1 c2 c3) (h1 : ∀ j, 3 ≤ j → j < 7 → m'.1 1 b j = m.1 1 b j) (h2 : ∀ r i k, bk_ r = true → m'.1 r i k = m.1 r i k) : iv_B m' b c0 c1 c2 c3 :=
  h.mv h1 (fun s _ => ⟨fun k _ => h2 3 _ k rfl, fun k _ => h2 12 _ k rfl⟩) (fun s _ => ⟨fun k _ => h2 4 _ k rfl, fun k _ => ⟨h2 13 _ k rfl, h2 14 _ k rfl⟩⟩) (fun s _ => ⟨h2 5 _ 1 rfl, fun k _ => h2 15 _ k rfl⟩) (fun s _ => ⟨h2 6 _ 2 rfl, fun k _ => ⟨h2 16 _ k rfl, h2 17 _ k rfl⟩⟩) (fun j _ => h2 34 0 _ rfl) (fun j _ => h2 35 0 _ rfl) (fun j _ => h2 36 0 _ rfl) (fun j _ => h2 37 0 _ rfl) (fun j _ => h2 38 0 _ rfl)
/-- a tape and a fault, on both sides -/
def iv_T (m : ev_m) (b L : Nat) : Prop := L ≤ 600 ∧ m.1 2 b 1 = nI L ∧ m.1 31 0 b = nI L ∧ (∀ k, k < L → m.1 11 b k = m.1 30 0 (600 * b + k)) ∧ m.1 1 b 1 = m.1 32 0 b ∧ m.1 1 b 2 = m.1 33 0 b
def iv_K (m : ev_m) (b : Nat) : Prop := ∃ c0 c1 c2 c3 L, iv_B m b c0 c1 c2 c3 ∧ iv_T m b L
def iv_G (m : ev_m) (k : Nat) : Prop := (m.1 22 0 k = 0 ∧ m.1 52 0 k = 0) ∨ (m.1 22 0 k = 1 ∧ m.1 52 0 k = 1 ∧ iv_K m (k + 1))
/-- all that is told is alike on both sides -/
def iv_ (m : ev_m) : Prop := iv_K m 0 ∧ (∀ k, k < 3 → iv_G m k) ∧ ∀ k, vp_nar .byte (m.1 30 0 k) = m.1 30 0 k
theorem iv_T.fr {m m' : ev_m} {b L : Nat} (h : iv_T m b L) (hF : pq_Fr PI_ m m') (hb : b < 4) : iv_T m' b L := by
  obtain ⟨h0, h1, h2, h3, h4, h5⟩ := h
  refine ⟨h0, ?_, ?_, fun k hk => ?_, ?_, ?_⟩
  · rw [hF 2 b 1 (PI_s (by omega))]; exact h1
  · rw [hF 31 0 b (PI_k (by decide))]; exact h2
  · rw [hF 11 b k (PI_s (by omega)), hF 30 0 _ (PI_k (by decide))]; exact h3 k hk
  · rw [hF 1 b 1 (PI_k (by decide)), hF 32 0 b (PI_k (by decide))]; exact h4
  · rw [hF 1 b 2 (PI_k (by decide)), hF 33 0 b (PI_k (by decide))]; exact h5
theorem iv_K.fr {m m' : ev_m} {b : Nat} (h : iv_K m b) (hF : pq_Fr PI_ m m') (hb : b < 4) : iv_K m' b := by
  obtain ⟨c0, c1, c2, c3, L, h1, h2⟩ := h
  exact ⟨c0, c1, c2, c3, L, h1.fr hF hb, h2.fr hF hb⟩
theorem iv_.fr {m m' : ev_m} (h : iv_ m) (hF : pq_Fr PI_ m m') : iv_ m' := by
  obtain ⟨h1, h2, h3⟩ := h
  refine ⟨h1.fr hF (by decide), fun k hk => ?_, fun k => ?_⟩
  · rcases h2 k hk with ⟨g1, g2⟩ | ⟨g1, g2, g3⟩
    · left
      rw [hF 22 0 k (PI_k (by decide)), hF 52 0 k (PI_k (by decide))]
      exact ⟨g1, g2⟩
    · right
      rw [hF 22 0 k (PI_k (by decide)), hF 52 0 k (PI_k (by decide))]
      exact ⟨g1, g2, g3.fr hF (by omega)⟩
  · rw [hF 30 0 k (PI_k (by decide))]
    exact h3 k
/-- a call that changes what is told: alike behind it, too -/
def kd_ {α : Type} (m : ev_m) (F : ev_m → Option (α × ev_m)) (G : ev_m → Option (α × ev_m)) : Prop := ∃ a m1 m2, F m = some (a, m1) ∧ G m1 = some (a, m2) ∧ iv_ m2
theorem kc_.kd {α : Type} {m : ev_m} {F G : ev_m → Option (α × ev_m)} (h : kc_ m F G) (hI : iv_ m) : kd_ m F G := by
  obtain ⟨a, m1, m2, h1, h2, h3⟩ := h
  exact ⟨a, m1, m2, h1, h2, hI.fr h3⟩
/-- FAULT -/
theorem k_fault {m : ev_m} (hI : iv_ m) (x : Int32) : s_X10_fault m 0 x = (s_X9_fault m 0 x, ev_pim m 10 0 0 0) := by
  obtain ⟨⟨c0, c1, c2, c3, L, -, t0, t1, t2, t3, t4, t5⟩, -, -⟩ := hI
  unfold s_X10_fault s_X9_fault
  rw [pq_let, show (ev_pim m 10 0 0 0).1 32 0 0 = m.1 32 0 0 by rw [pq_pim, if_neg (by decide)], show (ev_pim m 10 0 0 0).1 33 0 0 = m.1 33 0 0 by rw [pq_pim, if_neg (by decide)], t4, t5]
  split
  · rfl
  · split <;> rfl
/-- END -/
theorem k_end {m : ev_m} (hI : iv_ m) (x : Int32) : ∃ v m1 m2, s_X9_end m 0 x = (v, m1) ∧ s_X10_end m1 0 x = (v, m2) ∧ iv_ m2 := by
  obtain ⟨⟨c0, c1, c2, c3, L, hB, t0, t1, t2, t3, t4, t5⟩, hG, hY⟩ := id hI
  unfold s_X9_end s_X10_end
  rw [t1]
  by_cases hx : ∃ n, n ≤ L ∧ x = nI n
  · obtain ⟨n, hn, rfl⟩ := hx
    refine ⟨nI n, ev_pim m 2 0 1 (nI n), ev_pim (ev_pim (ev_pim m 2 0 1 (nI n)) 10 0 0 0) 31 0 0 (nI n), ?_, ?_, ?_⟩
    · rw [if_neg (nI_pos (by omega)), if_neg (nI_nlt (by omega) (by omega)), pq_let]
    · rw [pq_let, show (ev_pim (ev_pim m 2 0 1 (nI n)) 10 0 0 0).1 31 0 0 = nI L by rw [pq_pim, if_neg (by decide), pq_pim, if_neg (by decide)]; exact t2, if_pos (show s_X10_in _ (nI n) 0 (nI L) = true from in_T (a := 0) (by omega) hn (by omega)), pq_let]
    · have hsame : ∀ r i k, ¬ (r = 2 ∧ i = 0) → r ≠ 10 → ¬ (r = 31 ∧ k = 0) → (ev_pim (ev_pim (ev_pim m 2 0 1 (nI n)) 10 0 0 0) 31 0 0 (nI n)).1 r i k = m.1 r i k := fun r i k h1 h2 h3 => by
        rw [pq_pim, if_neg (by omega), pq_pim, if_neg (by omega), pq_pim, if_neg (by omega)]
      have hbk : ∀ r i k, bk_ r = true → (ev_pim (ev_pim (ev_pim m 2 0 1 (nI n)) 10 0 0 0) 31 0 0 (nI n)).1 r i k = m.1 r i k := fun r i k h => by
        refine hsame r i k ?_ ?_ ?_ <;> (intro e; revert h; simp only [bk_, Bool.or_eq_true, decide_eq_true_eq]; omega)
      refine ⟨⟨c0, c1, c2, c3, n, hB.tp (fun j _ _ => hsame 1 0 j (by omega) (by omega) (by omega)) hbk, by omega, ?_, ?_, fun k hk => ?_, ?_, ?_⟩, fun k hk => ?_, fun k => ?_⟩
      · rw [pq_pim, if_neg (by decide), pq_pim, if_neg (by decide), pq_pim, if_pos ⟨rfl, rfl, rfl⟩]
      · rw [pq_pim, if_pos ⟨rfl, rfl, rfl⟩]
      · rw [hsame 11 0 k (by omega) (by omega) (by omega), hsame 30 0 _ (by omega) (by omega) (by omega)]
        exact t3 k (by omega)
      · rw [hsame 1 0 1 (by omega) (by omega) (by omega), hsame 32 0 0 (by omega) (by omega) (by omega)]
        exact t4
      · rw [hsame 1 0 2 (by omega) (by omega) (by omega), hsame 33 0 0 (by omega) (by omega) (by omega)]
        exact t5
      · rcases hG k hk with ⟨g1, g2⟩ | ⟨g1, g2, d0, d1, d2, d3, M, q, u0, u1, u2, u3, u4, u5⟩
        · left
          rw [hsame 22 0 k (by omega) (by omega) (by omega), hsame 52 0 k (by omega) (by omega) (by omega)]
          exact ⟨g1, g2⟩
        · right
          rw [hsame 22 0 k (by omega) (by omega) (by omega), hsame 52 0 k (by omega) (by omega) (by omega)]
          refine ⟨g1, g2, d0, d1, d2, d3, M, q.tp (fun j _ _ => hsame 1 _ j (by omega) (by omega) (by omega)) hbk, u0, ?_, ?_, fun j hj => ?_, ?_, ?_⟩
          · rw [hsame 2 _ 1 (by omega) (by omega) (by omega)]; exact u1
          · rw [hsame 31 0 _ (by omega) (by omega) (by omega)]; exact u2
          · rw [hsame 11 _ j (by omega) (by omega) (by omega), hsame 30 0 _ (by omega) (by omega) (by omega)]; exact u3 j hj
          · rw [hsame 1 _ 1 (by omega) (by omega) (by omega), hsame 32 0 _ (by omega) (by omega) (by omega)]; exact u4
          · rw [hsame 1 _ 2 (by omega) (by omega) (by omega), hsame 33 0 _ (by omega) (by omega) (by omega)]; exact u5
      · rw [hsame 30 0 _ (by omega) (by omega) (by omega)]
        exact hY k
  · refine ⟨-1, m, ev_pim m 10 0 0 0, ?_, ?_, hI.fr PI_pim⟩
    · by_cases h1 : x < 0
      · rw [if_pos h1]
      · rw [if_neg h1]
        obtain ⟨n, hn, rfl⟩ := nI_of h1
        rw [if_pos (nI_lt (by
          apply Nat.lt_of_not_le
          intro h
          exact hx ⟨n, h, rfl⟩) hn)]
    · rw [pq_let, show (ev_pim m 10 0 0 0).1 31 0 0 = nI L by rw [pq_pim, if_neg (by decide)]; exact t2, if_neg (fun h => hx (by
        obtain ⟨n, -, h2, e⟩ := in_F (a := 0) (b := L) (by omega) (by decide) h
        exact ⟨n, h2, e⟩))]
theorem by_24 (x : Int32) : ((x.toUInt32 >>> ((24 : Int32).toUInt32 &&& Int32.toUInt32 31)).toInt32).toInt8 = (x >>> ((24 : Int32) &&& 31)).toInt8 := by
  apply Int8.toBitVec_inj.1
  apply BitVec.eq_of_getLsbD_eq
  intro i hi
  simp
  rw [BitVec.getLsbD_signExtend, BitVec.getLsbD_signExtend, if_pos (by omega), if_pos (by omega), BitVec.getLsbD_ushiftRight, BitVec.getLsbD_sshiftRight]
  rw [show decide (32 ≤ i) = false from decide_eq_false (by omega), if_pos (by omega)]
  rfl
theorem by_16 (x : Int32) : ((x.toUInt32 >>> ((16 : Int32).toUInt32 &&& Int32.toUInt32 31)).toInt32).toInt8 = (x >>> ((16 : Int32) &&& 31)).toInt8 := by
  apply Int8.toBitVec_inj.1
  apply BitVec.eq_of_getLsbD_eq
  intro i hi
  simp
  rw [BitVec.getLsbD_signExtend, BitVec.getLsbD_signExtend, if_pos (by omega), if_pos (by omega), BitVec.getLsbD_ushiftRight, BitVec.getLsbD_sshiftRight]
  rw [show decide (32 ≤ i) = false from decide_eq_false (by omega), if_pos (by omega)]
  rfl
theorem by_8 (x : Int32) : ((x.toUInt32 >>> ((8 : Int32).toUInt32 &&& Int32.toUInt32 31)).toInt32).toInt8 = (x >>> ((8 : Int32) &&& 31)).toInt8 := by
  apply Int8.toBitVec_inj.1
  apply BitVec.eq_of_getLsbD_eq
  intro i hi
  simp
  rw [BitVec.getLsbD_signExtend, BitVec.getLsbD_signExtend, if_pos (by omega), if_pos (by omega), BitVec.getLsbD_ushiftRight, BitVec.getLsbD_sshiftRight]
  rw [show decide (32 ≤ i) = false from decide_eq_false (by omega), if_pos (by omega)]
  rfl
theorem by_0 (x : Int32) : x.toInt8 = (x >>> ((0 : Int32) &&& 31)).toInt8 := by
  rw [show x >>> ((0 : Int32) &&& 31) = x from ?_]
  apply Int32.toBitVec_inj.1
  simp
/-- the bytes of a word -/
def wb_ (x : Int32) (j : Nat) : Int32 := (x >>> ((nI (24 - 8 * j)) &&& 31)).toInt8.toInt32
theorem cl_byte {m : ev_m} {n : Nat} {v b : Int32} (h1 : m.1 2 0 1 = nI n) (hn : n < 600) (hb : v.toInt8.toInt32 = b) : f_X6_addByte m 0 v = some (ev_pim (ev_pim m 11 0 n b) 2 0 1 (nI (n + 1))) := by
  unfold f_X6_addByte
  rw [h1, if_neg (nI_pos (by omega)), if_pos (show nI n < 600 from nI_lt (b := 600) hn (by decide))]
  unfold ev_bst
  rw [nI_toInt (by omega), nI_clamp (by omega), if_pos (by omega), pq_sb, pk_vb, pq_let, show (ev_pim m 11 0 n v.toInt8.toInt32).1 2 0 1 = nI n by rw [pq_pim, if_neg (by omega)]; exact h1, nI_1, hb]
theorem cl_word {m : ev_m} {n : Nat} {x : Int32} {B : Nat → Int32} (h1 : m.1 2 0 1 = nI n) (hn : n + 4 ≤ 600) (hB : ∀ k, k < n → m.1 11 0 k = B k) (hx : ∀ j, j < 4 → B (n + j) = wb_ x j) : ∃ m', f_X6_addWord m 0 x = some m' ∧ m'.1 2 0 1 = nI (n + 4) ∧ (∀ k, k < n + 4 → m'.1 11 0 k = B k) ∧ ∀ r i k, ¬ (r = 2 ∧ i = 0) → ¬ (r = 11 ∧ i = 0) → m'.1 r i k = m.1 r i k := by
  unfold f_X6_addWord
  have g : ∀ (m : ev_m) n b, (ev_pim (ev_pim m 11 0 n b) 2 0 1 (nI (n + 1))).1 2 0 1 = nI (n + 1) := fun m n b => by rw [pq_pim, if_pos ⟨rfl, rfl, rfl⟩]
  rw [cl_byte (b := wb_ x 0) h1 (by omega) (by rw [by_24]; rfl), pq_sb, cl_byte (n := n + 1) (b := wb_ x 1) (g _ _ _) (by omega) (by rw [by_16]; rfl), pq_sb, cl_byte (n := n + 1 + 1) (b := wb_ x 2) (g _ _ _) (by omega) (by rw [by_8]; rfl), pq_sb, cl_byte (n := n + 1 + 1 + 1) (b := wb_ x 3) (g _ _ _) (by omega) (by rw [by_0]; rfl), pq_sb]
  refine ⟨_, rfl, g _ _ _, fun k hk => ?_, fun r i k h2 h3 => ?_⟩
  · have e0 := hx 0 (by decide)
    have e1 := hx 1 (by decide)
    have e2 := hx 2 (by decide)
    have e3 := hx 3 (by decide)
    rw [pq_pim, if_neg (by omega), pq_pim]
    by_cases k3 : k = n + 1 + 1 + 1
    · rw [if_pos ⟨rfl, rfl, k3⟩, k3, ← e3]
    rw [if_neg (fun q => k3 q.2.2), pq_pim, if_neg (by omega), pq_pim]
    by_cases k2 : k = n + 1 + 1
    · rw [if_pos ⟨rfl, rfl, k2⟩, k2, ← e2]
    rw [if_neg (fun q => k2 q.2.2), pq_pim, if_neg (by omega), pq_pim]
    by_cases k1 : k = n + 1
    · rw [if_pos ⟨rfl, rfl, k1⟩, k1, ← e1]
    rw [if_neg (fun q => k1 q.2.2), pq_pim, if_neg (by omega), pq_pim]
    by_cases k0 : k = n
    · rw [if_pos ⟨rfl, rfl, k0⟩, k0, ← e0]
      rfl
    rw [if_neg (fun q => k0 q.2.2)]
    exact hB k (by omega)
  · rw [pq_pim, if_neg (by omega), pq_pim, if_neg (by omega), pq_pim, if_neg (by omega), pq_pim, if_neg (by omega), pq_pim, if_neg (by omega), pq_pim, if_neg (by omega), pq_pim, if_neg (by omega), pq_pim, if_neg (by omega)]
theorem rf_byte {m : ev_m} {n j f : Nat} {x : Int32} {kx : ev_m → Option ev_m} (h1 : m.1 31 0 0 = nI n) (hn : n < 600) : lp_X10_four_3 0 x (f + 1) (nI (24 - 8 * j)) m kx = lp_X10_four_3 0 x f (nI (24 - 8 * j) + (-8)) (ev_pim (ev_pim m 30 0 n (wb_ x j)) 31 0 0 (nI (n + 1))) kx := by
  rw [lp_X10_four_3, if_neg (nI_pos (by omega)), h1]
  unfold ev_bst
  rw [nI_toInt (by omega), nI_clamp (by omega), if_pos (by omega), pq_sb, pk_vb, pq_let, show ∀ b, (ev_pim m 30 0 n b).1 31 0 0 = nI n from fun b => by rw [pq_pim, if_neg (by omega)]; exact h1, nI_1]
  rfl
theorem rf_word {m : ev_m} {n : Nat} {x : Int32} {B : Nat → Int32} (h1 : m.1 31 0 0 = nI n) (hn : n + 4 ≤ 600) (hB : ∀ k, k < n → m.1 30 0 k = B k) (hx : ∀ j, j < 4 → B (n + j) = wb_ x j) (hY : ∀ k, vp_nar .byte (m.1 30 0 k) = m.1 30 0 k) : ∃ m', f_X10_four m 0 x = some m' ∧ m'.1 31 0 0 = nI (n + 4) ∧ (∀ k, k < n + 4 → m'.1 30 0 k = B k) ∧ (∀ k, vp_nar .byte (m'.1 30 0 k) = m'.1 30 0 k) ∧ (∀ r i k, ¬ (r = 31 ∧ k = 0) → ¬ (r = 30 ∧ k < 600) → m'.1 r i k = m.1 r i k) := by
  unfold f_X10_four
  have g : ∀ (m : ev_m) n b, (ev_pim (ev_pim m 30 0 n b) 31 0 0 (nI (n + 1))).1 31 0 0 = nI (n + 1) := fun m n b => by rw [pq_pim, if_pos ⟨rfl, rfl, rfl⟩]
  have e : lp_X10_four_3 0 x 4000 24 m (fun m8 => some m8) = some (ev_pim (ev_pim (ev_pim (ev_pim (ev_pim (ev_pim (ev_pim (ev_pim m 30 0 n (wb_ x 0)) 31 0 0 (nI (n + 1))) 30 0 (n + 1) (wb_ x 1)) 31 0 0 (nI (n + 1 + 1))) 30 0 (n + 1 + 1) (wb_ x 2)) 31 0 0 (nI (n + 1 + 1 + 1))) 30 0 (n + 1 + 1 + 1) (wb_ x 3)) 31 0 0 (nI (n + 1 + 1 + 1 + 1))) := by
    rw [show (24 : Int32) = nI (24 - 8 * 0) from rfl, rf_byte h1 (by omega), show nI (24 - 8 * 0) + (-8) = nI (24 - 8 * 1) by decide, rf_byte (g _ _ _) (by omega), show nI (24 - 8 * 1) + (-8) = nI (24 - 8 * 2) by decide, rf_byte (g _ _ _) (by omega), show nI (24 - 8 * 2) + (-8) = nI (24 - 8 * 3) by decide, rf_byte (g _ _ _) (by omega), lp_X10_four_3, if_pos (by decide)]
  rw [e]
  refine ⟨_, rfl, g _ _ _, fun k hk => ?_, fun k => ?_, fun r i k h2 h3 => ?_⟩
  · have e0 := hx 0 (by decide)
    have e1 := hx 1 (by decide)
    have e2 := hx 2 (by decide)
    have e3 := hx 3 (by decide)
    rw [pq_pim, if_neg (by omega), pq_pim]
    by_cases k3 : k = n + 1 + 1 + 1
    · rw [if_pos ⟨rfl, rfl, k3⟩, k3, ← e3]
    rw [if_neg (fun q => k3 q.2.2), pq_pim, if_neg (by omega), pq_pim]
    by_cases k2 : k = n + 1 + 1
    · rw [if_pos ⟨rfl, rfl, k2⟩, k2, ← e2]
    rw [if_neg (fun q => k2 q.2.2), pq_pim, if_neg (by omega), pq_pim]
    by_cases k1 : k = n + 1
    · rw [if_pos ⟨rfl, rfl, k1⟩, k1, ← e1]
    rw [if_neg (fun q => k1 q.2.2), pq_pim, if_neg (by omega), pq_pim]
    by_cases k0 : k = n
    · rw [if_pos ⟨rfl, rfl, k0⟩, k0, ← e0]
      rfl
    rw [if_neg (fun q => k0 q.2.2)]
    exact hB k (by omega)
  · rw [pq_pim, if_neg (by omega), pq_pim]
    split
    · exact pk_vb _
    rw [pq_pim, if_neg (by omega), pq_pim]
    split
    · exact pk_vb _
    rw [pq_pim, if_neg (by omega), pq_pim]
    split
    · exact pk_vb _
    rw [pq_pim, if_neg (by omega), pq_pim]
    split
    · exact pk_vb _
    exact hY k
  · rw [pq_pim, if_neg (by omega), pq_pim, if_neg (by omega), pq_pim, if_neg (by omega), pq_pim, if_neg (by omega), pq_pim, if_neg (by omega), pq_pim, if_neg (by omega), pq_pim, if_neg (by omega), pq_pim, if_neg (by omega)]
/-- FEED -/
theorem k_feed {m : ev_m} (hI : iv_ m) (a b c d e : Int32) : kd_ m (fun m => f_X9_feed m 0 a b c d e) (fun m => f_X10_feed m 0 a b c d e) := by
  obtain ⟨⟨c0, c1, c2, c3, L, hB, t0, t1, t2, t3, t4, t5⟩, hG, hY⟩ := id hI
  by_cases hL : L ≤ 580
  · obtain ⟨A, a0, a1, a2, a3, a4⟩ : ∃ A : Nat → Int32, A 0 = a ∧ A 1 = b ∧ A 2 = c ∧ A 3 = d ∧ A 4 = e := ⟨fun k => if k = 0 then a else if k = 1 then b else if k = 2 then c else if k = 3 then d else e, rfl, rfl, rfl, rfl, rfl⟩
    obtain ⟨W, hW1, hW2⟩ : ∃ W : Nat → Int32, (∀ k, k < L → W k = m.1 11 0 k) ∧ ∀ w j, j < 4 → W (L + 4 * w + j) = wb_ (A w) j := ⟨fun k => if k < L then m.1 11 0 k else wb_ (A ((k - L) / 4)) ((k - L) % 4), fun k hk => if_pos hk, fun w j hj => by
      dsimp only
      rw [if_neg (by omega), show L + 4 * w + j - L = 4 * w + j by omega, show (4 * w + j) / 4 = w by omega, show (4 * w + j) % 4 = j by omega]⟩
    obtain ⟨p1, q1, r1, s1, u1⟩ := cl_word (x := a) t1 (by omega) (fun k hk => (hW1 k hk).symm) (fun j hj => by rw [← a0]; exact hW2 0 j hj)
    obtain ⟨p2, q2, r2, s2, u2⟩ := cl_word (x := b) r1 (by omega) s1 (fun j hj => by rw [← a1]; exact hW2 1 j hj)
    obtain ⟨p3, q3, r3, s3, u3⟩ := cl_word (x := c) r2 (by omega) s2 (fun j hj => by rw [← a2]; exact hW2 2 j hj)
    obtain ⟨p4, q4, r4, s4, u4⟩ := cl_word (x := d) r3 (by omega) s3 (fun j hj => by rw [← a3]; exact hW2 3 j hj)
    obtain ⟨p5, q5, r5, s5, u5⟩ := cl_word (x := e) r4 (by omega) s4 (fun j hj => by rw [← a4]; exact hW2 4 j hj)
    have hU : ∀ r i k, ¬ (r = 2 ∧ i = 0) → ¬ (r = 11 ∧ i = 0) → p5.1 r i k = m.1 r i k := fun r i k h1 h2 => by rw [u5 r i k h1 h2, u4 r i k h1 h2, u3 r i k h1 h2, u2 r i k h1 h2, u1 r i k h1 h2]
    have g0 : ∀ r i k, ¬ (r = 2 ∧ i = 0) → ¬ (r = 11 ∧ i = 0) → r ≠ 10 → (ev_pim p5 10 0 0 0).1 r i k = m.1 r i k := fun r i k h1 h2 h3 => by
      rw [pq_pim, if_neg (fun q => h3 q.1)]
      exact hU r i k h1 h2
    obtain ⟨n1, v1, w1, x1, y1, z1⟩ := rf_word (m := ev_pim p5 10 0 0 0) (B := W) (x := a) (n := L) (by rw [g0 31 0 0 (by omega) (by omega) (by omega)]; exact t2) (by omega) (fun k hk => by rw [g0 30 0 k (by omega) (by omega) (by omega), hW1 k hk, t3 k hk]; rw [show 600 * 0 + k = k by omega]) (fun j hj => by rw [← a0]; exact hW2 0 j hj) (fun k => by rw [g0 30 0 k (by omega) (by omega) (by omega)]; exact hY k)
    obtain ⟨n2, v2, w2, x2, y2, z2⟩ := rf_word (x := b) w1 (by omega) x1 (fun j hj => by rw [← a1]; exact hW2 1 j hj) y1
    obtain ⟨n3, v3, w3, x3, y3, z3⟩ := rf_word (x := c) w2 (by omega) x2 (fun j hj => by rw [← a2]; exact hW2 2 j hj) y2
    obtain ⟨n4, v4, w4, x4, y4, z4⟩ := rf_word (x := d) w3 (by omega) x3 (fun j hj => by rw [← a3]; exact hW2 3 j hj) y3
    obtain ⟨n5, v5, w5, x5, y5, z5⟩ := rf_word (x := e) w4 (by omega) x4 (fun j hj => by rw [← a4]; exact hW2 4 j hj) y4
    have hZ : ∀ r i k, r ≠ 10 → ¬ (r = 31 ∧ k = 0) → ¬ (r = 30 ∧ k < 600) → n5.1 r i k = p5.1 r i k := fun r i k h0 h1 h2 => by rw [z5 r i k h1 h2, z4 r i k h1 h2, z3 r i k h1 h2, z2 r i k h1 h2, z1 r i k h1 h2, pq_pim, if_neg (fun q => h0 q.1)]
    have hA : ∀ r i k, ¬ (r = 2 ∧ i = 0) → ¬ (r = 11 ∧ i = 0) → r ≠ 10 → ¬ (r = 31 ∧ k = 0) → ¬ (r = 30 ∧ k < 600) → n5.1 r i k = m.1 r i k := fun r i k h1 h2 h3 h4 h5 => (hZ r i k h3 h4 h5).trans (hU r i k h1 h2)
    have hbk : ∀ r i k, bk_ r = true → n5.1 r i k = m.1 r i k := fun r i k h => by
      refine hA r i k ?_ ?_ ?_ ?_ ?_ <;> (intro e; revert h; simp only [bk_, Bool.or_eq_true, decide_eq_true_eq]; omega)
    refine ⟨nI (L + 4 + 4 + 4 + 4 + 4), p5, n5, ?_, ?_, ⟨c0, c1, c2, c3, L + 4 + 4 + 4 + 4 + 4, hB.tp (fun j _ _ => hA 1 0 j (by omega) (by omega) (by omega) (by omega) (by omega)) hbk, by omega, ?_, w5, fun k hk => ?_, ?_, ?_⟩, fun k hk => ?_, y5⟩
    · try dsimp only
      unfold f_X9_feed
      rw [t1, if_neg (show ¬ 580 < nI L from nI_nlt (a := 580) hL (by decide)), q1, pq_sb, q2, pq_sb, q3, pq_sb, q4, pq_sb, q5, pq_sb, r5]
    · try dsimp only
      unfold f_X10_feed
      rw [pq_let, show (ev_pim p5 10 0 0 0).1 31 0 0 = nI L by rw [g0 31 0 0 (by omega) (by omega) (by omega)]; exact t2, show (20 : Int32) = nI 20 from rfl, nI_add, if_neg (show ¬ 600 < nI (L + 20) from nI_nlt (a := 600) (by omega) (by decide)), v1, pq_sb, v2, pq_sb, v3, pq_sb, v4, pq_sb, v5, pq_sb, w5]
    · rw [hZ 2 0 1 (by omega) (by omega) (by omega)]; exact r5
    · rw [hZ 11 0 k (by omega) (by omega) (by omega), s5 k hk, show 600 * 0 + k = k by omega, x5 k hk]
    · rw [hA 1 0 1 (by omega) (by omega) (by omega) (by omega) (by omega), hA 32 0 0 (by omega) (by omega) (by omega) (by omega) (by omega)]; exact t4
    · rw [hA 1 0 2 (by omega) (by omega) (by omega) (by omega) (by omega), hA 33 0 0 (by omega) (by omega) (by omega) (by omega) (by omega)]; exact t5
    · rcases hG k hk with ⟨g1, g2⟩ | ⟨g1, g2, d0, d1, d2, d3, M, q, u0, u1, u2, u3, u4, u5⟩
      · left
        rw [hA 22 0 k (by omega) (by omega) (by omega) (by omega) (by omega), hA 52 0 k (by omega) (by omega) (by omega) (by omega) (by omega)]
        exact ⟨g1, g2⟩
      · right
        rw [hA 22 0 k (by omega) (by omega) (by omega) (by omega) (by omega), hA 52 0 k (by omega) (by omega) (by omega) (by omega) (by omega)]
        refine ⟨g1, g2, d0, d1, d2, d3, M, q.tp (fun j _ _ => hA 1 _ j (by omega) (by omega) (by omega) (by omega) (by omega)) hbk, u0, ?_, ?_, fun j hj => ?_, ?_, ?_⟩
        · rw [hA 2 _ 1 (by omega) (by omega) (by omega) (by omega) (by omega)]; exact u1
        · rw [hA 31 0 _ (by omega) (by omega) (by omega) (by omega) (by omega)]; exact u2
        · rw [hA 11 _ j (by omega) (by omega) (by omega) (by omega) (by omega), hA 30 0 _ (by omega) (by omega) (by omega) (by omega) (by omega)]; exact u3 j hj
        · rw [hA 1 _ 1 (by omega) (by omega) (by omega) (by omega) (by omega), hA 32 0 _ (by omega) (by omega) (by omega) (by omega) (by omega)]; exact u4
        · rw [hA 1 _ 2 (by omega) (by omega) (by omega) (by omega) (by omega), hA 33 0 _ (by omega) (by omega) (by omega) (by omega) (by omega)]; exact u5
  · refine ⟨-1, m, ev_pim m 10 0 0 0, ?_, ?_, hI.fr PI_pim⟩
    · try dsimp only
      unfold f_X9_feed
      rw [t1, if_pos (show 580 < nI L from nI_lt (a := 580) (by omega) (by omega))]
    · try dsimp only
      unfold f_X10_feed
      rw [pq_let, show (ev_pim m 10 0 0 0).1 31 0 0 = nI L by rw [pq_pim, if_neg (by decide)]; exact t2, show (20 : Int32) = nI 20 from rfl, nI_add, if_pos (show 600 < nI (L + 20) from nI_lt (a := 600) (by omega) (by omega))]
