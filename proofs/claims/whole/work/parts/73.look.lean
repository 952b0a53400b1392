/-! pure: what is told, asked of -/
def kl_ {α : Type} (m : ev_m) (a : Option α) (G : ev_m → Option (α × ev_m)) : Prop := ∃ v, a = some v ∧ G m = some (v, ev_pim m 10 0 0 0)
theorem nI_of1 {x : Int32} (h : ¬ x < -1) : x = -1 ∨ ∃ j : Nat, j < 2 ^ 31 ∧ x = nI j := by
  by_cases h0 : x < 0
  · left
    rw [fa_lt, show (-1 : Int32).toInt = -1 from rfl] at h
    rw [lt_i0] at h0
    rw [fa_eq, show (-1 : Int32).toInt = -1 from rfl]
    omega
  · right
    exact nI_of h0
/-- COUNT -/
theorem k_count {m : ev_m} {c0 c1 c2 c3 : Nat} (hI : iv_B m 0 c0 c1 c2 c3) (x : Int32) : kl_ m (some (s_X9_count m 0 x)) (fun m => f_X10_count m 0 x) := by
  refine ⟨_, rfl, ?_⟩
  try dsimp only
  unfold f_X10_count s_X9_count s_X0_countOf
  rw [pq_let]
  obtain ⟨k0, k1, k2, k3⟩ := hI.2.1
  obtain ⟨r0, r1, r2, r3⟩ := hI.2.2.1
  by_cases hx : s_X10_in (ev_pim m 10 0 0 0) x 0 3 = true
  · rw [if_pos hx]
    obtain ⟨k, -, h2, rfl⟩ := in_F (a := 0) (b := 3) (by decide) (by decide) hx
    rw [pq_ald (by omega) (by decide), pq_sb, pq_pim, if_neg (by omega)]
    rcases (show k = 0 ∨ k = 1 ∨ k = 2 ∨ k = 3 by omega) with rfl | rfl | rfl | rfl
    · rw [if_pos (show nI 0 = 0 from rfl), k0, show m.1 34 0 0 = nI c0 from r0]
    · rw [if_neg (by decide), if_pos (show nI 1 = 1 from rfl), k1, show m.1 34 0 1 = nI c1 from r1]
    · rw [if_neg (by decide), if_neg (by decide), if_pos (show nI 2 = 2 from rfl), k2, show m.1 34 0 2 = nI c2 from r2]
    · rw [if_neg (by decide), if_neg (by decide), if_neg (by decide), if_pos (show nI 3 = 3 from rfl), k3, show m.1 34 0 3 = nI c3 from r3]
  · have hn : ∀ k : Nat, k ≤ 3 → x ≠ nI k := fun k hk e => hx (by rw [e]; exact in_T (a := 0) (b := 3) (by omega) hk (by decide))
    rw [if_neg hx, if_neg (show ¬ x = 0 from hn 0 (by decide)), if_neg (show ¬ x = 1 from hn 1 (by decide)), if_neg (show ¬ x = 2 from hn 2 (by decide)), if_neg (show ¬ x = 3 from hn 3 (by decide))]
/-- SHIP -/
theorem cl_look_n {m : ev_m} {i : Nat} {x : Int32} (h : ∀ k : Nat, k ≤ 10 → x ≠ nI k) : s_X5_look m i x = if x < 20 then (-100000) else (if x < (20 + (m.1 3 i 10)) then ev_at (m.1 12 i) 12 (x - 20) else (-100000)) := by
  unfold s_X5_look
  rw [if_neg (show ¬ x = 0 from h 0 (by decide)), if_neg (show ¬ x = 1 from h 1 (by decide)), if_neg (show ¬ x = 2 from h 2 (by decide)), if_neg (show ¬ x = 3 from h 3 (by decide)), if_neg (show ¬ x = 4 from h 4 (by decide)), if_neg (show ¬ x = 5 from h 5 (by decide)), if_neg (show ¬ x = 6 from h 6 (by decide)), if_neg (show ¬ x = 7 from h 7 (by decide)), if_neg (show ¬ x = 8 from h 8 (by decide)), if_neg (show ¬ x = 9 from h 9 (by decide)), if_neg (show ¬ x = 10 from h 10 (by decide))]
theorem lo_hi {x : Int32} {a b : Nat} (ha : a < 2 ^ 30) (hb : b < 2 ^ 30) (h1 : ¬ x < nI a) (h2 : x < nI (a + b)) : ∃ j, j < b ∧ x = nI (a + j) := by
  have h0 : 0 ≤ x.toInt := by
    rw [fa_lt, nI_toInt (by omega)] at h1
    omega
  obtain ⟨j, hj, rfl⟩ := nI_of (x := x) (by rw [lt_i0]; omega)
  rw [nI_ltI hj (by omega)] at h1 h2
  exact ⟨j - a, by omega, by rw [show a + (j - a) = j by omega]⟩
theorem k_ship {m : ev_m} {c0 c1 c2 c3 : Nat} (hI : iv_B m 0 c0 c1 c2 c3) (x y : Int32) : kl_ m (f_X9_ship m 0 x y) (fun m => f_X10_ship m 0 x y) := by
  have his := rf_is (m := ev_pim m 10 0 0 0) (t := 0) (c := c0) (x := x) (by decide) (by rw [pq_pim, if_neg (by decide)]; exact hI.2.2.1.1)
  by_cases hx : ∃ s, s < c0 ∧ x = nI s
  · obtain ⟨s, hs, rfl⟩ := hx
    have hs2 : s < 2 := by have := hI.1.1; omega
    have hcS := iv_cS hI hs
    obtain ⟨-, -, -, -, -, cnt, hc1, hc2, e10⟩ := iv_okS hI hs
    have hcl : (pv_S m s 10).toNatClampNeg = cnt := by rw [e10]; exact nI_clamp (by omega)
    have e35 : ∀ k, (ev_pim m 10 0 0 0).1 35 0 (23 * s + k) = pv_S m s k := fun k => by
      rw [pq_pim, if_neg (by omega)]
      rfl
    unfold f_X9_ship
    rw [at_t hI hs, pq_sb, pq_on1]
    refine ⟨_, rfl, ?_⟩
    try dsimp only
    unfold f_X10_ship
    rw [pq_let, show f_X10_is (ev_pim m 10 0 0 0) 0 0 (nI s) = _ from his, pq_sb, is_T hs (by have := hI.1.1; omega), if_pos rfl, show (23 : Int32) = nI 23 from rfl, pk_mul, show (10 : Int32) = nI 10 from rfl, nI_add, pq_ald (by omega) (by decide), pq_sb, e35, e10]
    by_cases hy : s_X10_in (ev_pim m 10 0 0 0) y 0 (nI 10) = true
    · rw [if_pos hy]
      obtain ⟨k, -, hk, rfl⟩ := in_F (a := 0) (b := 10) (by decide) (by decide) hy
      rw [nI_add, pq_ald (by omega) (by decide), pq_sb, e35, cl_look k (by omega), hcS.1 k (by omega)]
    · have hn : ∀ k : Nat, k ≤ 10 → y ≠ nI k := fun k hk e => hy (by rw [e]; exact in_T (a := 0) (b := 10) (by omega) hk (by decide))
      rw [if_neg hy, cl_look_n hn, hcS.1 10 (by decide), e10, show (19 : Int32) = nI 19 from rfl, show (20 : Int32) = nI 20 from rfl, nI_add, nI_add]
      by_cases h20 : ∃ j, j < cnt ∧ y = nI (20 + j)
      · obtain ⟨j, hj, rfl⟩ := h20
        rw [if_pos (in_T (by omega) (by omega) (by omega)), nI_1, nI_add, pk_sub (by omega), pq_ald (by omega) (by decide), pq_sb, if_neg (nI_nlt (by omega) (by omega)), if_pos (nI_lt (by omega) (by omega)), pk_sub (by omega), pq_at (by omega) (by decide), show 20 + j - 20 = j by omega, hcS.2 j (by omega), show 23 * s + 10 + 1 + (20 + j) - 20 = 23 * s + (11 + j) by omega, e35]
      · rw [if_neg (fun h => h20 (by
          obtain ⟨k, k1, k2, e⟩ := in_F (by omega) (by decide) h
          exact ⟨k - 20, by omega, by rw [show 20 + (k - 20) = k by omega]; exact e⟩))]
        by_cases h1 : y < nI 20
        · rw [if_pos h1]
        · rw [if_neg h1, if_neg (fun h2 => h20 (lo_hi (by decide) (by omega) h1 h2))]
  · refine ⟨-100000, ?_, ?_⟩
    · unfold f_X9_ship
      rw [at_f hI hx, pq_sb, pq_on0]
    · try dsimp only
      unfold f_X10_ship
      rw [pq_let, show f_X10_is (ev_pim m 10 0 0 0) 0 0 x = _ from his, pq_sb, if_neg (fun q => hx (is_F (by have := hI.1.1; omega) q))]
/-- HAND -/
theorem cl_lookH_n {m : ev_m} {i : Nat} {x : Int32} (h : ∀ k : Nat, k ≤ 9 → x ≠ nI k) : s_X1_look m i x = s_X1_lookStar m i x := by
  unfold s_X1_look
  rw [if_neg (show ¬ x = 0 from h 0 (by decide)), if_neg (show ¬ x = 1 from h 1 (by decide)), if_neg (show ¬ x = 2 from h 2 (by decide)), if_neg (show ¬ x = 3 from h 3 (by decide)), if_neg (show ¬ x = 4 from h 4 (by decide)), if_neg (show ¬ x = 5 from h 5 (by decide)), if_neg (show ¬ x = 6 from h 6 (by decide)), if_neg (show ¬ x = 7 from h 7 (by decide)), if_neg (show ¬ x = 8 from h 8 (by decide)), if_neg (show ¬ x = 9 from h 9 (by decide))]
theorem k_hand {m : ev_m} {c0 c1 c2 c3 : Nat} (hI : iv_B m 0 c0 c1 c2 c3) (x y : Int32) : kl_ m (f_X9_hand m 0 x y) (fun m => f_X10_hand m 0 x y) := by
  have his := rf_is (m := ev_pim m 10 0 0 0) (t := 1) (c := c1) (x := x) (by decide) (by rw [pq_pim, if_neg (by decide)]; exact hI.2.2.1.2.1)
  have hb := hI.1.2.1
  by_cases hx : ∃ s, s < c1 ∧ x = nI s
  · obtain ⟨s, hs, rfl⟩ := hx
    have hs2 : s < 4 := by omega
    have hcS := iv_cD hI hs
    obtain ⟨-, -, -, h8, cnt, hc2, e10⟩ := iv_okD hI hs
    have hcl : (pv_D m s 9).toNatClampNeg = cnt := by rw [e10]; exact nI_clamp (by omega)
    have e35 : ∀ k, (ev_pim m 10 0 0 0).1 36 0 (18 * s + k) = pv_D m s k := fun k => by
      rw [pq_pim, if_neg (by omega)]
      rfl
    unfold f_X9_hand
    rw [ath_t hI hs, pq_sb, pq_on1]
    refine ⟨_, rfl, ?_⟩
    try dsimp only
    unfold f_X10_hand
    rw [pq_let, show f_X10_is (ev_pim m 10 0 0 0) 0 1 (nI s) = _ from his, pq_sb, is_T hs (by omega), if_pos rfl, show (18 : Int32) = nI 18 from rfl, pk_mul, show (9 : Int32) = nI 9 from rfl, nI_add, pq_ald (by omega) (by decide), pq_sb, e35, e10]
    by_cases hy : s_X10_in (ev_pim m 10 0 0 0) y 0 (nI 9) = true
    · rw [if_pos hy]
      obtain ⟨k, -, hk, rfl⟩ := in_F (a := 0) (b := 9) (by decide) (by decide) hy
      rw [nI_add, pq_ald (by omega) (by decide), pq_sb, e35]
      by_cases e8 : k = 8
      · subst e8
        rw [cl_lookH8, hcS.1 8 (by decide)]
        rcases h8 with q | q <;> rw [q] <;> rfl
      · rw [cl_lookH k (by omega), hcS.1 k (by omega)]
    · have hn : ∀ k : Nat, k ≤ 9 → y ≠ nI k := fun k hk e => hy (by rw [e]; exact in_T (a := 0) (b := 9) (by omega) hk (by decide))
      rw [if_neg hy, cl_lookH_n hn]
      unfold s_X1_lookStar jn_X1_lookStar_29
      rw [hcS.1 9 (by decide), e10, show (19 : Int32) = nI 19 from rfl, show (20 : Int32) = nI 20 from rfl, show (10 : Int32) = nI 10 from rfl, nI_add, nI_add, nI_add, nI_add]
      by_cases h10 : ∃ j, j < cnt ∧ y = nI (10 + j)
      · obtain ⟨j, hj, rfl⟩ := h10
        rw [if_pos (in_T (by omega) (by omega) (by omega)), show (1 : Int32) = nI 1 from rfl, show (2 : Int32) = nI 2 from rfl, nI_add, pk_sub (by omega), pk_mul, nI_add, pq_ald (by omega) (by decide), pq_sb, if_neg (nI_nlt (by omega) (by omega)), if_pos (nI_lt (by omega) (by omega)), pq_at (by omega) (by decide), show 10 + j - 10 = j by omega, (hcS.2 j (by omega)).1, show 18 * s + 9 + 1 + 2 * j = 18 * s + (10 + 2 * j) by omega, e35]
      · rw [if_neg (fun h => h10 (by
          obtain ⟨k, k1, k2, e⟩ := in_F (by omega) (by decide) h
          exact ⟨k - 10, by omega, by rw [show 10 + (k - 10) = k by omega]; exact e⟩))]
        by_cases h20 : ∃ j, j < cnt ∧ y = nI (20 + j)
        · obtain ⟨j, hj, rfl⟩ := h20
          rw [if_pos (in_T (by omega) (by omega) (by omega)), show (2 : Int32) = nI 2 from rfl, nI_add, pk_sub (by omega), pk_mul, nI_add, pq_ald (by omega) (by decide), pq_sb, if_neg (nI_nlt (by omega) (by omega)), if_neg (nI_nlt (by omega) (by omega)), if_neg (nI_nlt (by omega) (by omega)), if_pos (nI_lt (by omega) (by omega)), pq_at (by omega) (by decide), show 20 + j - 20 = j by omega, (hcS.2 j (by omega)).2, show 18 * s + 9 + 2 + 2 * j = 18 * s + (11 + 2 * j) by omega, e35]
        · rw [if_neg (fun h => h20 (by
            obtain ⟨k, k1, k2, e⟩ := in_F (by omega) (by decide) h
            exact ⟨k - 20, by omega, by rw [show 20 + (k - 20) = k by omega]; exact e⟩))]
          have hz : (if y < nI 20 then -1 else if y < nI (20 + cnt) then ev_at (m.1 14 s) 4 (y - nI 20) else -1 : Int32) = -1 := by
            by_cases h1 : y < nI 20
            · rw [if_pos h1]
            · rw [if_neg h1, if_neg (fun h2 => h20 (lo_hi (by decide) (by omega) h1 h2))]
          by_cases h1 : y < nI 10
          · rw [if_pos h1]
            rw [hz]
          · rw [if_neg h1, if_neg (fun h2 => h10 (lo_hi (by decide) (by omega) h1 h2))]
            rw [hz]
  · refine ⟨-1, ?_, ?_⟩
    · unfold f_X9_hand
      rw [ath_f hI hx, pq_sb, pq_on0]
    · try dsimp only
      unfold f_X10_hand
      rw [pq_let, show f_X10_is (ev_pim m 10 0 0 0) 0 1 x = _ from his, pq_sb, if_neg (fun q => hx (is_F (by omega) q))]
/-- PAPER -/
theorem k_pap {m : ev_m} {c0 c1 c2 c3 : Nat} (hI : iv_B m 0 c0 c1 c2 c3) (x y : Int32) : kl_ m (f_X9_paper m 0 x y) (fun m => f_X10_paper m 0 x y) := by
  have his := rf_is (m := ev_pim m 10 0 0 0) (t := 2) (c := c2) (x := x) (by decide) (by rw [pq_pim, if_neg (by decide)]; exact hI.2.2.1.2.2.1)
  have hb := hI.1.2.2.1
  by_cases hx : ∃ s, s < c2 ∧ x = nI s
  · obtain ⟨p, hp, rfl⟩ := hx
    have hP := iv_cP hI hp
    obtain ⟨c, hc1, hc, h0, -⟩ := iv_okP hI hp
    have hcl : (pv_P m p 0).toNatClampNeg = c := by rw [h0]; exact nI_clamp (by omega)
    have e37 : ∀ k, (ev_pim m 10 0 0 0).1 37 0 (61 * p + k) = pv_P m p k := fun k => by
      rw [pq_pim, if_neg (by omega)]
      rfl
    have hcl9 : f_X9_paper m 0 (nI p) y = some (if y = -1 then nI c else if s_X10_in (ev_pim m 10 0 0 0) y 0 (nI c - 1) = true then pv_P m p (1 + y.toNatClampNeg) else -100000) := by
      unfold f_X9_paper
      rw [pat_t hI hp, pq_sb, pq_on1, hP.1, h0]
      by_cases y1 : y < -1
      · rw [if_pos y1, if_neg (fun e => by rw [e] at y1; exact absurd y1 (by decide)), if_neg (fun h => by
          obtain ⟨j, hj, rfl⟩ := is_F (by omega) h
          exact nI_pos (n := j) (by omega) (by rw [lt_i0]; rw [fa_lt, show (-1 : Int32).toInt = -1 from rfl] at y1; omega))]
      · rw [if_neg y1]
        rcases nI_of1 y1 with rfl | ⟨j, hj, rfl⟩
        · rw [if_pos (show (-1 : Int32) < nI c by rw [fa_lt, nI_toInt (by omega)]; show (-1 : Int) < c; omega), if_pos rfl, if_pos rfl]
        · rw [if_neg (nI_m1 hj), if_neg (nI_m1 hj)]
          by_cases hjc : j < c
          · rw [if_pos (nI_lt hjc (by omega)), if_pos (is_T hjc (by omega)), pq_at (by omega) (by decide), nI_clamp hj, hP.2 j (by omega)]
          · rw [if_neg (nI_nlt (by omega) hj), if_neg (fun h => by
              obtain ⟨i, hi, e⟩ := is_F (by omega) h
              have := (nI_eq hj (by omega)).mp e
              omega)]
    refine ⟨_, hcl9, ?_⟩
    try dsimp only
    unfold f_X10_paper
    rw [pq_let, show f_X10_is (ev_pim m 10 0 0 0) 0 2 (nI p) = _ from his, pq_sb, is_T hp (by omega), if_pos rfl, show (61 : Int32) = nI 61 from rfl, pk_mul, pq_ald (by omega) (by decide), pq_sb, pq_sb, show (ev_pim m 10 0 0 0).1 37 0 (61 * p) = nI c by rw [show 61 * p = 61 * p + 0 by omega, e37, h0]]
    by_cases y1 : y = -1
    · rw [if_pos y1, if_pos y1]
    · rw [if_neg y1, if_neg y1]
      by_cases h : s_X10_in (ev_pim m 10 0 0 0) y 0 (nI c - 1) = true
      · obtain ⟨j, hj, rfl⟩ := is_F (by omega) h
        rw [if_pos h, if_pos h, nI_1, nI_add, pq_ald (by omega) (by decide), pq_sb, nI_clamp (by omega), show 61 * p + 1 + j = 61 * p + (1 + j) by omega, e37]
      · rw [if_neg h, if_neg h]
  · refine ⟨-100000, ?_, ?_⟩
    · unfold f_X9_paper
      rw [pat_f hI hx, pq_sb, pq_on0]
    · try dsimp only
      unfold f_X10_paper
      rw [pq_let, show f_X10_is (ev_pim m 10 0 0 0) 0 2 x = _ from his, pq_sb, if_neg (fun q => hx (is_F (by omega) q))]
/-- WATCH -/
theorem k_wat {m : ev_m} {c0 c1 c2 c3 : Nat} (hI : iv_B m 0 c0 c1 c2 c3) (x y z : Int32) : kl_ m (f_X9_watch m 0 x y z) (fun m => f_X10_watch m 0 x y z) := by
  have his := rf_is (m := ev_pim m 10 0 0 0) (t := 3) (c := c3) (x := x) (by decide) (by rw [pq_pim, if_neg (by decide)]; exact hI.2.2.1.2.2.2)
  have hb := hI.1.2.2.2
  by_cases hx : ∃ s, s < c3 ∧ x = nI s
  · obtain ⟨p, hp, rfl⟩ := hx
    have hP := iv_cW hI hp
    obtain ⟨c, hf, nf, hc, h0, hk⟩ := okW_n (iv_okW hI hp)
    have hcl : (pv_W m p 0).toNatClampNeg = c := by rw [h0]; exact nI_clamp (by omega)
    have e38 : ∀ k, (ev_pim m 10 0 0 0).1 38 0 (17 * p + k) = pv_W m p k := fun k => by
      rw [pq_pim, if_neg (by omega)]
      rfl
    have hcl9 : f_X9_watch m 0 (nI p) y z = some (if y = -1 then (if z = 0 then nI c else -1) else if s_X10_in (ev_pim m 10 0 0 0) y 0 (nI c - 1) = true then (if z = 0 then pv_W m p (1 + 2 * y.toNatClampNeg) else if z = 1 then pv_W m p (2 + 2 * y.toNatClampNeg) else -1) else -1) := by
      unfold f_X9_watch
      rw [wat_t hI hp, pq_sb, pq_on1, hP.1, h0]
      by_cases y1 : y < -1
      · rw [if_pos y1, if_neg (fun e => by rw [e] at y1; exact absurd y1 (by decide)), if_neg (fun h => by
          obtain ⟨j, hj, rfl⟩ := is_F (by omega) h
          exact nI_pos (n := j) (by omega) (by rw [lt_i0]; rw [fa_lt, show (-1 : Int32).toInt = -1 from rfl] at y1; omega))]
      · rw [if_neg y1]
        rcases nI_of1 y1 with rfl | ⟨j, hj, rfl⟩
        · rw [if_pos (show (-1 : Int32) < nI c by rw [fa_lt, nI_toInt (by omega)]; show (-1 : Int) < c; omega), if_pos rfl, if_pos rfl]
          split <;> rfl
        · rw [if_neg (nI_m1 hj), if_neg (nI_m1 hj)]
          by_cases hjc : j < c
          · rw [if_pos (nI_lt hjc (by omega)), if_pos (is_T hjc (by omega)), pq_at (by omega) (by decide), pq_at (by omega) (by decide), nI_clamp hj, (hP.2 j (by omega)).1, (hP.2 j (by omega)).2]
            split
            · rfl
            · split <;> rfl
          · rw [if_neg (nI_nlt (by omega) hj), if_neg (fun h => by
              obtain ⟨i, hi, e⟩ := is_F (by omega) h
              have := (nI_eq hj (by omega)).mp e
              omega)]
    refine ⟨_, hcl9, ?_⟩
    try dsimp only
    unfold f_X10_watch
    rw [pq_let, show f_X10_is (ev_pim m 10 0 0 0) 0 3 (nI p) = _ from his, pq_sb, is_T hp (by omega), if_pos rfl, show (17 : Int32) = nI 17 from rfl, pk_mul, pq_ald (by omega) (by decide), pq_sb, pq_sb, show (ev_pim m 10 0 0 0).1 38 0 (17 * p) = nI c by rw [show 17 * p = 17 * p + 0 by omega, e38, h0]]
    by_cases y1 : y = -1
    · rw [if_pos y1, if_pos y1]
      split <;> rfl
    · rw [if_neg y1, if_neg y1]
      by_cases h : s_X10_in (ev_pim m 10 0 0 0) y 0 (nI c - 1) = true
      · obtain ⟨j, hj, rfl⟩ := is_F (by omega) h
        rw [if_pos h, if_pos h, nI_clamp (by omega)]
        by_cases z0 : z = 0
        · subst z0
          rw [if_pos (show s_X10_in (ev_pim m 10 0 0 0) 0 0 1 = true from rfl), if_pos rfl, nI_1, show (2 : Int32) = nI 2 from rfl, pk_mul, nI_add, show nI (17 * p + 1 + 2 * j) + 0 = nI (17 * p + 1 + 2 * j) from nI_add _ 0, pq_ald (by omega) (by decide), pq_sb, show 17 * p + 1 + 2 * j = 17 * p + (1 + 2 * j) by omega, e38]
        · by_cases z1 : z = 1
          · subst z1
            rw [if_pos (show s_X10_in (ev_pim m 10 0 0 0) 1 0 1 = true from rfl), if_neg z0, if_pos rfl, nI_1, show (2 : Int32) = nI 2 from rfl, pk_mul, nI_add, nI_1, pq_ald (by omega) (by decide), pq_sb, show 17 * p + 1 + 2 * j + 1 = 17 * p + (2 + 2 * j) by omega, e38]
          · rw [if_neg (fun h => by
              obtain ⟨i, -, hi, rfl⟩ := in_F (a := 0) (b := 1) (by decide) (by decide) h
              rcases (show i = 0 ∨ i = 1 by omega) with rfl | rfl
              · exact z0 rfl
              · exact z1 rfl), if_neg z0, if_neg z1]
      · rw [if_neg h, if_neg h]
  · refine ⟨-1, ?_, ?_⟩
    · unfold f_X9_watch
      rw [wat_f hI hx, pq_sb, pq_on0]
    · try dsimp only
      unfold f_X10_watch
      rw [pq_let, show f_X10_is (ev_pim m 10 0 0 0) 0 3 x = _ from his, pq_sb, if_neg (fun q => hx (is_F (by omega) q))]
