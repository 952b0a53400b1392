/-! pure: the class's run -/
def cc_S (m : ev_m) (i : Nat) (S : Nat → Int32) : Prop := (∀ k, k < 11 → m.1 3 i k = S k) ∧ ∀ k, k < (S 10).toNatClampNeg → m.1 12 i k = S (11 + k)
def cc_D (m : ev_m) (i : Nat) (D : Nat → Int32) : Prop := (∀ k, k < 10 → m.1 4 i k = D k) ∧ ∀ k, k < (D 9).toNatClampNeg → m.1 13 i k = D (10 + 2 * k) ∧ m.1 14 i k = D (11 + 2 * k)
def cc_q (m : ev_m) (q : pu_Q) : Prop := (∀ k, k ≤ q.2.2.2.2.1 → m.1 18 0 k = q.1 k) ∧ (∀ k, k ≤ q.2.2.2.2.1 → m.1 19 0 k = q.2.1 k) ∧ (∀ k, k ≤ q.2.2.2.2.1 → m.1 20 0 k = q.2.2.1 k) ∧ m.1 8 0 1 = nI q.2.2.2.2.1 ∧ m.1 8 0 6 = q.2.2.2.2.2
def cc_W (m : ev_m) (W : Nat → Int32) (d : Nat) : Prop := ∀ k, k ≤ d → m.1 21 0 k = W k
def cc_m (m : ev_m) (p : Nat) (a : pu_A) : Prop := m.1 9 p 1 = nI a.1 ∧ m.1 9 p 2 = a.2.1 ∧ m.1 9 p 3 = a.2.2
def cc_P : Nat → Nat → Bool := fun r _ => r != 8 && r != 9 && (decide (r < 18) || decide (21 < r))
theorem cc_S.fr {m m' : ev_m} {i : Nat} {S : Nat → Int32} {P : Nat → Nat → Bool} (h : cc_S m i S) (hF : pq_Fr P m m') (h3 : P 3 i = true) (h12 : P 12 i = true) : cc_S m' i S := ⟨fun k hk => (hF 3 i k h3).trans (h.1 k hk), fun k hk => (hF 12 i k h12).trans (h.2 k hk)⟩
theorem cc_D.fr {m m' : ev_m} {i : Nat} {D : Nat → Int32} {P : Nat → Nat → Bool} (h : cc_D m i D) (hF : pq_Fr P m m') (h4 : P 4 i = true) (h13 : P 13 i = true) (h14 : P 14 i = true) : cc_D m' i D := ⟨fun k hk => (hF 4 i k h4).trans (h.1 k hk), fun k hk => ⟨(hF 13 i k h13).trans (h.2 k hk).1, (hF 14 i k h14).trans (h.2 k hk).2⟩⟩
def pb_H (q : pu_Q) : Prop := ∀ k, k ≤ q.2.2.2.2.1 → -18000 ≤ (q.1 k).toInt ∧ (q.1 k).toInt ≤ 18000
theorem cl_star_l {m : ev_m} {j c : Nat} {D : Nat → Int32} {t : Int32} {kx : Unit → Option Bool} (h : cc_D m j D) (hc : D 9 = nI c) (h4 : c ≤ 4) : ∀ n f i, i + n = c → n < f → lp_X1_hasStarAt_2 m j t f (nI i) kx = if pu_st D t i n = true then some true else kx () := by
  intro n
  have e9 : m.1 4 j 9 = nI c := (h.1 9 (by decide)).trans hc
  have hcl : (D 9).toNatClampNeg = c := by rw [hc]; exact nI_clamp (by omega)
  induction n with
  | zero =>
    intro f i hi hf
    obtain ⟨g, rfl⟩ : ∃ g, f = g + 1 := ⟨f - 1, by omega⟩
    rw [lp_X1_hasStarAt_2, e9, if_neg (nI_nlt (by omega) (by omega)), pu_st]
    rfl
  | succ n ih =>
    intro f i hi hf
    obtain ⟨g, rfl⟩ : ∃ g, f = g + 1 := ⟨f - 1, by omega⟩
    obtain ⟨a1, a2⟩ := h.2 i (by omega)
    have hj : jn_X1_hasStarAt_36_2 m j t (nI i) (fun z0 => lp_X1_hasStarAt_2 m j t g z0 kx) kx = if pu_st D t (i + 1) n = true then some true else kx () := by
      unfold jn_X1_hasStarAt_36_2
      rw [nI_1]
      exact ih g (i + 1) (by omega) (by omega)
    rw [lp_X1_hasStarAt_2, e9, if_pos (nI_lt (by omega) (by omega)), pq_at (by omega) (by decide), pq_at (by omega) (by decide), a1, a2, hj, pu_st]
    by_cases h1 : t < D (10 + 2 * i)
    · rw [if_pos h1, if_pos h1]
    · rw [if_neg h1, if_neg h1]
      by_cases h2 : D (11 + 2 * i) < t
      · rw [if_pos h2, if_pos h2]
      · rw [if_neg h2, if_neg h2]
        rfl
theorem cl_star {m : ev_m} {j : Nat} {D : Nat → Int32} {t : Int32} (h : cc_D m j D) (hD : pu_okD D) : f_X1_hasStarAt m j t = some (pu_st D t 0 (D 9).toNatClampNeg) := by
  obtain ⟨-, -, -, -, c, h4, hc⟩ := hD
  unfold f_X1_hasStarAt
  have := cl_star_l (kx := fun _ => some false) (t := t) h hc h4 c 4000 0 (by omega) (by omega)
  rw [show (0 : Int32) = nI 0 from rfl, this, hc, nI_clamp (by omega)]
  cases pu_st D t 0 c <;> rfl
theorem i0_lt {x : Int32} : 0 < x ↔ 0 < x.toInt := by rw [fa_lt]; exact Iff.rfl
theorem lt_i0 {x : Int32} : x < 0 ↔ x.toInt < 0 := by rw [fa_lt]; exact Iff.rfl
theorem eq_i0 {x : Int32} : x = 0 ↔ x.toInt = 0 := by rw [fa_eq]; exact Iff.rfl
theorem cl_slow {m : ev_m} {j : Nat} {D : Nat → Int32} {t : Int32} (h : cc_D m j D) (hD : pu_okD D) : f_X1_slowBy m j t = some (pu_slow D t) := by
  have e6 : m.1 4 j 6 = D 6 := h.1 6 (by decide)
  have hb := hD.2.2.1.1
  unfold f_X1_slowBy pu_slow
  rw [e6]
  by_cases h0 : D 6 = 0
  · rw [if_pos h0, if_neg (by rw [i0_lt]; rw [eq_i0] at h0; omega)]
  · rw [if_neg h0, if_pos (by rw [i0_lt]; rw [eq_i0] at h0; omega)]
    unfold ev_dv
    rw [if_neg h0, pq_sb]
theorem cl_point {m : ev_m} {j : Nat} {D : Nat → Int32} {v : Int32} (h : cc_D m j D) (hD : pu_okD D) : f_X1_pointed m j v = some (pu_pt D v) := by
  have e4 : m.1 4 j 4 = D 4 := h.1 4 (by decide)
  have hb := hD.2.1.1
  unfold f_X1_pointed pu_pt
  rw [e4, if_pos (by rw [i0_lt]; omega)]
  unfold ev_rm
  rw [if_neg (by rw [eq_i0]; omega), pq_sb]
theorem cl_ago {m : ev_m} {d b : Nat} {H : Nat → Int32} (hd : d ≤ 400) (hb : b < 2 ^ 29) (h1 : m.1 8 0 1 = nI d) (hH : ∀ k, k ≤ d → m.1 18 0 k = H k) : s_X8_headingAgo m 0 (nI b) = H (pu_ix (nI d) (nI b)).toNatClampNeg := by
  obtain ⟨j, hj, ej⟩ := pu_ix_ok (d := d) (b := b) (by omega) (by omega)
  have e : (if 0 < nI d - nI b then nI d - nI b else 0) = pu_ix (nI d) (nI b) := by
    unfold pu_ix
    by_cases h : d < b
    · rw [if_pos (nI_lt h (by omega)), if_neg (by have := pk_sneg (a := d) (b := b) (by omega) h; rw [lt_i0] at this; rw [i0_lt]; omega)]
    · rw [if_neg (nI_nlt (by omega) (by omega)), pk_sub (by omega)]
      by_cases h2 : d - b = 0
      · rw [h2]; rfl
      · rw [if_pos (by rw [i0_lt, nI_toInt (by omega)]; omega)]
  unfold s_X8_headingAgo
  rw [h1, e, ej, pq_at (by omega) (by decide), nI_clamp (by omega), hH j hj]
theorem pu_flag (g s : Int32) : ((if 0 < g then (if s < 0 then 1 else (if g < 0 then (if 0 < s then 1 else 0) else 0)) else (if g < 0 then (if 0 < s then 1 else 0) else 0) : Int32) = 0) ↔ ¬ pu_sg g * pu_sg s < 0 := by
  unfold pu_sg
  simp only [i0_lt, lt_i0]
  by_cases a : 0 < g.toInt
  · have a' : ¬ g.toInt < 0 := by omega
    by_cases b : 0 < s.toInt
    · have b' : ¬ s.toInt < 0 := by omega
      simp only [if_pos a, if_neg a', if_pos b, if_neg b']
      decide
    · by_cases c : s.toInt < 0
      · simp only [if_pos a, if_neg a', if_neg b, if_pos c]
        decide
      · simp only [if_pos a, if_neg a', if_neg b, if_neg c]
        decide
  · by_cases a' : g.toInt < 0
    · by_cases b : 0 < s.toInt
      · simp only [if_neg a, if_pos a', if_pos b]
        decide
      · by_cases c : s.toInt < 0
        · simp only [if_neg a, if_pos a', if_neg b, if_pos c]
          decide
        · simp only [if_neg a, if_pos a', if_neg b, if_neg c]
          decide
    · by_cases b : 0 < s.toInt
      · simp only [if_neg a, if_neg a', if_pos b]
        decide
      · by_cases c : s.toInt < 0
        · simp only [if_neg a, if_neg a', if_neg b, if_pos c]
          decide
        · simp only [if_neg a, if_neg a', if_neg b, if_neg c]
          decide
theorem cl_ruled {m : ev_m} {j : Nat} {S D : Nat → Int32} {sees goes sum t : Int32} (h : cc_D m j D) (hD : pu_okD D) (hS : pu_okS S) (hb : -2147483648 < sees.toInt) :
    (if D 5 < t then pu_wi (s_X1_ruled m j sees goes sum) (S 3) else -(pu_wi (s_X1_ruled m j sees goes sum) (S 3))) = pu_wa S D sees goes sum t := by
  have e : pu_wi (s_X1_ruled m j sees goes sum) (S 3) = (if D 8 = 1 then (if pu_sg goes * pu_sg sees < 0 then 0 else (if D 3 < pu_pl sees then pu_wi (((((-D 0) * sees) - (D 1 * goes)) - ((D 2 * sum) / 100)) / 100) (S 3) else 0)) else (if D 3 < pu_pl sees then pu_wi (((((-D 0) * sees) - (D 1 * goes)) - ((D 2 * sum) / 100)) / 100) (S 3) else 0)) := by
    have h56 : jn_X1_ruled_56 m j sees goes sum = ((((-D 0) * sees) - (D 1 * goes)) - ((D 2 * sum) / 100)) / 100 := by
      unfold jn_X1_ruled_56
      rw [h.1 0 (by decide), h.1 1 (by decide), h.1 2 (by decide)]
    have hw0 : pu_wi 0 (S 3) = 0 := pu_wi_0 hS.2.1.1
    have h3 : (-(D 3)).toInt = -(D 3).toInt := fb_negI (by have := hD.1.1; omega)
    have h19 : pu_wi (jn_X1_ruled_19 m j sees goes sum) (S 3) = (if D 8 = 1 then (if pu_sg goes * pu_sg sees < 0 then 0 else pu_wi (((((-D 0) * sees) - (D 1 * goes)) - ((D 2 * sum) / 100)) / 100) (S 3)) else pu_wi (((((-D 0) * sees) - (D 1 * goes)) - ((D 2 * sum) / 100)) / 100) (S 3)) := by
      unfold jn_X1_ruled_19
      rw [pq_let, h.1 8 (by decide), h56]
      rcases hD.2.2.2.1 with h8 | h8
      · rw [h8, if_pos rfl, if_neg (by decide)]
      · rw [h8, if_neg (by decide), if_pos rfl]
        by_cases hf : pu_sg goes * pu_sg sees < 0
        · rw [if_pos hf, if_neg (fun q => (pu_flag goes sees).mp q hf), hw0]
        · rw [if_neg hf, if_pos ((pu_flag goes sees).mpr hf)]
    unfold s_X1_ruled
    rw [h.1 3 (by decide)]
    have hpl := pu_pl_i hb
    by_cases c1 : sees < -(D 3)
    · have hc : D 3 < pu_pl sees := by
        rw [fa_lt, h3] at c1
        rw [fa_lt, hpl]
        have := hD.1.1
        rw [if_pos (by omega)]
        omega
      rw [if_pos c1, h19]
      simp only [if_pos hc]
    · rw [if_neg c1]
      by_cases c2 : D 3 < sees
      · have hc : D 3 < pu_pl sees := by
          rw [fa_lt] at c2
          rw [fa_lt, hpl]
          have := hD.1.1
          rw [if_neg (by omega)]
          omega
        rw [if_pos c2, h19]
        simp only [if_pos hc]
      · have hc : ¬ D 3 < pu_pl sees := by
          rw [fa_lt, h3] at c1
          rw [fa_lt] at c2
          rw [fa_lt, hpl]
          have := hD.1.1
          split <;> omega
        rw [if_neg c2, hw0]
        simp only [if_neg hc]
        split
        · split <;> rfl
        · rfl
  rw [e]
  rfl
theorem pt_b {D : Nat → Int32} {v : Int32} (hD : pu_okD D) (h1 : -18000 ≤ v.toInt) (h2 : v.toInt ≤ 18000) : -18000 ≤ (pu_pt D v).toInt ∧ (pu_pt D v).toInt ≤ 18000 := by
  have hd1 := hD.2.1.1
  have hd2 := hD.2.1.2
  have hq : (v / D 4).toInt = v.toInt.tdiv (D 4).toInt := Int32.toInt_div_of_ne_left v (D 4) (fun e => by rw [e] at h1; exact absurd h1 (by decide))
  have hb : -18000 ≤ v.toInt.tdiv (D 4).toInt * (D 4).toInt ∧ v.toInt.tdiv (D 4).toInt * (D 4).toInt ≤ 18000 ∧ -18000 ≤ v.toInt.tdiv (D 4).toInt ∧ v.toInt.tdiv (D 4).toInt ≤ 18000 := by
    generalize (D 4).toInt = d at *
    generalize v.toInt = w at *
    have key : ∀ u : Int, 0 ≤ u → u ≤ 18000 → 0 ≤ u.tdiv d * d ∧ u.tdiv d * d ≤ 18000 ∧ 0 ≤ u.tdiv d ∧ u.tdiv d ≤ 18000 := by
      intro u hu0 hu
      rw [Int.tdiv_eq_ediv_of_nonneg hu0]
      have a1 : u / d * d ≤ u := Int.ediv_mul_le u (by omega)
      have a2 : 0 ≤ u / d := Int.ediv_nonneg hu0 (by omega)
      have a3 : 0 ≤ u / d * d := Int.mul_nonneg a2 (by omega)
      have a4 : u / d ≤ u := Int.ediv_le_self d hu0
      omega
    by_cases hw : 0 ≤ w
    · have := key w hw h2
      omega
    · have := key (-w) (by omega) (by omega)
      rw [Int.neg_tdiv, Int.neg_mul] at this
      omega
  unfold pu_pt
  have e1 : (v / D 4 * D 4).toInt = v.toInt.tdiv (D 4).toInt * (D 4).toInt := by
    rw [fb_mulI (by rw [hq]; omega) (by rw [hq]; omega), hq]
  have e2 : (v - v / D 4 * D 4).toInt = v.toInt - (v / D 4 * D 4).toInt := fb_subI (by rw [e1]; omega) (by rw [e1]; omega)
  have e3 : (v - (v - v / D 4 * D 4)).toInt = v.toInt - (v - v / D 4 * D 4).toInt := fb_subI (by rw [e2, e1]; omega) (by rw [e2, e1]; omega)
  rw [e3, e2, e1]
  omega
