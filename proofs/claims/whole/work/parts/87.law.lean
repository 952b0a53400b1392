/-! pure: the law -/
theorem law_c {n i : Nat} (hn : n ≤ 3584) (hi : i ≤ 4000) : (Int32.ofNat n) - 7 < nI i ↔ n < i + 7 := by
  show nI n - nI 7 < nI i ↔ _
  rw [fa_lt, nI_toInt (by omega)]
  rw [show (nI n - nI 7).toInt = (n : Int) - 7 from ?_]
  · omega
  · rw [fb_subI (by rw [nI_toInt (by omega), nI_toInt (by omega)]; omega) (by rw [nI_toInt (by omega), nI_toInt (by omega)]; omega), nI_toInt (by omega), nI_toInt (by omega)]
    rfl
set_option maxRecDepth 20000 in
theorem law_loop {xs : List Int32} (hx : xs.length ≤ 3584) : ∀ n f i m, xs.length ≤ i + 7 * n + 6 → n < f → i ≤ 3600 → iv_ m → ∃ m', lp_L_law_18 xs f (nI i) m (fun m489 => (some ((true, m489)))) = some (true, m') := by
  intro n
  induction n with
  | zero =>
    intro f i m h1 hf hi hI
    obtain ⟨g, rfl⟩ : ∃ e, f = e + 1 := ⟨f - 1, by omega⟩
    rw [lp_L_law_18, if_pos ((law_c hx (by omega)).mpr (by omega))]
    exact ⟨m, rfl⟩
  | succ n ih =>
    intro f i m h1 hf hi hI
    obtain ⟨f, rfl⟩ : ∃ e, f = e + 1 := ⟨f - 1, by omega⟩
    by_cases hc : xs.length < i + 7
    · rw [lp_L_law_18, if_pos ((law_c hx (by omega)).mpr hc)]
      exact ⟨m, rfl⟩
    rw [lp_L_law_18, if_neg (fun z => hc ((law_c hx (by omega)).mp z))]
    have hgo : ∀ m2, iv_ m2 → ∃ m', jn_L_law_2336_18 xs m2 (nI i) (fun z0 z1 => lp_L_law_18 xs f z0 z1 (fun m489 => (some ((true, m489))))) (fun m489 => (some ((true, m489)))) = some (true, m') := by
      intro m2 h2
      unfold jn_L_law_2336_18
      rw [show nI i + 7 = nI (i + 7) from nI_add i 7]
      exact ih f (i + 7) m2 (by omega) (by omega) (by omega) h2
    have hr : ∀ j : Nat, j < 7 → ∃ g, ev_ald (fun k => xs.getD k 0) xs.length (nI (i + j)) = some g := fun j hj => ⟨_, pq_ald (f := fun k => xs.getD k 0) (by omega) (by omega)⟩
    obtain ⟨g0, A0⟩ := hr 0 (by decide)
    have A0 : ev_ald (fun k => xs.getD k 0) xs.length (nI i) = some g0 := A0
    obtain ⟨g1, A1⟩ := hr 1 (by decide)
    rw [← nI_add i 1] at A1
    have A1 : ev_ald (fun k => xs.getD k 0) xs.length (nI i + 1) = some g1 := A1
    obtain ⟨g2, A2⟩ := hr 2 (by decide)
    rw [← nI_add i 2] at A2
    have A2 : ev_ald (fun k => xs.getD k 0) xs.length (nI i + 2) = some g2 := A2
    obtain ⟨g3, A3⟩ := hr 3 (by decide)
    rw [← nI_add i 3] at A3
    have A3 : ev_ald (fun k => xs.getD k 0) xs.length (nI i + 3) = some g3 := A3
    obtain ⟨g4, A4⟩ := hr 4 (by decide)
    rw [← nI_add i 4] at A4
    have A4 : ev_ald (fun k => xs.getD k 0) xs.length (nI i + 4) = some g4 := A4
    obtain ⟨g5, A5⟩ := hr 5 (by decide)
    rw [← nI_add i 5] at A5
    have A5 : ev_ald (fun k => xs.getD k 0) xs.length (nI i + 5) = some g5 := A5
    obtain ⟨g6, A6⟩ := hr 6 (by decide)
    rw [← nI_add i 6] at A6
    have A6 : ev_ald (fun k => xs.getD k 0) xs.length (nI i + 6) = some g6 := A6
    obtain ⟨⟨c0, c1, c2, c3, L, hB, -⟩, -, -⟩ := id hI
    rw [A0, pq_sb]
    by_cases h0 : (g0 &&& 63) = 0
    · rw [if_pos h0]
      obtain ⟨a, m1, m2, e1, e2, hI2⟩ := k_feed hI g1 g2 g3 g4 g5
      have e1 : f_X9_feed m 0 g1 g2 g3 g4 g5 = some (a, m1) := e1
      have e2 : f_X10_feed m1 0 g1 g2 g3 g4 g5 = some (a, m2) := e2
      rw [A1, A2, A3, A4, A5, pq_sb, pq_sb, pq_sb, pq_sb, pq_sb, e1, pq_sb, pq_sb, pq_sb, pq_sb, pq_sb, pq_sb, show f_X10_feed (a, m1).2 0 g1 g2 g3 g4 g5 = _ from e2, pq_sb, if_pos rfl]
      exact hgo m2 hI2
    rw [if_neg h0]
    by_cases h1 : (g0 &&& 63) = 1
    · rw [if_pos h1]
      obtain ⟨a, m1, m2, e1, e2, hI2⟩ := k_end hI g1
      rw [A1, pq_sb, e1, pq_let, pq_sb, show s_X10_end (a, m1).2 0 g1 = _ from e2, pq_let, if_pos rfl]
      exact hgo m2 hI2
    rw [if_neg h1]
    by_cases h2 : (g0 &&& 63) = 2
    · rw [if_pos h2]
      obtain ⟨a, m1, m2, e1, e2, hI2⟩ := k_text hI g1 g2
      have e1 : f_X9_text m 0 g1 g2 = some (a, m1) := e1
      have e2 : f_X10_text m1 0 g1 g2 = some (a, m2) := e2
      rw [A1, A2, pq_sb, pq_sb, e1, pq_sb, pq_sb, pq_sb, show f_X10_text (a, m1).2 0 g1 g2 = _ from e2, pq_sb, if_pos rfl]
      exact hgo m2 hI2
    rw [if_neg h2]
    by_cases h3 : (g0 &&& 63) = 3
    · rw [if_pos h3]
      rw [A1, pq_sb, pq_sb, k_fault hI, pq_let, if_pos rfl]
      exact hgo _ (hI.fr PI_pim)
    rw [if_neg h3]
    by_cases h4 : (g0 &&& 63) = 4
    · rw [if_pos h4]
      obtain ⟨a, e1, e2⟩ := k_ship hB g1 g2
      have e2 : f_X10_ship m 0 g1 g2 = some (a, ev_pim m 10 0 0 0) := e2
      rw [A1, A2, pq_sb, pq_sb, e1, pq_sb, pq_sb, pq_sb, e2, pq_sb, if_pos rfl]
      exact hgo _ (hI.fr PI_pim)
    rw [if_neg h4]
    by_cases h5 : (g0 &&& 63) = 5
    · rw [if_pos h5]
      obtain ⟨a, e1, e2⟩ := k_hand hB g1 g2
      have e2 : f_X10_hand m 0 g1 g2 = some (a, ev_pim m 10 0 0 0) := e2
      rw [A1, A2, pq_sb, pq_sb, e1, pq_sb, pq_sb, pq_sb, e2, pq_sb, if_pos rfl]
      exact hgo _ (hI.fr PI_pim)
    rw [if_neg h5]
    by_cases h6 : (g0 &&& 63) = 6
    · rw [if_pos h6]
      obtain ⟨a, e1, e2⟩ := k_pap hB g1 g2
      have e2 : f_X10_paper m 0 g1 g2 = some (a, ev_pim m 10 0 0 0) := e2
      rw [A1, A2, pq_sb, pq_sb, e1, pq_sb, pq_sb, pq_sb, e2, pq_sb, if_pos rfl]
      exact hgo _ (hI.fr PI_pim)
    rw [if_neg h6]
    by_cases h7 : (g0 &&& 63) = 7
    · rw [if_pos h7]
      obtain ⟨a, e1, e2⟩ := k_wat hB g1 g2 g3
      have e2 : f_X10_watch m 0 g1 g2 g3 = some (a, ev_pim m 10 0 0 0) := e2
      rw [A1, A2, A3, pq_sb, pq_sb, pq_sb, e1, pq_sb, pq_sb, pq_sb, pq_sb, e2, pq_sb, if_pos rfl]
      exact hgo _ (hI.fr PI_pim)
    rw [if_neg h7]
    by_cases h8 : (g0 &&& 63) = 8
    · rw [if_pos h8]
      obtain ⟨a, m1, m2, e1, e2, hI2⟩ := (k_second hB g1 g2 g3 g4 g5).kd hI
      have e1 : f_X9_second m 0 g1 g2 g3 g4 g5 = some (a, m1) := e1
      have e2 : f_X10_second m1 0 g1 g2 g3 g4 g5 = some (a, m2) := e2
      rw [A1, A2, A3, A4, A5, pq_sb, pq_sb, pq_sb, pq_sb, pq_sb, e1, pq_sb, pq_sb, pq_sb, pq_sb, pq_sb, pq_sb, show f_X10_second (a, m1).2 0 g1 g2 g3 g4 g5 = _ from e2, pq_sb, if_pos rfl]
      exact hgo m2 hI2
    rw [if_neg h8]
    by_cases h9 : (g0 &&& 63) = 9
    · rw [if_pos h9]
      obtain ⟨a, m1, m2, e1, e2, hI2⟩ := (k_run hB g1 g2 g3 g4 g5).kd hI
      have e1 : f_X9_run m 0 g1 g2 g3 g4 g5 = some (a, m1) := e1
      have e2 : f_X10_run m1 0 g1 g2 g3 g4 g5 = some (a, m2) := e2
      rw [A1, A2, A3, A4, A5, pq_sb, pq_sb, pq_sb, pq_sb, pq_sb, e1, pq_sb, pq_sb, pq_sb, pq_sb, pq_sb, pq_sb, show f_X10_run (a, m1).2 0 g1 g2 g3 g4 g5 = _ from e2, pq_sb, if_pos rfl]
      exact hgo m2 hI2
    rw [if_neg h9]
    by_cases h10 : (g0 &&& 63) = 10
    · rw [if_pos h10]
      obtain ⟨a, m1, m2, e1, e2, hI2⟩ := (k_peak hB g1 g2 g3 g4 g5).kd hI
      have e1 : f_X9_peak m 0 g1 g2 g3 g4 g5 = some (a, m1) := e1
      have e2 : f_X10_peak m1 0 g1 g2 g3 g4 g5 = some (a, m2) := e2
      rw [A1, A2, A3, A4, A5, pq_sb, pq_sb, pq_sb, pq_sb, pq_sb, e1, pq_sb, pq_sb, pq_sb, pq_sb, pq_sb, pq_sb, show f_X10_peak (a, m1).2 0 g1 g2 g3 g4 g5 = _ from e2, pq_sb, if_pos rfl]
      exact hgo m2 hI2
    rw [if_neg h10]
    by_cases h11 : (g0 &&& 63) = 11
    · rw [if_pos h11]
      obtain ⟨a, m1, m2, e1, e2, hI2⟩ := (k_found hB g1 g2 g3 g4 g5 g6).kd hI
      have e1 : f_X9_found m 0 g1 g2 g3 g4 g5 g6 = some (a, m1) := e1
      have e2 : f_X10_found m1 0 g1 g2 g3 g4 g5 g6 = some (a, m2) := e2
      rw [A1, A2, A3, A4, A5, A6, pq_sb, pq_sb, pq_sb, pq_sb, pq_sb, pq_sb, e1, pq_sb, pq_sb, pq_sb, pq_sb, pq_sb, pq_sb, pq_sb, show f_X10_found (a, m1).2 0 g1 g2 g3 g4 g5 g6 = _ from e2, pq_sb, if_pos rfl]
      exact hgo m2 hI2
    rw [if_neg h11]
    by_cases h12 : (g0 &&& 63) = 12
    · rw [if_pos h12]
      obtain ⟨a, m1, m2, e1, e2, hI2⟩ := (k_iron hB g1 g2 g3 (if g4 = 0 then 0 else 1)).kd hI
      have e1 : f_X9_iron m 0 g1 g2 g3 (if g4 = 0 then 0 else 1) = some (a, m1) := e1
      have e2 : f_X10_iron m1 0 g1 g2 g3 (if g4 = 0 then 0 else 1) = some (a, m2) := e2
      rw [A1, A2, A3, A4, pq_sb, pq_sb, pq_sb, pq_sb, pq_let, e1, pq_sb, pq_sb, pq_sb, pq_sb, pq_sb, pq_let, show f_X10_iron (a, m1).2 0 g1 g2 g3 (if g4 = 0 then 0 else 1) = _ from e2, pq_sb, if_pos rfl]
      exact hgo m2 hI2
    rw [if_neg h12]
    by_cases h13 : (g0 &&& 63) = 13
    · rw [if_pos h13]
      obtain ⟨a, m1, m2, e1, e2, hI2⟩ := (k_line hB g1 g2 g3 g4).kd hI
      have e1 : f_X9_line m 0 g1 g2 g3 g4 = some (a, m1) := e1
      have e2 : f_X10_line m1 0 g1 g2 g3 g4 = some (a, m2) := e2
      rw [A1, A2, A3, A4, pq_sb, pq_sb, pq_sb, pq_sb, e1, pq_sb, pq_sb, pq_sb, pq_sb, pq_sb, show f_X10_line (a, m1).2 0 g1 g2 g3 g4 = _ from e2, pq_sb, if_pos rfl]
      exact hgo m2 hI2
    rw [if_neg h13]
    by_cases h14 : (g0 &&& 63) = 14
    · rw [if_pos h14]
      obtain ⟨a, m1, m2, e1, e2, hI2⟩ := (k_alone hB g1 g2 g3).kd hI
      have e1 : f_X9_alone m 0 g1 g2 g3 = some (a, m1) := e1
      have e2 : f_X10_alone m1 0 g1 g2 g3 = some (a, m2) := e2
      rw [A1, A2, A3, pq_sb, pq_sb, pq_sb, e1, pq_sb, pq_sb, pq_sb, pq_sb, show f_X10_alone (a, m1).2 0 g1 g2 g3 = _ from e2, pq_sb, if_pos rfl]
      exact hgo m2 hI2
    rw [if_neg h14]
    by_cases h15 : (g0 &&& 63) = 15
    · rw [if_pos h15]
      obtain ⟨a, m1, m2, e1, e2, hI2⟩ := (k_hard hB g1 g2 g3 g4).kd hI
      have e1 : f_X9_hard m 0 g1 g2 g3 g4 = some (a, m1) := e1
      have e2 : f_X10_hard m1 0 g1 g2 g3 g4 = some (a, m2) := e2
      rw [A1, A2, A3, A4, pq_sb, pq_sb, pq_sb, pq_sb, e1, pq_sb, pq_sb, pq_sb, pq_sb, pq_sb, show f_X10_hard (a, m1).2 0 g1 g2 g3 g4 = _ from e2, pq_sb, if_pos rfl]
      exact hgo m2 hI2
    rw [if_neg h15]
    by_cases h16 : (g0 &&& 63) = 16
    · rw [if_pos h16]
      obtain ⟨a, m1, m2, e1, e2, hI2⟩ := (k_set hB g1 g2 g3).kd hI
      have e1 : f_X9_set m 0 g1 g2 g3 = some (a, m1) := e1
      have e2 : f_X10_set m1 0 g1 g2 g3 = some (a, m2) := e2
      rw [A1, A2, A3, pq_sb, pq_sb, pq_sb, e1, pq_sb, pq_sb, pq_sb, pq_sb, show f_X10_set (a, m1).2 0 g1 g2 g3 = _ from e2, pq_sb, if_pos rfl]
      exact hgo m2 hI2
    rw [if_neg h16]
    by_cases h17 : (g0 &&& 63) = 17
    · rw [if_pos h17]
      obtain ⟨a, m1, m2, e1, e2, hI2⟩ := (k_worth hB g1 g2 g3 g4).kd hI
      have e1 : f_X9_worth m 0 g1 g2 g3 g4 = some (a, m1) := e1
      have e2 : f_X10_worth m1 0 g1 g2 g3 g4 = some (a, m2) := e2
      rw [A1, A2, A3, A4, pq_sb, pq_sb, pq_sb, pq_sb, e1, pq_sb, pq_sb, pq_sb, pq_sb, pq_sb, show f_X10_worth (a, m1).2 0 g1 g2 g3 g4 = _ from e2, pq_sb, if_pos rfl]
      exact hgo m2 hI2
    rw [if_neg h17]
    by_cases h18 : (g0 &&& 63) = 18
    · rw [if_pos h18]
      obtain ⟨a, m1, m2, e1, e2, hI2⟩ := (k_night hB g1 g2 g3 g4).kd hI
      have e1 : f_X9_night m 0 g1 g2 g3 g4 = some (a, m1) := e1
      have e2 : f_X10_night m1 0 g1 g2 g3 g4 = some (a, m2) := e2
      rw [A1, A2, A3, A4, pq_sb, pq_sb, pq_sb, pq_sb, e1, pq_sb, pq_sb, pq_sb, pq_sb, pq_sb, show f_X10_night (a, m1).2 0 g1 g2 g3 g4 = _ from e2, pq_sb, if_pos rfl]
      exact hgo m2 hI2
    rw [if_neg h18]
    by_cases h19 : (g0 &&& 63) = 19
    · rw [if_pos h19]
      obtain ⟨a, m1, m2, e1, e2, hI2⟩ := (k_cloud hB g1 g2 g3 g4).kd hI
      have e1 : f_X9_cloud m 0 g1 g2 g3 g4 = some (a, m1) := e1
      have e2 : f_X10_cloud m1 0 g1 g2 g3 g4 = some (a, m2) := e2
      rw [A1, A2, A3, A4, pq_sb, pq_sb, pq_sb, pq_sb, e1, pq_sb, pq_sb, pq_sb, pq_sb, pq_sb, show f_X10_cloud (a, m1).2 0 g1 g2 g3 g4 = _ from e2, pq_sb, if_pos rfl]
      exact hgo m2 hI2
    rw [if_neg h19]
    by_cases h20 : (g0 &&& 63) = 20
    · rw [if_pos h20]
      obtain ⟨a, m1, m2, e1, e2, hI2⟩ := (k_coarse hB g1 g2 g3 g4).kd hI
      have e1 : f_X9_coarse m 0 g1 g2 g3 g4 = some (a, m1) := e1
      have e2 : f_X10_coarse m1 0 g1 g2 g3 g4 = some (a, m2) := e2
      rw [A1, A2, A3, A4, pq_sb, pq_sb, pq_sb, pq_sb, e1, pq_sb, pq_sb, pq_sb, pq_sb, pq_sb, show f_X10_coarse (a, m1).2 0 g1 g2 g3 g4 = _ from e2, pq_sb, if_pos rfl]
      exact hgo m2 hI2
    rw [if_neg h20]
    by_cases h21 : (g0 &&& 63) = 21
    · rw [if_pos h21]
      obtain ⟨a, m1, m2, e1, e2, hI2⟩ := (k_weary hB g1 g2 g3 g4 (if g5 = 0 then 0 else 1)).kd hI
      have e1 : f_X9_weary m 0 g1 g2 g3 g4 (if g5 = 0 then 0 else 1) = some (a, m1) := e1
      have e2 : f_X10_weary m1 0 g1 g2 g3 g4 (if g5 = 0 then 0 else 1) = some (a, m2) := e2
      rw [A1, A2, A3, A4, A5, pq_sb, pq_sb, pq_sb, pq_sb, pq_sb, pq_let, e1, pq_sb, pq_sb, pq_sb, pq_sb, pq_sb, pq_sb, pq_let, show f_X10_weary (a, m1).2 0 g1 g2 g3 g4 (if g5 = 0 then 0 else 1) = _ from e2, pq_sb, if_pos rfl]
      exact hgo m2 hI2
    rw [if_neg h21]
    by_cases h22 : (g0 &&& 63) = 22
    · rw [if_pos h22]
      obtain ⟨a, m1, m2, e1, e2, hI2⟩ := (k_tries hB g1 g2 g3 (if g4 = 0 then 0 else 1)).kd hI
      have e1 : f_X9_tries m 0 g1 g2 g3 (if g4 = 0 then 0 else 1) = some (a, m1) := e1
      have e2 : f_X10_tries m1 0 g1 g2 g3 (if g4 = 0 then 0 else 1) = some (a, m2) := e2
      rw [A1, A2, A3, A4, pq_sb, pq_sb, pq_sb, pq_sb, pq_let, e1, pq_sb, pq_sb, pq_sb, pq_sb, pq_sb, pq_let, show f_X10_tries (a, m1).2 0 g1 g2 g3 (if g4 = 0 then 0 else 1) = _ from e2, pq_sb, if_pos rfl]
      exact hgo m2 hI2
    rw [if_neg h22]
    by_cases h23 : (g0 &&& 63) = 23
    · rw [if_pos h23]
      obtain ⟨a, m1, m2, e1, e2, hI2⟩ := (k_learning hB g1 g2 g3 g4).kd hI
      have e1 : f_X9_learning m 0 g1 g2 g3 g4 = some (a, m1) := e1
      have e2 : f_X10_learning m1 0 g1 g2 g3 g4 = some (a, m2) := e2
      rw [A1, A2, A3, A4, pq_sb, pq_sb, pq_sb, pq_sb, e1, pq_sb, pq_sb, pq_sb, pq_sb, pq_sb, show f_X10_learning (a, m1).2 0 g1 g2 g3 g4 = _ from e2, pq_sb, if_pos rfl]
      exact hgo m2 hI2
    rw [if_neg h23]
    by_cases h24 : (g0 &&& 63) = 24
    · rw [if_pos h24]
      obtain ⟨a, m1, m2, e1, e2, hI2⟩ := (k_steers hB g1 g2 g3 g4).kd hI
      have e1 : f_X9_steers m 0 g1 g2 g3 g4 = some (a, m1) := e1
      have e2 : f_X10_steers m1 0 g1 g2 g3 g4 = some (a, m2) := e2
      rw [A1, A2, A3, A4, pq_sb, pq_sb, pq_sb, pq_sb, e1, pq_sb, pq_sb, pq_sb, pq_sb, pq_sb, show f_X10_steers (a, m1).2 0 g1 g2 g3 g4 = _ from e2, pq_sb, if_pos rfl]
      exact hgo m2 hI2
    rw [if_neg h24]
    by_cases h25 : (g0 &&& 63) = 25
    · rw [if_pos h25]
      obtain ⟨a, m1, m2, e1, e2, hI2⟩ := (k_change hB g1 g2 g3 g4).kd hI
      have e1 : f_X9_change m 0 g1 g2 g3 g4 = some (a, m1) := e1
      have e2 : f_X10_change m1 0 g1 g2 g3 g4 = some (a, m2) := e2
      rw [A1, A2, A3, A4, pq_sb, pq_sb, pq_sb, pq_sb, e1, pq_sb, pq_sb, pq_sb, pq_sb, pq_sb, show f_X10_change (a, m1).2 0 g1 g2 g3 g4 = _ from e2, pq_sb, if_pos rfl]
      exact hgo m2 hI2
    rw [if_neg h25]
    by_cases h26 : (g0 &&& 63) = 26
    · rw [if_pos h26]
      obtain ⟨a, m1, m2, e1, e2, hI2⟩ := (k_order hB g1 g2 g3 g4).kd hI
      have e1 : f_X9_order m 0 g1 g2 g3 g4 = some (a, m1) := e1
      have e2 : f_X10_order m1 0 g1 g2 g3 g4 = some (a, m2) := e2
      rw [A1, A2, A3, A4, pq_sb, pq_sb, pq_sb, pq_sb, e1, pq_sb, pq_sb, pq_sb, pq_sb, pq_sb, show f_X10_order (a, m1).2 0 g1 g2 g3 g4 = _ from e2, pq_sb, if_pos rfl]
      exact hgo m2 hI2
    rw [if_neg h26]
    by_cases h27 : (g0 &&& 63) = 27
    · rw [if_pos h27]
      obtain ⟨a, m1, m2, e1, e2, hI2⟩ := (k_both hB g1 g2 g3 g4 (if g5 = 0 then 0 else 1)).kd hI
      have e1 : f_X9_both m 0 g1 g2 g3 g4 (if g5 = 0 then 0 else 1) = some (a, m1) := e1
      have e2 : f_X10_both m1 0 g1 g2 g3 g4 (if g5 = 0 then 0 else 1) = some (a, m2) := e2
      rw [A1, A2, A3, A4, A5, pq_sb, pq_sb, pq_sb, pq_sb, pq_sb, pq_let, e1, pq_sb, pq_sb, pq_sb, pq_sb, pq_sb, pq_sb, pq_let, show f_X10_both (a, m1).2 0 g1 g2 g3 g4 (if g5 = 0 then 0 else 1) = _ from e2, pq_sb, if_pos rfl]
      exact hgo m2 hI2
    rw [if_neg h27]
    by_cases h28 : (g0 &&& 63) = 28
    · rw [if_pos h28]
      obtain ⟨a, m1, m2, e1, e2, hI2⟩ := (k_apart hB g1 g2 g3 (if g4 = 0 then 0 else 1)).kd hI
      have e1 : f_X9_apart m 0 g1 g2 g3 (if g4 = 0 then 0 else 1) = some (a, m1) := e1
      have e2 : f_X10_apart m1 0 g1 g2 g3 (if g4 = 0 then 0 else 1) = some (a, m2) := e2
      rw [A1, A2, A3, A4, pq_sb, pq_sb, pq_sb, pq_sb, pq_let, e1, pq_sb, pq_sb, pq_sb, pq_sb, pq_sb, pq_let, show f_X10_apart (a, m1).2 0 g1 g2 g3 (if g4 = 0 then 0 else 1) = _ from e2, pq_sb, if_pos rfl]
      exact hgo m2 hI2
    rw [if_neg h28]
    by_cases h29 : (g0 &&& 63) = 29
    · rw [if_pos h29]
      obtain ⟨a, m1, m2, e1, e2, hI2⟩ := (k_whose hB g1 g2).kd hI
      have e1 : f_X9_whose m 0 g1 g2 = some (a, m1) := e1
      have e2 : f_X10_whose m1 0 g1 g2 = some (a, m2) := e2
      rw [A1, A2, pq_sb, pq_sb, e1, pq_sb, pq_sb, pq_sb, show f_X10_whose (a, m1).2 0 g1 g2 = _ from e2, pq_sb, if_pos rfl]
      exact hgo m2 hI2
    rw [if_neg h29]
    by_cases h30 : (g0 &&& 63) = 30
    · rw [if_pos h30]
      obtain ⟨a, m1, m2, e1, e2, hI2⟩ := (k_tells hB g1 g2 g3).kd hI
      have e1 : f_X9_tells m 0 g1 g2 g3 = some (a, m1) := e1
      have e2 : f_X10_tells m1 0 g1 g2 g3 = some (a, m2) := e2
      rw [A1, A2, A3, pq_sb, pq_sb, pq_sb, e1, pq_sb, pq_sb, pq_sb, pq_sb, show f_X10_tells (a, m1).2 0 g1 g2 g3 = _ from e2, pq_sb, if_pos rfl]
      exact hgo m2 hI2
    rw [if_neg h30]
    by_cases h31 : (g0 &&& 63) = 31
    · rw [if_pos h31]
      obtain ⟨a, m1, m2, e1, e2, hI2⟩ := (k_slipped hB g1 g2 g3 g4 g5 (if g6 = 0 then 0 else 1)).kd hI
      have e1 : f_X9_slipped m 0 g1 g2 g3 g4 g5 (if g6 = 0 then 0 else 1) = some (a, m1) := e1
      have e2 : f_X10_slipped m1 0 g1 g2 g3 g4 g5 (if g6 = 0 then 0 else 1) = some (a, m2) := e2
      rw [A1, A2, A3, A4, A5, A6, pq_sb, pq_sb, pq_sb, pq_sb, pq_sb, pq_sb, pq_let, e1, pq_sb, pq_sb, pq_sb, pq_sb, pq_sb, pq_sb, pq_sb, pq_let, show f_X10_slipped (a, m1).2 0 g1 g2 g3 g4 g5 (if g6 = 0 then 0 else 1) = _ from e2, pq_sb, if_pos rfl]
      exact hgo m2 hI2
    rw [if_neg h31]
    by_cases h32 : (g0 &&& 63) = 32
    · rw [if_pos h32]
      obtain ⟨a, m1, m2, e1, e2, hI2⟩ := (k_lead hB g1 g2 g3 g4).kd hI
      have e1 : f_X9_lead m 0 g1 g2 g3 g4 = some (a, m1) := e1
      have e2 : f_X10_lead m1 0 g1 g2 g3 g4 = some (a, m2) := e2
      rw [A1, A2, A3, A4, pq_sb, pq_sb, pq_sb, pq_sb, e1, pq_sb, pq_sb, pq_sb, pq_sb, pq_sb, show f_X10_lead (a, m1).2 0 g1 g2 g3 g4 = _ from e2, pq_sb, if_pos rfl]
      exact hgo m2 hI2
    rw [if_neg h32]
    by_cases h33 : (g0 &&& 63) = 33
    · rw [if_pos h33]
      obtain ⟨a, m1, m2, e1, e2, hI2⟩ := (k_bound hB g1 g2 g3 g4 g5).kd hI
      have e1 : f_X9_bound m 0 g1 g2 g3 g4 g5 = some (a, m1) := e1
      have e2 : f_X10_bound m1 0 g1 g2 g3 g4 g5 = some (a, m2) := e2
      rw [A1, A2, A3, A4, A5, pq_sb, pq_sb, pq_sb, pq_sb, pq_sb, e1, pq_sb, pq_sb, pq_sb, pq_sb, pq_sb, pq_sb, show f_X10_bound (a, m1).2 0 g1 g2 g3 g4 g5 = _ from e2, pq_sb, if_pos rfl]
      exact hgo m2 hI2
    rw [if_neg h33]
    by_cases h34 : (g0 &&& 63) = 34
    · rw [if_pos h34]
      obtain ⟨a, m1, m2, e1, e2, hI2⟩ := (k_first hB g1 g2 g3 g4).kd hI
      have e1 : f_X9_first m 0 g1 g2 g3 g4 = some (a, m1) := e1
      have e2 : f_X10_first m1 0 g1 g2 g3 g4 = some (a, m2) := e2
      rw [A1, A2, A3, A4, pq_sb, pq_sb, pq_sb, pq_sb, e1, pq_sb, pq_sb, pq_sb, pq_sb, pq_sb, show f_X10_first (a, m1).2 0 g1 g2 g3 g4 = _ from e2, pq_sb, if_pos rfl]
      exact hgo m2 hI2
    rw [if_neg h34]
    by_cases h35 : (g0 &&& 63) = 35
    · rw [if_pos h35]
      obtain ⟨a, m1, m2, e1, e2, hI2⟩ := (k_better hB g1 g2 g3 g4).kd hI
      have e1 : f_X9_better m 0 g1 g2 g3 g4 = some (a, m1) := e1
      have e2 : f_X10_better m1 0 g1 g2 g3 g4 = some (a, m2) := e2
      rw [A1, A2, A3, A4, pq_sb, pq_sb, pq_sb, pq_sb, e1, pq_sb, pq_sb, pq_sb, pq_sb, pq_sb, show f_X10_better (a, m1).2 0 g1 g2 g3 g4 = _ from e2, pq_sb, if_pos rfl]
      exact hgo m2 hI2
    rw [if_neg h35]
    by_cases h36 : (g0 &&& 63) = 36
    · rw [if_pos h36]
      obtain ⟨a, m1, m2, e1, e2, hI2⟩ := (k_reads hB g1 g2 g3 g4 g5 g6).kd hI
      have e1 : f_X9_reads m 0 g1 g2 g3 g4 g5 g6 = some (a, m1) := e1
      have e2 : f_X10_reads m1 0 g1 g2 g3 g4 g5 g6 = some (a, m2) := e2
      rw [A1, A2, A3, A4, A5, A6, pq_sb, pq_sb, pq_sb, pq_sb, pq_sb, pq_sb, e1, pq_sb, pq_sb, pq_sb, pq_sb, pq_sb, pq_sb, pq_sb, show f_X10_reads (a, m1).2 0 g1 g2 g3 g4 g5 g6 = _ from e2, pq_sb, if_pos rfl]
      exact hgo m2 hI2
    rw [if_neg h36]
    by_cases h37 : (g0 &&& 63) = 37
    · rw [if_pos h37]
      obtain ⟨a, m1, m2, e1, e2, hI2⟩ := (k_parted hB g1 g2 g3 g4).kd hI
      have e1 : f_X9_parted m 0 g1 g2 g3 g4 = some (a, m1) := e1
      have e2 : f_X10_parted m1 0 g1 g2 g3 g4 = some (a, m2) := e2
      rw [A1, A2, A3, A4, pq_sb, pq_sb, pq_sb, pq_sb, e1, pq_sb, pq_sb, pq_sb, pq_sb, pq_sb, show f_X10_parted (a, m1).2 0 g1 g2 g3 g4 = _ from e2, pq_sb, if_pos rfl]
      exact hgo m2 hI2
    rw [if_neg h37]
    by_cases h38 : (g0 &&& 63) = 38
    · rw [if_pos h38]
      obtain ⟨a, e1, e2⟩ := k_count hB g1
      have e1 : s_X9_count m 0 g1 = a := Option.some.inj e1
      have e2 : f_X10_count m 0 g1 = some (a, ev_pim m 10 0 0 0) := e2
      rw [A1, pq_sb, pq_sb, e2, pq_sb, e1, if_pos rfl]
      exact hgo _ (hI.fr PI_pim)
    rw [if_neg h38]
    by_cases h39 : (g0 &&& 63) = 39
    · rw [if_pos h39]
      obtain ⟨a, m1, m2, e1, e2, hI2⟩ := k_image hI g1
      have e1 : f_X9_image m 0 g1 = some (a, m1) := e1
      have e2 : f_X10_image m1 0 g1 = some (a, m2) := e2
      rw [A1, pq_sb, e1, pq_sb, pq_sb, show f_X10_image (a, m1).2 0 g1 = _ from e2, pq_sb, if_pos rfl]
      exact hgo m2 hI2
    rw [if_neg h39]
    by_cases h40 : (g0 &&& 63) = 40
    · rw [if_pos h40]
      obtain ⟨a, m1, m2, e1, e2, hI2⟩ := k_again hI g1
      have e1 : f_X9_again m 0 g1 = some (a, m1) := e1
      have e2 : f_X10_again m1 0 g1 = some (a, m2) := e2
      rw [A1, pq_sb, e1, pq_sb, pq_sb, show f_X10_again (a, m1).2 0 g1 = _ from e2, pq_sb, if_pos rfl]
      exact hgo m2 hI2
    rw [if_neg h40]
    exact hgo m hI
theorem law_pure {xs : List Int32} {m : ev_m} (hx : xs.length ≤ 3584) (hI : iv_ m) : ∃ m', f_L_law xs m = some (true, m') := by
  unfold f_L_law
  exact law_loop hx 600 4000 0 m (by omega) (by decide) (by decide) hI
/-- all is told of nothing, at first -/
theorem iv_0 {m : ev_m} (h1 : m.1 1 0 1 = 0) (h2 : m.1 1 0 2 = -1) (h3 : ∀ j, 3 ≤ j → j < 7 → m.1 1 0 j = 0) (h4 : m.1 2 0 1 = 0) (h31 : m.1 31 0 0 = 0) (h32 : m.1 32 0 0 = 0) (h33 : m.1 33 0 0 = -1) (h34 : ∀ j, j < 4 → m.1 34 0 j = 0) (h22 : ∀ k, k < 3 → m.1 22 0 k = 0) (h52 : ∀ k, k < 3 → m.1 52 0 k = 0) (h30 : ∀ k, m.1 30 0 k = 0) : iv_ m := by
  refine ⟨⟨0, 0, 0, 0, 0, ⟨⟨by decide, by decide, by decide, by decide⟩, ⟨h3 3 (by decide) (by decide), h3 4 (by decide) (by decide), h3 5 (by decide) (by decide), h3 6 (by decide) (by decide)⟩, ⟨h34 0 (by decide), h34 1 (by decide), h34 2 (by decide), h34 3 (by decide)⟩, fun s hs => absurd hs (Nat.not_lt_zero s), fun s hs => absurd hs (Nat.not_lt_zero s), fun s hs => absurd hs (Nat.not_lt_zero s), fun s hs => absurd hs (Nat.not_lt_zero s)⟩, Nat.zero_le _, h4, h31, fun k hk => absurd hk (Nat.not_lt_zero k), h1.trans h32.symm, h2.trans h33.symm⟩, fun k hk => Or.inl ⟨h22 k hk, h52 k hk⟩, fun k => by rw [h30 k]; rfl⟩
