/-! pure: the class's whole run -/
theorem pq_put0 {m : ev_m} {r i : Nat} {y : Int32} : ev_put m r i 401 0 y = ev_pim m r i 0 y := pq_put (k := 0) (by decide) (by decide)
theorem cl_steer_l {N i j : Nat} {S D : Nat → Int32} {kx : ev_m → Option ev_m} (hD : pu_okD D) (hS : pu_okS S) (hN : N < 2 ^ 20) : ∀ n f k m q a, k + n = N → n < f → q.2.2.2.2.1 ≤ 400 → a.1 + n < 2 ^ 20 → cc_D m j D → cc_S m i S → m.2.2 9 0 0 = some j → m.2.2 8 0 0 = some i → cc_q m q → pb_H q → cc_m m 0 a →
    ∃ m' q', lp_X8_steer_10 0 (nI N) f (nI k) m kx = kx m' ∧ q' = (pu_go S D (min n (400 - q.2.2.2.2.1)) (q, a)).1 ∧ cc_q m' q' ∧ pb_H q' ∧ m'.2 = m.2 ∧ (cc_W m q.2.2.2.1 q.2.2.2.2.1 → cc_W m' q'.2.2.2.1 q'.2.2.2.2.1) ∧ pq_Fr cc_P m m' := by
  intro n
  induction n with
  | zero =>
    intro f k m q a hk hf hd _ hcD hcS hr hs hq hB hm
    obtain ⟨g, rfl⟩ : ∃ g, f = g + 1 := ⟨f - 1, by omega⟩
    rw [lp_X8_steer_10, if_neg (nI_nlt (by omega) (by omega))]
    refine ⟨m, q, rfl, ?_, hq, hB, rfl, fun h => h, pq_Fr.refl _ m⟩
    rw [Nat.zero_min]
    rfl
  | succ n ih =>
    intro f k m q a hk hf hd ha hcD hcS hr hs hq hB hm
    obtain ⟨g, rfl⟩ : ∃ g, f = g + 1 := ⟨f - 1, by omega⟩
    rw [lp_X8_steer_10, if_pos (nI_lt (by omega) (by omega)), hq.2.2.2.1]
    by_cases h4 : q.2.2.2.2.1 < 400
    · rw [if_pos (show nI q.2.2.2.2.1 < 400 from nI_lt h4 (by decide))]
      obtain ⟨m1, e1, e2, r1, k1, -, F1⟩ := cl_wants (p := 0) (by decide) hcD hcS hD hS hr hs hq hB hm hd (by omega)
      obtain ⟨m2, e3, e4, r2, w2, k2, F2⟩ := cl_move (want := pu_wt S D q a) (saw := pu_ms S D q a) (hcS.fr F1 rfl rfl) hS (by rw [e2]; exact hs) r1 (by show q.2.2.2.2.1 < 400; omega)
      rw [e1, pq_sb, e3, pq_sb, nI_1]
      have hF1 : pq_Fr cc_P m m1 := F1.sub (fun r i h => by
        revert h
        simp only [cc_P, Bool.and_eq_true, bne_iff_ne, Bool.or_eq_true, decide_eq_true_eq]
        omega)
      have hF2 : pq_Fr cc_P m1 m2 := F2.sub (fun r i h => by
        revert h
        simp only [cc_P, Bool.and_eq_true, bne_iff_ne, Bool.or_eq_true, decide_eq_true_eq]
        omega)
      have hF := hF1.trans hF2
      obtain ⟨m3, q3, f1, f2, f3, f4, f5, f6, f7⟩ := ih g (k + 1) m2 (pu_1 S D (q, a)).1 (pu_1 S D (q, a)).2 (by omega) (by omega) (by show q.2.2.2.2.1 + 1 ≤ 400; omega) (by show a.1 + 1 + n < 2 ^ 20; omega) (hcD.fr hF rfl rfl rfl) (hcS.fr hF rfl rfl) (by rw [e4, e2]; exact hr) (by rw [e4, e2]; exact hs) r2 (pb_ps hB) ⟨(k2 0 1).trans k1.1, (k2 0 2).trans k1.2.1, (k2 0 3).trans k1.2.2⟩
      refine ⟨m3, q3, f1, ?_, f3, f4, by rw [f5, e4, e2], ?_, hF.trans f7⟩
      · rw [f2, show min (n + 1) (400 - q.2.2.2.2.1) = min n (400 - (q.2.2.2.2.1 + 1)) + 1 by omega]
        rfl
      · intro hW
        have hW1 : cc_W m1 q.2.2.2.1 q.2.2.2.2.1 := fun x hx => (F1 21 0 x rfl).trans (hW x hx)
        have hW2 := w2 _ hW1
        rw [k1.2.2] at hW2
        exact f6 hW2
    · rw [if_neg (show ¬ nI q.2.2.2.2.1 < 400 from nI_nlt (b := 400) (by omega) (by omega))]
      refine ⟨m, q, rfl, ?_, hq, hB, rfl, fun h => h, pq_Fr.refl _ m⟩
      rw [show min (n + 1) (400 - q.2.2.2.2.1) = 0 by omega]
      rfl
theorem cl_rel (m : ev_m) (p : Nat) (o : Option Nat) : (s_X2_relieve m p o).2.2 = (fun a b c => if a = 9 ∧ b = p ∧ c = 0 then o else m.2.2 a b c) ∧ cc_m (s_X2_relieve m p o) p (0, 0, 0) ∧ (∀ k, k ≠ p → ∀ c, (s_X2_relieve m p o).1 9 k c = m.1 9 k c) ∧ pq_Fr (fun r _ => r != 9) m (s_X2_relieve m p o) := by
  unfold s_X2_relieve
  simp only [pq_let]
  refine ⟨rfl, ⟨?_, ?_, ?_⟩, ?_, ?_⟩
  · simp [pq_pim, pq_pim2, pq_plm, pq_plml, pq_plmr, pq_pom, pq_poml, pq_pomr, pq_prm, pq_prm2, Nat.reduceEqDiff, reduceIte, and_true, true_and, and_false, false_and, and_self, nI_0]
  · simp [pq_pim, pq_pim2, pq_plm, pq_plml, pq_plmr, pq_pom, pq_poml, pq_pomr, pq_prm, pq_prm2, Nat.reduceEqDiff, reduceIte, and_true, true_and, and_false, false_and, and_self]
  · simp [pq_pim, pq_pim2, pq_plm, pq_plml, pq_plmr, pq_pom, pq_poml, pq_pomr, pq_prm, pq_prm2, Nat.reduceEqDiff, reduceIte, and_true, true_and, and_false, false_and, and_self]
  · intro k hk c
    simp [pq_pim, pq_pim2, pq_plm, pq_plml, pq_plmr, pq_pom, pq_poml, pq_pomr, pq_prm, pq_prm2, Nat.reduceEqDiff, reduceIte, and_true, true_and, and_false, false_and, and_self, hk]
  · exact ((((pq_Fr.refl _ m).pom.pim rfl).pim rfl).pim rfl)
theorem cc_q.fr {m m' : ev_m} {q : pu_Q} {P : Nat → Nat → Bool} (h : cc_q m q) (hF : pq_Fr P m m') (h18 : P 18 0 = true) (h19 : P 19 0 = true) (h20 : P 20 0 = true) (h8 : P 8 0 = true) : cc_q m' q := ⟨fun k hk => (hF 18 0 k h18).trans (h.1 k hk), fun k hk => (hF 19 0 k h19).trans (h.2.1 k hk), fun k hk => (hF 20 0 k h20).trans (h.2.2.1 k hk), (hF 8 0 1 h8).trans h.2.2.2.1, (hF 8 0 6 h8).trans h.2.2.2.2⟩
theorem cc_P9 : ∀ r i, cc_P r i = true → (r != 9) = true := by
  intro r i h
  revert h
  simp only [cc_P, Bool.and_eq_true, bne_iff_ne, Bool.or_eq_true, decide_eq_true_eq]
  omega
theorem cl_steer {m : ev_m} {n i j : Nat} {S D : Nat → Int32} {q : pu_Q} (hD : pu_okD D) (hS : pu_okS S) (hn : n < 2000) (hd : q.2.2.2.2.1 ≤ 400) (hcD : cc_D m j D) (hcS : cc_S m i S) (hs : m.2.2 8 0 0 = some i) (hq : cc_q m q) (hB : pb_H q) :
    ∃ m', f_X8_steer m 0 (some j) (nI n) = some m' ∧ cc_q m' (pu_steer S D (min n (400 - q.2.2.2.2.1)) q) ∧ pb_H (pu_steer S D (min n (400 - q.2.2.2.2.1)) q) ∧ m'.2.2 8 0 0 = some i ∧ (cc_W m q.2.2.2.1 q.2.2.2.2.1 → cc_W m' (pu_steer S D (min n (400 - q.2.2.2.2.1)) q).2.2.2.1 (pu_steer S D (min n (400 - q.2.2.2.2.1)) q).2.2.2.2.1) ∧ pq_Fr cc_P m m' := by
  obtain ⟨a1, a2, -, a4⟩ := cl_rel m 0 (some j)
  obtain ⟨m2, q2, e2, eq2, r2, b2, s2, w2, F2⟩ := cl_steer_l (kx := fun m => some m) (i := i) (j := j) hD hS (N := n) (by omega) n 4000 0 (s_X2_relieve m 0 (some j)) q (0, 0, 0) (by omega) (by omega) hd (by show 0 + n < 2 ^ 20; omega) (hcD.fr a4 rfl rfl rfl) (hcS.fr a4 rfl rfl) (by rw [a1]; rfl) (by rw [a1]; exact hs) (hq.fr a4 rfl rfl rfl rfl) hB a2
  subst eq2
  unfold f_X8_steer
  rw [pq_let]
  refine ⟨m2, e2, r2, b2, ?_, ?_, (a4.sub cc_P9).trans F2⟩
  · rw [s2, a1]; exact hs
  · intro hW
    exact w2 (fun x hx => (a4 21 0 x rfl).trans (hW x hx))
/-- without a hand -/
theorem cl_free_l {N i : Nat} {S : Nat → Int32} {kx : ev_m → Option ev_m} (hS : pu_okS S) (hN : N ≤ 400) : ∀ n f k m q, k + n = N → n < f → q.2.2.2.2.1 + n ≤ 400 → cc_S m i S → m.2.2 9 0 0 = none → m.2.2 8 0 0 = some i → m.1 9 0 3 = 0 → cc_q m q → pb_H q → cc_W m q.2.2.2.1 q.2.2.2.2.1 →
    ∃ m', lp_X8_steer_10 0 (nI N) f (nI k) m kx = kx m' ∧ cc_q m' (pu_free S n q) ∧ pb_H (pu_free S n q) ∧ cc_W m' (pu_free S n q).2.2.2.1 (pu_free S n q).2.2.2.2.1 ∧ pq_Fr cc_P m m' := by
  intro n
  induction n with
  | zero =>
    intro f k m q hk hf hd hcS hr hs h3 hq hB hW
    obtain ⟨g, rfl⟩ : ∃ g, f = g + 1 := ⟨f - 1, by omega⟩
    rw [lp_X8_steer_10, if_neg (nI_nlt (by omega) (by omega))]
    exact ⟨m, rfl, hq, hB, hW, pq_Fr.refl _ m⟩
  | succ n ih =>
    intro f k m q hk hf hd hcS hr hs h3 hq hB hW
    obtain ⟨g, rfl⟩ : ∃ g, f = g + 1 := ⟨f - 1, by omega⟩
    have ew : f_X2_wants m 0 (some 0) = some (0, m) := by
      unfold f_X2_wants
      rw [pq_let, hr, pq_on0]
    obtain ⟨m2, e3, e4, r2, w2, k2, F2⟩ := cl_move (want := 0) (saw := 0) hcS hS hs hq (by omega)
    rw [lp_X8_steer_10, if_pos (nI_lt (by omega) (by omega)), hq.2.2.2.1, if_pos (show nI q.2.2.2.2.1 < 400 from nI_lt (b := 400) (by omega) (by decide)), ew, pq_sb, e3, pq_sb, nI_1]
    have hF : pq_Fr cc_P m m2 := F2.sub (fun r i h => by
      revert h
      simp only [cc_P, Bool.and_eq_true, bne_iff_ne, Bool.or_eq_true, decide_eq_true_eq]
      omega)
    have hW2 := w2 _ hW
    rw [h3] at hW2
    obtain ⟨m3, f1, f3, f4, f6, f7⟩ := ih g (k + 1) m2 _ (by omega) (by omega) (by show q.2.2.2.2.1 + 1 + n ≤ 400; omega) (hcS.fr hF rfl rfl) (by rw [e4]; exact hr) (by rw [e4]; exact hs) ((k2 0 3).trans h3) r2 (pb_ps hB) hW2
    exact ⟨m3, f1, f3, f4, f6, hF.trans f7⟩
theorem cl_begin {m : ev_m} {i : Nat} {S : Nat → Int32} {seed : Int32} (hc : cc_S m i S) : (s_X8_begin m 0 (some i) seed).2.2 8 0 0 = some i ∧ cc_q (s_X8_begin m 0 (some i) seed) (pu_q0 S seed) ∧ cc_W (s_X8_begin m 0 (some i) seed) (pu_q0 S seed).2.2.2.1 0 ∧ pq_Fr cc_P m (s_X8_begin m 0 (some i) seed) := by
  have h8 : m.1 3 i 8 = S 8 := hc.1 8 (by decide)
  have h9 : m.1 3 i 9 = S 9 := hc.1 9 (by decide)
  unfold s_X8_begin
  simp only [pq_let, pq_on1]
  unfold jn_X8_begin_32
  simp only [pq_let, pq_on1]
  unfold jn_X8_begin_52
  simp only [pq_let, pq_put0]
  refine ⟨rfl, ⟨?_, ?_, ?_, ?_, ?_⟩, ?_, ?_⟩
  · intro k hk
    have hk : k ≤ 0 := hk
    rw [show k = 0 by omega]
    simp [pq_pim, pq_pim2, pq_plm, pq_plml, pq_plmr, pq_pom, pq_poml, pq_pomr, pq_prm, pq_prm2, Nat.reduceEqDiff, reduceIte, and_true, true_and, and_false, false_and, and_self, h8, pu_q0, upd]
  · intro k hk
    have hk : k ≤ 0 := hk
    rw [show k = 0 by omega]
    simp [pq_pim, pq_pim2, pq_plm, pq_plml, pq_plmr, pq_pom, pq_poml, pq_pomr, pq_prm, pq_prm2, Nat.reduceEqDiff, reduceIte, and_true, true_and, and_false, false_and, and_self, h9, pu_q0, upd]
  · intro k hk
    have hk : k ≤ 0 := hk
    rw [show k = 0 by omega]
    simp [pq_pim, pq_pim2, pq_plm, pq_plml, pq_plmr, pq_pom, pq_poml, pq_pomr, pq_prm, pq_prm2, Nat.reduceEqDiff, reduceIte, and_true, true_and, and_false, false_and, and_self, pu_q0]
  · simp [pq_pim, pq_pim2, pq_plm, pq_plml, pq_plmr, pq_pom, pq_poml, pq_pomr, pq_prm, pq_prm2, Nat.reduceEqDiff, reduceIte, and_true, true_and, and_false, false_and, and_self, pu_q0, nI_0]
  · simp [pq_pim, pq_pim2, pq_plm, pq_plml, pq_plmr, pq_pom, pq_poml, pq_pomr, pq_prm, pq_prm2, Nat.reduceEqDiff, reduceIte, and_true, true_and, and_false, false_and, and_self, pu_q0]
  · intro k hk
    rw [show k = 0 by omega]
    simp [pq_pim, pq_pim2, pq_plm, pq_plml, pq_plmr, pq_pom, pq_poml, pq_pomr, pq_prm, pq_prm2, Nat.reduceEqDiff, reduceIte, and_true, true_and, and_false, false_and, and_self, pu_q0]
  · exact ((((((pq_Fr.refl _ m).pom.pim rfl).pim rfl).pim rfl).pim rfl).pim rfl).pim rfl
theorem pb_q0 {S : Nat → Int32} {seed : Int32} (hS : pu_okS S) : pb_H (pu_q0 S seed) := by
  intro k hk
  have hk : k ≤ 0 := hk
  have := hS.2.2.2.2.1
  rw [show k = 0 by omega]
  show -18000 ≤ (upd (fun _ => 0) 0 (S 8) 0).toInt ∧ (upd (fun _ => 0) 0 (S 8) 0).toInt ≤ 18000
  rw [pk_us]
  omega
theorem cl_sail {m : ev_m} {n i j : Nat} {S D : Nat → Int32} {seed : Int32} (hD : pu_okD D) (hS : pu_okS S) (hn : n ≤ 400) (hcD : cc_D m j D) (hcS : cc_S m i S) :
    ∃ m', f_X8_sail m 0 (some i) (some j) seed (nI n) = some m' ∧ cc_q m' (pu_run S D seed n) ∧ pb_H (pu_run S D seed n) ∧ cc_W m' (pu_run S D seed n).2.2.2.1 n ∧ m'.2.2 8 0 0 = some i ∧ pq_Fr cc_P m m' := by
  obtain ⟨b1, b2, b3, b4⟩ := cl_begin (seed := seed) hcS
  obtain ⟨m2, e2, r2, bb, s2, w2, F2⟩ := cl_steer (n := n) hD hS (by omega) (by show 0 ≤ 400; omega) (hcD.fr b4 rfl rfl rfl) (hcS.fr b4 rfl rfl) b1 b2 (pb_q0 hS)
  have hmin : min n (400 - (pu_q0 S seed).2.2.2.2.1) = n := by show min n (400 - 0) = n; omega
  rw [hmin] at r2 bb w2
  unfold f_X8_sail
  rw [pq_let, e2, pq_sb]
  have hw := w2 b3
  have hd := pu_run_d S D seed n
  unfold pu_run at hd ⊢
  rw [hd] at hw
  exact ⟨m2, rfl, r2, bb, hw, s2, b4.trans F2⟩
theorem cl_sail0 {m : ev_m} {n i : Nat} {S : Nat → Int32} {seed : Int32} (hS : pu_okS S) (hn : n ≤ 400) (hcS : cc_S m i S) :
    ∃ m', f_X8_sail m 0 (some i) none seed (nI n) = some m' ∧ cc_q m' (pu_run0 S seed n) ∧ pb_H (pu_run0 S seed n) ∧ cc_W m' (pu_run0 S seed n).2.2.2.1 n ∧ pq_Fr cc_P m m' := by
  obtain ⟨b1, b2, b3, b4⟩ := cl_begin (seed := seed) hcS
  obtain ⟨a1, a2, -, a4⟩ := cl_rel (s_X8_begin m 0 (some i) seed) 0 none
  obtain ⟨m2, e2, r2, bb, w2, F2⟩ := cl_free_l (kx := fun m => some m) (i := i) hS (N := n) (by omega) n 4000 0 (s_X2_relieve (s_X8_begin m 0 (some i) seed) 0 none) (pu_q0 S seed) (by omega) (by omega) (by show 0 + n ≤ 400; omega) ((hcS.fr b4 rfl rfl).fr a4 rfl rfl) (by rw [a1]; rfl) (by rw [a1]; exact b1) a2.2.2 (b2.fr a4 rfl rfl rfl rfl) (pb_q0 hS) (fun x hx => (a4 21 0 x rfl).trans (b3 x hx))
  unfold f_X8_sail
  rw [pq_let]
  unfold f_X8_steer
  rw [pq_let, show (0 : Int32) = nI 0 from rfl, e2, pq_sb]
  have hd := pu_run0_d S seed n
  unfold pu_run0 at hd ⊢
  rw [hd] at w2
  exact ⟨m2, rfl, r2, bb, w2, (b4.trans (a4.sub cc_P9)).trans F2⟩
