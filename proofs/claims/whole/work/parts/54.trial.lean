/-! pure: copies, trials -/
theorem cl_copyS_l {i j : Nat} {kx : ev_m → Option ev_m} (hij : i ≠ j) : ∀ n f k m, k + n = 10 → n < f → ∃ m', lp_X5_copy_7 i j f (nI k) m kx = kx m' ∧ (∀ c, k ≤ c → c < 10 → m'.1 3 i c = m.1 3 j c) ∧ (∀ r x c, ¬ (r = 3 ∧ x = i ∧ k ≤ c ∧ c < 10) → m'.1 r x c = m.1 r x c) ∧ m'.2 = m.2 := by
  intro n
  induction n with
  | zero =>
    intro f k m hk hf
    obtain ⟨g, rfl⟩ : ∃ g, f = g + 1 := ⟨f - 1, by omega⟩
    rw [lp_X5_copy_7, if_pos (show 9 < nI k from nI_lt (a := 9) (by omega) (by omega))]
    exact ⟨m, rfl, fun c h1 h2 => by omega, fun _ _ _ _ => rfl, rfl⟩
  | succ n ih =>
    intro f k m hk hf
    obtain ⟨g, rfl⟩ : ∃ g, f = g + 1 := ⟨f - 1, by omega⟩
    rw [lp_X5_copy_7, if_neg (show ¬ 9 < nI k from nI_nlt (a := 9) (by omega) (by omega)), cl_look k (by omega), cl_write k (by omega), pq_let, nI_1]
    obtain ⟨m', e, h1, h2, h3⟩ := ih g (k + 1) (ev_pim m 3 i k (m.1 3 j k)) (by omega) (by omega)
    refine ⟨m', e, ?_, ?_, h3⟩
    · intro c a1 a2
      by_cases q : c = k
      · rw [h2 3 i c (by omega), q]; simp [pq_pim]
      · rw [h1 c (by omega) a2, pq_pim, if_neg (fun e => hij e.2.1.symm)]
    · intro r x c hn
      rw [h2 r x c (by omega), pq_pim, if_neg (by omega)]
theorem cl_copyS {m : ev_m} {i j : Nat} (hij : i ≠ j) : ∃ m', f_X5_copy m i (some j) = some m' ∧ (∀ c, c < 11 → m'.1 3 i c = m.1 3 j c) ∧ (∀ c, c < 12 → m'.1 12 i c = m.1 12 j c) ∧ (∀ r x c, ¬ ((r = 3 ∨ r = 12) ∧ x = i) → m'.1 r x c = m.1 r x c) ∧ m'.2 = m.2 := by
  obtain ⟨m1, e, h1, h2, h3⟩ := cl_copyS_l (kx := fun m8 => ev_let (ev_pim m8 3 i 10 (m8.1 3 j 10)) (fun m9 => ev_let (ev_cpm m9 12 j i 12) (fun m10 => (some (m10))))) hij 10 4000 0 m (by omega) (by omega)
  unfold f_X5_copy
  rw [pq_on1, show (0 : Int32) = nI 0 from rfl, e, pq_let, pq_let]
  refine ⟨_, rfl, ?_, ?_, ?_, h3⟩
  · intro c hc
    unfold ev_cpm
    rw [pq_prm, if_neg (by omega), pq_pim]
    by_cases q : c = 10
    · rw [if_pos ⟨rfl, rfl, q⟩, h2 3 j 10 (by omega), q]
    · rw [if_neg (fun e => q e.2.2), h1 c (by omega) (by omega)]
  · intro c hc
    unfold ev_cpm
    rw [pq_prm, if_pos ⟨rfl, rfl⟩, pk_cpy_in (by omega) (by omega), pq_pim, if_neg (by omega), show 0 + (c - 0) = c by omega]
    exact h2 12 j c (by omega)
  · intro r x c hn
    unfold ev_cpm
    rw [pq_prm, if_neg (by omega), pq_pim, if_neg (by omega)]
    exact h2 r x c (by omega)
theorem cl_copySR {m m' : ev_m} {i j : Nat} {S : Nat → Int32} (hS : pu_okS S) (h : cc_S m j S) (h1 : ∀ c, c < 11 → m'.1 3 i c = m.1 3 j c) (h2 : ∀ c, c < 12 → m'.1 12 i c = m.1 12 j c) : cc_S m' i S := by
  obtain ⟨-, -, -, -, -, c, hc1, hc2, e⟩ := hS
  have hcl : (S 10).toNatClampNeg = c := by rw [e]; exact nI_clamp (by omega)
  refine ⟨fun k hk => (h1 k hk).trans (h.1 k hk), fun k hk => (h2 k (by omega)).trans (h.2 k hk)⟩
theorem cl_copyH_l {i j : Nat} {kx : ev_m → Option ev_m} (hij : i ≠ j) : ∀ n f k m, k + n = 9 → n < f → (m.1 4 j 8 = 0 ∨ m.1 4 j 8 = 1) → ∃ m', lp_X1_copy_7 i j f (nI k) m kx = kx m' ∧ (∀ c, k ≤ c → c < 9 → m'.1 4 i c = m.1 4 j c) ∧ (∀ r x c, ¬ (r = 4 ∧ x = i ∧ k ≤ c ∧ c < 9) → m'.1 r x c = m.1 r x c) ∧ m'.2 = m.2 := by
  intro n
  induction n with
  | zero =>
    intro f k m hk hf _
    obtain ⟨g, rfl⟩ : ∃ g, f = g + 1 := ⟨f - 1, by omega⟩
    rw [lp_X1_copy_7, if_pos (show 8 < nI k from nI_lt (a := 8) (by omega) (by omega))]
    exact ⟨m, rfl, fun c h1 h2 => by omega, fun _ _ _ _ => rfl, rfl⟩
  | succ n ih =>
    intro f k m hk hf h8
    obtain ⟨g, rfl⟩ : ∃ g, f = g + 1 := ⟨f - 1, by omega⟩
    have ew : s_X1_write m i (nI k) (s_X1_look m j (nI k)) = ev_pim m 4 i k (m.1 4 j k) := by
      by_cases e : k = 8
      · subst e
        rw [cl_lookH8, cl_writeH8]
        rcases h8 with q | q <;> rw [q] <;> rfl
      · rw [cl_lookH k (by omega), cl_writeH k (by omega)]
    rw [lp_X1_copy_7, if_neg (show ¬ 8 < nI k from nI_nlt (a := 8) (by omega) (by omega)), ew, pq_let, nI_1]
    obtain ⟨m', e, h1, h2, h3⟩ := ih g (k + 1) (ev_pim m 4 i k (m.1 4 j k)) (by omega) (by omega) (by rw [pq_pim, if_neg (fun e => hij e.2.1.symm)]; exact h8)
    refine ⟨m', e, ?_, ?_, h3⟩
    · intro c a1 a2
      by_cases q : c = k
      · rw [h2 4 i c (by omega), q]; simp [pq_pim]
      · rw [h1 c (by omega) a2, pq_pim, if_neg (fun e => hij e.2.1.symm)]
    · intro r x c hn
      rw [h2 r x c (by omega), pq_pim, if_neg (by omega)]
theorem cl_copyH {m : ev_m} {i j : Nat} (hij : i ≠ j) (h8 : m.1 4 j 8 = 0 ∨ m.1 4 j 8 = 1) : ∃ m', f_X1_copy m i (some j) = some m' ∧ (∀ c, c < 10 → m'.1 4 i c = m.1 4 j c) ∧ (∀ c, c < 4 → m'.1 13 i c = m.1 13 j c ∧ m'.1 14 i c = m.1 14 j c) ∧ (∀ r x c, ¬ ((r = 4 ∨ r = 13 ∨ r = 14) ∧ x = i) → m'.1 r x c = m.1 r x c) ∧ m'.2 = m.2 := by
  obtain ⟨m1, e, h1, h2, h3⟩ := cl_copyH_l (kx := fun m8 => ev_let (ev_pim m8 4 i 9 (m8.1 4 j 9)) (fun m9 => ev_let (ev_cpm m9 13 j i 4) (fun m10 => ev_let (ev_cpm m10 14 j i 4) (fun m11 => (some (m11)))))) hij 9 4000 0 m (by omega) (by omega) h8
  unfold f_X1_copy
  rw [pq_on1, show (0 : Int32) = nI 0 from rfl, e, pq_let, pq_let, pq_let]
  refine ⟨_, rfl, ?_, ?_, ?_, h3⟩
  · intro c hc
    unfold ev_cpm
    rw [pq_prm, if_neg (by omega), pq_prm, if_neg (by omega), pq_pim]
    by_cases q : c = 9
    · rw [if_pos ⟨rfl, rfl, q⟩, h2 4 j 9 (by omega), q]
    · rw [if_neg (fun e => q e.2.2), h1 c (by omega) (by omega)]
  · intro c hc
    unfold ev_cpm
    constructor
    · rw [pq_prm, if_neg (by omega), pq_prm, if_pos ⟨rfl, rfl⟩, pk_cpy_in (by omega) (by omega), pq_pim, if_neg (by omega), show 0 + (c - 0) = c by omega]
      exact h2 13 j c (by omega)
    · rw [pq_prm, if_pos ⟨rfl, rfl⟩, pk_cpy_in (by omega) (by omega), pq_prm, if_neg (by omega), pq_pim, if_neg (by omega), show 0 + (c - 0) = c by omega]
      exact h2 14 j c (by omega)
  · intro r x c hn
    unfold ev_cpm
    rw [pq_prm, if_neg (by omega), pq_prm, if_neg (by omega), pq_pim, if_neg (by omega)]
    exact h2 r x c (by omega)
theorem cl_copyHR {m m' : ev_m} {i j : Nat} {D : Nat → Int32} (hD : pu_okD D) (h : cc_D m j D) (h1 : ∀ c, c < 10 → m'.1 4 i c = m.1 4 j c) (h2 : ∀ c, c < 4 → m'.1 13 i c = m.1 13 j c ∧ m'.1 14 i c = m.1 14 j c) : cc_D m' i D := by
  obtain ⟨-, -, -, -, c, hc2, e⟩ := hD
  have hcl : (D 9).toNatClampNeg = c := by rw [e]; exact nI_clamp (by omega)
  refine ⟨fun k hk => (h1 k hk).trans (h.1 k hk), fun k hk => ⟨(h2 k (by omega)).1.trans (h.2 k hk).1, (h2 k (by omega)).2.trans (h.2 k hk).2⟩⟩
/-- a trial in the class: its ship, its hand, the rest as it was -/
def tc_ (m0 m : ev_m) (S D : Nat → Int32) : Prop := cc_S m 8 S ∧ cc_D m 16 D ∧ pq_Fr PC_ m0 m
def tr_ (m0 m : ev_m) (S D : Nat → Int32) : Prop := rr_S m S ∧ rr_H m 0 D ∧ pq_Fr PR_ m0 m
theorem PC_8 {r i : Nat} (h : ¬ ((r = 3 ∨ r = 12) ∧ i = 8)) (h2 : ¬ ((r = 4 ∨ r = 13 ∨ r = 14) ∧ i = 16)) (h3 : r ≠ 8 ∧ r ≠ 9 ∧ ¬ (18 ≤ r ∧ r ≤ 21)) : PC_ r i = true := by
  cases hc : PC_ r i with
  | true => rfl
  | false =>
    exfalso
    revert hc
    simp only [PC_, Bool.not_eq_false', Bool.or_eq_true, Bool.and_eq_true, beq_iff_eq, decide_eq_true_eq]
    omega
theorem PC_no {r i : Nat} (h : PC_ r i = true) : ¬ ((r = 3 ∨ r = 12) ∧ i = 8) ∧ ¬ ((r = 4 ∨ r = 13 ∨ r = 14) ∧ i = 16) ∧ r ≠ 8 ∧ r ≠ 9 ∧ ¬ (18 ≤ r ∧ r ≤ 21) := by
  revert h
  simp only [PC_, Bool.not_eq_true', Bool.or_eq_false_iff, Bool.and_eq_false_imp, Bool.or_eq_true, beq_iff_eq, beq_eq_false_iff_ne, decide_eq_true_eq, decide_eq_false_iff_not, ne_eq]
  omega
/-- ready: whether, and what is laid -/
theorem cl_ready_t {m : ev_m} {c0 c1 c2 c3 s h n : Nat} (hI : iv_B m 0 c0 c1 c2 c3) (hs : s < c0) (hh : h < c1) (hn1 : 1 ≤ n) (hn2 : n ≤ 200) : ∃ m', f_X9_ready m 0 (nI s) (nI h) (nI n) = some (true, m') ∧ tc_ m m' (pv_S m s) (pv_D m h) := by
  obtain ⟨⟨b0, b1, -, -⟩, ⟨k0, k1, -, -⟩, -, iS, iD, -, -⟩ := hI
  obtain ⟨s1, s2⟩ := iS s hs
  obtain ⟨d1, d2⟩ := iD h hh
  rw [show 2 * 0 + s = s by omega] at s1 s2
  rw [show 4 * 0 + h = h by omega] at d1 d2
  obtain ⟨m1, e1, x1, x2, x3, x4⟩ := cl_copyS (m := m) (i := 8) (j := s) (by omega)
  have d1' : cc_D m1 h (pv_D m h) := ⟨fun k hk => (x3 4 h k (by omega)).trans (d1.1 k hk), fun k hk => ⟨(x3 13 h k (by omega)).trans (d1.2 k hk).1, (x3 14 h k (by omega)).trans (d1.2 k hk).2⟩⟩
  obtain ⟨m2, e2, y1, y2, y3, y4⟩ := cl_copyH (m := m1) (i := 16) (j := h) (by omega) (by rw [d1'.1 8 (by decide)]; exact d2.2.2.2.1)
  have hS1 : cc_S m1 8 (pv_S m s) := cl_copySR s2 s1 x1 x2
  have hD2 : cc_D m2 16 (pv_D m h) := cl_copyHR d2 d1' y1 y2
  unfold f_X9_ready
  rw [cl_shipAt_t k0 b0 hs, pq_sb, cl_handAt_t k1 b1 hh, pq_sb, show 2 * 0 + s = s by omega, show 4 * 0 + h = h by omega, pq_on1, pq_on1, show s_X9_isTrial m (nI n) = true from in_T (m := m) (a := 1) (b := 200) hn1 hn2 (by decide), if_pos rfl, e1, pq_sb, e2, pq_sb]
  refine ⟨m2, rfl, ⟨fun k hk => (y3 3 8 k (by omega)).trans (hS1.1 k hk), fun k hk => (y3 12 8 k (by omega)).trans (hS1.2 k hk)⟩, hD2, fun r i k hp => ?_⟩
  have := PC_no hp
  rw [y3 r i k (by omega), x3 r i k (by omega)]
theorem cl_ready_f {m : ev_m} {c0 c1 c2 c3 : Nat} {x y z : Int32} (hI : iv_B m 0 c0 c1 c2 c3) (hn : ¬ ((∃ s, s < c0 ∧ x = nI s) ∧ (∃ h, h < c1 ∧ y = nI h) ∧ ∃ n, 1 ≤ n ∧ n ≤ 200 ∧ z = nI n)) : f_X9_ready m 0 x y z = some (false, m) := by
  obtain ⟨⟨b0, b1, -, -⟩, ⟨k0, k1, -, -⟩, -, -, -, -, -⟩ := hI
  unfold f_X9_ready
  by_cases ex : ∃ s, s < c0 ∧ x = nI s
  · obtain ⟨s, hs, rfl⟩ := ex
    rw [cl_shipAt_t k0 b0 hs, pq_sb]
    by_cases ey : ∃ h, h < c1 ∧ y = nI h
    · obtain ⟨h, hh, rfl⟩ := ey
      rw [cl_handAt_t k1 b1 hh, pq_sb, pq_on1, pq_on1]
      by_cases ez : s_X9_isTrial m z = true
      · exact absurd ⟨⟨s, hs, rfl⟩, ⟨h, hh, rfl⟩, in_F (m := m) (a := 1) (b := 200) (by decide) (by decide) ez⟩ hn
      · rw [if_neg ez]
    · rw [cl_handAt_f k1 b1 (fun h hh e => ey ⟨h, hh, e⟩), pq_sb, pq_on1, pq_on0]
  · rw [cl_shipAt_f k0 b0 (fun s hs e => ex ⟨s, hs, e⟩), pq_sb]
    by_cases ey : ∃ h, h < c1 ∧ y = nI h
    · obtain ⟨h, hh, rfl⟩ := ey
      rw [cl_handAt_t k1 b1 hh, pq_sb, pq_on0]
    · rw [cl_handAt_f k1 b1 (fun h hh e => ey ⟨h, hh, e⟩), pq_sb, pq_on0]
/-- changes of the trial's own ship and hand -/
theorem tc_.putD {m0 m : ev_m} {S D : Nat → Int32} {k : Nat} {v : Int32} (h : tc_ m0 m S D) (hk : k < 9) : tc_ m0 (ev_pim m 4 16 k v) S (upd D k v) := by
  have h9 : upd D k v 9 = D 9 := pk_un (by omega)
  refine ⟨⟨fun c hc => ?_, fun c hc => ?_⟩, ⟨fun c hc => ?_, fun c hc => ?_⟩, h.2.2.pim rfl⟩
  · rw [pq_pim, if_neg (by omega)]; exact h.1.1 c hc
  · rw [pq_pim, if_neg (by omega)]; exact h.1.2 c hc
  · rw [pq_pim]
    by_cases e : c = k
    · rw [if_pos ⟨rfl, rfl, e⟩, e, pk_us]
    · rw [if_neg (fun q => e q.2.2), pk_un e]; exact h.2.1.1 c hc
  · rw [h9] at hc
    rw [pq_pim, if_neg (by omega), pq_pim, if_neg (by omega), pk_un (by omega), pk_un (by omega)]
    exact h.2.1.2 c hc
theorem tc_.writeD {m0 m : ev_m} {S D : Nat → Int32} {k : Nat} {v : Int32} (h : tc_ m0 m S D) (hk : k < 8) : tc_ m0 (s_X1_write m 16 (nI k) v) S (upd D k v) := by
  rw [cl_writeH k hk]
  exact h.putD (by omega)
theorem tc_.putS {m0 m : ev_m} {S D : Nat → Int32} {k : Nat} {v : Int32} (h : tc_ m0 m S D) (hk : k < 10) : tc_ m0 (ev_pim m 3 8 k v) (upd S k v) D := by
  have h9 : upd S k v 10 = S 10 := pk_un (by omega)
  refine ⟨⟨fun c hc => ?_, fun c hc => ?_⟩, ⟨fun c hc => ?_, fun c hc => ?_⟩, h.2.2.pim rfl⟩
  · rw [pq_pim]
    by_cases e : c = k
    · rw [if_pos ⟨rfl, rfl, e⟩, e, pk_us]
    · rw [if_neg (fun q => e q.2.2), pk_un e]; exact h.1.1 c hc
  · rw [h9] at hc
    rw [pq_pim, if_neg (by omega), pk_un (by omega)]
    exact h.1.2 c hc
  · rw [pq_pim, if_neg (by omega)]; exact h.2.1.1 c hc
  · rw [pq_pim, if_neg (by omega), pq_pim, if_neg (by omega)]; exact h.2.1.2 c hc
theorem tc_.writeS {m0 m : ev_m} {S D : Nat → Int32} {k : Nat} {v : Int32} (h : tc_ m0 m S D) (hk : k < 10) : tc_ m0 (s_X5_write m 8 (nI k) v) (upd S k v) D := by
  rw [cl_write k hk]
  exact h.putS hk
theorem tr_.putD {m0 m : ev_m} {S D : Nat → Int32} {k : Nat} {v : Int32} (h : tr_ m0 m S D) (hk : k < 18) : tr_ m0 (ev_pim m 41 0 k v) S (upd D k v) := ⟨fun c hc => by rw [pq_pim, if_neg (by omega)]; exact h.1 c hc, h.2.1.put hk, h.2.2.pim rfl⟩
theorem tr_.putS {m0 m : ev_m} {S D : Nat → Int32} {k : Nat} {v : Int32} (h : tr_ m0 m S D) : tr_ m0 (ev_pim m 40 0 k v) (upd S k v) D := ⟨h.1.put, fun c hc => by rw [pq_pim, if_neg (by omega)]; exact h.2.1 c hc, h.2.2.pim rfl⟩
theorem tc_.fr {m0 m m' : ev_m} {S D : Nat → Int32} (h : tc_ m0 m S D) (hF : pq_Fr cc_P m m') : tc_ m0 m' S D := ⟨h.1.fr hF rfl rfl, h.2.1.fr hF rfl rfl rfl, h.2.2.trans (hF.sub PC_P)⟩
theorem tr_.fr {m0 m m' : ev_m} {S D : Nat → Int32} (h : tr_ m0 m S D) (hF : pq_Fr rr_P m m') : tr_ m0 m' S D := ⟨h.1.fr hF rfl, h.2.1.fr hF rfl, h.2.2.trans (hF.sub PR_P)⟩
/-- a trial's run, in the class, and what is told of it -/
def px_C (S D : Nat → Int32) (n : Nat) : Int64 := pc_cost S (pu_run S D 0 n)
theorem cl_trial {m0 m : ev_m} {S D : Nat → Int32} {n : Nat} {seed : Int32} (h : tc_ m0 m S D) (hS : pu_okS S) (hD : pu_okD D) (hn : n ≤ 400) : ∃ m', f_X8_sail m 0 (some 8) (some 16) seed (nI n) = some m' ∧ cc_q m' (pu_run S D seed n) ∧ pb_H (pu_run S D seed n) ∧ pb_R (pu_run S D seed n) ∧ m'.2.2 8 0 0 = some 8 ∧ tc_ m0 m' S D ∧ f_X8_cost m' 0 = some (pc_cost S (pu_run S D seed n)) := by
  obtain ⟨m', e, r, b, -, s, F⟩ := cl_sail (seed := seed) hD hS hn h.2.1 h.1
  have ht := h.fr F
  have hR := pb_R_run (D := D) hS seed n
  have hd := pu_run_d S D seed n
  exact ⟨m', e, r, b, hR, s, ht, cl_cost r b hR hS (ht.1.1 5 (by decide)) s (by omega)⟩
theorem cl_trialCost {m0 m : ev_m} {S D : Nat → Int32} {n : Nat} (h : tc_ m0 m S D) (hS : pu_okS S) (hD : pu_okD D) (hn : n ≤ 400) : ∃ m', f_X9_trialCost m 0 (nI n) = some (px_C S D n, m') ∧ tc_ m0 m' S D := by
  obtain ⟨m', e, -, -, -, -, ht, hc⟩ := cl_trial (seed := 0) h hS hD hn
  unfold f_X9_trialCost
  rw [e, pq_sb, hc, pq_sb]
  exact ⟨m', rfl, ht⟩
theorem cl_costWith {m0 m : ev_m} {S D : Nat → Int32} {n k : Nat} {v : Int32} (h : tc_ m0 m S D) (hS : pu_okS S) (hD : pu_okD (upd D k v)) (hn : n ≤ 400) (hk : k < 8) : ∃ m', f_X9_costWith m 0 (nI k) v (nI n) = some (px_C S (upd D k v) n, m') ∧ tc_ m0 m' S (upd D k v) := by
  obtain ⟨m', e, -, -, -, -, ht, hc⟩ := cl_trial (seed := 0) (h.writeD (v := v) hk) hS hD hn
  unfold f_X9_costWith
  rw [pq_let, e, pq_sb, hc, pq_sb]
  exact ⟨m', rfl, ht⟩
theorem rf_trialCost {m0 m : ev_m} {S D : Nat → Int32} {n : Nat} (h : tr_ m0 m S D) (hS : pu_okS S) (hD : pu_okD D) (hn : n ≤ 400) : ∃ m', f_X10_costBy m 0 (nI n) = some (px_C S D n, m') ∧ tr_ m0 m' S D := by
  obtain ⟨m', e, -, F⟩ := rf_costBy hD hS hn h.2.1 h.1
  exact ⟨m', e, h.fr F⟩
theorem upd_back (D : Nat → Int32) (k : Nat) (v : Int32) : upd (upd D k v) k (D k) = D := by
  funext j
  unfold upd
  by_cases e : j = k
  · rw [if_pos e, e]
  · rw [if_neg e, if_neg e]
theorem upd_twice (D : Nat → Int32) (k : Nat) (v w : Int32) : upd (upd D k v) k w = upd D k w := by
  funext j
  unfold upd
  by_cases e : j = k
  · rw [if_pos e, if_pos e]
  · rw [if_neg e, if_neg e, if_neg e]
theorem rf_costWith {m0 m : ev_m} {S D : Nat → Int32} {n k : Nat} {v : Int32} (h : tr_ m0 m S D) (hS : pu_okS S) (hD : pu_okD (upd D k v)) (hn : n ≤ 400) (hk : k < 18) : ∃ m', f_X10_costWith m 0 (nI k) v (nI n) = some (px_C S (upd D k v) n, m') ∧ tr_ m0 m' S D := by
  have h41 : m.1 41 0 k = D k := by
    have := h.2.1 k hk
    rw [show 18 * 0 + k = k by omega] at this
    exact this
  obtain ⟨m', e, ht⟩ := rf_trialCost (h.putD (v := v) hk) hS hD hn
  unfold f_X10_costWith
  rw [pq_ald (by omega) (by decide), pq_sb, rf_put (by omega), pq_sb, e, pq_sb, pq_let, rf_put (by omega), pq_sb, h41]
  refine ⟨_, rfl, ?_⟩
  have := ht.putD (k := k) (v := D k) hk
  rw [upd_back] at this
  exact this
